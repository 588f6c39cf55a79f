theorem ln_Switch_targetOf : (parseMethodDescriptor y_Switch_targetOf.desc).map (fun q => q.parameters.length) = some 1 := by decide +kernel
def f_Switch_targetOf (Γ : gm_T) (φ : ph_T) (this : Nat) (p0 : Int64) : Option (Int32 × ph_T) :=
  @ite _ (Γ this = .inr 10) _ (
  Option.bind (f_Burst_addressOf Γ φ p0) fun q3 =>
  @ite _ ((4096 : Int32) = 0) _ none (
  Option.bind (φ.2.2 this 3) fun a5 =>
  Option.bind (gA Γ a5 0) fun N6 =>
  Option.bind (ix (q3.1 / (4096 : Int32)) N6) fun k7 =>
  some ((q3.2.1 a5 k7), q3.2)
  )
  ) none
set_option maxRecDepth 100000 in
set_option maxHeartbeats 4000000 in
theorem p_Switch_targetOf {w : jw_T} (hw : jok w) {Γ : gm_T} {n : Nat} (hG : gd w Γ n) {x : Bool} {φ : ph_T} {this : Nat} {p0 : Int64} {q : Int32 × ph_T} (H : f_Switch_targetOf Γ φ this p0 = some q) : jc w M_Switch_targetOf [.ref this, .long p0] (pic Γ φ) n x 0 0 (fq Γ n (.inl (some (.int q.1))) q.2) := by
  refine jc.of (by simp only [jent_r, jent_i, jent_l, jent_a, jent_0]; exact Nat.le_of_ble_eq_true rfl) ?_
  have hls : jents [.ref this, .long p0] (jm_nL M_Switch_targetOf) = [some (.ref this), some (.long p0), none] := by simp only [jents, jent_r, jent_i, jent_l, jent_a, jent_0]; rfl
  rw [hls]
  clear hls
  unfold f_Switch_targetOf at H
  refine J_aload_n d_Switch_targetOf_0 rfl ?_
  have g2 : Γ this = .inr 10 := by
    apply Classical.byContradiction
    intro q9
    rw [if_neg q9] at H
    cases H
  rw [if_pos g2] at H
  refine F_getR (ci := 10) (k := 3) hG (cf_Switch hw) (fl_Switch_9 hw) (by decide) (by decide) rfl d_Switch_targetOf_1 g2 ?_
  refine J_lload_n d_Switch_targetOf_4 rfl ?_
  obtain ⟨q3, hq3, H⟩ := Option.bind_eq_some_iff.mp H
  refine J_callS (kc := 0) (ks := 0) (kc' := 0) (ks' := 0) (as := [.long p0]) (st := [va_rf (φ.2.2 this 3)]) (mf_Burst_addressOf hw) (ms_Switch_93 hw) d_Switch_targetOf_5 ln_Burst_addressOf (by decide) (by first | exact Nat.le_of_ble_eq_true rfl | (simp only [List.map_cons, List.map_nil, List.sum_cons, List.sum_nil, va_rf_cat]; exact Nat.le_of_ble_eq_true rfl)) rfl (p_Burst_addressOf hw hG hq3) ?_ (fun E h' n' x' e1 => by cases e1.1)
  intro v9 h9 n9 x9 e9
  obtain ⟨e91, e92, e93⟩ := e9
  cases e91
  subst e92
  subst e93
  clear x
  rename Bool => x
  show J _ _ _ _ (_ :: _) _ _ _ _ _ _
  refine J_sipush (v := 4096) d_Switch_targetOf_8 (by decide) ?_
  have h4 : ¬ (4096 : Int32) = 0 := by
    intro q9
    rw [if_pos q9] at H
    cases H
  rw [if_neg h4] at H
  refine J_idiv d_Switch_targetOf_11 h4 ?_
  obtain ⟨a5, ha5, H⟩ := Option.bind_eq_some_iff.mp H
  rw [j_rf ha5]
  obtain ⟨N6, hN6, H⟩ := Option.bind_eq_some_iff.mp H
  obtain ⟨k7, hk7, H⟩ := Option.bind_eq_some_iff.mp H
  refine F_iald k7 hw hG d_Switch_targetOf_12 (gA_some hN6) (ix_some hk7) ?_
  have H := Option.some.inj H
  subst H
  exact J_iret (st := []) d_Switch_targetOf_13 rfl rfl ⟨rfl, rfl, rfl⟩
theorem ln_Switch_underWay : (parseMethodDescriptor y_Switch_underWay.desc).map (fun q => q.parameters.length) = some 2 := by decide +kernel
def f_Switch_underWay_L19 (Γ : gm_T)  (φ : ph_T) (y0 : Option Nat) : Option (Option Nat × ph_T) :=
  some (y0, φ)
set_option maxRecDepth 100000 in
set_option maxHeartbeats 4000000 in
theorem p_Switch_underWay_L19 {w : jw_T} (hw : jok w) {Γ : gm_T} {n : Nat} (hG : gd w Γ n)  {x : Bool} {φ : ph_T} {y0 : Option Nat} {q : Option Nat × ph_T} (H : f_Switch_underWay_L19 Γ  φ y0 = some q) : J w M_Switch_underWay 19 [none, none, none] [va_rf y0] (pic Γ φ) n x 0 0 (fq Γ n (.inl (some (va_rf q.1))) q.2) := by
  unfold f_Switch_underWay_L19 at H
  have H := Option.some.inj H
  subst H
  exact J_aret (st := []) d_Switch_underWay_19 rfl (Or.inl ⟨_, rfl⟩) (by first | exact Or.inr ⟨_, rfl⟩ | (generalize y0 = r9; cases r9; exact Or.inl rfl; exact Or.inr ⟨_, rfl⟩)) ⟨rfl, rfl, rfl⟩
def f_Switch_underWay (Γ : gm_T) (φ : ph_T) (this : Nat) (p0 : Int32) (p1 : Int32) : Option (Option Nat × ph_T) :=
  if p1 = 0 then
    @ite _ (Γ this = .inr 10) _ (
    Option.bind (φ.2.2 this 6) fun a6 =>
    Option.bind (gA Γ a6 4) fun N7 =>
    Option.bind (ix p0 N7) fun k8 =>
    f_Switch_underWay_L19 Γ  φ (φ.2.2 a6 k8)
    ) none
  else
    @ite _ (Γ this = .inr 10) _ (
    Option.bind (φ.2.2 this 7) fun a2 =>
    Option.bind (gA Γ a2 4) fun N3 =>
    Option.bind (ix p0 N3) fun k4 =>
    f_Switch_underWay_L19 Γ  φ (φ.2.2 a2 k4)
    ) none
set_option maxRecDepth 100000 in
set_option maxHeartbeats 4000000 in
theorem p_Switch_underWay {w : jw_T} (hw : jok w) {Γ : gm_T} {n : Nat} (hG : gd w Γ n) {x : Bool} {φ : ph_T} {this : Nat} {p0 : Int32} {p1 : Int32} {q : Option Nat × ph_T} (H : f_Switch_underWay Γ φ this p0 p1 = some q) : jc w M_Switch_underWay [.ref this, .int p0, .int p1] (pic Γ φ) n x 0 0 (fq Γ n (.inl (some (va_rf q.1))) q.2) := by
  refine jc.of (by simp only [jent_r, jent_i, jent_l, jent_a, jent_0]; exact Nat.le_of_ble_eq_true rfl) ?_
  have hls : jents [.ref this, .int p0, .int p1] (jm_nL M_Switch_underWay) = [some (.ref this), some (.int p0), some (.int p1)] := by simp only [jents, jent_r, jent_i, jent_l, jent_a, jent_0]; rfl
  rw [hls]
  clear hls
  unfold f_Switch_underWay at H
  refine J_iload_n d_Switch_underWay_0 rfl ?_
  refine J_if_ne (tgt := 13) d_Switch_underWay_1 (by decide) ?_ ?_
  · intro c9
    rw [if_neg c9] at H
    refine J_aload_n d_Switch_underWay_13 rfl ?_
    have g1 : Γ this = .inr 10 := by
      apply Classical.byContradiction
      intro q9
      rw [if_neg q9] at H
      cases H
    rw [if_pos g1] at H
    refine F_getR (ci := 10) (k := 7) hG (cf_Switch hw) (fl_Switch_42 hw) (by decide) (by decide) rfl d_Switch_underWay_14 g1 ?_
    refine J_iload_n d_Switch_underWay_17 rfl ?_
    obtain ⟨a2, ha2, H⟩ := Option.bind_eq_some_iff.mp H
    rw [j_rf ha2]
    obtain ⟨N3, hN3, H⟩ := Option.bind_eq_some_iff.mp H
    obtain ⟨k4, hk4, H⟩ := Option.bind_eq_some_iff.mp H
    refine F_aald k4 hw hG (t := 4) rfl (by decide) d_Switch_underWay_18 (gA_some hN3) (ix_some hk4) ?_
    refine J.drop [false, false, false] rfl ?_
    exact p_Switch_underWay_L19 hw hG  H
  · intro c9
    rw [if_pos c9] at H
    refine J_aload_n d_Switch_underWay_4 rfl ?_
    have g5 : Γ this = .inr 10 := by
      apply Classical.byContradiction
      intro q9
      rw [if_neg q9] at H
      cases H
    rw [if_pos g5] at H
    refine F_getR (ci := 10) (k := 6) hG (cf_Switch hw) (fl_Switch_38 hw) (by decide) (by decide) rfl d_Switch_underWay_5 g5 ?_
    refine J_iload_n d_Switch_underWay_8 rfl ?_
    obtain ⟨a6, ha6, H⟩ := Option.bind_eq_some_iff.mp H
    rw [j_rf ha6]
    obtain ⟨N7, hN7, H⟩ := Option.bind_eq_some_iff.mp H
    obtain ⟨k8, hk8, H⟩ := Option.bind_eq_some_iff.mp H
    refine F_aald k8 hw hG (t := 4) rfl (by decide) d_Switch_underWay_9 (gA_some hN7) (ix_some hk8) ?_
    refine J_goto (tgt := 19) d_Switch_underWay_10 (by decide) ?_
    refine J.drop [false, false, false] rfl ?_
    exact p_Switch_underWay_L19 hw hG  H
theorem ln_UnderWay_mayGo : (parseMethodDescriptor y_UnderWay_mayGo.desc).map (fun q => q.parameters.length) = some 3 := by decide +kernel
def f_UnderWay_mayGo_L65 (Γ : gm_T) (Kc22 : ph_T → Nat → Int32 → Int32 → Int32 → Option (Int32 × ph_T)) (φ : ph_T) (x0 : Nat) (x1 : Int32) (x2 : Int32) (x4 : Int32) : Option (Int32 × ph_T) :=
  Kc22 φ x0 x1 x2 (x4 + (1 : Int32))
set_option maxRecDepth 100000 in
set_option maxHeartbeats 4000000 in
theorem p_UnderWay_mayGo_L65 {w : jw_T} (hw : jok w) {Γ : gm_T} {n : Nat} (hG : gd w Γ n) {Kc22 : ph_T → Nat → Int32 → Int32 → Int32 → Option (Int32 × ph_T)} (hKc22 : ∀ {x : Bool} {φ : ph_T} {x0 : Nat} {x1 : Int32} {x2 : Int32} {x4 : Int32} {q : Int32 × ph_T}, Kc22 φ x0 x1 x2 x4 = some q → J w M_UnderWay_mayGo 22 [some (.ref x0), some (.int x1), some (.int x2), none, some (.int x4)] [] (pic Γ φ) n x 0 0 (fq Γ n (.inl (some (.int q.1))) q.2)) {x : Bool} {φ : ph_T} {x0 : Nat} {x1 : Int32} {x2 : Int32} {x4 : Int32} {q : Int32 × ph_T} (H : f_UnderWay_mayGo_L65 Γ Kc22 φ x0 x1 x2 x4 = some q) : J w M_UnderWay_mayGo 65 [some (.ref x0), some (.int x1), some (.int x2), none, some (.int x4)] [] (pic Γ φ) n x 0 0 (fq Γ n (.inl (some (.int q.1))) q.2) := by
  unfold f_UnderWay_mayGo_L65 at H
  refine J_iinc (v := x4 + 1) d_UnderWay_mayGo_65 rfl (by rw [show Int32.ofInt 1 = (1 : Int32) from by decide]) ?_
  refine J.ls (ls' := [some (.ref x0), some (.int x1), some (.int x2), none, some (.int (x4 + (1 : Int32)))]) rfl ?_
  refine J_goto (tgt := 22) d_UnderWay_mayGo_68 (by decide) ?_
  refine J.drop [true, true, true, false, true] rfl ?_
  exact hKc22 H
def f_UnderWay_mayGo_L63 (Γ : gm_T)  (φ : ph_T) : Option (Int32 × ph_T) :=
  @ite _ ((0 : Int32) = 0 ∨ (0 : Int32) = 1) _ (
  some ((0 : Int32), φ)
  ) none
set_option maxRecDepth 100000 in
set_option maxHeartbeats 4000000 in
theorem p_UnderWay_mayGo_L63 {w : jw_T} (hw : jok w) {Γ : gm_T} {n : Nat} (hG : gd w Γ n)  {x : Bool} {φ : ph_T} {q : Int32 × ph_T} (H : f_UnderWay_mayGo_L63 Γ  φ  = some q) : J w M_UnderWay_mayGo 63 [none, none, none, none, none] [] (pic Γ φ) n x 0 0 (fq Γ n (.inl (some (.int q.1))) q.2) := by
  unfold f_UnderWay_mayGo_L63 at H
  refine J_iconst (v := 0) d_UnderWay_mayGo_63 (by decide) ?_
  have z1 : (0 : Int32) = 0 ∨ (0 : Int32) = 1 := by
    apply Classical.byContradiction
    intro q9
    rw [if_neg q9] at H
    cases H
  rw [if_pos z1] at H
  have H := Option.some.inj H
  subst H
  exact J_iret (st := []) d_UnderWay_mayGo_64 rfl (narrow_z z1).1 ⟨rfl, rfl, rfl⟩
def f_UnderWay_mayGo_L22 (Γ : gm_T)  : Nat → ph_T → Nat → Int32 → Int32 → Int32 → Option (Int32 × ph_T)
  | 0, _, _, _, _, _ => none
  | fu + 1, φ, x0, x1, x2, x4 =>
    @ite _ (Γ x0 = .inr 9) _ (
    if (φ.1 x0 4) ≤ x4 then
      @ite _ ((1 : Int32) = 0 ∨ (1 : Int32) = 1) _ (
      some ((1 : Int32), φ)
      ) none
    else
      Option.bind (φ.2.2 x0 1) fun a4 =>
      Option.bind (gA Γ a4 0) fun N5 =>
      Option.bind (ix x4 N5) fun k6 =>
      if (φ.1 a4 k6) = x2 then
        f_UnderWay_mayGo_L65 Γ (f_UnderWay_mayGo_L22 Γ  fu) φ x0 x1 x2 x4
      else
        Option.bind (φ.2.2 x0 0) fun a7 =>
        Option.bind (gA Γ a7 0) fun N8 =>
        Option.bind (ix x4 N8) fun k9 =>
        if (φ.1 a7 k9) = x1 then
          f_UnderWay_mayGo_L63 Γ  φ 
        else
          Option.bind (φ.2.2 x0 2) fun a10 =>
          Option.bind (gA Γ a10 0) fun N11 =>
          Option.bind (ix x4 N11) fun k12 =>
          if (φ.1 a10 k12) ≤ 0 then
            f_UnderWay_mayGo_L65 Γ (f_UnderWay_mayGo_L22 Γ  fu) φ x0 x1 x2 x4
          else
            f_UnderWay_mayGo_L63 Γ  φ 
    ) none
set_option maxRecDepth 100000 in
set_option maxHeartbeats 4000000 in
theorem p_UnderWay_mayGo_L22 {w : jw_T} (hw : jok w) {Γ : gm_T} {n : Nat} (hG : gd w Γ n)  : ∀ (fu : Nat) {x : Bool} {φ : ph_T} {x0 : Nat} {x1 : Int32} {x2 : Int32} {x4 : Int32} {q : Int32 × ph_T}, f_UnderWay_mayGo_L22 Γ  fu φ x0 x1 x2 x4 = some q → J w M_UnderWay_mayGo 22 [some (.ref x0), some (.int x1), some (.int x2), none, some (.int x4)] [] (pic Γ φ) n x 0 0 (fq Γ n (.inl (some (.int q.1))) q.2) := by
  intro fu
  induction fu with
  | zero =>
    intro x φ x0 x1 x2 x4 q H
    cases H
  | succ fu ih =>
    intro x φ x0 x1 x2 x4 q H
    unfold f_UnderWay_mayGo_L22 at H
    refine J_iload d_UnderWay_mayGo_22 rfl ?_
    refine J_aload_n d_UnderWay_mayGo_24 rfl ?_
    have g2 : Γ x0 = .inr 9 := by
      apply Classical.byContradiction
      intro q9
      rw [if_neg q9] at H
      cases H
    rw [if_pos g2] at H
    refine F_getI (ci := 9) (k := 4) hG (cf_UnderWay hw) (fl_UnderWay_24 hw) (by decide) (by decide) rfl d_UnderWay_mayGo_25 g2 ?_
    refine J_icmp_ge (tgt := 71) d_UnderWay_mayGo_28 (by decide) ?_ ?_
    · intro c16
      rw [if_pos c16] at H
      refine J_iconst (v := 1) d_UnderWay_mayGo_71 (by decide) ?_
      have z3 : (1 : Int32) = 0 ∨ (1 : Int32) = 1 := by
        apply Classical.byContradiction
        intro q9
        rw [if_neg q9] at H
        cases H
      rw [if_pos z3] at H
      have H := Option.some.inj H
      subst H
      exact J_iret (st := []) d_UnderWay_mayGo_72 rfl (narrow_z z3).1 ⟨rfl, rfl, rfl⟩
    · intro c16
      rw [if_neg c16] at H
      refine J_aload_n d_UnderWay_mayGo_31 rfl ?_
      refine F_getR (ci := 9) (k := 1) hG (cf_UnderWay hw) (fl_UnderWay_15 hw) (by decide) (by decide) rfl d_UnderWay_mayGo_32 g2 ?_
      refine J_iload d_UnderWay_mayGo_35 rfl ?_
      obtain ⟨a4, ha4, H⟩ := Option.bind_eq_some_iff.mp H
      rw [j_rf ha4]
      obtain ⟨N5, hN5, H⟩ := Option.bind_eq_some_iff.mp H
      obtain ⟨k6, hk6, H⟩ := Option.bind_eq_some_iff.mp H
      refine F_iald k6 hw hG d_UnderWay_mayGo_37 (gA_some hN5) (ix_some hk6) ?_
      refine J_iload_n d_UnderWay_mayGo_38 rfl ?_
      refine J_icmp_eq (tgt := 65) d_UnderWay_mayGo_39 (by decide) ?_ ?_
      · intro c15
        rw [if_pos c15] at H
        refine J.drop [true, true, true, false, true] rfl ?_
        exact p_UnderWay_mayGo_L65 hw hG ih H
      · intro c15
        rw [if_neg c15] at H
        refine J_aload_n d_UnderWay_mayGo_42 rfl ?_
        refine F_getR (ci := 9) (k := 0) hG (cf_UnderWay hw) (fl_UnderWay_9 hw) (by decide) (by decide) rfl d_UnderWay_mayGo_43 g2 ?_
        refine J_iload d_UnderWay_mayGo_46 rfl ?_
        obtain ⟨a7, ha7, H⟩ := Option.bind_eq_some_iff.mp H
        rw [j_rf ha7]
        obtain ⟨N8, hN8, H⟩ := Option.bind_eq_some_iff.mp H
        obtain ⟨k9, hk9, H⟩ := Option.bind_eq_some_iff.mp H
        refine F_iald k9 hw hG d_UnderWay_mayGo_48 (gA_some hN8) (ix_some hk9) ?_
        refine J_iload_n d_UnderWay_mayGo_49 rfl ?_
        refine J_icmp_eq (tgt := 63) d_UnderWay_mayGo_50 (by decide) ?_ ?_
        · intro c14
          rw [if_pos c14] at H
          refine J.drop [false, false, false, false, false] rfl ?_
          exact p_UnderWay_mayGo_L63 hw hG  H
        · intro c14
          rw [if_neg c14] at H
          refine J_aload_n d_UnderWay_mayGo_53 rfl ?_
          refine F_getR (ci := 9) (k := 2) hG (cf_UnderWay hw) (fl_UnderWay_18 hw) (by decide) (by decide) rfl d_UnderWay_mayGo_54 g2 ?_
          refine J_iload d_UnderWay_mayGo_57 rfl ?_
          obtain ⟨a10, ha10, H⟩ := Option.bind_eq_some_iff.mp H
          rw [j_rf ha10]
          obtain ⟨N11, hN11, H⟩ := Option.bind_eq_some_iff.mp H
          obtain ⟨k12, hk12, H⟩ := Option.bind_eq_some_iff.mp H
          refine F_iald k12 hw hG d_UnderWay_mayGo_59 (gA_some hN11) (ix_some hk12) ?_
          refine J_if_le (tgt := 65) d_UnderWay_mayGo_60 (by decide) ?_ ?_
          · intro c13
            rw [if_pos c13] at H
            refine J.drop [true, true, true, false, true] rfl ?_
            exact p_UnderWay_mayGo_L65 hw hG ih H
          · intro c13
            rw [if_neg c13] at H
            refine J.drop [false, false, false, false, false] rfl ?_
            exact p_UnderWay_mayGo_L63 hw hG  H
def f_UnderWay_mayGo_L17 (Γ : gm_T)  (φ : ph_T) : Option (Int32 × ph_T) :=
  @ite _ ((0 : Int32) = 0 ∨ (0 : Int32) = 1) _ (
  some ((0 : Int32), φ)
  ) none
set_option maxRecDepth 100000 in
set_option maxHeartbeats 4000000 in
theorem p_UnderWay_mayGo_L17 {w : jw_T} (hw : jok w) {Γ : gm_T} {n : Nat} (hG : gd w Γ n)  {x : Bool} {φ : ph_T} {q : Int32 × ph_T} (H : f_UnderWay_mayGo_L17 Γ  φ  = some q) : J w M_UnderWay_mayGo 17 [none, none, none, none, none] [] (pic Γ φ) n x 0 0 (fq Γ n (.inl (some (.int q.1))) q.2) := by
  unfold f_UnderWay_mayGo_L17 at H
  refine J_iconst (v := 0) d_UnderWay_mayGo_17 (by decide) ?_
  have z17 : (0 : Int32) = 0 ∨ (0 : Int32) = 1 := by
    apply Classical.byContradiction
    intro q9
    rw [if_neg q9] at H
    cases H
  rw [if_pos z17] at H
  have H := Option.some.inj H
  subst H
  exact J_iret (st := []) d_UnderWay_mayGo_18 rfl (narrow_z z17).1 ⟨rfl, rfl, rfl⟩
def f_UnderWay_mayGo (Γ : gm_T) (φ : ph_T) (this : Nat) (p0 : Int32) (p1 : Int32) (p2 : Int32) : Option (Int32 × ph_T) :=
  @ite _ (Γ this = .inr 9) _ (
  if p2 ≤ (φ.1 this 4) then
    f_UnderWay_mayGo_L17 Γ  φ 
  else
    if (φ.1 this 4) < (8 : Int32) then
      f_UnderWay_mayGo_L22 Γ  jF φ this p0 p1 (0 : Int32)
    else
      f_UnderWay_mayGo_L17 Γ  φ 
  ) none
set_option maxRecDepth 100000 in
set_option maxHeartbeats 4000000 in
theorem p_UnderWay_mayGo {w : jw_T} (hw : jok w) {Γ : gm_T} {n : Nat} (hG : gd w Γ n) {x : Bool} {φ : ph_T} {this : Nat} {p0 : Int32} {p1 : Int32} {p2 : Int32} {q : Int32 × ph_T} (H : f_UnderWay_mayGo Γ φ this p0 p1 p2 = some q) : jc w M_UnderWay_mayGo [.ref this, .int p0, .int p1, .int p2] (pic Γ φ) n x 0 0 (fq Γ n (.inl (some (.int q.1))) q.2) := by
  refine jc.of (by simp only [jent_r, jent_i, jent_l, jent_a, jent_0]; exact Nat.le_of_ble_eq_true rfl) ?_
  have hls : jents [.ref this, .int p0, .int p1, .int p2] (jm_nL M_UnderWay_mayGo) = [some (.ref this), some (.int p0), some (.int p1), some (.int p2), none] := by simp only [jents, jent_r, jent_i, jent_l, jent_a, jent_0]; rfl
  rw [hls]
  clear hls
  unfold f_UnderWay_mayGo at H
  refine J_aload_n d_UnderWay_mayGo_0 rfl ?_
  have g18 : Γ this = .inr 9 := by
    apply Classical.byContradiction
    intro q9
    rw [if_neg q9] at H
    cases H
  rw [if_pos g18] at H
  refine F_getI (ci := 9) (k := 4) hG (cf_UnderWay hw) (fl_UnderWay_24 hw) (by decide) (by decide) rfl d_UnderWay_mayGo_1 g18 ?_
  refine J_iload_n d_UnderWay_mayGo_4 rfl ?_
  refine J_icmp_ge (tgt := 17) d_UnderWay_mayGo_5 (by decide) ?_ ?_
  · intro c20
    rw [if_pos c20] at H
    refine J.drop [false, false, false, false, false] rfl ?_
    exact p_UnderWay_mayGo_L17 hw hG  H
  · intro c20
    rw [if_neg c20] at H
    refine J_aload_n d_UnderWay_mayGo_8 rfl ?_
    refine F_getI (ci := 9) (k := 4) hG (cf_UnderWay hw) (fl_UnderWay_24 hw) (by decide) (by decide) rfl d_UnderWay_mayGo_9 g18 ?_
    refine J_bipush (v := 8) d_UnderWay_mayGo_12 (by decide) ?_
    refine J_icmp_lt (tgt := 19) d_UnderWay_mayGo_14 (by decide) ?_ ?_
    · intro c19
      rw [if_pos c19] at H
      refine J_iconst (v := 0) d_UnderWay_mayGo_19 (by decide) ?_
      refine J_istore d_UnderWay_mayGo_20 (Nat.le_of_ble_eq_true rfl) ?_
      refine J.ls (ls' := [some (.ref this), some (.int p0), some (.int p1), some (.int p2), some (.int (0 : Int32))]) rfl ?_
      refine J.drop [true, true, true, false, true] rfl ?_
      exact p_UnderWay_mayGo_L22 hw hG  _ H
    · intro c19
      rw [if_neg c19] at H
      refine J.drop [false, false, false, false, false] rfl ?_
      exact p_UnderWay_mayGo_L17 hw hG  H
theorem ln_Switch_may : (parseMethodDescriptor y_Switch_may.desc).map (fun q => q.parameters.length) = some 3 := by decide +kernel
def f_Switch_may_L62 (Γ : gm_T)  (φ : ph_T) (y0 : Int32) : Option (Int32 × ph_T) :=
  @ite _ (y0 = 0 ∨ y0 = 1) _ (
  some (y0, φ)
  ) none
set_option maxRecDepth 100000 in
set_option maxHeartbeats 4000000 in
theorem p_Switch_may_L62 {w : jw_T} (hw : jok w) {Γ : gm_T} {n : Nat} (hG : gd w Γ n)  {x : Bool} {φ : ph_T} {y0 : Int32} {q : Int32 × ph_T} (H : f_Switch_may_L62 Γ  φ y0 = some q) : J w M_Switch_may 62 [none, none, none, none, none, none, none] [.int y0] (pic Γ φ) n x 0 0 (fq Γ n (.inl (some (.int q.1))) q.2) := by
  unfold f_Switch_may_L62 at H
  have z1 : y0 = 0 ∨ y0 = 1 := by
    apply Classical.byContradiction
    intro q9
    rw [if_neg q9] at H
    cases H
  rw [if_pos z1] at H
  have H := Option.some.inj H
  subst H
  exact J_iret (st := []) d_Switch_may_62 rfl (narrow_z z1).1 ⟨rfl, rfl, rfl⟩
def f_Switch_may_L61 (Γ : gm_T)  (φ : ph_T) : Option (Int32 × ph_T) :=
  f_Switch_may_L62 Γ  φ (0 : Int32)
set_option maxRecDepth 100000 in
set_option maxHeartbeats 4000000 in
theorem p_Switch_may_L61 {w : jw_T} (hw : jok w) {Γ : gm_T} {n : Nat} (hG : gd w Γ n)  {x : Bool} {φ : ph_T} {q : Int32 × ph_T} (H : f_Switch_may_L61 Γ  φ  = some q) : J w M_Switch_may 61 [none, none, none, none, none, none, none] [] (pic Γ φ) n x 0 0 (fq Γ n (.inl (some (.int q.1))) q.2) := by
  unfold f_Switch_may_L61 at H
  refine J_iconst (v := 0) d_Switch_may_61 (by decide) ?_
  refine J.drop [false, false, false, false, false, false, false] rfl ?_
  exact p_Switch_may_L62 hw hG  H
def f_Switch_may (Γ : gm_T) (φ : ph_T) (this : Nat) (p0 : Int32) (p1 : Int32) (p2 : Int32) : Option (Int32 × ph_T) :=
  @ite _ (Γ this = .inr 10) _ (
  Option.bind (f_Switch_ofMaster Γ φ this p0 p2) fun q3 =>
  Option.bind q3.1 fun a4 =>
  @ite _ (Γ a4 = .inr 3) _ (
  Option.bind (f_Row_holds Γ q3.2 a4) fun q6 =>
  if q6.1 = 0 then
    @ite _ ((0 : Int32) = 0 ∨ (0 : Int32) = 1) _ (
    some ((0 : Int32), q6.2)
    ) none
  else
    Option.bind (f_Row_firstContent Γ q6.2 a4) fun q7 =>
    Option.bind (f_Switch_targetOf Γ q7.2 this q7.1) fun q8 =>
    if q8.1 = p1 then
      Option.bind (f_Switch_underWay Γ q8.2 this p0 p2) fun q9 =>
      Option.bind (f_Burst_idOf Γ q9.2 q7.1) fun q10 =>
      Option.bind q9.1 fun a11 =>
      @ite _ (Γ a11 = .inr 9) _ (
      Option.bind (f_UnderWay_mayGo Γ q10.2 a11 q10.1 p1 (q10.2.1 this 2)) fun q13 =>
      if q13.1 = 0 then
        f_Switch_may_L61 Γ  q13.2 
      else
        f_Switch_may_L62 Γ  q13.2 (1 : Int32)
      ) none
    else
      f_Switch_may_L61 Γ  q8.2 
  ) none
  ) none
set_option maxRecDepth 100000 in
set_option maxHeartbeats 4000000 in
theorem p_Switch_may {w : jw_T} (hw : jok w) {Γ : gm_T} {n : Nat} (hG : gd w Γ n) {x : Bool} {φ : ph_T} {this : Nat} {p0 : Int32} {p1 : Int32} {p2 : Int32} {q : Int32 × ph_T} (H : f_Switch_may Γ φ this p0 p1 p2 = some q) : jc w M_Switch_may [.ref this, .int p0, .int p1, .int p2] (pic Γ φ) n x 0 0 (fq Γ n (.inl (some (.int q.1))) q.2) := by
  refine jc.of (by simp only [jent_r, jent_i, jent_l, jent_a, jent_0]; exact Nat.le_of_ble_eq_true rfl) ?_
  have hls : jents [.ref this, .int p0, .int p1, .int p2] (jm_nL M_Switch_may) = [some (.ref this), some (.int p0), some (.int p1), some (.int p2), none, none, none] := by simp only [jents, jent_r, jent_i, jent_l, jent_a, jent_0]; rfl
  rw [hls]
  clear hls
  unfold f_Switch_may at H
  refine J_aload_n d_Switch_may_0 rfl ?_
  refine J_iload_n d_Switch_may_1 rfl ?_
  refine J_iload_n d_Switch_may_2 rfl ?_
  have g2 : Γ this = .inr 10 := by
    apply Classical.byContradiction
    intro q9
    rw [if_neg q9] at H
    cases H
  rw [if_pos g2] at H
  obtain ⟨q3, hq3, H⟩ := Option.bind_eq_some_iff.mp H
  refine J_callV (kc := 0) (ks := 0) (kc' := 0) (ks' := 0) (a := this) (ci := 10) (as := [.int p0, .int p2]) (st := []) (mf_Switch_ofMaster hw) (mv_Switch_107 hw) d_Switch_may_3 ln_Switch_ofMaster (by decide) (by first | exact Nat.le_of_ble_eq_true rfl | (simp only [List.map_cons, List.map_nil, List.sum_cons, List.sum_nil, va_rf_cat]; exact Nat.le_of_ble_eq_true rfl)) rfl ((hG _).1 _ g2 (by decide)).1 ((hG _).1 _ g2 (by decide)).2 (by unfold pic; rw [g2]; rfl) (jcl_at hw rfl) rfl (p_Switch_ofMaster hw hG hq3) ?_ (fun E h' n' x' e1 => by cases e1.1)
  intro v9 h9 n9 x9 e9
  obtain ⟨e91, e92, e93⟩ := e9
  cases e91
  subst e92
  subst e93
  clear x
  rename Bool => x
  show J _ _ _ _ (_ :: _) _ _ _ _ _ _
  refine J_astoreO d_Switch_may_6 (Nat.le_of_ble_eq_true rfl) ?_
  refine J.ls (ls' := [some (.ref this), some (.int p0), some (.int p1), some (.int p2), some (va_rf q3.1), none, none]) rfl ?_
  refine J_aloadO d_Switch_may_8 rfl ?_
  obtain ⟨a4, ha4, H⟩ := Option.bind_eq_some_iff.mp H
  rw [j_rf ha4]
  have g5 : Γ a4 = .inr 3 := by
    apply Classical.byContradiction
    intro q9
    rw [if_neg q9] at H
    cases H
  rw [if_pos g5] at H
  obtain ⟨q6, hq6, H⟩ := Option.bind_eq_some_iff.mp H
  refine J_callV (kc := 0) (ks := 0) (kc' := 0) (ks' := 0) (a := a4) (ci := 3) (as := []) (st := []) (mf_Row_holds hw) (mv_Switch_131 hw) d_Switch_may_10 ln_Row_holds (by decide) (by first | exact Nat.le_of_ble_eq_true rfl | (simp only [List.map_cons, List.map_nil, List.sum_cons, List.sum_nil, va_rf_cat]; exact Nat.le_of_ble_eq_true rfl)) rfl ((hG _).1 _ g5 (by decide)).1 ((hG _).1 _ g5 (by decide)).2 (by unfold pic; rw [g5]; rfl) (jcl_at hw rfl) rfl (p_Row_holds hw hG hq6) ?_ (fun E h' n' x' e1 => by cases e1.1)
  intro v9 h9 n9 x9 e9
  obtain ⟨e91, e92, e93⟩ := e9
  cases e91
  subst e92
  subst e93
  clear x
  rename Bool => x
  show J _ _ _ _ (_ :: _) _ _ _ _ _ _
  refine J_if_ne (tgt := 18) d_Switch_may_13 (by decide) ?_ ?_
  · intro c17
    rw [if_neg c17] at H
    refine J_aload d_Switch_may_18 rfl ?_
    obtain ⟨q7, hq7, H⟩ := Option.bind_eq_some_iff.mp H
    refine J_callV (kc := 0) (ks := 0) (kc' := 0) (ks' := 0) (a := a4) (ci := 3) (as := []) (st := []) (mf_Row_firstContent hw) (mv_Switch_134 hw) d_Switch_may_20 ln_Row_firstContent (by decide) (by first | exact Nat.le_of_ble_eq_true rfl | (simp only [List.map_cons, List.map_nil, List.sum_cons, List.sum_nil, va_rf_cat]; exact Nat.le_of_ble_eq_true rfl)) rfl ((hG _).1 _ g5 (by decide)).1 ((hG _).1 _ g5 (by decide)).2 (by unfold pic; rw [g5]; rfl) (jcl_at hw rfl) rfl (p_Row_firstContent hw hG hq7) ?_ (fun E h' n' x' e1 => by cases e1.1)
    intro v9 h9 n9 x9 e9
    obtain ⟨e91, e92, e93⟩ := e9
    cases e91
    subst e92
    subst e93
    clear x
    rename Bool => x
    show J _ _ _ _ (_ :: _) _ _ _ _ _ _
    refine J_lstore d_Switch_may_23 (Nat.le_of_ble_eq_true rfl) ?_
    refine J.ls (ls' := [some (.ref this), some (.int p0), some (.int p1), some (.int p2), some (.ref a4), some (.long q7.1), none]) rfl ?_
    refine J_aload_n d_Switch_may_25 rfl ?_
    refine J_lload d_Switch_may_26 rfl ?_
    obtain ⟨q8, hq8, H⟩ := Option.bind_eq_some_iff.mp H
    refine J_callV (kc := 0) (ks := 0) (kc' := 0) (ks' := 0) (a := this) (ci := 10) (as := [.long q7.1]) (st := []) (mf_Switch_targetOf hw) (mv_Switch_206 hw) d_Switch_may_28 ln_Switch_targetOf (by decide) (by first | exact Nat.le_of_ble_eq_true rfl | (simp only [List.map_cons, List.map_nil, List.sum_cons, List.sum_nil, va_rf_cat]; exact Nat.le_of_ble_eq_true rfl)) rfl ((hG _).1 _ g2 (by decide)).1 ((hG _).1 _ g2 (by decide)).2 (by unfold pic; rw [g2]; rfl) (jcl_at hw rfl) rfl (p_Switch_targetOf hw hG hq8) ?_ (fun E h' n' x' e1 => by cases e1.1)
    intro v9 h9 n9 x9 e9
    obtain ⟨e91, e92, e93⟩ := e9
    cases e91
    subst e92
    subst e93
    clear x
    rename Bool => x
    show J _ _ _ _ (_ :: _) _ _ _ _ _ _
    refine J_iload_n d_Switch_may_31 rfl ?_
    refine J_icmp_ne (tgt := 61) d_Switch_may_32 (by decide) ?_ ?_
    · intro c15
      rw [if_neg c15] at H
      refine J.drop [false, false, false, false, false, false, false] rfl ?_
      exact p_Switch_may_L61 hw hG  H
    · intro c15
      rw [if_pos c15] at H
      refine J_aload_n d_Switch_may_35 rfl ?_
      refine J_iload_n d_Switch_may_36 rfl ?_
      refine J_iload_n d_Switch_may_37 rfl ?_
      obtain ⟨q9, hq9, H⟩ := Option.bind_eq_some_iff.mp H
      refine J_callV (kc := 0) (ks := 0) (kc' := 0) (ks' := 0) (a := this) (ci := 10) (as := [.int p0, .int p2]) (st := []) (mf_Switch_underWay hw) (mv_Switch_99 hw) d_Switch_may_38 ln_Switch_underWay (by decide) (by first | exact Nat.le_of_ble_eq_true rfl | (simp only [List.map_cons, List.map_nil, List.sum_cons, List.sum_nil, va_rf_cat]; exact Nat.le_of_ble_eq_true rfl)) rfl ((hG _).1 _ g2 (by decide)).1 ((hG _).1 _ g2 (by decide)).2 (by unfold pic; rw [g2]; rfl) (jcl_at hw rfl) rfl (p_Switch_underWay hw hG hq9) ?_ (fun E h' n' x' e1 => by cases e1.1)
      intro v9 h9 n9 x9 e9
      obtain ⟨e91, e92, e93⟩ := e9
      cases e91
      subst e92
      subst e93
      clear x
      rename Bool => x
      show J _ _ _ _ (_ :: _) _ _ _ _ _ _
      refine J_lload d_Switch_may_41 rfl ?_
      obtain ⟨q10, hq10, H⟩ := Option.bind_eq_some_iff.mp H
      refine J_callS (kc := 0) (ks := 0) (kc' := 0) (ks' := 0) (as := [.long q7.1]) (st := [va_rf q9.1]) (mf_Burst_idOf hw) (ms_Switch_190 hw) d_Switch_may_43 ln_Burst_idOf (by decide) (by first | exact Nat.le_of_ble_eq_true rfl | (simp only [List.map_cons, List.map_nil, List.sum_cons, List.sum_nil, va_rf_cat]; exact Nat.le_of_ble_eq_true rfl)) rfl (p_Burst_idOf hw hG hq10) ?_ (fun E h' n' x' e1 => by cases e1.1)
      intro v9 h9 n9 x9 e9
      obtain ⟨e91, e92, e93⟩ := e9
      cases e91
      subst e92
      subst e93
      clear x
      rename Bool => x
      show J _ _ _ _ (_ :: _) _ _ _ _ _ _
      refine J_iload_n d_Switch_may_46 rfl ?_
      refine J_aload_n d_Switch_may_47 rfl ?_
      refine F_getI (ci := 10) (k := 2) hG (cf_Switch hw) (fl_Switch_22 hw) (by decide) (by decide) rfl d_Switch_may_48 g2 ?_
      obtain ⟨a11, ha11, H⟩ := Option.bind_eq_some_iff.mp H
      rw [j_rf ha11]
      have g12 : Γ a11 = .inr 9 := by
        apply Classical.byContradiction
        intro q9
        rw [if_neg q9] at H
        cases H
      rw [if_pos g12] at H
      obtain ⟨q13, hq13, H⟩ := Option.bind_eq_some_iff.mp H
      refine J_callV (kc := 0) (ks := 0) (kc' := 0) (ks' := 0) (a := a11) (ci := 9) (as := [.int q10.1, .int p1, .int (q10.2.1 this 2)]) (st := []) (mf_UnderWay_mayGo hw) (mv_Switch_209 hw) d_Switch_may_51 ln_UnderWay_mayGo (by decide) (by first | exact Nat.le_of_ble_eq_true rfl | (simp only [List.map_cons, List.map_nil, List.sum_cons, List.sum_nil, va_rf_cat]; exact Nat.le_of_ble_eq_true rfl)) rfl ((hG _).1 _ g12 (by decide)).1 ((hG _).1 _ g12 (by decide)).2 (by unfold pic; rw [g12]; rfl) (jcl_at hw rfl) rfl (p_UnderWay_mayGo hw hG hq13) ?_ (fun E h' n' x' e1 => by cases e1.1)
      intro v9 h9 n9 x9 e9
      obtain ⟨e91, e92, e93⟩ := e9
      cases e91
      subst e92
      subst e93
      clear x
      rename Bool => x
      show J _ _ _ _ (_ :: _) _ _ _ _ _ _
      refine J_if_eq (tgt := 61) d_Switch_may_54 (by decide) ?_ ?_
      · intro c14
        rw [if_pos c14] at H
        refine J.drop [false, false, false, false, false, false, false] rfl ?_
        exact p_Switch_may_L61 hw hG  H
      · intro c14
        rw [if_neg c14] at H
        refine J_iconst (v := 1) d_Switch_may_57 (by decide) ?_
        refine J_goto (tgt := 62) d_Switch_may_58 (by decide) ?_
        refine J.drop [false, false, false, false, false, false, false] rfl ?_
        exact p_Switch_may_L62 hw hG  H
  · intro c17
    rw [if_pos c17] at H
    refine J_iconst (v := 0) d_Switch_may_16 (by decide) ?_
    have z16 : (0 : Int32) = 0 ∨ (0 : Int32) = 1 := by
      apply Classical.byContradiction
      intro q9
      rw [if_neg q9] at H
      cases H
    rw [if_pos z16] at H
    have H := Option.some.inj H
    subst H
    exact J_iret (st := []) d_Switch_may_17 rfl (narrow_z z16).1 ⟨rfl, rfl, rfl⟩
theorem ln_Row_firstCame : (parseMethodDescriptor y_Row_firstCame.desc).map (fun q => q.parameters.length) = some 0 := by decide +kernel
def f_Row_firstCame_L17 (Γ : gm_T)  (φ : ph_T) (y0 : Int32) : Option (Int32 × ph_T) :=
  some (y0, φ)
set_option maxRecDepth 100000 in
set_option maxHeartbeats 4000000 in
theorem p_Row_firstCame_L17 {w : jw_T} (hw : jok w) {Γ : gm_T} {n : Nat} (hG : gd w Γ n)  {x : Bool} {φ : ph_T} {y0 : Int32} {q : Int32 × ph_T} (H : f_Row_firstCame_L17 Γ  φ y0 = some q) : J w M_Row_firstCame 17 [none] [.int y0] (pic Γ φ) n x 0 0 (fq Γ n (.inl (some (.int q.1))) q.2) := by
  unfold f_Row_firstCame_L17 at H
  have H := Option.some.inj H
  subst H
  exact J_iret (st := []) d_Row_firstCame_17 rfl rfl ⟨rfl, rfl, rfl⟩
def f_Row_firstCame (Γ : gm_T) (φ : ph_T) (this : Nat) : Option (Int32 × ph_T) :=
  @ite _ (Γ this = .inr 3) _ (
  if (φ.1 this 3) ≤ 0 then
    f_Row_firstCame_L17 Γ  φ (0 : Int32)
  else
    Option.bind (φ.2.2 this 2) fun a2 =>
    Option.bind (gA Γ a2 0) fun N3 =>
    Option.bind (ix (0 : Int32) N3) fun k4 =>
    f_Row_firstCame_L17 Γ  φ (φ.1 a2 k4)
  ) none
set_option maxRecDepth 100000 in
set_option maxHeartbeats 4000000 in
theorem p_Row_firstCame {w : jw_T} (hw : jok w) {Γ : gm_T} {n : Nat} (hG : gd w Γ n) {x : Bool} {φ : ph_T} {this : Nat} {q : Int32 × ph_T} (H : f_Row_firstCame Γ φ this = some q) : jc w M_Row_firstCame [.ref this] (pic Γ φ) n x 0 0 (fq Γ n (.inl (some (.int q.1))) q.2) := by
  refine jc.of (by simp only [jent_r, jent_i, jent_l, jent_a, jent_0]; exact Nat.le_of_ble_eq_true rfl) ?_
  have hls : jents [.ref this] (jm_nL M_Row_firstCame) = [some (.ref this)] := by simp only [jents, jent_r, jent_i, jent_l, jent_a, jent_0]; rfl
  rw [hls]
  clear hls
  unfold f_Row_firstCame at H
  refine J_aload_n d_Row_firstCame_0 rfl ?_
  have g1 : Γ this = .inr 3 := by
    apply Classical.byContradiction
    intro q9
    rw [if_neg q9] at H
    cases H
  rw [if_pos g1] at H
  refine F_getI (ci := 3) (k := 3) hG (cf_Row hw) (fl_Row_20 hw) (by decide) (by decide) rfl d_Row_firstCame_1 g1 ?_
  refine J_if_le (tgt := 16) d_Row_firstCame_4 (by decide) ?_ ?_
  · intro c5
    rw [if_pos c5] at H
    refine J_iconst (v := 0) d_Row_firstCame_16 (by decide) ?_
    refine J.drop [false] rfl ?_
    exact p_Row_firstCame_L17 hw hG  H
  · intro c5
    rw [if_neg c5] at H
    refine J_aload_n d_Row_firstCame_7 rfl ?_
    refine F_getR (ci := 3) (k := 2) hG (cf_Row hw) (fl_Row_17 hw) (by decide) (by decide) rfl d_Row_firstCame_8 g1 ?_
    refine J_iconst (v := 0) d_Row_firstCame_11 (by decide) ?_
    obtain ⟨a2, ha2, H⟩ := Option.bind_eq_some_iff.mp H
    rw [j_rf ha2]
    obtain ⟨N3, hN3, H⟩ := Option.bind_eq_some_iff.mp H
    obtain ⟨k4, hk4, H⟩ := Option.bind_eq_some_iff.mp H
    refine F_iald k4 hw hG d_Row_firstCame_12 (gA_some hN3) (ix_some hk4) ?_
    refine J_goto (tgt := 17) d_Row_firstCame_13 (by decide) ?_
    refine J.drop [false] rfl ?_
    exact p_Row_firstCame_L17 hw hG  H
theorem ln_Burst_urgencyOf : (parseMethodDescriptor y_Burst_urgencyOf.desc).map (fun q => q.parameters.length) = some 1 := by decide +kernel
def f_Burst_urgencyOf (Γ : gm_T) (φ : ph_T) (p0 : Int64) : Option (Int32 × ph_T) :=
  some (((Int64.toInt32 (p0 >>> (Int32.toInt64 (31 : Int32) &&& 63))) &&& (15 : Int32)), φ)
set_option maxRecDepth 100000 in
set_option maxHeartbeats 4000000 in
theorem p_Burst_urgencyOf {w : jw_T} (hw : jok w) {Γ : gm_T} {n : Nat} (hG : gd w Γ n) {x : Bool} {φ : ph_T} {p0 : Int64} {q : Int32 × ph_T} (H : f_Burst_urgencyOf Γ φ p0 = some q) : jc w M_Burst_urgencyOf [.long p0] (pic Γ φ) n x 0 0 (fq Γ n (.inl (some (.int q.1))) q.2) := by
  refine jc.of (by simp only [jent_r, jent_i, jent_l, jent_a, jent_0]; exact Nat.le_of_ble_eq_true rfl) ?_
  have hls : jents [.long p0] (jm_nL M_Burst_urgencyOf) = [some (.long p0), none] := by simp only [jents, jent_r, jent_i, jent_l, jent_a, jent_0]; rfl
  rw [hls]
  clear hls
  unfold f_Burst_urgencyOf at H
  refine J_lload_n d_Burst_urgencyOf_0 rfl ?_
  refine J_bipush (v := 31) d_Burst_urgencyOf_1 (by decide) ?_
  refine J_lshr d_Burst_urgencyOf_3 ?_
  refine J_l2i d_Burst_urgencyOf_4 ?_
  refine J_bipush (v := 15) d_Burst_urgencyOf_5 (by decide) ?_
  refine J_iand d_Burst_urgencyOf_7 ?_
  have H := Option.some.inj H
  subst H
  exact J_iret (st := []) d_Burst_urgencyOf_8 rfl rfl ⟨rfl, rfl, rfl⟩
theorem ln_Switch_goesBefore : (parseMethodDescriptor y_Switch_goesBefore.desc).map (fun q => q.parameters.length) = some 3 := by decide +kernel
def f_Switch_goesBefore_L75 (Γ : gm_T)  (φ : ph_T) (y0 : Int32) : Option (Int32 × ph_T) :=
  @ite _ (y0 = 0 ∨ y0 = 1) _ (
  some (y0, φ)
  ) none
set_option maxRecDepth 100000 in
set_option maxHeartbeats 4000000 in
theorem p_Switch_goesBefore_L75 {w : jw_T} (hw : jok w) {Γ : gm_T} {n : Nat} (hG : gd w Γ n)  {x : Bool} {φ : ph_T} {y0 : Int32} {q : Int32 × ph_T} (H : f_Switch_goesBefore_L75 Γ  φ y0 = some q) : J w M_Switch_goesBefore 75 [none, none, none, none, none, none] [.int y0] (pic Γ φ) n x 0 0 (fq Γ n (.inl (some (.int q.1))) q.2) := by
  unfold f_Switch_goesBefore_L75 at H
  have z1 : y0 = 0 ∨ y0 = 1 := by
    apply Classical.byContradiction
    intro q9
    rw [if_neg q9] at H
    cases H
  rw [if_pos z1] at H
  have H := Option.some.inj H
  subst H
  exact J_iret (st := []) d_Switch_goesBefore_75 rfl (narrow_z z1).1 ⟨rfl, rfl, rfl⟩
def f_Switch_goesBefore_L74 (Γ : gm_T)  (φ : ph_T) : Option (Int32 × ph_T) :=
  f_Switch_goesBefore_L75 Γ  φ (0 : Int32)
set_option maxRecDepth 100000 in
set_option maxHeartbeats 4000000 in
theorem p_Switch_goesBefore_L74 {w : jw_T} (hw : jok w) {Γ : gm_T} {n : Nat} (hG : gd w Γ n)  {x : Bool} {φ : ph_T} {q : Int32 × ph_T} (H : f_Switch_goesBefore_L74 Γ  φ  = some q) : J w M_Switch_goesBefore 74 [none, none, none, none, none, none] [] (pic Γ φ) n x 0 0 (fq Γ n (.inl (some (.int q.1))) q.2) := by
  unfold f_Switch_goesBefore_L74 at H
  refine J_iconst (v := 0) d_Switch_goesBefore_74 (by decide) ?_
  refine J.drop [false, false, false, false, false, false] rfl ?_
  exact p_Switch_goesBefore_L75 hw hG  H
def f_Switch_goesBefore_L42 (Γ : gm_T)  (φ : ph_T) (y0 : Int32) : Option (Int32 × ph_T) :=
  @ite _ (y0 = 0 ∨ y0 = 1) _ (
  some (y0, φ)
  ) none
set_option maxRecDepth 100000 in
set_option maxHeartbeats 4000000 in
theorem p_Switch_goesBefore_L42 {w : jw_T} (hw : jok w) {Γ : gm_T} {n : Nat} (hG : gd w Γ n)  {x : Bool} {φ : ph_T} {y0 : Int32} {q : Int32 × ph_T} (H : f_Switch_goesBefore_L42 Γ  φ y0 = some q) : J w M_Switch_goesBefore 42 [none, none, none, none, none, none] [.int y0] (pic Γ φ) n x 0 0 (fq Γ n (.inl (some (.int q.1))) q.2) := by
  unfold f_Switch_goesBefore_L42 at H
  have z2 : y0 = 0 ∨ y0 = 1 := by
    apply Classical.byContradiction
    intro q9
    rw [if_neg q9] at H
    cases H
  rw [if_pos z2] at H
  have H := Option.some.inj H
  subst H
  exact J_iret (st := []) d_Switch_goesBefore_42 rfl (narrow_z z2).1 ⟨rfl, rfl, rfl⟩
def f_Switch_goesBefore (Γ : gm_T) (φ : ph_T) (this : Nat) (p0 : Int32) (p1 : Int32) (p2 : Int32) : Option (Int32 × ph_T) :=
  @ite _ (Γ this = .inr 10) _ (
  Option.bind (f_Switch_ofMaster Γ φ this p0 p2) fun q4 =>
  Option.bind (f_Switch_ofMaster Γ q4.2 this p1 p2) fun q5 =>
  if (q5.2.1 this 13) = (2 : Int32) then
    Option.bind q4.1 fun a16 =>
    @ite _ (Γ a16 = .inr 3) _ (
    Option.bind (f_Row_firstCame Γ q5.2 a16) fun q18 =>
    Option.bind q5.1 fun a19 =>
    @ite _ (Γ a19 = .inr 3) _ (
    Option.bind (f_Row_firstCame Γ q18.2 a19) fun q21 =>
    if q21.1 ≤ q18.1 then
      f_Switch_goesBefore_L42 Γ  q21.2 (0 : Int32)
    else
      f_Switch_goesBefore_L42 Γ  q21.2 (1 : Int32)
    ) none
    ) none
  else
    if (q5.2.1 this 13) = (3 : Int32) then
      Option.bind q4.1 fun a6 =>
      @ite _ (Γ a6 = .inr 3) _ (
      Option.bind (f_Row_firstContent Γ q5.2 a6) fun q8 =>
      Option.bind (f_Burst_urgencyOf Γ q8.2 q8.1) fun q9 =>
      Option.bind q5.1 fun a10 =>
      @ite _ (Γ a10 = .inr 3) _ (
      Option.bind (f_Row_firstContent Γ q9.2 a10) fun q12 =>
      Option.bind (f_Burst_urgencyOf Γ q12.2 q12.1) fun q13 =>
      if q9.1 ≤ q13.1 then
        f_Switch_goesBefore_L74 Γ  q13.2 
      else
        f_Switch_goesBefore_L75 Γ  q13.2 (1 : Int32)
      ) none
      ) none
    else
      f_Switch_goesBefore_L74 Γ  q5.2 
  ) none
set_option maxRecDepth 100000 in
set_option maxHeartbeats 4000000 in
theorem p_Switch_goesBefore {w : jw_T} (hw : jok w) {Γ : gm_T} {n : Nat} (hG : gd w Γ n) {x : Bool} {φ : ph_T} {this : Nat} {p0 : Int32} {p1 : Int32} {p2 : Int32} {q : Int32 × ph_T} (H : f_Switch_goesBefore Γ φ this p0 p1 p2 = some q) : jc w M_Switch_goesBefore [.ref this, .int p0, .int p1, .int p2] (pic Γ φ) n x 0 0 (fq Γ n (.inl (some (.int q.1))) q.2) := by
  refine jc.of (by simp only [jent_r, jent_i, jent_l, jent_a, jent_0]; exact Nat.le_of_ble_eq_true rfl) ?_
  have hls : jents [.ref this, .int p0, .int p1, .int p2] (jm_nL M_Switch_goesBefore) = [some (.ref this), some (.int p0), some (.int p1), some (.int p2), none, none] := by simp only [jents, jent_r, jent_i, jent_l, jent_a, jent_0]; rfl
  rw [hls]
  clear hls
  unfold f_Switch_goesBefore at H
  refine J_aload_n d_Switch_goesBefore_0 rfl ?_
  refine J_iload_n d_Switch_goesBefore_1 rfl ?_
  refine J_iload_n d_Switch_goesBefore_2 rfl ?_
  have g3 : Γ this = .inr 10 := by
    apply Classical.byContradiction
    intro q9
    rw [if_neg q9] at H
    cases H
  rw [if_pos g3] at H
  obtain ⟨q4, hq4, H⟩ := Option.bind_eq_some_iff.mp H
  refine J_callV (kc := 0) (ks := 0) (kc' := 0) (ks' := 0) (a := this) (ci := 10) (as := [.int p0, .int p2]) (st := []) (mf_Switch_ofMaster hw) (mv_Switch_107 hw) d_Switch_goesBefore_3 ln_Switch_ofMaster (by decide) (by first | exact Nat.le_of_ble_eq_true rfl | (simp only [List.map_cons, List.map_nil, List.sum_cons, List.sum_nil, va_rf_cat]; exact Nat.le_of_ble_eq_true rfl)) rfl ((hG _).1 _ g3 (by decide)).1 ((hG _).1 _ g3 (by decide)).2 (by unfold pic; rw [g3]; rfl) (jcl_at hw rfl) rfl (p_Switch_ofMaster hw hG hq4) ?_ (fun E h' n' x' e1 => by cases e1.1)
  intro v9 h9 n9 x9 e9
  obtain ⟨e91, e92, e93⟩ := e9
  cases e91
  subst e92
  subst e93
  clear x
  rename Bool => x
  show J _ _ _ _ (_ :: _) _ _ _ _ _ _
  refine J_astoreO d_Switch_goesBefore_6 (Nat.le_of_ble_eq_true rfl) ?_
  refine J.ls (ls' := [some (.ref this), some (.int p0), some (.int p1), some (.int p2), some (va_rf q4.1), none]) rfl ?_
  refine J_aload_n d_Switch_goesBefore_8 rfl ?_
  refine J_iload_n d_Switch_goesBefore_9 rfl ?_
  refine J_iload_n d_Switch_goesBefore_10 rfl ?_
  obtain ⟨q5, hq5, H⟩ := Option.bind_eq_some_iff.mp H
  refine J_callV (kc := 0) (ks := 0) (kc' := 0) (ks' := 0) (a := this) (ci := 10) (as := [.int p1, .int p2]) (st := []) (mf_Switch_ofMaster hw) (mv_Switch_107 hw) d_Switch_goesBefore_11 ln_Switch_ofMaster (by decide) (by first | exact Nat.le_of_ble_eq_true rfl | (simp only [List.map_cons, List.map_nil, List.sum_cons, List.sum_nil, va_rf_cat]; exact Nat.le_of_ble_eq_true rfl)) rfl ((hG _).1 _ g3 (by decide)).1 ((hG _).1 _ g3 (by decide)).2 (by unfold pic; rw [g3]; rfl) (jcl_at hw rfl) rfl (p_Switch_ofMaster hw hG hq5) ?_ (fun E h' n' x' e1 => by cases e1.1)
  intro v9 h9 n9 x9 e9
  obtain ⟨e91, e92, e93⟩ := e9
  cases e91
  subst e92
  subst e93
  clear x
  rename Bool => x
  show J _ _ _ _ (_ :: _) _ _ _ _ _ _
  refine J_astoreO d_Switch_goesBefore_14 (Nat.le_of_ble_eq_true rfl) ?_
  refine J.ls (ls' := [some (.ref this), some (.int p0), some (.int p1), some (.int p2), some (va_rf q4.1), some (va_rf q5.1)]) (jst1_o (i := 4) (r := q4.1) rfl) ?_
  refine J_aload_n d_Switch_goesBefore_16 rfl ?_
  refine F_getI (ci := 10) (k := 13) hG (cf_Switch hw) (fl_Switch_80 hw) (by decide) (by decide) rfl d_Switch_goesBefore_17 g3 ?_
  refine J_iconst (v := 2) d_Switch_goesBefore_20 (by decide) ?_
  refine J_icmp_ne (tgt := 43) d_Switch_goesBefore_21 (by decide) ?_ ?_
  · intro c23
    rw [if_neg c23] at H
    refine J_aload_n d_Switch_goesBefore_43 rfl ?_
    refine F_getI (ci := 10) (k := 13) hG (cf_Switch hw) (fl_Switch_80 hw) (by decide) (by decide) rfl d_Switch_goesBefore_44 g3 ?_
    refine J_iconst (v := 3) d_Switch_goesBefore_47 (by decide) ?_
    refine J_icmp_ne (tgt := 74) d_Switch_goesBefore_48 (by decide) ?_ ?_
    · intro c15
      rw [if_neg c15] at H
      refine J.drop [false, false, false, false, false, false] rfl ?_
      exact p_Switch_goesBefore_L74 hw hG  H
    · intro c15
      rw [if_pos c15] at H
      refine J_aloadO d_Switch_goesBefore_51 rfl ?_
      obtain ⟨a6, ha6, H⟩ := Option.bind_eq_some_iff.mp H
      rw [j_rf ha6]
      have g7 : Γ a6 = .inr 3 := by
        apply Classical.byContradiction
        intro q9
        rw [if_neg q9] at H
        cases H
      rw [if_pos g7] at H
      obtain ⟨q8, hq8, H⟩ := Option.bind_eq_some_iff.mp H
      refine J_callV (kc := 0) (ks := 0) (kc' := 0) (ks' := 0) (a := a6) (ci := 3) (as := []) (st := []) (mf_Row_firstContent hw) (mv_Switch_134 hw) d_Switch_goesBefore_53 ln_Row_firstContent (by decide) (by first | exact Nat.le_of_ble_eq_true rfl | (simp only [List.map_cons, List.map_nil, List.sum_cons, List.sum_nil, va_rf_cat]; exact Nat.le_of_ble_eq_true rfl)) rfl ((hG _).1 _ g7 (by decide)).1 ((hG _).1 _ g7 (by decide)).2 (by unfold pic; rw [g7]; rfl) (jcl_at hw rfl) rfl (p_Row_firstContent hw hG hq8) ?_ (fun E h' n' x' e1 => by cases e1.1)
      intro v9 h9 n9 x9 e9
      obtain ⟨e91, e92, e93⟩ := e9
      cases e91
      subst e92
      subst e93
      clear x
      rename Bool => x
      show J _ _ _ _ (_ :: _) _ _ _ _ _ _
      obtain ⟨q9, hq9, H⟩ := Option.bind_eq_some_iff.mp H
      refine J_callS (kc := 0) (ks := 0) (kc' := 0) (ks' := 0) (as := [.long q8.1]) (st := []) (mf_Burst_urgencyOf hw) (ms_Switch_215 hw) d_Switch_goesBefore_56 ln_Burst_urgencyOf (by decide) (by first | exact Nat.le_of_ble_eq_true rfl | (simp only [List.map_cons, List.map_nil, List.sum_cons, List.sum_nil, va_rf_cat]; exact Nat.le_of_ble_eq_true rfl)) rfl (p_Burst_urgencyOf hw hG hq9) ?_ (fun E h' n' x' e1 => by cases e1.1)
      intro v9 h9 n9 x9 e9
      obtain ⟨e91, e92, e93⟩ := e9
      cases e91
      subst e92
      subst e93
      clear x
      rename Bool => x
      show J _ _ _ _ (_ :: _) _ _ _ _ _ _
      refine J_aloadO d_Switch_goesBefore_59 rfl ?_
      obtain ⟨a10, ha10, H⟩ := Option.bind_eq_some_iff.mp H
      rw [j_rf ha10]
      have g11 : Γ a10 = .inr 3 := by
        apply Classical.byContradiction
        intro q9
        rw [if_neg q9] at H
        cases H
      rw [if_pos g11] at H
      obtain ⟨q12, hq12, H⟩ := Option.bind_eq_some_iff.mp H
      refine J_callV (kc := 0) (ks := 0) (kc' := 0) (ks' := 0) (a := a10) (ci := 3) (as := []) (st := [.int q9.1]) (mf_Row_firstContent hw) (mv_Switch_134 hw) d_Switch_goesBefore_61 ln_Row_firstContent (by decide) (by first | exact Nat.le_of_ble_eq_true rfl | (simp only [List.map_cons, List.map_nil, List.sum_cons, List.sum_nil, va_rf_cat]; exact Nat.le_of_ble_eq_true rfl)) rfl ((hG _).1 _ g11 (by decide)).1 ((hG _).1 _ g11 (by decide)).2 (by unfold pic; rw [g11]; rfl) (jcl_at hw rfl) rfl (p_Row_firstContent hw hG hq12) ?_ (fun E h' n' x' e1 => by cases e1.1)
      intro v9 h9 n9 x9 e9
      obtain ⟨e91, e92, e93⟩ := e9
      cases e91
      subst e92
      subst e93
      clear x
      rename Bool => x
      show J _ _ _ _ (_ :: _) _ _ _ _ _ _
      obtain ⟨q13, hq13, H⟩ := Option.bind_eq_some_iff.mp H
      refine J_callS (kc := 0) (ks := 0) (kc' := 0) (ks' := 0) (as := [.long q12.1]) (st := [.int q9.1]) (mf_Burst_urgencyOf hw) (ms_Switch_215 hw) d_Switch_goesBefore_64 ln_Burst_urgencyOf (by decide) (by first | exact Nat.le_of_ble_eq_true rfl | (simp only [List.map_cons, List.map_nil, List.sum_cons, List.sum_nil, va_rf_cat]; exact Nat.le_of_ble_eq_true rfl)) rfl (p_Burst_urgencyOf hw hG hq13) ?_ (fun E h' n' x' e1 => by cases e1.1)
      intro v9 h9 n9 x9 e9
      obtain ⟨e91, e92, e93⟩ := e9
      cases e91
      subst e92
      subst e93
      clear x
      rename Bool => x
      show J _ _ _ _ (_ :: _) _ _ _ _ _ _
      refine J_icmp_le (tgt := 74) d_Switch_goesBefore_67 (by decide) ?_ ?_
      · intro c14
        rw [if_pos c14] at H
        refine J.drop [false, false, false, false, false, false] rfl ?_
        exact p_Switch_goesBefore_L74 hw hG  H
      · intro c14
        rw [if_neg c14] at H
        refine J_iconst (v := 1) d_Switch_goesBefore_70 (by decide) ?_
        refine J_goto (tgt := 75) d_Switch_goesBefore_71 (by decide) ?_
        refine J.drop [false, false, false, false, false, false] rfl ?_
        exact p_Switch_goesBefore_L75 hw hG  H
  · intro c23
    rw [if_pos c23] at H
    refine J_aloadO d_Switch_goesBefore_24 rfl ?_
    obtain ⟨a16, ha16, H⟩ := Option.bind_eq_some_iff.mp H
    rw [j_rf ha16]
    have g17 : Γ a16 = .inr 3 := by
      apply Classical.byContradiction
      intro q9
      rw [if_neg q9] at H
      cases H
    rw [if_pos g17] at H
    obtain ⟨q18, hq18, H⟩ := Option.bind_eq_some_iff.mp H
    refine J_callV (kc := 0) (ks := 0) (kc' := 0) (ks' := 0) (a := a16) (ci := 3) (as := []) (st := []) (mf_Row_firstCame hw) (mv_Switch_212 hw) d_Switch_goesBefore_26 ln_Row_firstCame (by decide) (by first | exact Nat.le_of_ble_eq_true rfl | (simp only [List.map_cons, List.map_nil, List.sum_cons, List.sum_nil, va_rf_cat]; exact Nat.le_of_ble_eq_true rfl)) rfl ((hG _).1 _ g17 (by decide)).1 ((hG _).1 _ g17 (by decide)).2 (by unfold pic; rw [g17]; rfl) (jcl_at hw rfl) rfl (p_Row_firstCame hw hG hq18) ?_ (fun E h' n' x' e1 => by cases e1.1)
    intro v9 h9 n9 x9 e9
    obtain ⟨e91, e92, e93⟩ := e9
    cases e91
    subst e92
    subst e93
    clear x
    rename Bool => x
    show J _ _ _ _ (_ :: _) _ _ _ _ _ _
    refine J_aloadO d_Switch_goesBefore_29 rfl ?_
    obtain ⟨a19, ha19, H⟩ := Option.bind_eq_some_iff.mp H
    rw [j_rf ha19]
    have g20 : Γ a19 = .inr 3 := by
      apply Classical.byContradiction
      intro q9
      rw [if_neg q9] at H
      cases H
    rw [if_pos g20] at H
    obtain ⟨q21, hq21, H⟩ := Option.bind_eq_some_iff.mp H
    refine J_callV (kc := 0) (ks := 0) (kc' := 0) (ks' := 0) (a := a19) (ci := 3) (as := []) (st := [.int q18.1]) (mf_Row_firstCame hw) (mv_Switch_212 hw) d_Switch_goesBefore_31 ln_Row_firstCame (by decide) (by first | exact Nat.le_of_ble_eq_true rfl | (simp only [List.map_cons, List.map_nil, List.sum_cons, List.sum_nil, va_rf_cat]; exact Nat.le_of_ble_eq_true rfl)) rfl ((hG _).1 _ g20 (by decide)).1 ((hG _).1 _ g20 (by decide)).2 (by unfold pic; rw [g20]; rfl) (jcl_at hw rfl) rfl (p_Row_firstCame hw hG hq21) ?_ (fun E h' n' x' e1 => by cases e1.1)
    intro v9 h9 n9 x9 e9
    obtain ⟨e91, e92, e93⟩ := e9
    cases e91
    subst e92
    subst e93
    clear x
    rename Bool => x
    show J _ _ _ _ (_ :: _) _ _ _ _ _ _
    refine J_icmp_ge (tgt := 41) d_Switch_goesBefore_34 (by decide) ?_ ?_
    · intro c22
      rw [if_pos c22] at H
      refine J_iconst (v := 0) d_Switch_goesBefore_41 (by decide) ?_
      refine J.drop [false, false, false, false, false, false] rfl ?_
      exact p_Switch_goesBefore_L42 hw hG  H
    · intro c22
      rw [if_neg c22] at H
      refine J_iconst (v := 1) d_Switch_goesBefore_37 (by decide) ?_
      refine J_goto (tgt := 42) d_Switch_goesBefore_38 (by decide) ?_
      refine J.drop [false, false, false, false, false, false] rfl ?_
      exact p_Switch_goesBefore_L42 hw hG  H
theorem ln_Switch_arbitrate : (parseMethodDescriptor y_Switch_arbitrate.desc).map (fun q => q.parameters.length) = some 3 := by decide +kernel
def f_Switch_arbitrate_L85 (Γ : gm_T) (Kc31 : ph_T → Nat → Int32 → Int32 → Int32 → Int32 → Int32 → Option (Int32 × ph_T)) (φ : ph_T) (x0 : Nat) (x1 : Int32) (x2 : Int32) (x4 : Int32) (x5 : Int32) (x6 : Int32) : Option (Int32 × ph_T) :=
  Kc31 φ x0 x1 x2 x4 x5 (x6 + (1 : Int32))
set_option maxRecDepth 100000 in
set_option maxHeartbeats 4000000 in
theorem p_Switch_arbitrate_L85 {w : jw_T} (hw : jok w) {Γ : gm_T} {n : Nat} (hG : gd w Γ n) {Kc31 : ph_T → Nat → Int32 → Int32 → Int32 → Int32 → Int32 → Option (Int32 × ph_T)} (hKc31 : ∀ {x : Bool} {φ : ph_T} {x0 : Nat} {x1 : Int32} {x2 : Int32} {x4 : Int32} {x5 : Int32} {x6 : Int32} {q : Int32 × ph_T}, Kc31 φ x0 x1 x2 x4 x5 x6 = some q → J w M_Switch_arbitrate 31 [some (.ref x0), some (.int x1), some (.int x2), none, some (.int x4), some (.int x5), some (.int x6), none] [] (pic Γ φ) n x 0 0 (fq Γ n (.inl (some (.int q.1))) q.2)) {x : Bool} {φ : ph_T} {x0 : Nat} {x1 : Int32} {x2 : Int32} {x4 : Int32} {x5 : Int32} {x6 : Int32} {q : Int32 × ph_T} (H : f_Switch_arbitrate_L85 Γ Kc31 φ x0 x1 x2 x4 x5 x6 = some q) : J w M_Switch_arbitrate 85 [some (.ref x0), some (.int x1), some (.int x2), none, some (.int x4), some (.int x5), some (.int x6), none] [] (pic Γ φ) n x 0 0 (fq Γ n (.inl (some (.int q.1))) q.2) := by
  unfold f_Switch_arbitrate_L85 at H
  refine J_iinc (v := x6 + 1) d_Switch_arbitrate_85 rfl (by rw [show Int32.ofInt 1 = (1 : Int32) from by decide]) ?_
  refine J.ls (ls' := [some (.ref x0), some (.int x1), some (.int x2), none, some (.int x4), some (.int x5), some (.int (x6 + (1 : Int32))), none]) rfl ?_
  refine J_goto (tgt := 31) d_Switch_arbitrate_88 (by decide) ?_
  refine J.drop [true, true, true, false, true, true, true, false] rfl ?_
  exact hKc31 H
def f_Switch_arbitrate_L81 (Γ : gm_T) (Kc31 : ph_T → Nat → Int32 → Int32 → Int32 → Int32 → Int32 → Option (Int32 × ph_T)) (φ : ph_T) (x0 : Nat) (x1 : Int32) (x2 : Int32) (x4 : Int32) (x6 : Int32) (x7 : Int32) : Option (Int32 × ph_T) :=
  f_Switch_arbitrate_L85 Γ Kc31 φ x0 x1 x2 x4 x7 x6
set_option maxRecDepth 100000 in
set_option maxHeartbeats 4000000 in
theorem p_Switch_arbitrate_L81 {w : jw_T} (hw : jok w) {Γ : gm_T} {n : Nat} (hG : gd w Γ n) {Kc31 : ph_T → Nat → Int32 → Int32 → Int32 → Int32 → Int32 → Option (Int32 × ph_T)} (hKc31 : ∀ {x : Bool} {φ : ph_T} {x0 : Nat} {x1 : Int32} {x2 : Int32} {x4 : Int32} {x5 : Int32} {x6 : Int32} {q : Int32 × ph_T}, Kc31 φ x0 x1 x2 x4 x5 x6 = some q → J w M_Switch_arbitrate 31 [some (.ref x0), some (.int x1), some (.int x2), none, some (.int x4), some (.int x5), some (.int x6), none] [] (pic Γ φ) n x 0 0 (fq Γ n (.inl (some (.int q.1))) q.2)) {x : Bool} {φ : ph_T} {x0 : Nat} {x1 : Int32} {x2 : Int32} {x4 : Int32} {x6 : Int32} {x7 : Int32} {q : Int32 × ph_T} (H : f_Switch_arbitrate_L81 Γ Kc31 φ x0 x1 x2 x4 x6 x7 = some q) : J w M_Switch_arbitrate 81 [some (.ref x0), some (.int x1), some (.int x2), none, some (.int x4), none, some (.int x6), some (.int x7)] [] (pic Γ φ) n x 0 0 (fq Γ n (.inl (some (.int q.1))) q.2) := by
  unfold f_Switch_arbitrate_L81 at H
  refine J_iload d_Switch_arbitrate_81 rfl ?_
  refine J_istore d_Switch_arbitrate_83 (Nat.le_of_ble_eq_true rfl) ?_
  refine J.ls (ls' := [some (.ref x0), some (.int x1), some (.int x2), none, some (.int x4), some (.int x7), some (.int x6), some (.int x7)]) rfl ?_
  refine J.drop [true, true, true, false, true, true, true, false] rfl ?_
  exact p_Switch_arbitrate_L85 hw hG hKc31 H
def f_Switch_arbitrate_L31 (Γ : gm_T)  : Nat → ph_T → Nat → Int32 → Int32 → Int32 → Int32 → Int32 → Option (Int32 × ph_T)
  | 0, _, _, _, _, _, _, _ => none
  | fu + 1, φ, x0, x1, x2, x4, x5, x6 =>
    @ite _ (Γ x0 = .inr 10) _ (
    if (φ.1 x0 0) ≤ x6 then
      some (x5, φ)
    else
      @ite _ ((φ.1 x0 0) = 0) _ none (
      Option.bind (f_Switch_may Γ φ x0 ((x4 + x6) - (x4 + x6) / (φ.1 x0 0) * (φ.1 x0 0)) x1 x2) fun q4 =>
      if q4.1 = 0 then
        f_Switch_arbitrate_L85 Γ (f_Switch_arbitrate_L31 Γ  fu) q4.2 x0 x1 x2 x4 x5 x6
      else
        if x5 = (-1 : Int32) then
          f_Switch_arbitrate_L81 Γ (f_Switch_arbitrate_L31 Γ  fu) q4.2 x0 x1 x2 x4 x6 ((x4 + x6) - (x4 + x6) / (φ.1 x0 0) * (φ.1 x0 0))
        else
          Option.bind (f_Switch_goesBefore Γ q4.2 x0 ((x4 + x6) - (x4 + x6) / (φ.1 x0 0) * (φ.1 x0 0)) x5 x2) fun q5 =>
          if q5.1 = 0 then
            f_Switch_arbitrate_L85 Γ (f_Switch_arbitrate_L31 Γ  fu) q5.2 x0 x1 x2 x4 x5 x6
          else
            f_Switch_arbitrate_L81 Γ (f_Switch_arbitrate_L31 Γ  fu) q5.2 x0 x1 x2 x4 x6 ((x4 + x6) - (x4 + x6) / (φ.1 x0 0) * (φ.1 x0 0))
      )
    ) none
set_option maxRecDepth 100000 in
set_option maxHeartbeats 4000000 in
theorem p_Switch_arbitrate_L31 {w : jw_T} (hw : jok w) {Γ : gm_T} {n : Nat} (hG : gd w Γ n)  : ∀ (fu : Nat) {x : Bool} {φ : ph_T} {x0 : Nat} {x1 : Int32} {x2 : Int32} {x4 : Int32} {x5 : Int32} {x6 : Int32} {q : Int32 × ph_T}, f_Switch_arbitrate_L31 Γ  fu φ x0 x1 x2 x4 x5 x6 = some q → J w M_Switch_arbitrate 31 [some (.ref x0), some (.int x1), some (.int x2), none, some (.int x4), some (.int x5), some (.int x6), none] [] (pic Γ φ) n x 0 0 (fq Γ n (.inl (some (.int q.1))) q.2) := by
  intro fu
  induction fu with
  | zero =>
    intro x φ x0 x1 x2 x4 x5 x6 q H
    cases H
  | succ fu ih =>
    intro x φ x0 x1 x2 x4 x5 x6 q H
    unfold f_Switch_arbitrate_L31 at H
    refine J_iload d_Switch_arbitrate_31 rfl ?_
    refine J_aload_n d_Switch_arbitrate_33 rfl ?_
    have g2 : Γ x0 = .inr 10 := by
      apply Classical.byContradiction
      intro q9
      rw [if_neg q9] at H
      cases H
    rw [if_pos g2] at H
    refine F_getI (ci := 10) (k := 0) hG (cf_Switch hw) (fl_Switch_15 hw) (by decide) (by decide) rfl d_Switch_arbitrate_34 g2 ?_
    refine J_icmp_ge (tgt := 91) d_Switch_arbitrate_37 (by decide) ?_ ?_
    · intro c9
      rw [if_pos c9] at H
      refine J_iload d_Switch_arbitrate_91 rfl ?_
      have H := Option.some.inj H
      subst H
      exact J_iret (st := []) d_Switch_arbitrate_93 rfl rfl ⟨rfl, rfl, rfl⟩
    · intro c9
      rw [if_neg c9] at H
      refine J_iload d_Switch_arbitrate_40 rfl ?_
      refine J_iload d_Switch_arbitrate_42 rfl ?_
      refine J_iadd d_Switch_arbitrate_44 ?_
      refine J_aload_n d_Switch_arbitrate_45 rfl ?_
      refine F_getI (ci := 10) (k := 0) hG (cf_Switch hw) (fl_Switch_15 hw) (by decide) (by decide) rfl d_Switch_arbitrate_46 g2 ?_
      have h3 : ¬ (φ.1 x0 0) = 0 := by
        intro q9
        rw [if_pos q9] at H
        cases H
      rw [if_neg h3] at H
      refine J_irem d_Switch_arbitrate_49 h3 ?_
      refine J_istore d_Switch_arbitrate_50 (Nat.le_of_ble_eq_true rfl) ?_
      refine J.ls (ls' := [some (.ref x0), some (.int x1), some (.int x2), none, some (.int x4), some (.int x5), some (.int x6), some (.int ((x4 + x6) - (x4 + x6) / (φ.1 x0 0) * (φ.1 x0 0)))]) rfl ?_
      refine J_aload_n d_Switch_arbitrate_52 rfl ?_
      refine J_iload d_Switch_arbitrate_53 rfl ?_
      refine J_iload_n d_Switch_arbitrate_55 rfl ?_
      refine J_iload_n d_Switch_arbitrate_56 rfl ?_
      obtain ⟨q4, hq4, H⟩ := Option.bind_eq_some_iff.mp H
      refine J_callV (kc := 0) (ks := 0) (kc' := 0) (ks' := 0) (a := x0) (ci := 10) (as := [.int ((x4 + x6) - (x4 + x6) / (φ.1 x0 0) * (φ.1 x0 0)), .int x1, .int x2]) (st := []) (mf_Switch_may hw) (mv_Switch_199 hw) d_Switch_arbitrate_57 ln_Switch_may (by decide) (by first | exact Nat.le_of_ble_eq_true rfl | (simp only [List.map_cons, List.map_nil, List.sum_cons, List.sum_nil, va_rf_cat]; exact Nat.le_of_ble_eq_true rfl)) rfl ((hG _).1 _ g2 (by decide)).1 ((hG _).1 _ g2 (by decide)).2 (by unfold pic; rw [g2]; rfl) (jcl_at hw rfl) rfl (p_Switch_may hw hG hq4) ?_ (fun E h' n' x' e1 => by cases e1.1)
      intro v9 h9 n9 x9 e9
      obtain ⟨e91, e92, e93⟩ := e9
      cases e91
      subst e92
      subst e93
      clear x
      rename Bool => x
      show J _ _ _ _ (_ :: _) _ _ _ _ _ _
      refine J_if_eq (tgt := 85) d_Switch_arbitrate_60 (by decide) ?_ ?_
      · intro c8
        rw [if_pos c8] at H
        refine J.drop [true, true, true, false, true, true, true, false] rfl ?_
        exact p_Switch_arbitrate_L85 hw hG ih H
      · intro c8
        rw [if_neg c8] at H
        refine J_iload d_Switch_arbitrate_63 rfl ?_
        refine J_iconst (v := -1) d_Switch_arbitrate_65 (by decide) ?_
        refine J_icmp_eq (tgt := 81) d_Switch_arbitrate_66 (by decide) ?_ ?_
        · intro c7
          rw [if_pos c7] at H
          refine J.drop [true, true, true, false, true, false, true, true] rfl ?_
          exact p_Switch_arbitrate_L81 hw hG ih H
        · intro c7
          rw [if_neg c7] at H
          refine J_aload_n d_Switch_arbitrate_69 rfl ?_
          refine J_iload d_Switch_arbitrate_70 rfl ?_
          refine J_iload d_Switch_arbitrate_72 rfl ?_
          refine J_iload_n d_Switch_arbitrate_74 rfl ?_
          obtain ⟨q5, hq5, H⟩ := Option.bind_eq_some_iff.mp H
          refine J_callV (kc := 0) (ks := 0) (kc' := 0) (ks' := 0) (a := x0) (ci := 10) (as := [.int ((x4 + x6) - (x4 + x6) / (φ.1 x0 0) * (φ.1 x0 0)), .int x5, .int x2]) (st := []) (mf_Switch_goesBefore hw) (mv_Switch_203 hw) d_Switch_arbitrate_75 ln_Switch_goesBefore (by decide) (by first | exact Nat.le_of_ble_eq_true rfl | (simp only [List.map_cons, List.map_nil, List.sum_cons, List.sum_nil, va_rf_cat]; exact Nat.le_of_ble_eq_true rfl)) rfl ((hG _).1 _ g2 (by decide)).1 ((hG _).1 _ g2 (by decide)).2 (by unfold pic; rw [g2]; rfl) (jcl_at hw rfl) rfl (p_Switch_goesBefore hw hG hq5) ?_ (fun E h' n' x' e1 => by cases e1.1)
          intro v9 h9 n9 x9 e9
          obtain ⟨e91, e92, e93⟩ := e9
          cases e91
          subst e92
          subst e93
          clear x
          rename Bool => x
          show J _ _ _ _ (_ :: _) _ _ _ _ _ _
          refine J_if_eq (tgt := 85) d_Switch_arbitrate_78 (by decide) ?_ ?_
          · intro c6
            rw [if_pos c6] at H
            refine J.drop [true, true, true, false, true, true, true, false] rfl ?_
            exact p_Switch_arbitrate_L85 hw hG ih H
          · intro c6
            rw [if_neg c6] at H
            refine J.drop [true, true, true, false, true, false, true, true] rfl ?_
            exact p_Switch_arbitrate_L81 hw hG ih H
def f_Switch_arbitrate_L23 (Γ : gm_T)  (φ : ph_T) (x0 : Nat) (x1 : Int32) (x2 : Int32) (y0 : Int32) : Option (Int32 × ph_T) :=
  f_Switch_arbitrate_L31 Γ  jF φ x0 x1 x2 y0 (-1 : Int32) (0 : Int32)
set_option maxRecDepth 100000 in
set_option maxHeartbeats 4000000 in
theorem p_Switch_arbitrate_L23 {w : jw_T} (hw : jok w) {Γ : gm_T} {n : Nat} (hG : gd w Γ n)  {x : Bool} {φ : ph_T} {x0 : Nat} {x1 : Int32} {x2 : Int32} {y0 : Int32} {q : Int32 × ph_T} (H : f_Switch_arbitrate_L23 Γ  φ x0 x1 x2 y0 = some q) : J w M_Switch_arbitrate 23 [some (.ref x0), some (.int x1), some (.int x2), none, none, none, none, none] [.int y0] (pic Γ φ) n x 0 0 (fq Γ n (.inl (some (.int q.1))) q.2) := by
  unfold f_Switch_arbitrate_L23 at H
  refine J_istore d_Switch_arbitrate_23 (Nat.le_of_ble_eq_true rfl) ?_
  refine J.ls (ls' := [some (.ref x0), some (.int x1), some (.int x2), none, some (.int y0), none, none, none]) rfl ?_
  refine J_iconst (v := -1) d_Switch_arbitrate_25 (by decide) ?_
  refine J_istore d_Switch_arbitrate_26 (Nat.le_of_ble_eq_true rfl) ?_
  refine J.ls (ls' := [some (.ref x0), some (.int x1), some (.int x2), none, some (.int y0), some (.int (-1 : Int32)), none, none]) rfl ?_
  refine J_iconst (v := 0) d_Switch_arbitrate_28 (by decide) ?_
  refine J_istore d_Switch_arbitrate_29 (Nat.le_of_ble_eq_true rfl) ?_
  refine J.ls (ls' := [some (.ref x0), some (.int x1), some (.int x2), none, some (.int y0), some (.int (-1 : Int32)), some (.int (0 : Int32)), none]) rfl ?_
  refine J.drop [true, true, true, false, true, true, true, false] rfl ?_
  exact p_Switch_arbitrate_L31 hw hG  _ H
def f_Switch_arbitrate_L16 (Γ : gm_T)  (φ : ph_T) (x0 : Nat) (x1 : Int32) (x2 : Int32) (x3 : Int32) : Option (Int32 × ph_T) :=
  f_Switch_arbitrate_L23 Γ  φ x0 x1 x2 (x3 + (1 : Int32))
set_option maxRecDepth 100000 in
set_option maxHeartbeats 4000000 in
theorem p_Switch_arbitrate_L16 {w : jw_T} (hw : jok w) {Γ : gm_T} {n : Nat} (hG : gd w Γ n)  {x : Bool} {φ : ph_T} {x0 : Nat} {x1 : Int32} {x2 : Int32} {x3 : Int32} {q : Int32 × ph_T} (H : f_Switch_arbitrate_L16 Γ  φ x0 x1 x2 x3 = some q) : J w M_Switch_arbitrate 16 [some (.ref x0), some (.int x1), some (.int x2), some (.int x3), none, none, none, none] [] (pic Γ φ) n x 0 0 (fq Γ n (.inl (some (.int q.1))) q.2) := by
  unfold f_Switch_arbitrate_L16 at H
  refine J_iload_n d_Switch_arbitrate_16 rfl ?_
  refine J_iconst (v := 1) d_Switch_arbitrate_17 (by decide) ?_
  refine J_iadd d_Switch_arbitrate_18 ?_
  refine J_goto (tgt := 23) d_Switch_arbitrate_19 (by decide) ?_
  refine J.drop [true, true, true, false, false, false, false, false] rfl ?_
  exact p_Switch_arbitrate_L23 hw hG  H
def f_Switch_arbitrate (Γ : gm_T) (φ : ph_T) (this : Nat) (p0 : Int32) (p1 : Int32) (p2 : Int32) : Option (Int32 × ph_T) :=
  @ite _ (Γ this = .inr 10) _ (
  if (φ.1 this 13) = (1 : Int32) then
    f_Switch_arbitrate_L16 Γ  φ this p0 p1 p2
  else
    if (φ.1 this 13) = (3 : Int32) then
      f_Switch_arbitrate_L16 Γ  φ this p0 p1 p2
    else
      f_Switch_arbitrate_L23 Γ  φ this p0 p1 (0 : Int32)
  ) none
set_option maxRecDepth 100000 in
set_option maxHeartbeats 4000000 in
theorem p_Switch_arbitrate {w : jw_T} (hw : jok w) {Γ : gm_T} {n : Nat} (hG : gd w Γ n) {x : Bool} {φ : ph_T} {this : Nat} {p0 : Int32} {p1 : Int32} {p2 : Int32} {q : Int32 × ph_T} (H : f_Switch_arbitrate Γ φ this p0 p1 p2 = some q) : jc w M_Switch_arbitrate [.ref this, .int p0, .int p1, .int p2] (pic Γ φ) n x 0 0 (fq Γ n (.inl (some (.int q.1))) q.2) := by
  refine jc.of (by simp only [jent_r, jent_i, jent_l, jent_a, jent_0]; exact Nat.le_of_ble_eq_true rfl) ?_
  have hls : jents [.ref this, .int p0, .int p1, .int p2] (jm_nL M_Switch_arbitrate) = [some (.ref this), some (.int p0), some (.int p1), some (.int p2), none, none, none, none] := by simp only [jents, jent_r, jent_i, jent_l, jent_a, jent_0]; rfl
  rw [hls]
  clear hls
  unfold f_Switch_arbitrate at H
  refine J_aload_n d_Switch_arbitrate_0 rfl ?_
  have g10 : Γ this = .inr 10 := by
    apply Classical.byContradiction
    intro q9
    rw [if_neg q9] at H
    cases H
  rw [if_pos g10] at H
  refine F_getI (ci := 10) (k := 13) hG (cf_Switch hw) (fl_Switch_80 hw) (by decide) (by decide) rfl d_Switch_arbitrate_1 g10 ?_
  refine J_iconst (v := 1) d_Switch_arbitrate_4 (by decide) ?_
  refine J_icmp_eq (tgt := 16) d_Switch_arbitrate_5 (by decide) ?_ ?_
  · intro c12
    rw [if_pos c12] at H
    refine J.drop [true, true, true, true, false, false, false, false] rfl ?_
    exact p_Switch_arbitrate_L16 hw hG  H
  · intro c12
    rw [if_neg c12] at H
    refine J_aload_n d_Switch_arbitrate_8 rfl ?_
    refine F_getI (ci := 10) (k := 13) hG (cf_Switch hw) (fl_Switch_80 hw) (by decide) (by decide) rfl d_Switch_arbitrate_9 g10 ?_
    refine J_iconst (v := 3) d_Switch_arbitrate_12 (by decide) ?_
    refine J_icmp_ne (tgt := 22) d_Switch_arbitrate_13 (by decide) ?_ ?_
    · intro c11
      rw [if_neg c11] at H
      refine J_iconst (v := 0) d_Switch_arbitrate_22 (by decide) ?_
      refine J.drop [true, true, true, false, false, false, false, false] rfl ?_
      exact p_Switch_arbitrate_L23 hw hG  H
    · intro c11
      rw [if_pos c11] at H
      refine J.drop [true, true, true, true, false, false, false, false] rfl ?_
      exact p_Switch_arbitrate_L16 hw hG  H
theorem ln_UnderWay_add : (parseMethodDescriptor y_UnderWay_add.desc).map (fun q => q.parameters.length) = some 4 := by decide +kernel
def f_UnderWay_add_L60 (Γ : gm_T)  (φ : ph_T) : Option (Unit × ph_T) :=
  some ((), φ)
set_option maxRecDepth 100000 in
set_option maxHeartbeats 4000000 in
theorem p_UnderWay_add_L60 {w : jw_T} (hw : jok w) {Γ : gm_T} {n : Nat} (hG : gd w Γ n)  {x : Bool} {φ : ph_T} {q : Unit × ph_T} (H : f_UnderWay_add_L60 Γ  φ  = some q) : J w M_UnderWay_add 60 [none, none, none, none, none] [] (pic Γ φ) n x 0 0 (fq Γ n (.inl none) q.2) := by
  unfold f_UnderWay_add_L60 at H
  have H := Option.some.inj H
  subst H
  exact J_vret (st := []) d_UnderWay_add_60 rfl ⟨rfl, rfl, rfl⟩
def f_UnderWay_add (Γ : gm_T) (φ : ph_T) (this : Nat) (p0 : Int32) (p1 : Int32) (p2 : Int32) (p3 : Int32) : Option (Unit × ph_T) :=
  @ite _ (Γ this = .inr 9) _ (
  if (8 : Int32) ≤ (φ.1 this 4) then
    f_UnderWay_add_L60 Γ  φ 
  else
    Option.bind (φ.2.2 this 0) fun a2 =>
    Option.bind (gA Γ a2 0) fun N3 =>
    Option.bind (ix (φ.1 this 4) N3) fun k4 =>
    Option.bind (φ.2.2 this 1) fun a5 =>
    Option.bind (gA Γ a5 0) fun N6 =>
    Option.bind (ix ((uI φ a2 k4 p0).1 this 4) N6) fun k7 =>
    Option.bind (φ.2.2 this 2) fun a8 =>
    Option.bind (gA Γ a8 0) fun N9 =>
    Option.bind (ix ((uI (uI φ a2 k4 p0) a5 k7 p1).1 this 4) N9) fun k10 =>
    Option.bind (φ.2.2 this 3) fun a11 =>
    Option.bind (gA Γ a11 0) fun N12 =>
    Option.bind (ix ((uI (uI (uI φ a2 k4 p0) a5 k7 p1) a8 k10 p2).1 this 4) N12) fun k13 =>
    f_UnderWay_add_L60 Γ  (uI (uI (uI (uI (uI φ a2 k4 p0) a5 k7 p1) a8 k10 p2) a11 k13 p3) this 4 (((uI (uI (uI (uI φ a2 k4 p0) a5 k7 p1) a8 k10 p2) a11 k13 p3).1 this 4) + (1 : Int32))) 
  ) none
set_option maxRecDepth 100000 in
set_option maxHeartbeats 4000000 in
theorem p_UnderWay_add {w : jw_T} (hw : jok w) {Γ : gm_T} {n : Nat} (hG : gd w Γ n) {x : Bool} {φ : ph_T} {this : Nat} {p0 : Int32} {p1 : Int32} {p2 : Int32} {p3 : Int32} {q : Unit × ph_T} (H : f_UnderWay_add Γ φ this p0 p1 p2 p3 = some q) : jc w M_UnderWay_add [.ref this, .int p0, .int p1, .int p2, .int p3] (pic Γ φ) n x 0 0 (fq Γ n (.inl none) q.2) := by
  refine jc.of (by simp only [jent_r, jent_i, jent_l, jent_a, jent_0]; exact Nat.le_of_ble_eq_true rfl) ?_
  have hls : jents [.ref this, .int p0, .int p1, .int p2, .int p3] (jm_nL M_UnderWay_add) = [some (.ref this), some (.int p0), some (.int p1), some (.int p2), some (.int p3)] := by simp only [jents, jent_r, jent_i, jent_l, jent_a, jent_0]; rfl
  rw [hls]
  clear hls
  unfold f_UnderWay_add at H
  refine J_aload_n d_UnderWay_add_0 rfl ?_
  have g1 : Γ this = .inr 9 := by
    apply Classical.byContradiction
    intro q9
    rw [if_neg q9] at H
    cases H
  rw [if_pos g1] at H
  refine F_getI (ci := 9) (k := 4) hG (cf_UnderWay hw) (fl_UnderWay_24 hw) (by decide) (by decide) rfl d_UnderWay_add_1 g1 ?_
  refine J_bipush (v := 8) d_UnderWay_add_4 (by decide) ?_
  refine J_icmp_ge (tgt := 60) d_UnderWay_add_6 (by decide) ?_ ?_
  · intro c14
    rw [if_pos c14] at H
    refine J.drop [false, false, false, false, false] rfl ?_
    exact p_UnderWay_add_L60 hw hG  H
  · intro c14
    rw [if_neg c14] at H
    refine J_aload_n d_UnderWay_add_9 rfl ?_
    refine F_getR (ci := 9) (k := 0) hG (cf_UnderWay hw) (fl_UnderWay_9 hw) (by decide) (by decide) rfl d_UnderWay_add_10 g1 ?_
    refine J_aload_n d_UnderWay_add_13 rfl ?_
    refine F_getI (ci := 9) (k := 4) hG (cf_UnderWay hw) (fl_UnderWay_24 hw) (by decide) (by decide) rfl d_UnderWay_add_14 g1 ?_
    refine J_iload_n d_UnderWay_add_17 rfl ?_
    obtain ⟨a2, ha2, H⟩ := Option.bind_eq_some_iff.mp H
    rw [j_rf ha2]
    obtain ⟨N3, hN3, H⟩ := Option.bind_eq_some_iff.mp H
    obtain ⟨k4, hk4, H⟩ := Option.bind_eq_some_iff.mp H
    refine F_iast k4 hw hG d_UnderWay_add_18 (gA_some hN3) (ix_some hk4) ?_
    refine J_aload_n d_UnderWay_add_19 rfl ?_
    refine F_getR (ci := 9) (k := 1) hG (cf_UnderWay hw) (fl_UnderWay_15 hw) (by decide) (by decide) rfl d_UnderWay_add_20 g1 ?_
    show J _ _ _ _ (va_rf (φ.2.2 this 1) :: _) _ _ _ _ _ _
    refine J_aload_n d_UnderWay_add_23 rfl ?_
    refine F_getI (ci := 9) (k := 4) hG (cf_UnderWay hw) (fl_UnderWay_24 hw) (by decide) (by decide) rfl d_UnderWay_add_24 g1 ?_
    refine J_iload_n d_UnderWay_add_27 rfl ?_
    obtain ⟨a5, ha5, H⟩ := Option.bind_eq_some_iff.mp H
    rw [j_rf ha5]
    obtain ⟨N6, hN6, H⟩ := Option.bind_eq_some_iff.mp H
    obtain ⟨k7, hk7, H⟩ := Option.bind_eq_some_iff.mp H
    refine F_iast k7 hw hG d_UnderWay_add_28 (gA_some hN6) (ix_some hk7) ?_
    refine J_aload_n d_UnderWay_add_29 rfl ?_
    refine F_getR (ci := 9) (k := 2) hG (cf_UnderWay hw) (fl_UnderWay_18 hw) (by decide) (by decide) rfl d_UnderWay_add_30 g1 ?_
    show J _ _ _ _ (va_rf (φ.2.2 this 2) :: _) _ _ _ _ _ _
    refine J_aload_n d_UnderWay_add_33 rfl ?_
    refine F_getI (ci := 9) (k := 4) hG (cf_UnderWay hw) (fl_UnderWay_24 hw) (by decide) (by decide) rfl d_UnderWay_add_34 g1 ?_
    refine J_iload_n d_UnderWay_add_37 rfl ?_
    obtain ⟨a8, ha8, H⟩ := Option.bind_eq_some_iff.mp H
    rw [j_rf ha8]
    obtain ⟨N9, hN9, H⟩ := Option.bind_eq_some_iff.mp H
    obtain ⟨k10, hk10, H⟩ := Option.bind_eq_some_iff.mp H
    refine F_iast k10 hw hG d_UnderWay_add_38 (gA_some hN9) (ix_some hk10) ?_
    refine J_aload_n d_UnderWay_add_39 rfl ?_
    refine F_getR (ci := 9) (k := 3) hG (cf_UnderWay hw) (fl_UnderWay_21 hw) (by decide) (by decide) rfl d_UnderWay_add_40 g1 ?_
    show J _ _ _ _ (va_rf (φ.2.2 this 3) :: _) _ _ _ _ _ _
    refine J_aload_n d_UnderWay_add_43 rfl ?_
    refine F_getI (ci := 9) (k := 4) hG (cf_UnderWay hw) (fl_UnderWay_24 hw) (by decide) (by decide) rfl d_UnderWay_add_44 g1 ?_
    refine J_iload d_UnderWay_add_47 rfl ?_
    obtain ⟨a11, ha11, H⟩ := Option.bind_eq_some_iff.mp H
    rw [j_rf ha11]
    obtain ⟨N12, hN12, H⟩ := Option.bind_eq_some_iff.mp H
    obtain ⟨k13, hk13, H⟩ := Option.bind_eq_some_iff.mp H
    refine F_iast k13 hw hG d_UnderWay_add_49 (gA_some hN12) (ix_some hk13) ?_
    refine J_aload_n d_UnderWay_add_50 rfl ?_
    refine J_dup d_UnderWay_add_51 rfl ?_
    refine F_getI (ci := 9) (k := 4) hG (cf_UnderWay hw) (fl_UnderWay_24 hw) (by decide) (by decide) rfl d_UnderWay_add_52 g1 ?_
    refine J_iconst (v := 1) d_UnderWay_add_55 (by decide) ?_
    refine J_iadd d_UnderWay_add_56 ?_
    refine F_putI (ci := 9) (k := 4) hG (cf_UnderWay hw) (fl_UnderWay_24 hw) (by decide) (by decide) rfl d_UnderWay_add_57 rfl rfl rfl g1 ?_
    refine J.drop [false, false, false, false, false] rfl ?_
    exact p_UnderWay_add_L60 hw hG  H
theorem ln_Switch_moveAddress : (parseMethodDescriptor y_Switch_moveAddress.desc).map (fun q => q.parameters.length) = some 3 := by decide +kernel
def f_Switch_moveAddress_L67 (Γ : gm_T)  (φ : ph_T) (x0 : Nat) (x1 : Int32) (x2 : Int32) (x3 : Option Nat) (x4 : Option Nat) (x5 : Int32) (x6 : Option Nat) (x7 : Int64) (y0 : Int32) : Option (Unit × ph_T) :=
  @ite _ (Γ x0 = .inr 10) _ (
  Option.bind (f_Switch_underWay Γ φ x0 x5 x2) fun q2 =>
  Option.bind (f_Burst_idOf Γ q2.2 x7) fun q3 =>
  Option.bind q2.1 fun a4 =>
  @ite _ (Γ a4 = .inr 9) _ (
  Option.bind (f_UnderWay_add Γ q3.2 a4 q3.1 x1 y0 (q3.2.1 x0 16)) fun q6 =>
  Option.bind x4 fun a7 =>
  @ite _ (Γ a7 = .inr 3) _ (
  Option.bind (f_Row_put Γ (uI q6.2 x0 16 ((q6.2.1 x0 16) + (1 : Int32))) a7 (x7 + ((16 : Int64) * (Int32.toInt64 x5))) (0 : Int32) (0 : Int32)) fun q9 =>
  Option.bind x6 fun a10 =>
  @ite _ (Γ a10 = .inr 3) _ (
  Option.bind (f_Row_drop Γ q9.2 a10) fun q12 =>
  Option.bind x3 fun a13 =>
  Option.bind (gA Γ a13 0) fun N14 =>
  Option.bind (ix x1 N14) fun k15 =>
  some ((), (uI q12.2 a13 k15 x5))
  ) none
  ) none
  ) none
  ) none
set_option maxRecDepth 100000 in
set_option maxHeartbeats 4000000 in
theorem p_Switch_moveAddress_L67 {w : jw_T} (hw : jok w) {Γ : gm_T} {n : Nat} (hG : gd w Γ n)  {x : Bool} {φ : ph_T} {x0 : Nat} {x1 : Int32} {x2 : Int32} {x3 : Option Nat} {x4 : Option Nat} {x5 : Int32} {x6 : Option Nat} {x7 : Int64} {y0 : Int32} {q : Unit × ph_T} (H : f_Switch_moveAddress_L67 Γ  φ x0 x1 x2 x3 x4 x5 x6 x7 y0 = some q) : J w M_Switch_moveAddress 67 [some (.ref x0), some (.int x1), some (.int x2), some (va_rf x3), some (va_rf x4), some (.int x5), some (va_rf x6), some (.long x7), none, none] [.int y0] (pic Γ φ) n x 0 0 (fq Γ n (.inl none) q.2) := by
  unfold f_Switch_moveAddress_L67 at H
  refine J_istore d_Switch_moveAddress_67 (Nat.le_of_ble_eq_true rfl) ?_
  refine J.ls (ls' := [some (.ref x0), some (.int x1), some (.int x2), some (va_rf x3), some (va_rf x4), some (.int x5), some (va_rf x6), some (.long x7), none, some (.int y0)]) rfl ?_
  refine J_aload_n d_Switch_moveAddress_69 rfl ?_
  refine J_iload d_Switch_moveAddress_70 rfl ?_
  refine J_iload_n d_Switch_moveAddress_72 rfl ?_
  have g1 : Γ x0 = .inr 10 := by
    apply Classical.byContradiction
    intro q9
    rw [if_neg q9] at H
    cases H
  rw [if_pos g1] at H
  obtain ⟨q2, hq2, H⟩ := Option.bind_eq_some_iff.mp H
  refine J_callV (kc := 0) (ks := 0) (kc' := 0) (ks' := 0) (a := x0) (ci := 10) (as := [.int x5, .int x2]) (st := []) (mf_Switch_underWay hw) (mv_Switch_99 hw) d_Switch_moveAddress_73 ln_Switch_underWay (by decide) (by first | exact Nat.le_of_ble_eq_true rfl | (simp only [List.map_cons, List.map_nil, List.sum_cons, List.sum_nil, va_rf_cat]; exact Nat.le_of_ble_eq_true rfl)) rfl ((hG _).1 _ g1 (by decide)).1 ((hG _).1 _ g1 (by decide)).2 (by unfold pic; rw [g1]; rfl) (jcl_at hw rfl) rfl (p_Switch_underWay hw hG hq2) ?_ (fun E h' n' x' e1 => by cases e1.1)
  intro v9 h9 n9 x9 e9
  obtain ⟨e91, e92, e93⟩ := e9
  cases e91
  subst e92
  subst e93
  clear x
  rename Bool => x
  show J _ _ _ _ (_ :: _) _ _ _ _ _ _
  refine J_lload d_Switch_moveAddress_76 rfl ?_
  obtain ⟨q3, hq3, H⟩ := Option.bind_eq_some_iff.mp H
  refine J_callS (kc := 0) (ks := 0) (kc' := 0) (ks' := 0) (as := [.long x7]) (st := [va_rf q2.1]) (mf_Burst_idOf hw) (ms_Switch_190 hw) d_Switch_moveAddress_78 ln_Burst_idOf (by decide) (by first | exact Nat.le_of_ble_eq_true rfl | (simp only [List.map_cons, List.map_nil, List.sum_cons, List.sum_nil, va_rf_cat]; exact Nat.le_of_ble_eq_true rfl)) rfl (p_Burst_idOf hw hG hq3) ?_ (fun E h' n' x' e1 => by cases e1.1)
  intro v9 h9 n9 x9 e9
  obtain ⟨e91, e92, e93⟩ := e9
  cases e91
  subst e92
  subst e93
  clear x
  rename Bool => x
  show J _ _ _ _ (_ :: _) _ _ _ _ _ _
  refine J_iload_n d_Switch_moveAddress_81 rfl ?_
  refine J_iload d_Switch_moveAddress_82 rfl ?_
  refine J_aload_n d_Switch_moveAddress_84 rfl ?_
  refine F_getI (ci := 10) (k := 16) hG (cf_Switch hw) (fl_Switch_90 hw) (by decide) (by decide) rfl d_Switch_moveAddress_85 g1 ?_
  obtain ⟨a4, ha4, H⟩ := Option.bind_eq_some_iff.mp H
  rw [j_rf ha4]
  have g5 : Γ a4 = .inr 9 := by
    apply Classical.byContradiction
    intro q9
    rw [if_neg q9] at H
    cases H
  rw [if_pos g5] at H
  obtain ⟨q6, hq6, H⟩ := Option.bind_eq_some_iff.mp H
  refine J_callV (kc := 0) (ks := 0) (kc' := 0) (ks' := 0) (a := a4) (ci := 9) (as := [.int q3.1, .int x1, .int y0, .int (q3.2.1 x0 16)]) (st := []) (mf_UnderWay_add hw) (mv_Switch_193 hw) d_Switch_moveAddress_88 ln_UnderWay_add (by decide) (by first | exact Nat.le_of_ble_eq_true rfl | (simp only [List.map_cons, List.map_nil, List.sum_cons, List.sum_nil, va_rf_cat]; exact Nat.le_of_ble_eq_true rfl)) rfl ((hG _).1 _ g5 (by decide)).1 ((hG _).1 _ g5 (by decide)).2 (by unfold pic; rw [g5]; rfl) (jcl_at hw rfl) rfl (p_UnderWay_add hw hG hq6) ?_ (fun E h' n' x' e1 => by cases e1.1)
  intro v9 h9 n9 x9 e9
  obtain ⟨e91, e92, e93⟩ := e9
  cases e91
  subst e92
  subst e93
  clear x
  rename Bool => x
  show J _ _ _ _ [] _ _ _ _ _ _
  refine J_aload_n d_Switch_moveAddress_91 rfl ?_
  refine J_dup d_Switch_moveAddress_92 rfl ?_
  refine F_getI (ci := 10) (k := 16) hG (cf_Switch hw) (fl_Switch_90 hw) (by decide) (by decide) rfl d_Switch_moveAddress_93 g1 ?_
  refine J_iconst (v := 1) d_Switch_moveAddress_96 (by decide) ?_
  refine J_iadd d_Switch_moveAddress_97 ?_
  refine F_putI (ci := 10) (k := 16) hG (cf_Switch hw) (fl_Switch_90 hw) (by decide) (by decide) rfl d_Switch_moveAddress_98 rfl rfl rfl g1 ?_
  refine J_aloadO d_Switch_moveAddress_101 rfl ?_
  refine J_lload d_Switch_moveAddress_103 rfl ?_
  refine J_ldc2 (v := 16) d_Switch_moveAddress_105 (kn_Switch_197 hw) ?_
  refine J_iload d_Switch_moveAddress_108 rfl ?_
  refine J_i2l d_Switch_moveAddress_110 ?_
  refine J_lmul d_Switch_moveAddress_111 ?_
  refine J_ladd d_Switch_moveAddress_112 ?_
  refine J_iconst (v := 0) d_Switch_moveAddress_113 (by decide) ?_
  refine J_iconst (v := 0) d_Switch_moveAddress_114 (by decide) ?_
  obtain ⟨a7, ha7, H⟩ := Option.bind_eq_some_iff.mp H
  rw [j_rf ha7]
  have g8 : Γ a7 = .inr 3 := by
    apply Classical.byContradiction
    intro q9
    rw [if_neg q9] at H
    cases H
  rw [if_pos g8] at H
  obtain ⟨q9, hq9, H⟩ := Option.bind_eq_some_iff.mp H
  refine J_callV (kc := 0) (ks := 0) (kc' := 0) (ks' := 0) (a := a7) (ci := 3) (as := [.long (x7 + ((16 : Int64) * (Int32.toInt64 x5))), .int (0 : Int32), .int (0 : Int32)]) (st := []) (mf_Row_put hw) (mv_Switch_157 hw) d_Switch_moveAddress_115 ln_Row_put (by decide) (by first | exact Nat.le_of_ble_eq_true rfl | (simp only [List.map_cons, List.map_nil, List.sum_cons, List.sum_nil, va_rf_cat]; exact Nat.le_of_ble_eq_true rfl)) rfl ((hG _).1 _ g8 (by decide)).1 ((hG _).1 _ g8 (by decide)).2 (by unfold pic; rw [g8]; rfl) (jcl_at hw rfl) rfl (p_Row_put hw hG hq9) ?_ (fun E h' n' x' e1 => by cases e1.1)
  intro v9 h9 n9 x9 e9
  obtain ⟨e91, e92, e93⟩ := e9
  cases e91
  subst e92
  subst e93
  clear x
  rename Bool => x
  show J _ _ _ _ [] _ _ _ _ _ _
  refine J_aloadO d_Switch_moveAddress_118 rfl ?_
  obtain ⟨a10, ha10, H⟩ := Option.bind_eq_some_iff.mp H
  rw [j_rf ha10]
  have g11 : Γ a10 = .inr 3 := by
    apply Classical.byContradiction
    intro q9
    rw [if_neg q9] at H
    cases H
  rw [if_pos g11] at H
  obtain ⟨q12, hq12, H⟩ := Option.bind_eq_some_iff.mp H
  refine J_callV (kc := 0) (ks := 0) (kc' := 0) (ks' := 0) (a := a10) (ci := 3) (as := []) (st := []) (mf_Row_drop hw) (mv_Switch_161 hw) d_Switch_moveAddress_120 ln_Row_drop (by decide) (by first | exact Nat.le_of_ble_eq_true rfl | (simp only [List.map_cons, List.map_nil, List.sum_cons, List.sum_nil, va_rf_cat]; exact Nat.le_of_ble_eq_true rfl)) rfl ((hG _).1 _ g11 (by decide)).1 ((hG _).1 _ g11 (by decide)).2 (by unfold pic; rw [g11]; rfl) (jcl_at hw rfl) rfl (p_Row_drop hw hG hq12) ?_ (fun E h' n' x' e1 => by cases e1.1)
  intro v9 h9 n9 x9 e9
  obtain ⟨e91, e92, e93⟩ := e9
  cases e91
  subst e92
  subst e93
  clear x
  rename Bool => x
  show J _ _ _ _ [] _ _ _ _ _ _
  refine J_aload_nO d_Switch_moveAddress_123 rfl ?_
  refine J_iload_n d_Switch_moveAddress_124 rfl ?_
  refine J_iload d_Switch_moveAddress_125 rfl ?_
  obtain ⟨a13, ha13, H⟩ := Option.bind_eq_some_iff.mp H
  rw [j_rf ha13]
  obtain ⟨N14, hN14, H⟩ := Option.bind_eq_some_iff.mp H
  obtain ⟨k15, hk15, H⟩ := Option.bind_eq_some_iff.mp H
  refine F_iast k15 hw hG d_Switch_moveAddress_127 (gA_some hN14) (ix_some hk15) ?_
  have H := Option.some.inj H
  subst H
  exact J_vret (st := []) d_Switch_moveAddress_128 rfl ⟨rfl, rfl, rfl⟩
def f_Switch_moveAddress_L29 (Γ : gm_T)  (φ : ph_T) (x0 : Nat) (x1 : Int32) (x2 : Int32) (x3 : Option Nat) (x4 : Option Nat) (y0 : Int32) : Option (Unit × ph_T) :=
  if y0 = (-1 : Int32) then
    some ((), φ)
  else
    @ite _ (Γ x0 = .inr 10) _ (
    Option.bind (f_Switch_ofMaster Γ φ x0 y0 x2) fun q17 =>
    Option.bind q17.1 fun a18 =>
    @ite _ (Γ a18 = .inr 3) _ (
    Option.bind (f_Row_firstContent Γ q17.2 a18) fun q20 =>
    if x2 = 0 then
      Option.bind (f_Burst_lengthOf Γ q20.2 q20.1) fun q21 =>
      f_Switch_moveAddress_L67 Γ  q21.2 x0 x1 x2 x3 x4 y0 (some a18) q20.1 q21.1
    else
      f_Switch_moveAddress_L67 Γ  q20.2 x0 x1 x2 x3 x4 y0 (some a18) q20.1 (0 : Int32)
    ) none
    ) none
set_option maxRecDepth 100000 in
set_option maxHeartbeats 4000000 in
theorem p_Switch_moveAddress_L29 {w : jw_T} (hw : jok w) {Γ : gm_T} {n : Nat} (hG : gd w Γ n)  {x : Bool} {φ : ph_T} {x0 : Nat} {x1 : Int32} {x2 : Int32} {x3 : Option Nat} {x4 : Option Nat} {y0 : Int32} {q : Unit × ph_T} (H : f_Switch_moveAddress_L29 Γ  φ x0 x1 x2 x3 x4 y0 = some q) : J w M_Switch_moveAddress 29 [some (.ref x0), some (.int x1), some (.int x2), some (va_rf x3), some (va_rf x4), none, none, none, none, none] [.int y0] (pic Γ φ) n x 0 0 (fq Γ n (.inl none) q.2) := by
  unfold f_Switch_moveAddress_L29 at H
  refine J_istore d_Switch_moveAddress_29 (Nat.le_of_ble_eq_true rfl) ?_
  refine J.ls (ls' := [some (.ref x0), some (.int x1), some (.int x2), some (va_rf x3), some (va_rf x4), some (.int y0), none, none, none, none]) (jst1_o (i := 4) (r := x4) rfl) ?_
  refine J_iload d_Switch_moveAddress_31 rfl ?_
  refine J_iconst (v := -1) d_Switch_moveAddress_33 (by decide) ?_
  refine J_icmp_ne (tgt := 38) d_Switch_moveAddress_34 (by decide) ?_ ?_
  · intro c23
    rw [if_neg c23] at H
    refine J_aload_n d_Switch_moveAddress_38 rfl ?_
    refine J_iload d_Switch_moveAddress_39 rfl ?_
    refine J_iload_n d_Switch_moveAddress_41 rfl ?_
    have g16 : Γ x0 = .inr 10 := by
      apply Classical.byContradiction
      intro q9
      rw [if_neg q9] at H
      cases H
    rw [if_pos g16] at H
    obtain ⟨q17, hq17, H⟩ := Option.bind_eq_some_iff.mp H
    refine J_callV (kc := 0) (ks := 0) (kc' := 0) (ks' := 0) (a := x0) (ci := 10) (as := [.int y0, .int x2]) (st := []) (mf_Switch_ofMaster hw) (mv_Switch_107 hw) d_Switch_moveAddress_42 ln_Switch_ofMaster (by decide) (by first | exact Nat.le_of_ble_eq_true rfl | (simp only [List.map_cons, List.map_nil, List.sum_cons, List.sum_nil, va_rf_cat]; exact Nat.le_of_ble_eq_true rfl)) rfl ((hG _).1 _ g16 (by decide)).1 ((hG _).1 _ g16 (by decide)).2 (by unfold pic; rw [g16]; rfl) (jcl_at hw rfl) rfl (p_Switch_ofMaster hw hG hq17) ?_ (fun E h' n' x' e1 => by cases e1.1)
    intro v9 h9 n9 x9 e9
    obtain ⟨e91, e92, e93⟩ := e9
    cases e91
    subst e92
    subst e93
    clear x
    rename Bool => x
    show J _ _ _ _ (_ :: _) _ _ _ _ _ _
    refine J_astoreO d_Switch_moveAddress_45 (Nat.le_of_ble_eq_true rfl) ?_
    refine J.ls (ls' := [some (.ref x0), some (.int x1), some (.int x2), some (va_rf x3), some (va_rf x4), some (.int y0), some (va_rf q17.1), none, none, none]) rfl ?_
    refine J_aloadO d_Switch_moveAddress_47 rfl ?_
    obtain ⟨a18, ha18, H⟩ := Option.bind_eq_some_iff.mp H
    rw [j_rf ha18]
    have g19 : Γ a18 = .inr 3 := by
      apply Classical.byContradiction
      intro q9
      rw [if_neg q9] at H
      cases H
    rw [if_pos g19] at H
    obtain ⟨q20, hq20, H⟩ := Option.bind_eq_some_iff.mp H
    refine J_callV (kc := 0) (ks := 0) (kc' := 0) (ks' := 0) (a := a18) (ci := 3) (as := []) (st := []) (mf_Row_firstContent hw) (mv_Switch_134 hw) d_Switch_moveAddress_49 ln_Row_firstContent (by decide) (by first | exact Nat.le_of_ble_eq_true rfl | (simp only [List.map_cons, List.map_nil, List.sum_cons, List.sum_nil, va_rf_cat]; exact Nat.le_of_ble_eq_true rfl)) rfl ((hG _).1 _ g19 (by decide)).1 ((hG _).1 _ g19 (by decide)).2 (by unfold pic; rw [g19]; rfl) (jcl_at hw rfl) rfl (p_Row_firstContent hw hG hq20) ?_ (fun E h' n' x' e1 => by cases e1.1)
    intro v9 h9 n9 x9 e9
    obtain ⟨e91, e92, e93⟩ := e9
    cases e91
    subst e92
    subst e93
    clear x
    rename Bool => x
    show J _ _ _ _ (_ :: _) _ _ _ _ _ _
    refine J_lstore d_Switch_moveAddress_52 (Nat.le_of_ble_eq_true rfl) ?_
    refine J.ls (ls' := [some (.ref x0), some (.int x1), some (.int x2), some (va_rf x3), some (va_rf x4), some (.int y0), some (.ref a18), some (.long q20.1), none, none]) rfl ?_
    refine J_iload_n d_Switch_moveAddress_54 rfl ?_
    refine J_if_ne (tgt := 66) d_Switch_moveAddress_55 (by decide) ?_ ?_
    · intro c22
      rw [if_neg c22] at H
      refine J_iconst (v := 0) d_Switch_moveAddress_66 (by decide) ?_
      refine J.drop [true, true, true, true, true, true, true, true, false, false] rfl ?_
      exact p_Switch_moveAddress_L67 hw hG  H
    · intro c22
      rw [if_pos c22] at H
      refine J_lload d_Switch_moveAddress_58 rfl ?_
      obtain ⟨q21, hq21, H⟩ := Option.bind_eq_some_iff.mp H
      refine J_callS (kc := 0) (ks := 0) (kc' := 0) (ks' := 0) (as := [.long q20.1]) (st := []) (mf_Burst_lengthOf hw) (ms_Switch_187 hw) d_Switch_moveAddress_60 ln_Burst_lengthOf (by decide) (by first | exact Nat.le_of_ble_eq_true rfl | (simp only [List.map_cons, List.map_nil, List.sum_cons, List.sum_nil, va_rf_cat]; exact Nat.le_of_ble_eq_true rfl)) rfl (p_Burst_lengthOf hw hG hq21) ?_ (fun E h' n' x' e1 => by cases e1.1)
      intro v9 h9 n9 x9 e9
      obtain ⟨e91, e92, e93⟩ := e9
      cases e91
      subst e92
      subst e93
      clear x
      rename Bool => x
      show J _ _ _ _ (_ :: _) _ _ _ _ _ _
      refine J_goto (tgt := 67) d_Switch_moveAddress_63 (by decide) ?_
      refine J.drop [true, true, true, true, true, true, true, true, false, false] rfl ?_
      exact p_Switch_moveAddress_L67 hw hG  H
  · intro c23
    rw [if_pos c23] at H
    have H := Option.some.inj H
    subst H
    exact J_vret (st := []) d_Switch_moveAddress_37 rfl ⟨rfl, rfl, rfl⟩
def f_Switch_moveAddress (Γ : gm_T) (φ : ph_T) (this : Nat) (p0 : Int32) (p1 : Int32) (p2 : Option Nat) : Option (Unit × ph_T) :=
  @ite _ (Γ this = .inr 10) _ (
  Option.bind (f_Switch_ofTarget Γ φ this p0 p1) fun q25 =>
  Option.bind q25.1 fun a26 =>
  @ite _ (Γ a26 = .inr 3) _ (
  Option.bind (f_Row_hasRoom Γ q25.2 a26) fun q28 =>
  if q28.1 = 0 then
    f_Switch_moveAddress_L29 Γ  q28.2 this p0 p1 p2 (some a26) (-1 : Int32)
  else
    Option.bind p2 fun a29 =>
    Option.bind (gA Γ a29 0) fun N30 =>
    Option.bind (ix p0 N30) fun k31 =>
    Option.bind (f_Switch_arbitrate Γ q28.2 this p0 p1 (q28.2.1 a29 k31)) fun q32 =>
    f_Switch_moveAddress_L29 Γ  q32.2 this p0 p1 (some a29) (some a26) q32.1
  ) none
  ) none
set_option maxRecDepth 100000 in
set_option maxHeartbeats 4000000 in
theorem p_Switch_moveAddress {w : jw_T} (hw : jok w) {Γ : gm_T} {n : Nat} (hG : gd w Γ n) {x : Bool} {φ : ph_T} {this : Nat} {p0 : Int32} {p1 : Int32} {p2 : Option Nat} {q : Unit × ph_T} (H : f_Switch_moveAddress Γ φ this p0 p1 p2 = some q) : jc w M_Switch_moveAddress [.ref this, .int p0, .int p1, va_rf p2] (pic Γ φ) n x 0 0 (fq Γ n (.inl none) q.2) := by
  refine jc.of (by simp only [jent_r, jent_i, jent_l, jent_a, jent_0]; exact Nat.le_of_ble_eq_true rfl) ?_
  have hls : jents [.ref this, .int p0, .int p1, va_rf p2] (jm_nL M_Switch_moveAddress) = [some (.ref this), some (.int p0), some (.int p1), some (va_rf p2), none, none, none, none, none, none] := by simp only [jents, jent_r, jent_i, jent_l, jent_a, jent_0]; rfl
  rw [hls]
  clear hls
  unfold f_Switch_moveAddress at H
  refine J_aload_n d_Switch_moveAddress_0 rfl ?_
  refine J_iload_n d_Switch_moveAddress_1 rfl ?_
  refine J_iload_n d_Switch_moveAddress_2 rfl ?_
  have g24 : Γ this = .inr 10 := by
    apply Classical.byContradiction
    intro q9
    rw [if_neg q9] at H
    cases H
  rw [if_pos g24] at H
  obtain ⟨q25, hq25, H⟩ := Option.bind_eq_some_iff.mp H
  refine J_callV (kc := 0) (ks := 0) (kc' := 0) (ks' := 0) (a := this) (ci := 10) (as := [.int p0, .int p1]) (st := []) (mf_Switch_ofTarget hw) (mv_Switch_119 hw) d_Switch_moveAddress_3 ln_Switch_ofTarget (by decide) (by first | exact Nat.le_of_ble_eq_true rfl | (simp only [List.map_cons, List.map_nil, List.sum_cons, List.sum_nil, va_rf_cat]; exact Nat.le_of_ble_eq_true rfl)) rfl ((hG _).1 _ g24 (by decide)).1 ((hG _).1 _ g24 (by decide)).2 (by unfold pic; rw [g24]; rfl) (jcl_at hw rfl) rfl (p_Switch_ofTarget hw hG hq25) ?_ (fun E h' n' x' e1 => by cases e1.1)
  intro v9 h9 n9 x9 e9
  obtain ⟨e91, e92, e93⟩ := e9
  cases e91
  subst e92
  subst e93
  clear x
  rename Bool => x
  show J _ _ _ _ (_ :: _) _ _ _ _ _ _
  refine J_astoreO d_Switch_moveAddress_6 (Nat.le_of_ble_eq_true rfl) ?_
  refine J.ls (ls' := [some (.ref this), some (.int p0), some (.int p1), some (va_rf p2), some (va_rf q25.1), none, none, none, none, none]) (jst1_o (i := 3) (r := p2) rfl) ?_
  refine J_aloadO d_Switch_moveAddress_8 rfl ?_
  obtain ⟨a26, ha26, H⟩ := Option.bind_eq_some_iff.mp H
  rw [j_rf ha26]
  have g27 : Γ a26 = .inr 3 := by
    apply Classical.byContradiction
    intro q9
    rw [if_neg q9] at H
    cases H
  rw [if_pos g27] at H
  obtain ⟨q28, hq28, H⟩ := Option.bind_eq_some_iff.mp H
  refine J_callV (kc := 0) (ks := 0) (kc' := 0) (ks' := 0) (a := a26) (ci := 3) (as := []) (st := []) (mf_Row_hasRoom hw) (mv_Switch_127 hw) d_Switch_moveAddress_10 ln_Row_hasRoom (by decide) (by first | exact Nat.le_of_ble_eq_true rfl | (simp only [List.map_cons, List.map_nil, List.sum_cons, List.sum_nil, va_rf_cat]; exact Nat.le_of_ble_eq_true rfl)) rfl ((hG _).1 _ g27 (by decide)).1 ((hG _).1 _ g27 (by decide)).2 (by unfold pic; rw [g27]; rfl) (jcl_at hw rfl) rfl (p_Row_hasRoom hw hG hq28) ?_ (fun E h' n' x' e1 => by cases e1.1)
  intro v9 h9 n9 x9 e9
  obtain ⟨e91, e92, e93⟩ := e9
  cases e91
  subst e92
  subst e93
  clear x
  rename Bool => x
  show J _ _ _ _ (_ :: _) _ _ _ _ _ _
  refine J_if_eq (tgt := 28) d_Switch_moveAddress_13 (by decide) ?_ ?_
  · intro c33
    rw [if_pos c33] at H
    refine J_iconst (v := -1) d_Switch_moveAddress_28 (by decide) ?_
    refine J.drop [true, true, true, true, true, false, false, false, false, false] rfl ?_
    exact p_Switch_moveAddress_L29 hw hG  H
  · intro c33
    rw [if_neg c33] at H
    refine J_aload_n d_Switch_moveAddress_16 rfl ?_
    refine J_iload_n d_Switch_moveAddress_17 rfl ?_
    refine J_iload_n d_Switch_moveAddress_18 rfl ?_
    refine J_aload_nO d_Switch_moveAddress_19 rfl ?_
    refine J_iload_n d_Switch_moveAddress_20 rfl ?_
    obtain ⟨a29, ha29, H⟩ := Option.bind_eq_some_iff.mp H
    rw [j_rf ha29]
    obtain ⟨N30, hN30, H⟩ := Option.bind_eq_some_iff.mp H
    obtain ⟨k31, hk31, H⟩ := Option.bind_eq_some_iff.mp H
    refine F_iald k31 hw hG d_Switch_moveAddress_21 (gA_some hN30) (ix_some hk31) ?_
    obtain ⟨q32, hq32, H⟩ := Option.bind_eq_some_iff.mp H
    refine J_callV (kc := 0) (ks := 0) (kc' := 0) (ks' := 0) (a := this) (ci := 10) (as := [.int p0, .int p1, .int (q28.2.1 a29 k31)]) (st := []) (mf_Switch_arbitrate hw) (mv_Switch_183 hw) d_Switch_moveAddress_22 ln_Switch_arbitrate (by decide) (by first | exact Nat.le_of_ble_eq_true rfl | (simp only [List.map_cons, List.map_nil, List.sum_cons, List.sum_nil, va_rf_cat]; exact Nat.le_of_ble_eq_true rfl)) rfl ((hG _).1 _ g24 (by decide)).1 ((hG _).1 _ g24 (by decide)).2 (by unfold pic; rw [g24]; rfl) (jcl_at hw rfl) rfl (p_Switch_arbitrate hw hG hq32) ?_ (fun E h' n' x' e1 => by cases e1.1)
    intro v9 h9 n9 x9 e9
    obtain ⟨e91, e92, e93⟩ := e9
    cases e91
    subst e92
    subst e93
    clear x
    rename Bool => x
    show J _ _ _ _ (_ :: _) _ _ _ _ _ _
    refine J_goto (tgt := 29) d_Switch_moveAddress_25 (by decide) ?_
    refine J.drop [true, true, true, true, true, false, false, false, false, false] rfl ?_
    exact p_Switch_moveAddress_L29 hw hG  H
theorem ln_UnderWay_firstWithData : (parseMethodDescriptor y_UnderWay_firstWithData.desc).map (fun q => q.parameters.length) = some 0 := by decide +kernel
def f_UnderWay_firstWithData_L2 (Γ : gm_T)  : Nat → ph_T → Nat → Int32 → Option (Int32 × ph_T)
  | 0, _, _, _ => none
  | fu + 1, φ, x0, x1 =>
    @ite _ (Γ x0 = .inr 9) _ (
    if (φ.1 x0 4) ≤ x1 then
      some ((-1 : Int32), φ)
    else
      Option.bind (φ.2.2 x0 2) fun a2 =>
      Option.bind (gA Γ a2 0) fun N3 =>
      Option.bind (ix x1 N3) fun k4 =>
      if (φ.1 a2 k4) ≤ 0 then
        (f_UnderWay_firstWithData_L2 Γ  fu) φ x0 (x1 + (1 : Int32))
      else
        some (x1, φ)
    ) none
set_option maxRecDepth 100000 in
set_option maxHeartbeats 4000000 in
theorem p_UnderWay_firstWithData_L2 {w : jw_T} (hw : jok w) {Γ : gm_T} {n : Nat} (hG : gd w Γ n)  : ∀ (fu : Nat) {x : Bool} {φ : ph_T} {x0 : Nat} {x1 : Int32} {q : Int32 × ph_T}, f_UnderWay_firstWithData_L2 Γ  fu φ x0 x1 = some q → J w M_UnderWay_firstWithData 2 [some (.ref x0), some (.int x1)] [] (pic Γ φ) n x 0 0 (fq Γ n (.inl (some (.int q.1))) q.2) := by
  intro fu
  induction fu with
  | zero =>
    intro x φ x0 x1 q H
    cases H
  | succ fu ih =>
    intro x φ x0 x1 q H
    unfold f_UnderWay_firstWithData_L2 at H
    refine J_iload_n d_UnderWay_firstWithData_2 rfl ?_
    refine J_aload_n d_UnderWay_firstWithData_3 rfl ?_
    have g1 : Γ x0 = .inr 9 := by
      apply Classical.byContradiction
      intro q9
      rw [if_neg q9] at H
      cases H
    rw [if_pos g1] at H
    refine F_getI (ci := 9) (k := 4) hG (cf_UnderWay hw) (fl_UnderWay_24 hw) (by decide) (by decide) rfl d_UnderWay_firstWithData_4 g1 ?_
    refine J_icmp_ge (tgt := 27) d_UnderWay_firstWithData_7 (by decide) ?_ ?_
    · intro c6
      rw [if_pos c6] at H
      refine J_iconst (v := -1) d_UnderWay_firstWithData_27 (by decide) ?_
      have H := Option.some.inj H
      subst H
      exact J_iret (st := []) d_UnderWay_firstWithData_28 rfl rfl ⟨rfl, rfl, rfl⟩
    · intro c6
      rw [if_neg c6] at H
      refine J_aload_n d_UnderWay_firstWithData_10 rfl ?_
      refine F_getR (ci := 9) (k := 2) hG (cf_UnderWay hw) (fl_UnderWay_18 hw) (by decide) (by decide) rfl d_UnderWay_firstWithData_11 g1 ?_
      refine J_iload_n d_UnderWay_firstWithData_14 rfl ?_
      obtain ⟨a2, ha2, H⟩ := Option.bind_eq_some_iff.mp H
      rw [j_rf ha2]
      obtain ⟨N3, hN3, H⟩ := Option.bind_eq_some_iff.mp H
      obtain ⟨k4, hk4, H⟩ := Option.bind_eq_some_iff.mp H
      refine F_iald k4 hw hG d_UnderWay_firstWithData_15 (gA_some hN3) (ix_some hk4) ?_
      refine J_if_le (tgt := 21) d_UnderWay_firstWithData_16 (by decide) ?_ ?_
      · intro c5
        rw [if_pos c5] at H
        refine J_iinc (v := x1 + 1) d_UnderWay_firstWithData_21 rfl (by rw [show Int32.ofInt 1 = (1 : Int32) from by decide]) ?_
        refine J.ls (ls' := [some (.ref x0), some (.int (x1 + (1 : Int32)))]) rfl ?_
        refine J_goto (tgt := 2) d_UnderWay_firstWithData_24 (by decide) ?_
        refine J.drop [true, true] rfl ?_
        exact ih H
      · intro c5
        rw [if_neg c5] at H
        refine J_iload_n d_UnderWay_firstWithData_19 rfl ?_
        have H := Option.some.inj H
        subst H
        exact J_iret (st := []) d_UnderWay_firstWithData_20 rfl rfl ⟨rfl, rfl, rfl⟩
def f_UnderWay_firstWithData (Γ : gm_T) (φ : ph_T) (this : Nat) : Option (Int32 × ph_T) :=
  f_UnderWay_firstWithData_L2 Γ  jF φ this (0 : Int32)
set_option maxRecDepth 100000 in
set_option maxHeartbeats 4000000 in
theorem p_UnderWay_firstWithData {w : jw_T} (hw : jok w) {Γ : gm_T} {n : Nat} (hG : gd w Γ n) {x : Bool} {φ : ph_T} {this : Nat} {q : Int32 × ph_T} (H : f_UnderWay_firstWithData Γ φ this = some q) : jc w M_UnderWay_firstWithData [.ref this] (pic Γ φ) n x 0 0 (fq Γ n (.inl (some (.int q.1))) q.2) := by
  refine jc.of (by simp only [jent_r, jent_i, jent_l, jent_a, jent_0]; exact Nat.le_of_ble_eq_true rfl) ?_
  have hls : jents [.ref this] (jm_nL M_UnderWay_firstWithData) = [some (.ref this), none] := by simp only [jents, jent_r, jent_i, jent_l, jent_a, jent_0]; rfl
  rw [hls]
  clear hls
  unfold f_UnderWay_firstWithData at H
  refine J_iconst (v := 0) d_UnderWay_firstWithData_0 (by decide) ?_
  refine J_istore_n d_UnderWay_firstWithData_1 (Nat.le_of_ble_eq_true rfl) ?_
  refine J.ls (ls' := [some (.ref this), some (.int (0 : Int32))]) rfl ?_
  refine J.drop [true, true] rfl ?_
  exact p_UnderWay_firstWithData_L2 hw hG  _ H
theorem ln_UnderWay_waitsBefore : (parseMethodDescriptor y_UnderWay_waitsBefore.desc).map (fun q => q.parameters.length) = some 2 := by decide +kernel
def f_UnderWay_waitsBefore_L41 (Γ : gm_T) (Kc2 : ph_T → Nat → Int32 → Int32 → Int32 → Option (Int32 × ph_T)) (φ : ph_T) (x0 : Nat) (x1 : Int32) (x2 : Int32) (x3 : Int32) : Option (Int32 × ph_T) :=
  Kc2 φ x0 x1 x2 (x3 + (1 : Int32))
set_option maxRecDepth 100000 in
set_option maxHeartbeats 4000000 in
theorem p_UnderWay_waitsBefore_L41 {w : jw_T} (hw : jok w) {Γ : gm_T} {n : Nat} (hG : gd w Γ n) {Kc2 : ph_T → Nat → Int32 → Int32 → Int32 → Option (Int32 × ph_T)} (hKc2 : ∀ {x : Bool} {φ : ph_T} {x0 : Nat} {x1 : Int32} {x2 : Int32} {x3 : Int32} {q : Int32 × ph_T}, Kc2 φ x0 x1 x2 x3 = some q → J w M_UnderWay_waitsBefore 2 [some (.ref x0), some (.int x1), some (.int x2), some (.int x3)] [] (pic Γ φ) n x 0 0 (fq Γ n (.inl (some (.int q.1))) q.2)) {x : Bool} {φ : ph_T} {x0 : Nat} {x1 : Int32} {x2 : Int32} {x3 : Int32} {q : Int32 × ph_T} (H : f_UnderWay_waitsBefore_L41 Γ Kc2 φ x0 x1 x2 x3 = some q) : J w M_UnderWay_waitsBefore 41 [some (.ref x0), some (.int x1), some (.int x2), some (.int x3)] [] (pic Γ φ) n x 0 0 (fq Γ n (.inl (some (.int q.1))) q.2) := by
  unfold f_UnderWay_waitsBefore_L41 at H
  refine J_iinc (v := x3 + 1) d_UnderWay_waitsBefore_41 rfl (by rw [show Int32.ofInt 1 = (1 : Int32) from by decide]) ?_
  refine J.ls (ls' := [some (.ref x0), some (.int x1), some (.int x2), some (.int (x3 + (1 : Int32)))]) rfl ?_
  refine J_goto (tgt := 2) d_UnderWay_waitsBefore_44 (by decide) ?_
  refine J.drop [true, true, true, true] rfl ?_
  exact hKc2 H
def f_UnderWay_waitsBefore_L2 (Γ : gm_T)  : Nat → ph_T → Nat → Int32 → Int32 → Int32 → Option (Int32 × ph_T)
  | 0, _, _, _, _, _ => none
  | fu + 1, φ, x0, x1, x2, x3 =>
    @ite _ (Γ x0 = .inr 9) _ (
    if (φ.1 x0 4) ≤ x3 then
      @ite _ ((0 : Int32) = 0 ∨ (0 : Int32) = 1) _ (
      some ((0 : Int32), φ)
      ) none
    else
      Option.bind (φ.2.2 x0 1) fun a3 =>
      Option.bind (gA Γ a3 0) fun N4 =>
      Option.bind (ix x3 N4) fun k5 =>
      if (φ.1 a3 k5) = x2 then
        Option.bind (φ.2.2 x0 2) fun a6 =>
        Option.bind (gA Γ a6 0) fun N7 =>
        Option.bind (ix x3 N7) fun k8 =>
        if (φ.1 a6 k8) ≤ 0 then
          f_UnderWay_waitsBefore_L41 Γ (f_UnderWay_waitsBefore_L2 Γ  fu) φ x0 x1 x2 x3
        else
          Option.bind (φ.2.2 x0 3) fun a9 =>
          Option.bind (gA Γ a9 0) fun N10 =>
          Option.bind (ix x3 N10) fun k11 =>
          if x1 ≤ (φ.1 a9 k11) then
            f_UnderWay_waitsBefore_L41 Γ (f_UnderWay_waitsBefore_L2 Γ  fu) φ x0 x1 x2 x3
          else
            @ite _ ((1 : Int32) = 0 ∨ (1 : Int32) = 1) _ (
            some ((1 : Int32), φ)
            ) none
      else
        f_UnderWay_waitsBefore_L41 Γ (f_UnderWay_waitsBefore_L2 Γ  fu) φ x0 x1 x2 x3
    ) none
set_option maxRecDepth 100000 in
set_option maxHeartbeats 4000000 in
theorem p_UnderWay_waitsBefore_L2 {w : jw_T} (hw : jok w) {Γ : gm_T} {n : Nat} (hG : gd w Γ n)  : ∀ (fu : Nat) {x : Bool} {φ : ph_T} {x0 : Nat} {x1 : Int32} {x2 : Int32} {x3 : Int32} {q : Int32 × ph_T}, f_UnderWay_waitsBefore_L2 Γ  fu φ x0 x1 x2 x3 = some q → J w M_UnderWay_waitsBefore 2 [some (.ref x0), some (.int x1), some (.int x2), some (.int x3)] [] (pic Γ φ) n x 0 0 (fq Γ n (.inl (some (.int q.1))) q.2) := by
  intro fu
  induction fu with
  | zero =>
    intro x φ x0 x1 x2 x3 q H
    cases H
  | succ fu ih =>
    intro x φ x0 x1 x2 x3 q H
    unfold f_UnderWay_waitsBefore_L2 at H
    refine J_iload_n d_UnderWay_waitsBefore_2 rfl ?_
    refine J_aload_n d_UnderWay_waitsBefore_3 rfl ?_
    have g1 : Γ x0 = .inr 9 := by
      apply Classical.byContradiction
      intro q9
      rw [if_neg q9] at H
      cases H
    rw [if_pos g1] at H
    refine F_getI (ci := 9) (k := 4) hG (cf_UnderWay hw) (fl_UnderWay_24 hw) (by decide) (by decide) rfl d_UnderWay_waitsBefore_4 g1 ?_
    refine J_icmp_ge (tgt := 47) d_UnderWay_waitsBefore_7 (by decide) ?_ ?_
    · intro c16
      rw [if_pos c16] at H
      refine J_iconst (v := 0) d_UnderWay_waitsBefore_47 (by decide) ?_
      have z2 : (0 : Int32) = 0 ∨ (0 : Int32) = 1 := by
        apply Classical.byContradiction
        intro q9
        rw [if_neg q9] at H
        cases H
      rw [if_pos z2] at H
      have H := Option.some.inj H
      subst H
      exact J_iret (st := []) d_UnderWay_waitsBefore_48 rfl (narrow_z z2).1 ⟨rfl, rfl, rfl⟩
    · intro c16
      rw [if_neg c16] at H
      refine J_aload_n d_UnderWay_waitsBefore_10 rfl ?_
      refine F_getR (ci := 9) (k := 1) hG (cf_UnderWay hw) (fl_UnderWay_15 hw) (by decide) (by decide) rfl d_UnderWay_waitsBefore_11 g1 ?_
      refine J_iload_n d_UnderWay_waitsBefore_14 rfl ?_
      obtain ⟨a3, ha3, H⟩ := Option.bind_eq_some_iff.mp H
      rw [j_rf ha3]
      obtain ⟨N4, hN4, H⟩ := Option.bind_eq_some_iff.mp H
      obtain ⟨k5, hk5, H⟩ := Option.bind_eq_some_iff.mp H
      refine F_iald k5 hw hG d_UnderWay_waitsBefore_15 (gA_some hN4) (ix_some hk5) ?_
      refine J_iload_n d_UnderWay_waitsBefore_16 rfl ?_
      refine J_icmp_ne (tgt := 41) d_UnderWay_waitsBefore_17 (by decide) ?_ ?_
      · intro c15
        rw [if_neg c15] at H
        refine J.drop [true, true, true, true] rfl ?_
        exact p_UnderWay_waitsBefore_L41 hw hG ih H
      · intro c15
        rw [if_pos c15] at H
        refine J_aload_n d_UnderWay_waitsBefore_20 rfl ?_
        refine F_getR (ci := 9) (k := 2) hG (cf_UnderWay hw) (fl_UnderWay_18 hw) (by decide) (by decide) rfl d_UnderWay_waitsBefore_21 g1 ?_
        refine J_iload_n d_UnderWay_waitsBefore_24 rfl ?_
        obtain ⟨a6, ha6, H⟩ := Option.bind_eq_some_iff.mp H
        rw [j_rf ha6]
        obtain ⟨N7, hN7, H⟩ := Option.bind_eq_some_iff.mp H
        obtain ⟨k8, hk8, H⟩ := Option.bind_eq_some_iff.mp H
        refine F_iald k8 hw hG d_UnderWay_waitsBefore_25 (gA_some hN7) (ix_some hk8) ?_
        refine J_if_le (tgt := 41) d_UnderWay_waitsBefore_26 (by decide) ?_ ?_
        · intro c14
          rw [if_pos c14] at H
          refine J.drop [true, true, true, true] rfl ?_
          exact p_UnderWay_waitsBefore_L41 hw hG ih H
        · intro c14
          rw [if_neg c14] at H
          refine J_aload_n d_UnderWay_waitsBefore_29 rfl ?_
          refine F_getR (ci := 9) (k := 3) hG (cf_UnderWay hw) (fl_UnderWay_21 hw) (by decide) (by decide) rfl d_UnderWay_waitsBefore_30 g1 ?_
          refine J_iload_n d_UnderWay_waitsBefore_33 rfl ?_
          obtain ⟨a9, ha9, H⟩ := Option.bind_eq_some_iff.mp H
          rw [j_rf ha9]
          obtain ⟨N10, hN10, H⟩ := Option.bind_eq_some_iff.mp H
          obtain ⟨k11, hk11, H⟩ := Option.bind_eq_some_iff.mp H
          refine F_iald k11 hw hG d_UnderWay_waitsBefore_34 (gA_some hN10) (ix_some hk11) ?_
          refine J_iload_n d_UnderWay_waitsBefore_35 rfl ?_
          refine J_icmp_ge (tgt := 41) d_UnderWay_waitsBefore_36 (by decide) ?_ ?_
          · intro c13
            rw [if_pos c13] at H
            refine J.drop [true, true, true, true] rfl ?_
            exact p_UnderWay_waitsBefore_L41 hw hG ih H
          · intro c13
            rw [if_neg c13] at H
            refine J_iconst (v := 1) d_UnderWay_waitsBefore_39 (by decide) ?_
            have z12 : (1 : Int32) = 0 ∨ (1 : Int32) = 1 := by
              apply Classical.byContradiction
              intro q9
              rw [if_neg q9] at H
              cases H
            rw [if_pos z12] at H
            have H := Option.some.inj H
            subst H
            exact J_iret (st := []) d_UnderWay_waitsBefore_40 rfl (narrow_z z12).1 ⟨rfl, rfl, rfl⟩
def f_UnderWay_waitsBefore (Γ : gm_T) (φ : ph_T) (this : Nat) (p0 : Int32) (p1 : Int32) : Option (Int32 × ph_T) :=
  f_UnderWay_waitsBefore_L2 Γ  jF φ this p0 p1 (0 : Int32)
set_option maxRecDepth 100000 in
set_option maxHeartbeats 4000000 in
theorem p_UnderWay_waitsBefore {w : jw_T} (hw : jok w) {Γ : gm_T} {n : Nat} (hG : gd w Γ n) {x : Bool} {φ : ph_T} {this : Nat} {p0 : Int32} {p1 : Int32} {q : Int32 × ph_T} (H : f_UnderWay_waitsBefore Γ φ this p0 p1 = some q) : jc w M_UnderWay_waitsBefore [.ref this, .int p0, .int p1] (pic Γ φ) n x 0 0 (fq Γ n (.inl (some (.int q.1))) q.2) := by
  refine jc.of (by simp only [jent_r, jent_i, jent_l, jent_a, jent_0]; exact Nat.le_of_ble_eq_true rfl) ?_
  have hls : jents [.ref this, .int p0, .int p1] (jm_nL M_UnderWay_waitsBefore) = [some (.ref this), some (.int p0), some (.int p1), none] := by simp only [jents, jent_r, jent_i, jent_l, jent_a, jent_0]; rfl
  rw [hls]
  clear hls
  unfold f_UnderWay_waitsBefore at H
  refine J_iconst (v := 0) d_UnderWay_waitsBefore_0 (by decide) ?_
  refine J_istore_n d_UnderWay_waitsBefore_1 (Nat.le_of_ble_eq_true rfl) ?_
  refine J.ls (ls' := [some (.ref this), some (.int p0), some (.int p1), some (.int (0 : Int32))]) rfl ?_
  refine J.drop [true, true, true, true] rfl ?_
  exact p_UnderWay_waitsBefore_L2 hw hG  _ H
theorem ln_Switch_isNextFor : (parseMethodDescriptor y_Switch_isNextFor.desc).map (fun q => q.parameters.length) = some 2 := by decide +kernel
def f_Switch_isNextFor_L2 (Γ : gm_T)  : Nat → ph_T → Nat → Int32 → Int32 → Int32 → Option (Int32 × ph_T)
  | 0, _, _, _, _, _ => none
  | fu + 1, φ, x0, x1, x2, x3 =>
    @ite _ (Γ x0 = .inr 10) _ (
    if (φ.1 x0 0) ≤ x3 then
      @ite _ ((1 : Int32) = 0 ∨ (1 : Int32) = 1) _ (
      some ((1 : Int32), φ)
      ) none
    else
      Option.bind (φ.2.2 x0 6) fun a3 =>
      Option.bind (gA Γ a3 4) fun N4 =>
      Option.bind (ix x3 N4) fun k5 =>
      Option.bind (φ.2.2 a3 k5) fun a6 =>
      @ite _ (Γ a6 = .inr 9) _ (
      Option.bind (f_UnderWay_waitsBefore Γ φ a6 x2 x1) fun q8 =>
      if q8.1 = 0 then
        (f_Switch_isNextFor_L2 Γ  fu) q8.2 x0 x1 x2 (x3 + (1 : Int32))
      else
        @ite _ ((0 : Int32) = 0 ∨ (0 : Int32) = 1) _ (
        some ((0 : Int32), q8.2)
        ) none
      ) none
    ) none
set_option maxRecDepth 100000 in
set_option maxHeartbeats 4000000 in
theorem p_Switch_isNextFor_L2 {w : jw_T} (hw : jok w) {Γ : gm_T} {n : Nat} (hG : gd w Γ n)  : ∀ (fu : Nat) {x : Bool} {φ : ph_T} {x0 : Nat} {x1 : Int32} {x2 : Int32} {x3 : Int32} {q : Int32 × ph_T}, f_Switch_isNextFor_L2 Γ  fu φ x0 x1 x2 x3 = some q → J w M_Switch_isNextFor 2 [some (.ref x0), some (.int x1), some (.int x2), some (.int x3)] [] (pic Γ φ) n x 0 0 (fq Γ n (.inl (some (.int q.1))) q.2) := by
  intro fu
  induction fu with
  | zero =>
    intro x φ x0 x1 x2 x3 q H
    cases H
  | succ fu ih =>
    intro x φ x0 x1 x2 x3 q H
    unfold f_Switch_isNextFor_L2 at H
    refine J_iload_n d_Switch_isNextFor_2 rfl ?_
    refine J_aload_n d_Switch_isNextFor_3 rfl ?_
    have g1 : Γ x0 = .inr 10 := by
      apply Classical.byContradiction
      intro q9
      rw [if_neg q9] at H
      cases H
    rw [if_pos g1] at H
    refine F_getI (ci := 10) (k := 0) hG (cf_Switch hw) (fl_Switch_15 hw) (by decide) (by decide) rfl d_Switch_isNextFor_4 g1 ?_
    refine J_icmp_ge (tgt := 32) d_Switch_isNextFor_7 (by decide) ?_ ?_
    · intro c11
      rw [if_pos c11] at H
      refine J_iconst (v := 1) d_Switch_isNextFor_32 (by decide) ?_
      have z2 : (1 : Int32) = 0 ∨ (1 : Int32) = 1 := by
        apply Classical.byContradiction
        intro q9
        rw [if_neg q9] at H
        cases H
      rw [if_pos z2] at H
      have H := Option.some.inj H
      subst H
      exact J_iret (st := []) d_Switch_isNextFor_33 rfl (narrow_z z2).1 ⟨rfl, rfl, rfl⟩
    · intro c11
      rw [if_neg c11] at H
      refine J_aload_n d_Switch_isNextFor_10 rfl ?_
      refine F_getR (ci := 10) (k := 6) hG (cf_Switch hw) (fl_Switch_38 hw) (by decide) (by decide) rfl d_Switch_isNextFor_11 g1 ?_
      refine J_iload_n d_Switch_isNextFor_14 rfl ?_
      obtain ⟨a3, ha3, H⟩ := Option.bind_eq_some_iff.mp H
      rw [j_rf ha3]
      obtain ⟨N4, hN4, H⟩ := Option.bind_eq_some_iff.mp H
      obtain ⟨k5, hk5, H⟩ := Option.bind_eq_some_iff.mp H
      refine F_aald k5 hw hG (t := 4) rfl (by decide) d_Switch_isNextFor_15 (gA_some hN4) (ix_some hk5) ?_
      refine J_iload_n d_Switch_isNextFor_16 rfl ?_
      refine J_iload_n d_Switch_isNextFor_17 rfl ?_
      obtain ⟨a6, ha6, H⟩ := Option.bind_eq_some_iff.mp H
      rw [j_rf ha6]
      have g7 : Γ a6 = .inr 9 := by
        apply Classical.byContradiction
        intro q9
        rw [if_neg q9] at H
        cases H
      rw [if_pos g7] at H
      obtain ⟨q8, hq8, H⟩ := Option.bind_eq_some_iff.mp H
      refine J_callV (kc := 0) (ks := 0) (kc' := 0) (ks' := 0) (a := a6) (ci := 9) (as := [.int x2, .int x1]) (st := []) (mf_UnderWay_waitsBefore hw) (mv_Switch_234 hw) d_Switch_isNextFor_18 ln_UnderWay_waitsBefore (by decide) (by first | exact Nat.le_of_ble_eq_true rfl | (simp only [List.map_cons, List.map_nil, List.sum_cons, List.sum_nil, va_rf_cat]; exact Nat.le_of_ble_eq_true rfl)) rfl ((hG _).1 _ g7 (by decide)).1 ((hG _).1 _ g7 (by decide)).2 (by unfold pic; rw [g7]; rfl) (jcl_at hw rfl) rfl (p_UnderWay_waitsBefore hw hG hq8) ?_ (fun E h' n' x' e1 => by cases e1.1)
      intro v9 h9 n9 x9 e9
      obtain ⟨e91, e92, e93⟩ := e9
      cases e91
      subst e92
      subst e93
      clear x
      rename Bool => x
      show J _ _ _ _ (_ :: _) _ _ _ _ _ _
      refine J_if_eq (tgt := 26) d_Switch_isNextFor_21 (by decide) ?_ ?_
      · intro c10
        rw [if_pos c10] at H
        refine J_iinc (v := x3 + 1) d_Switch_isNextFor_26 rfl (by rw [show Int32.ofInt 1 = (1 : Int32) from by decide]) ?_
        refine J.ls (ls' := [some (.ref x0), some (.int x1), some (.int x2), some (.int (x3 + (1 : Int32)))]) rfl ?_
        refine J_goto (tgt := 2) d_Switch_isNextFor_29 (by decide) ?_
        refine J.drop [true, true, true, true] rfl ?_
        exact ih H
      · intro c10
        rw [if_neg c10] at H
        refine J_iconst (v := 0) d_Switch_isNextFor_24 (by decide) ?_
        have z9 : (0 : Int32) = 0 ∨ (0 : Int32) = 1 := by
          apply Classical.byContradiction
          intro q9
          rw [if_neg q9] at H
          cases H
        rw [if_pos z9] at H
        have H := Option.some.inj H
        subst H
        exact J_iret (st := []) d_Switch_isNextFor_25 rfl (narrow_z z9).1 ⟨rfl, rfl, rfl⟩
def f_Switch_isNextFor (Γ : gm_T) (φ : ph_T) (this : Nat) (p0 : Int32) (p1 : Int32) : Option (Int32 × ph_T) :=
  f_Switch_isNextFor_L2 Γ  jF φ this p0 p1 (0 : Int32)
set_option maxRecDepth 100000 in
set_option maxHeartbeats 4000000 in
theorem p_Switch_isNextFor {w : jw_T} (hw : jok w) {Γ : gm_T} {n : Nat} (hG : gd w Γ n) {x : Bool} {φ : ph_T} {this : Nat} {p0 : Int32} {p1 : Int32} {q : Int32 × ph_T} (H : f_Switch_isNextFor Γ φ this p0 p1 = some q) : jc w M_Switch_isNextFor [.ref this, .int p0, .int p1] (pic Γ φ) n x 0 0 (fq Γ n (.inl (some (.int q.1))) q.2) := by
  refine jc.of (by simp only [jent_r, jent_i, jent_l, jent_a, jent_0]; exact Nat.le_of_ble_eq_true rfl) ?_
  have hls : jents [.ref this, .int p0, .int p1] (jm_nL M_Switch_isNextFor) = [some (.ref this), some (.int p0), some (.int p1), none] := by simp only [jents, jent_r, jent_i, jent_l, jent_a, jent_0]; rfl
  rw [hls]
  clear hls
  unfold f_Switch_isNextFor at H
  refine J_iconst (v := 0) d_Switch_isNextFor_0 (by decide) ?_
  refine J_istore_n d_Switch_isNextFor_1 (Nat.le_of_ble_eq_true rfl) ?_
  refine J.ls (ls' := [some (.ref this), some (.int p0), some (.int p1), some (.int (0 : Int32))]) rfl ?_
  refine J.drop [true, true, true, true] rfl ?_
  exact p_Switch_isNextFor_L2 hw hG  _ H
theorem ln_Switch_moveData : (parseMethodDescriptor y_Switch_moveData.desc).map (fun q => q.parameters.length) = some 1 := by decide +kernel
def f_Switch_moveData_L76 (Γ : gm_T)  (φ : ph_T) : Option (Unit × ph_T) :=
  some ((), φ)
set_option maxRecDepth 100000 in
set_option maxHeartbeats 4000000 in
theorem p_Switch_moveData_L76 {w : jw_T} (hw : jok w) {Γ : gm_T} {n : Nat} (hG : gd w Γ n)  {x : Bool} {φ : ph_T} {q : Unit × ph_T} (H : f_Switch_moveData_L76 Γ  φ  = some q) : J w M_Switch_moveData 76 [none, none, none, none, none, none, none] [] (pic Γ φ) n x 0 0 (fq Γ n (.inl none) q.2) := by
  unfold f_Switch_moveData_L76 at H
  have H := Option.some.inj H
  subst H
  exact J_vret (st := []) d_Switch_moveData_76 rfl ⟨rfl, rfl, rfl⟩
def f_Switch_moveData_L33 (Γ : gm_T)  (φ : ph_T) : Option (Unit × ph_T) :=
  some ((), φ)
set_option maxRecDepth 100000 in
set_option maxHeartbeats 4000000 in
theorem p_Switch_moveData_L33 {w : jw_T} (hw : jok w) {Γ : gm_T} {n : Nat} (hG : gd w Γ n)  {x : Bool} {φ : ph_T} {q : Unit × ph_T} (H : f_Switch_moveData_L33 Γ  φ  = some q) : J w M_Switch_moveData 33 [none, none, none, none, none, none, none] [] (pic Γ φ) n x 0 0 (fq Γ n (.inl none) q.2) := by
  unfold f_Switch_moveData_L33 at H
  have H := Option.some.inj H
  subst H
  exact J_vret (st := []) d_Switch_moveData_33 rfl ⟨rfl, rfl, rfl⟩
def f_Switch_moveData (Γ : gm_T) (φ : ph_T) (this : Nat) (p0 : Int32) : Option (Unit × ph_T) :=
  @ite _ (Γ this = .inr 10) _ (
  Option.bind (f_Switch_ofMaster Γ φ this p0 (1 : Int32)) fun q2 =>
  Option.bind (q2.2.2.2 this 6) fun a3 =>
  Option.bind (gA Γ a3 4) fun N4 =>
  Option.bind (ix p0 N4) fun k5 =>
  Option.bind (q2.2.2.2 a3 k5) fun a6 =>
  @ite _ (Γ a6 = .inr 9) _ (
  Option.bind (f_UnderWay_firstWithData Γ q2.2 a6) fun q8 =>
  if q8.1 = (-1 : Int32) then
    f_Switch_moveData_L33 Γ  q8.2 
  else
    Option.bind q2.1 fun a9 =>
    @ite _ (Γ a9 = .inr 3) _ (
    Option.bind (f_Row_holds Γ q8.2 a9) fun q11 =>
    if q11.1 = 0 then
      f_Switch_moveData_L33 Γ  q11.2 
    else
      Option.bind (q11.2.2.2 a6 1) fun a12 =>
      Option.bind (gA Γ a12 0) fun N13 =>
      Option.bind (ix q8.1 N13) fun k14 =>
      Option.bind (f_Switch_ofTarget Γ q11.2 this (q11.2.1 a12 k14) (1 : Int32)) fun q15 =>
      Option.bind q15.1 fun a16 =>
      @ite _ (Γ a16 = .inr 3) _ (
      Option.bind (f_Row_hasRoom Γ q15.2 a16) fun q18 =>
      if q18.1 = 0 then
        f_Switch_moveData_L76 Γ  q18.2 
      else
        Option.bind (q18.2.2.2 a6 3) fun a19 =>
        Option.bind (gA Γ a19 0) fun N20 =>
        Option.bind (ix q8.1 N20) fun k21 =>
        Option.bind (f_Switch_isNextFor Γ q18.2 this (q11.2.1 a12 k14) (q18.2.1 a19 k21)) fun q22 =>
        if q22.1 = 0 then
          f_Switch_moveData_L76 Γ  q22.2 
        else
          Option.bind (f_Row_firstContent Γ q22.2 a9) fun q23 =>
          Option.bind (f_Row_firstRest Γ q23.2 a9) fun q24 =>
          Option.bind (f_Row_put Γ q24.2 a16 q23.1 q24.1 (0 : Int32)) fun q25 =>
          Option.bind (f_Row_drop Γ q25.2 a9) fun q26 =>
          Option.bind (q26.2.2.2 a6 2) fun a27 =>
          Option.bind (gA Γ a27 0) fun N28 =>
          Option.bind (ix q8.1 N28) fun k29 =>
          Option.bind (gA Γ a27 0) fun N30 =>
          Option.bind (ix q8.1 N30) fun k31 =>
          some ((), (uI q26.2 a27 k31 ((q26.2.1 a27 k29) - (1 : Int32))))
      ) none
    ) none
  ) none
  ) none
set_option maxRecDepth 100000 in
set_option maxHeartbeats 4000000 in
theorem p_Switch_moveData {w : jw_T} (hw : jok w) {Γ : gm_T} {n : Nat} (hG : gd w Γ n) {x : Bool} {φ : ph_T} {this : Nat} {p0 : Int32} {q : Unit × ph_T} (H : f_Switch_moveData Γ φ this p0 = some q) : jc w M_Switch_moveData [.ref this, .int p0] (pic Γ φ) n x 0 0 (fq Γ n (.inl none) q.2) := by
  refine jc.of (by simp only [jent_r, jent_i, jent_l, jent_a, jent_0]; exact Nat.le_of_ble_eq_true rfl) ?_
  have hls : jents [.ref this, .int p0] (jm_nL M_Switch_moveData) = [some (.ref this), some (.int p0), none, none, none, none, none] := by simp only [jents, jent_r, jent_i, jent_l, jent_a, jent_0]; rfl
  rw [hls]
  clear hls
  unfold f_Switch_moveData at H
  refine J_aload_n d_Switch_moveData_0 rfl ?_
  refine J_iload_n d_Switch_moveData_1 rfl ?_
  refine J_iconst (v := 1) d_Switch_moveData_2 (by decide) ?_
  have g1 : Γ this = .inr 10 := by
    apply Classical.byContradiction
    intro q9
    rw [if_neg q9] at H
    cases H
  rw [if_pos g1] at H
  obtain ⟨q2, hq2, H⟩ := Option.bind_eq_some_iff.mp H
  refine J_callV (kc := 0) (ks := 0) (kc' := 0) (ks' := 0) (a := this) (ci := 10) (as := [.int p0, .int (1 : Int32)]) (st := []) (mf_Switch_ofMaster hw) (mv_Switch_107 hw) d_Switch_moveData_3 ln_Switch_ofMaster (by decide) (by first | exact Nat.le_of_ble_eq_true rfl | (simp only [List.map_cons, List.map_nil, List.sum_cons, List.sum_nil, va_rf_cat]; exact Nat.le_of_ble_eq_true rfl)) rfl ((hG _).1 _ g1 (by decide)).1 ((hG _).1 _ g1 (by decide)).2 (by unfold pic; rw [g1]; rfl) (jcl_at hw rfl) rfl (p_Switch_ofMaster hw hG hq2) ?_ (fun E h' n' x' e1 => by cases e1.1)
  intro v9 h9 n9 x9 e9
  obtain ⟨e91, e92, e93⟩ := e9
  cases e91
  subst e92
  subst e93
  clear x
  rename Bool => x
  show J _ _ _ _ (_ :: _) _ _ _ _ _ _
  refine J_astore_nO d_Switch_moveData_6 (Nat.le_of_ble_eq_true rfl) ?_
  refine J.ls (ls' := [some (.ref this), some (.int p0), some (va_rf q2.1), none, none, none, none]) rfl ?_
  refine J_aload_n d_Switch_moveData_7 rfl ?_
  refine F_getR (ci := 10) (k := 6) hG (cf_Switch hw) (fl_Switch_38 hw) (by decide) (by decide) rfl d_Switch_moveData_8 g1 ?_
  refine J_iload_n d_Switch_moveData_11 rfl ?_
  obtain ⟨a3, ha3, H⟩ := Option.bind_eq_some_iff.mp H
  rw [j_rf ha3]
  obtain ⟨N4, hN4, H⟩ := Option.bind_eq_some_iff.mp H
  obtain ⟨k5, hk5, H⟩ := Option.bind_eq_some_iff.mp H
  refine F_aald k5 hw hG (t := 4) rfl (by decide) d_Switch_moveData_12 (gA_some hN4) (ix_some hk5) ?_
  refine J_astore_nO d_Switch_moveData_13 (Nat.le_of_ble_eq_true rfl) ?_
  refine J.ls (ls' := [some (.ref this), some (.int p0), some (va_rf q2.1), some (va_rf (q2.2.2.2 a3 k5)), none, none, none]) (jst1_o (i := 2) (r := q2.1) rfl) ?_
  refine J_aload_nO d_Switch_moveData_14 rfl ?_
  obtain ⟨a6, ha6, H⟩ := Option.bind_eq_some_iff.mp H
  rw [j_rf ha6]
  have g7 : Γ a6 = .inr 9 := by
    apply Classical.byContradiction
    intro q9
    rw [if_neg q9] at H
    cases H
  rw [if_pos g7] at H
  obtain ⟨q8, hq8, H⟩ := Option.bind_eq_some_iff.mp H
  refine J_callV (kc := 0) (ks := 0) (kc' := 0) (ks' := 0) (a := a6) (ci := 9) (as := []) (st := []) (mf_UnderWay_firstWithData hw) (mv_Switch_218 hw) d_Switch_moveData_15 ln_UnderWay_firstWithData (by decide) (by first | exact Nat.le_of_ble_eq_true rfl | (simp only [List.map_cons, List.map_nil, List.sum_cons, List.sum_nil, va_rf_cat]; exact Nat.le_of_ble_eq_true rfl)) rfl ((hG _).1 _ g7 (by decide)).1 ((hG _).1 _ g7 (by decide)).2 (by unfold pic; rw [g7]; rfl) (jcl_at hw rfl) rfl (p_UnderWay_firstWithData hw hG hq8) ?_ (fun E h' n' x' e1 => by cases e1.1)
  intro v9 h9 n9 x9 e9
  obtain ⟨e91, e92, e93⟩ := e9
  cases e91
  subst e92
  subst e93
  clear x
  rename Bool => x
  show J _ _ _ _ (_ :: _) _ _ _ _ _ _
  refine J_istore d_Switch_moveData_18 (Nat.le_of_ble_eq_true rfl) ?_
  refine J.ls (ls' := [some (.ref this), some (.int p0), some (va_rf q2.1), some (.ref a6), some (.int q8.1), none, none]) rfl ?_
  refine J_iload d_Switch_moveData_20 rfl ?_
  refine J_iconst (v := -1) d_Switch_moveData_22 (by decide) ?_
  refine J_icmp_eq (tgt := 33) d_Switch_moveData_23 (by decide) ?_ ?_
  · intro c35
    rw [if_pos c35] at H
    refine J.drop [false, false, false, false, false, false, false] rfl ?_
    exact p_Switch_moveData_L33 hw hG  H
  · intro c35
    rw [if_neg c35] at H
    refine J_aload_nO d_Switch_moveData_26 rfl ?_
    obtain ⟨a9, ha9, H⟩ := Option.bind_eq_some_iff.mp H
    rw [j_rf ha9]
    have g10 : Γ a9 = .inr 3 := by
      apply Classical.byContradiction
      intro q9
      rw [if_neg q9] at H
      cases H
    rw [if_pos g10] at H
    obtain ⟨q11, hq11, H⟩ := Option.bind_eq_some_iff.mp H
    refine J_callV (kc := 0) (ks := 0) (kc' := 0) (ks' := 0) (a := a9) (ci := 3) (as := []) (st := []) (mf_Row_holds hw) (mv_Switch_131 hw) d_Switch_moveData_27 ln_Row_holds (by decide) (by first | exact Nat.le_of_ble_eq_true rfl | (simp only [List.map_cons, List.map_nil, List.sum_cons, List.sum_nil, va_rf_cat]; exact Nat.le_of_ble_eq_true rfl)) rfl ((hG _).1 _ g10 (by decide)).1 ((hG _).1 _ g10 (by decide)).2 (by unfold pic; rw [g10]; rfl) (jcl_at hw rfl) rfl (p_Row_holds hw hG hq11) ?_ (fun E h' n' x' e1 => by cases e1.1)
    intro v9 h9 n9 x9 e9
    obtain ⟨e91, e92, e93⟩ := e9
    cases e91
    subst e92
    subst e93
    clear x
    rename Bool => x
    show J _ _ _ _ (_ :: _) _ _ _ _ _ _
    refine J_if_ne (tgt := 34) d_Switch_moveData_30 (by decide) ?_ ?_
    · intro c34
      rw [if_neg c34] at H
      refine J_aload_n d_Switch_moveData_34 rfl ?_
      refine F_getR (ci := 9) (k := 1) hG (cf_UnderWay hw) (fl_Switch_221 hw) (by decide) (by decide) rfl d_Switch_moveData_35 g7 ?_
      refine J_iload d_Switch_moveData_38 rfl ?_
      obtain ⟨a12, ha12, H⟩ := Option.bind_eq_some_iff.mp H
      rw [j_rf ha12]
      obtain ⟨N13, hN13, H⟩ := Option.bind_eq_some_iff.mp H
      obtain ⟨k14, hk14, H⟩ := Option.bind_eq_some_iff.mp H
      refine F_iald k14 hw hG d_Switch_moveData_40 (gA_some hN13) (ix_some hk14) ?_
      refine J_istore d_Switch_moveData_41 (Nat.le_of_ble_eq_true rfl) ?_
      refine J.ls (ls' := [some (.ref this), some (.int p0), some (.ref a9), some (.ref a6), some (.int q8.1), some (.int (q11.2.1 a12 k14)), none]) rfl ?_
      refine J_aload_n d_Switch_moveData_43 rfl ?_
      refine J_iload d_Switch_moveData_44 rfl ?_
      refine J_iconst (v := 1) d_Switch_moveData_46 (by decide) ?_
      obtain ⟨q15, hq15, H⟩ := Option.bind_eq_some_iff.mp H
      refine J_callV (kc := 0) (ks := 0) (kc' := 0) (ks' := 0) (a := this) (ci := 10) (as := [.int (q11.2.1 a12 k14), .int (1 : Int32)]) (st := []) (mf_Switch_ofTarget hw) (mv_Switch_119 hw) d_Switch_moveData_47 ln_Switch_ofTarget (by decide) (by first | exact Nat.le_of_ble_eq_true rfl | (simp only [List.map_cons, List.map_nil, List.sum_cons, List.sum_nil, va_rf_cat]; exact Nat.le_of_ble_eq_true rfl)) rfl ((hG _).1 _ g1 (by decide)).1 ((hG _).1 _ g1 (by decide)).2 (by unfold pic; rw [g1]; rfl) (jcl_at hw rfl) rfl (p_Switch_ofTarget hw hG hq15) ?_ (fun E h' n' x' e1 => by cases e1.1)
      intro v9 h9 n9 x9 e9
      obtain ⟨e91, e92, e93⟩ := e9
      cases e91
      subst e92
      subst e93
      clear x
      rename Bool => x
      show J _ _ _ _ (_ :: _) _ _ _ _ _ _
      refine J_astoreO d_Switch_moveData_50 (Nat.le_of_ble_eq_true rfl) ?_
      refine J.ls (ls' := [some (.ref this), some (.int p0), some (.ref a9), some (.ref a6), some (.int q8.1), some (.int (q11.2.1 a12 k14)), some (va_rf q15.1)]) rfl ?_
      refine J_aloadO d_Switch_moveData_52 rfl ?_
      obtain ⟨a16, ha16, H⟩ := Option.bind_eq_some_iff.mp H
      rw [j_rf ha16]
      have g17 : Γ a16 = .inr 3 := by
        apply Classical.byContradiction
        intro q9
        rw [if_neg q9] at H
        cases H
      rw [if_pos g17] at H
      obtain ⟨q18, hq18, H⟩ := Option.bind_eq_some_iff.mp H
      refine J_callV (kc := 0) (ks := 0) (kc' := 0) (ks' := 0) (a := a16) (ci := 3) (as := []) (st := []) (mf_Row_hasRoom hw) (mv_Switch_127 hw) d_Switch_moveData_54 ln_Row_hasRoom (by decide) (by first | exact Nat.le_of_ble_eq_true rfl | (simp only [List.map_cons, List.map_nil, List.sum_cons, List.sum_nil, va_rf_cat]; exact Nat.le_of_ble_eq_true rfl)) rfl ((hG _).1 _ g17 (by decide)).1 ((hG _).1 _ g17 (by decide)).2 (by unfold pic; rw [g17]; rfl) (jcl_at hw rfl) rfl (p_Row_hasRoom hw hG hq18) ?_ (fun E h' n' x' e1 => by cases e1.1)
      intro v9 h9 n9 x9 e9
      obtain ⟨e91, e92, e93⟩ := e9
      cases e91
      subst e92
      subst e93
      clear x
      rename Bool => x
      show J _ _ _ _ (_ :: _) _ _ _ _ _ _
      refine J_if_eq (tgt := 76) d_Switch_moveData_57 (by decide) ?_ ?_
      · intro c33
        rw [if_pos c33] at H
        refine J.drop [false, false, false, false, false, false, false] rfl ?_
        exact p_Switch_moveData_L76 hw hG  H
      · intro c33
        rw [if_neg c33] at H
        refine J_aload_n d_Switch_moveData_60 rfl ?_
        refine J_iload d_Switch_moveData_61 rfl ?_
        refine J_aload_n d_Switch_moveData_63 rfl ?_
        refine F_getR (ci := 9) (k := 3) hG (cf_UnderWay hw) (fl_Switch_224 hw) (by decide) (by decide) rfl d_Switch_moveData_64 g7 ?_
        refine J_iload d_Switch_moveData_67 rfl ?_
        obtain ⟨a19, ha19, H⟩ := Option.bind_eq_some_iff.mp H
        rw [j_rf ha19]
        obtain ⟨N20, hN20, H⟩ := Option.bind_eq_some_iff.mp H
        obtain ⟨k21, hk21, H⟩ := Option.bind_eq_some_iff.mp H
        refine F_iald k21 hw hG d_Switch_moveData_69 (gA_some hN20) (ix_some hk21) ?_
        obtain ⟨q22, hq22, H⟩ := Option.bind_eq_some_iff.mp H
        refine J_callV (kc := 0) (ks := 0) (kc' := 0) (ks' := 0) (a := this) (ci := 10) (as := [.int (q11.2.1 a12 k14), .int (q18.2.1 a19 k21)]) (st := []) (mf_Switch_isNextFor hw) (mv_Switch_227 hw) d_Switch_moveData_70 ln_Switch_isNextFor (by decide) (by first | exact Nat.le_of_ble_eq_true rfl | (simp only [List.map_cons, List.map_nil, List.sum_cons, List.sum_nil, va_rf_cat]; exact Nat.le_of_ble_eq_true rfl)) rfl ((hG _).1 _ g1 (by decide)).1 ((hG _).1 _ g1 (by decide)).2 (by unfold pic; rw [g1]; rfl) (jcl_at hw rfl) rfl (p_Switch_isNextFor hw hG hq22) ?_ (fun E h' n' x' e1 => by cases e1.1)
        intro v9 h9 n9 x9 e9
        obtain ⟨e91, e92, e93⟩ := e9
        cases e91
        subst e92
        subst e93
        clear x
        rename Bool => x
        show J _ _ _ _ (_ :: _) _ _ _ _ _ _
        refine J_if_ne (tgt := 77) d_Switch_moveData_73 (by decide) ?_ ?_
        · intro c32
          rw [if_neg c32] at H
          refine J_aload d_Switch_moveData_77 rfl ?_
          refine J_aload_n d_Switch_moveData_79 rfl ?_
          obtain ⟨q23, hq23, H⟩ := Option.bind_eq_some_iff.mp H
          refine J_callV (kc := 0) (ks := 0) (kc' := 0) (ks' := 0) (a := a9) (ci := 3) (as := []) (st := [.ref a16]) (mf_Row_firstContent hw) (mv_Switch_134 hw) d_Switch_moveData_80 ln_Row_firstContent (by decide) (by first | exact Nat.le_of_ble_eq_true rfl | (simp only [List.map_cons, List.map_nil, List.sum_cons, List.sum_nil, va_rf_cat]; exact Nat.le_of_ble_eq_true rfl)) rfl ((hG _).1 _ g10 (by decide)).1 ((hG _).1 _ g10 (by decide)).2 (by unfold pic; rw [g10]; rfl) (jcl_at hw rfl) rfl (p_Row_firstContent hw hG hq23) ?_ (fun E h' n' x' e1 => by cases e1.1)
          intro v9 h9 n9 x9 e9
          obtain ⟨e91, e92, e93⟩ := e9
          cases e91
          subst e92
          subst e93
          clear x
          rename Bool => x
          show J _ _ _ _ (_ :: _) _ _ _ _ _ _
          refine J_aload_n d_Switch_moveData_83 rfl ?_
          obtain ⟨q24, hq24, H⟩ := Option.bind_eq_some_iff.mp H
          refine J_callV (kc := 0) (ks := 0) (kc' := 0) (ks' := 0) (a := a9) (ci := 3) (as := []) (st := [.long q23.1, .ref a16]) (mf_Row_firstRest hw) (mv_Switch_138 hw) d_Switch_moveData_84 ln_Row_firstRest (by decide) (by first | exact Nat.le_of_ble_eq_true rfl | (simp only [List.map_cons, List.map_nil, List.sum_cons, List.sum_nil, va_rf_cat]; exact Nat.le_of_ble_eq_true rfl)) rfl ((hG _).1 _ g10 (by decide)).1 ((hG _).1 _ g10 (by decide)).2 (by unfold pic; rw [g10]; rfl) (jcl_at hw rfl) rfl (p_Row_firstRest hw hG hq24) ?_ (fun E h' n' x' e1 => by cases e1.1)
          intro v9 h9 n9 x9 e9
          obtain ⟨e91, e92, e93⟩ := e9
          cases e91
          subst e92
          subst e93
          clear x
          rename Bool => x
          show J _ _ _ _ (_ :: _) _ _ _ _ _ _
          refine J_iconst (v := 0) d_Switch_moveData_87 (by decide) ?_
          obtain ⟨q25, hq25, H⟩ := Option.bind_eq_some_iff.mp H
          refine J_callV (kc := 0) (ks := 0) (kc' := 0) (ks' := 0) (a := a16) (ci := 3) (as := [.long q23.1, .int q24.1, .int (0 : Int32)]) (st := []) (mf_Row_put hw) (mv_Switch_157 hw) d_Switch_moveData_88 ln_Row_put (by decide) (by first | exact Nat.le_of_ble_eq_true rfl | (simp only [List.map_cons, List.map_nil, List.sum_cons, List.sum_nil, va_rf_cat]; exact Nat.le_of_ble_eq_true rfl)) rfl ((hG _).1 _ g17 (by decide)).1 ((hG _).1 _ g17 (by decide)).2 (by unfold pic; rw [g17]; rfl) (jcl_at hw rfl) rfl (p_Row_put hw hG hq25) ?_ (fun E h' n' x' e1 => by cases e1.1)
          intro v9 h9 n9 x9 e9
          obtain ⟨e91, e92, e93⟩ := e9
          cases e91
          subst e92
          subst e93
          clear x
          rename Bool => x
          show J _ _ _ _ [] _ _ _ _ _ _
          refine J_aload_n d_Switch_moveData_91 rfl ?_
          obtain ⟨q26, hq26, H⟩ := Option.bind_eq_some_iff.mp H
          refine J_callV (kc := 0) (ks := 0) (kc' := 0) (ks' := 0) (a := a9) (ci := 3) (as := []) (st := []) (mf_Row_drop hw) (mv_Switch_161 hw) d_Switch_moveData_92 ln_Row_drop (by decide) (by first | exact Nat.le_of_ble_eq_true rfl | (simp only [List.map_cons, List.map_nil, List.sum_cons, List.sum_nil, va_rf_cat]; exact Nat.le_of_ble_eq_true rfl)) rfl ((hG _).1 _ g10 (by decide)).1 ((hG _).1 _ g10 (by decide)).2 (by unfold pic; rw [g10]; rfl) (jcl_at hw rfl) rfl (p_Row_drop hw hG hq26) ?_ (fun E h' n' x' e1 => by cases e1.1)
          intro v9 h9 n9 x9 e9
          obtain ⟨e91, e92, e93⟩ := e9
          cases e91
          subst e92
          subst e93
          clear x
          rename Bool => x
          show J _ _ _ _ [] _ _ _ _ _ _
          refine J_aload_n d_Switch_moveData_95 rfl ?_
          refine F_getR (ci := 9) (k := 2) hG (cf_UnderWay hw) (fl_Switch_231 hw) (by decide) (by decide) rfl d_Switch_moveData_96 g7 ?_
          refine J_iload d_Switch_moveData_99 rfl ?_
          refine J_dup2 d_Switch_moveData_101 rfl (va_rf_cat _) ?_
          obtain ⟨a27, ha27, H⟩ := Option.bind_eq_some_iff.mp H
          rw [j_rf ha27]
          obtain ⟨N28, hN28, H⟩ := Option.bind_eq_some_iff.mp H
          obtain ⟨k29, hk29, H⟩ := Option.bind_eq_some_iff.mp H
          refine F_iald k29 hw hG d_Switch_moveData_102 (gA_some hN28) (ix_some hk29) ?_
          refine J_iconst (v := 1) d_Switch_moveData_103 (by decide) ?_
          refine J_isub d_Switch_moveData_104 ?_
          obtain ⟨N30, hN30, H⟩ := Option.bind_eq_some_iff.mp H
          obtain ⟨k31, hk31, H⟩ := Option.bind_eq_some_iff.mp H
          refine F_iast k31 hw hG d_Switch_moveData_105 (gA_some hN30) (ix_some hk31) ?_
          have H := Option.some.inj H
          subst H
          exact J_vret (st := []) d_Switch_moveData_106 rfl ⟨rfl, rfl, rfl⟩
        · intro c32
          rw [if_pos c32] at H
          refine J.drop [false, false, false, false, false, false, false] rfl ?_
          exact p_Switch_moveData_L76 hw hG  H
    · intro c34
      rw [if_pos c34] at H
      refine J.drop [false, false, false, false, false, false, false] rfl ?_
      exact p_Switch_moveData_L33 hw hG  H
theorem ln_Switch_refuseWrite : (parseMethodDescriptor y_Switch_refuseWrite.desc).map (fun q => q.parameters.length) = some 0 := by decide +kernel
def f_Switch_refuseWrite_L94 (Γ : gm_T)  (φ : ph_T) : Option (Unit × ph_T) :=
  some ((), φ)
set_option maxRecDepth 100000 in
set_option maxHeartbeats 4000000 in
theorem p_Switch_refuseWrite_L94 {w : jw_T} (hw : jok w) {Γ : gm_T} {n : Nat} (hG : gd w Γ n)  {x : Bool} {φ : ph_T} {q : Unit × ph_T} (H : f_Switch_refuseWrite_L94 Γ  φ  = some q) : J w M_Switch_refuseWrite 94 [none, none, none, none, none, none] [] (pic Γ φ) n x 0 0 (fq Γ n (.inl none) q.2) := by
  unfold f_Switch_refuseWrite_L94 at H
  have H := Option.some.inj H
  subst H
  exact J_vret (st := []) d_Switch_refuseWrite_94 rfl ⟨rfl, rfl, rfl⟩
def f_Switch_refuseWrite_L59 (Γ : gm_T)  (φ : ph_T) (x1 : Option Nat) (x2 : Option Nat) (x3 : Option Nat) (x4 : Int32) : Option (Unit × ph_T) :=
  Option.bind x1 fun a1 =>
  @ite _ (Γ a1 = .inr 3) _ (
  Option.bind (f_Row_drop Γ φ a1) fun q3 =>
  if x4 = 0 then
    f_Switch_refuseWrite_L94 Γ  q3.2 
  else
    Option.bind x3 fun a4 =>
    @ite _ (Γ a4 = .inr 3) _ (
    Option.bind (f_Row_firstContent Γ q3.2 a4) fun q6 =>
    Option.bind (f_Burst_idOf Γ q6.2 q6.1) fun q7 =>
    Option.bind (f_Bus_answerRest Γ q7.2 q7.1 (3 : Int32) (0 : Int32)) fun q8 =>
    Option.bind x2 fun a9 =>
    @ite _ (Γ a9 = .inr 3) _ (
    Option.bind (f_Row_put Γ q8.2 a9 (0 : Int64) q8.1 (0 : Int32)) fun q11 =>
    Option.bind (f_Row_drop Γ q11.2 a4) fun q12 =>
    f_Switch_refuseWrite_L94 Γ  q12.2 
    ) none
    ) none
  ) none
set_option maxRecDepth 100000 in
set_option maxHeartbeats 4000000 in
theorem p_Switch_refuseWrite_L59 {w : jw_T} (hw : jok w) {Γ : gm_T} {n : Nat} (hG : gd w Γ n)  {x : Bool} {φ : ph_T} {x1 : Option Nat} {x2 : Option Nat} {x3 : Option Nat} {x4 : Int32} {q : Unit × ph_T} (H : f_Switch_refuseWrite_L59 Γ  φ x1 x2 x3 x4 = some q) : J w M_Switch_refuseWrite 59 [none, some (va_rf x1), some (va_rf x2), some (va_rf x3), some (.int x4), none] [] (pic Γ φ) n x 0 0 (fq Γ n (.inl none) q.2) := by
  unfold f_Switch_refuseWrite_L59 at H
  refine J_aload_nO d_Switch_refuseWrite_59 rfl ?_
  obtain ⟨a1, ha1, H⟩ := Option.bind_eq_some_iff.mp H
  rw [j_rf ha1]
  have g2 : Γ a1 = .inr 3 := by
    apply Classical.byContradiction
    intro q9
    rw [if_neg q9] at H
    cases H
  rw [if_pos g2] at H
  obtain ⟨q3, hq3, H⟩ := Option.bind_eq_some_iff.mp H
  refine J_callV (kc := 0) (ks := 0) (kc' := 0) (ks' := 0) (a := a1) (ci := 3) (as := []) (st := []) (mf_Row_drop hw) (mv_Switch_161 hw) d_Switch_refuseWrite_60 ln_Row_drop (by decide) (by first | exact Nat.le_of_ble_eq_true rfl | (simp only [List.map_cons, List.map_nil, List.sum_cons, List.sum_nil, va_rf_cat]; exact Nat.le_of_ble_eq_true rfl)) rfl ((hG _).1 _ g2 (by decide)).1 ((hG _).1 _ g2 (by decide)).2 (by unfold pic; rw [g2]; rfl) (jcl_at hw rfl) rfl (p_Row_drop hw hG hq3) ?_ (fun E h' n' x' e1 => by cases e1.1)
  intro v9 h9 n9 x9 e9
  obtain ⟨e91, e92, e93⟩ := e9
  cases e91
  subst e92
  subst e93
  clear x
  rename Bool => x
  show J _ _ _ _ [] _ _ _ _ _ _
  refine J_iload d_Switch_refuseWrite_63 rfl ?_
  refine J_if_eq (tgt := 94) d_Switch_refuseWrite_65 (by decide) ?_ ?_
  · intro c13
    rw [if_pos c13] at H
    refine J.drop [false, false, false, false, false, false] rfl ?_
    exact p_Switch_refuseWrite_L94 hw hG  H
  · intro c13
    rw [if_neg c13] at H
    refine J_aload_nO d_Switch_refuseWrite_68 rfl ?_
    obtain ⟨a4, ha4, H⟩ := Option.bind_eq_some_iff.mp H
    rw [j_rf ha4]
    have g5 : Γ a4 = .inr 3 := by
      apply Classical.byContradiction
      intro q9
      rw [if_neg q9] at H
      cases H
    rw [if_pos g5] at H
    obtain ⟨q6, hq6, H⟩ := Option.bind_eq_some_iff.mp H
    refine J_callV (kc := 0) (ks := 0) (kc' := 0) (ks' := 0) (a := a4) (ci := 3) (as := []) (st := []) (mf_Row_firstContent hw) (mv_Switch_134 hw) d_Switch_refuseWrite_69 ln_Row_firstContent (by decide) (by first | exact Nat.le_of_ble_eq_true rfl | (simp only [List.map_cons, List.map_nil, List.sum_cons, List.sum_nil, va_rf_cat]; exact Nat.le_of_ble_eq_true rfl)) rfl ((hG _).1 _ g5 (by decide)).1 ((hG _).1 _ g5 (by decide)).2 (by unfold pic; rw [g5]; rfl) (jcl_at hw rfl) rfl (p_Row_firstContent hw hG hq6) ?_ (fun E h' n' x' e1 => by cases e1.1)
    intro v9 h9 n9 x9 e9
    obtain ⟨e91, e92, e93⟩ := e9
    cases e91
    subst e92
    subst e93
    clear x
    rename Bool => x
    show J _ _ _ _ (_ :: _) _ _ _ _ _ _
    obtain ⟨q7, hq7, H⟩ := Option.bind_eq_some_iff.mp H
    refine J_callS (kc := 0) (ks := 0) (kc' := 0) (ks' := 0) (as := [.long q6.1]) (st := []) (mf_Burst_idOf hw) (ms_Switch_190 hw) d_Switch_refuseWrite_72 ln_Burst_idOf (by decide) (by first | exact Nat.le_of_ble_eq_true rfl | (simp only [List.map_cons, List.map_nil, List.sum_cons, List.sum_nil, va_rf_cat]; exact Nat.le_of_ble_eq_true rfl)) rfl (p_Burst_idOf hw hG hq7) ?_ (fun E h' n' x' e1 => by cases e1.1)
    intro v9 h9 n9 x9 e9
    obtain ⟨e91, e92, e93⟩ := e9
    cases e91
    subst e92
    subst e93
    clear x
    rename Bool => x
    show J _ _ _ _ (_ :: _) _ _ _ _ _ _
    refine J_istore d_Switch_refuseWrite_75 (Nat.le_of_ble_eq_true rfl) ?_
    refine J.ls (ls' := [none, some (.ref a1), some (va_rf x2), some (.ref a4), some (.int x4), some (.int q7.1)]) rfl ?_
    refine J_aload_nO d_Switch_refuseWrite_77 rfl ?_
    refine J_lconst (v := 0) d_Switch_refuseWrite_78 (by decide) ?_
    refine J_iload d_Switch_refuseWrite_79 rfl ?_
    refine J_iconst (v := 3) d_Switch_refuseWrite_81 (by decide) ?_
    refine J_iconst (v := 0) d_Switch_refuseWrite_82 (by decide) ?_
    obtain ⟨q8, hq8, H⟩ := Option.bind_eq_some_iff.mp H
    refine J_callS (kc := 0) (ks := 0) (kc' := 0) (ks' := 0) (as := [.int q7.1, .int (3 : Int32), .int (0 : Int32)]) (st := [.long (0 : Int64), va_rf x2]) (mf_Bus_answerRest hw) (ms_Switch_240 hw) d_Switch_refuseWrite_83 ln_Bus_answerRest (by decide) (by first | exact Nat.le_of_ble_eq_true rfl | (simp only [List.map_cons, List.map_nil, List.sum_cons, List.sum_nil, va_rf_cat]; exact Nat.le_of_ble_eq_true rfl)) rfl (p_Bus_answerRest hw hG hq8) ?_ (fun E h' n' x' e1 => by cases e1.1)
    intro v9 h9 n9 x9 e9
    obtain ⟨e91, e92, e93⟩ := e9
    cases e91
    subst e92
    subst e93
    clear x
    rename Bool => x
    show J _ _ _ _ (_ :: _) _ _ _ _ _ _
    refine J_iconst (v := 0) d_Switch_refuseWrite_86 (by decide) ?_
    obtain ⟨a9, ha9, H⟩ := Option.bind_eq_some_iff.mp H
    rw [j_rf ha9]
    have g10 : Γ a9 = .inr 3 := by
      apply Classical.byContradiction
      intro q9
      rw [if_neg q9] at H
      cases H
    rw [if_pos g10] at H
    obtain ⟨q11, hq11, H⟩ := Option.bind_eq_some_iff.mp H
    refine J_callV (kc := 0) (ks := 0) (kc' := 0) (ks' := 0) (a := a9) (ci := 3) (as := [.long (0 : Int64), .int q8.1, .int (0 : Int32)]) (st := []) (mf_Row_put hw) (mv_Switch_157 hw) d_Switch_refuseWrite_87 ln_Row_put (by decide) (by first | exact Nat.le_of_ble_eq_true rfl | (simp only [List.map_cons, List.map_nil, List.sum_cons, List.sum_nil, va_rf_cat]; exact Nat.le_of_ble_eq_true rfl)) rfl ((hG _).1 _ g10 (by decide)).1 ((hG _).1 _ g10 (by decide)).2 (by unfold pic; rw [g10]; rfl) (jcl_at hw rfl) rfl (p_Row_put hw hG hq11) ?_ (fun E h' n' x' e1 => by cases e1.1)
    intro v9 h9 n9 x9 e9
    obtain ⟨e91, e92, e93⟩ := e9
    cases e91
    subst e92
    subst e93
    clear x
    rename Bool => x
    show J _ _ _ _ [] _ _ _ _ _ _
    refine J_aload_n d_Switch_refuseWrite_90 rfl ?_
    obtain ⟨q12, hq12, H⟩ := Option.bind_eq_some_iff.mp H
    refine J_callV (kc := 0) (ks := 0) (kc' := 0) (ks' := 0) (a := a4) (ci := 3) (as := []) (st := []) (mf_Row_drop hw) (mv_Switch_161 hw) d_Switch_refuseWrite_91 ln_Row_drop (by decide) (by first | exact Nat.le_of_ble_eq_true rfl | (simp only [List.map_cons, List.map_nil, List.sum_cons, List.sum_nil, va_rf_cat]; exact Nat.le_of_ble_eq_true rfl)) rfl ((hG _).1 _ g5 (by decide)).1 ((hG _).1 _ g5 (by decide)).2 (by unfold pic; rw [g5]; rfl) (jcl_at hw rfl) rfl (p_Row_drop hw hG hq12) ?_ (fun E h' n' x' e1 => by cases e1.1)
    intro v9 h9 n9 x9 e9
    obtain ⟨e91, e92, e93⟩ := e9
    cases e91
    subst e92
    subst e93
    clear x
    rename Bool => x
    show J _ _ _ _ [] _ _ _ _ _ _
    refine J.drop [false, false, false, false, false, false] rfl ?_
    exact p_Switch_refuseWrite_L94 hw hG  H
def f_Switch_refuseWrite_L58 (Γ : gm_T)  (φ : ph_T) : Option (Unit × ph_T) :=
  some ((), φ)
set_option maxRecDepth 100000 in
set_option maxHeartbeats 4000000 in
theorem p_Switch_refuseWrite_L58 {w : jw_T} (hw : jok w) {Γ : gm_T} {n : Nat} (hG : gd w Γ n)  {x : Bool} {φ : ph_T} {q : Unit × ph_T} (H : f_Switch_refuseWrite_L58 Γ  φ  = some q) : J w M_Switch_refuseWrite 58 [none, none, none, none, none, none] [] (pic Γ φ) n x 0 0 (fq Γ n (.inl none) q.2) := by
  unfold f_Switch_refuseWrite_L58 at H
  have H := Option.some.inj H
  subst H
  exact J_vret (st := []) d_Switch_refuseWrite_58 rfl ⟨rfl, rfl, rfl⟩
def f_Switch_refuseWrite (Γ : gm_T) (φ : ph_T) (this : Nat) : Option (Unit × ph_T) :=
  @ite _ (Γ this = .inr 10) _ (
  Option.bind (f_Switch_ofTarget Γ φ this (φ.1 this 1) (1 : Int32)) fun q15 =>
  Option.bind (f_Switch_ofTarget Γ q15.2 this (q15.2.1 this 1) (2 : Int32)) fun q16 =>
  Option.bind (f_Switch_ofTarget Γ q16.2 this (q16.2.1 this 1) (0 : Int32)) fun q17 =>
  Option.bind q15.1 fun a18 =>
  @ite _ (Γ a18 = .inr 3) _ (
  Option.bind (f_Row_firstRest Γ q17.2 a18) fun q20 =>
  Option.bind (f_Bus_restLast Γ q20.2 q20.1) fun q21 =>
  Option.bind (f_Row_holds Γ q21.2 a18) fun q22 =>
  if q22.1 = 0 then
    f_Switch_refuseWrite_L58 Γ  q22.2 
  else
    if q21.1 = 0 then
      f_Switch_refuseWrite_L59 Γ  q22.2 (some a18) q16.1 q17.1 q21.1
    else
      Option.bind q16.1 fun a23 =>
      @ite _ (Γ a23 = .inr 3) _ (
      Option.bind (f_Row_hasRoom Γ q22.2 a23) fun q25 =>
      if q25.1 = 0 then
        f_Switch_refuseWrite_L58 Γ  q25.2 
      else
        f_Switch_refuseWrite_L59 Γ  q25.2 (some a18) (some a23) q17.1 q21.1
      ) none
  ) none
  ) none
set_option maxRecDepth 100000 in
set_option maxHeartbeats 4000000 in
theorem p_Switch_refuseWrite {w : jw_T} (hw : jok w) {Γ : gm_T} {n : Nat} (hG : gd w Γ n) {x : Bool} {φ : ph_T} {this : Nat} {q : Unit × ph_T} (H : f_Switch_refuseWrite Γ φ this = some q) : jc w M_Switch_refuseWrite [.ref this] (pic Γ φ) n x 0 0 (fq Γ n (.inl none) q.2) := by
  refine jc.of (by simp only [jent_r, jent_i, jent_l, jent_a, jent_0]; exact Nat.le_of_ble_eq_true rfl) ?_
  have hls : jents [.ref this] (jm_nL M_Switch_refuseWrite) = [some (.ref this), none, none, none, none, none] := by simp only [jents, jent_r, jent_i, jent_l, jent_a, jent_0]; rfl
  rw [hls]
  clear hls
  unfold f_Switch_refuseWrite at H
  refine J_aload_n d_Switch_refuseWrite_0 rfl ?_
  refine J_aload_n d_Switch_refuseWrite_1 rfl ?_
  have g14 : Γ this = .inr 10 := by
    apply Classical.byContradiction
    intro q9
    rw [if_neg q9] at H
    cases H
  rw [if_pos g14] at H
  refine F_getI (ci := 10) (k := 1) hG (cf_Switch hw) (fl_Switch_19 hw) (by decide) (by decide) rfl d_Switch_refuseWrite_2 g14 ?_
  refine J_iconst (v := 1) d_Switch_refuseWrite_5 (by decide) ?_
  obtain ⟨q15, hq15, H⟩ := Option.bind_eq_some_iff.mp H
  refine J_callV (kc := 0) (ks := 0) (kc' := 0) (ks' := 0) (a := this) (ci := 10) (as := [.int (φ.1 this 1), .int (1 : Int32)]) (st := []) (mf_Switch_ofTarget hw) (mv_Switch_119 hw) d_Switch_refuseWrite_6 ln_Switch_ofTarget (by decide) (by first | exact Nat.le_of_ble_eq_true rfl | (simp only [List.map_cons, List.map_nil, List.sum_cons, List.sum_nil, va_rf_cat]; exact Nat.le_of_ble_eq_true rfl)) rfl ((hG _).1 _ g14 (by decide)).1 ((hG _).1 _ g14 (by decide)).2 (by unfold pic; rw [g14]; rfl) (jcl_at hw rfl) rfl (p_Switch_ofTarget hw hG hq15) ?_ (fun E h' n' x' e1 => by cases e1.1)
  intro v9 h9 n9 x9 e9
  obtain ⟨e91, e92, e93⟩ := e9
  cases e91
  subst e92
  subst e93
  clear x
  rename Bool => x
  show J _ _ _ _ (_ :: _) _ _ _ _ _ _
  refine J_astore_nO d_Switch_refuseWrite_9 (Nat.le_of_ble_eq_true rfl) ?_
  refine J.ls (ls' := [some (.ref this), some (va_rf q15.1), none, none, none, none]) rfl ?_
  refine J_aload_n d_Switch_refuseWrite_10 rfl ?_
  refine J_aload_n d_Switch_refuseWrite_11 rfl ?_
  refine F_getI (ci := 10) (k := 1) hG (cf_Switch hw) (fl_Switch_19 hw) (by decide) (by decide) rfl d_Switch_refuseWrite_12 g14 ?_
  refine J_iconst (v := 2) d_Switch_refuseWrite_15 (by decide) ?_
  obtain ⟨q16, hq16, H⟩ := Option.bind_eq_some_iff.mp H
  refine J_callV (kc := 0) (ks := 0) (kc' := 0) (ks' := 0) (a := this) (ci := 10) (as := [.int (q15.2.1 this 1), .int (2 : Int32)]) (st := []) (mf_Switch_ofTarget hw) (mv_Switch_119 hw) d_Switch_refuseWrite_16 ln_Switch_ofTarget (by decide) (by first | exact Nat.le_of_ble_eq_true rfl | (simp only [List.map_cons, List.map_nil, List.sum_cons, List.sum_nil, va_rf_cat]; exact Nat.le_of_ble_eq_true rfl)) rfl ((hG _).1 _ g14 (by decide)).1 ((hG _).1 _ g14 (by decide)).2 (by unfold pic; rw [g14]; rfl) (jcl_at hw rfl) rfl (p_Switch_ofTarget hw hG hq16) ?_ (fun E h' n' x' e1 => by cases e1.1)
  intro v9 h9 n9 x9 e9
  obtain ⟨e91, e92, e93⟩ := e9
  cases e91
  subst e92
  subst e93
  clear x
  rename Bool => x
  show J _ _ _ _ (_ :: _) _ _ _ _ _ _
  refine J_astore_nO d_Switch_refuseWrite_19 (Nat.le_of_ble_eq_true rfl) ?_
  refine J.ls (ls' := [some (.ref this), some (va_rf q15.1), some (va_rf q16.1), none, none, none]) (jst1_o (i := 1) (r := q15.1) rfl) ?_
  refine J_aload_n d_Switch_refuseWrite_20 rfl ?_
  refine J_aload_n d_Switch_refuseWrite_21 rfl ?_
  refine F_getI (ci := 10) (k := 1) hG (cf_Switch hw) (fl_Switch_19 hw) (by decide) (by decide) rfl d_Switch_refuseWrite_22 g14 ?_
  refine J_iconst (v := 0) d_Switch_refuseWrite_25 (by decide) ?_
  obtain ⟨q17, hq17, H⟩ := Option.bind_eq_some_iff.mp H
  refine J_callV (kc := 0) (ks := 0) (kc' := 0) (ks' := 0) (a := this) (ci := 10) (as := [.int (q16.2.1 this 1), .int (0 : Int32)]) (st := []) (mf_Switch_ofTarget hw) (mv_Switch_119 hw) d_Switch_refuseWrite_26 ln_Switch_ofTarget (by decide) (by first | exact Nat.le_of_ble_eq_true rfl | (simp only [List.map_cons, List.map_nil, List.sum_cons, List.sum_nil, va_rf_cat]; exact Nat.le_of_ble_eq_true rfl)) rfl ((hG _).1 _ g14 (by decide)).1 ((hG _).1 _ g14 (by decide)).2 (by unfold pic; rw [g14]; rfl) (jcl_at hw rfl) rfl (p_Switch_ofTarget hw hG hq17) ?_ (fun E h' n' x' e1 => by cases e1.1)
  intro v9 h9 n9 x9 e9
  obtain ⟨e91, e92, e93⟩ := e9
  cases e91
  subst e92
  subst e93
  clear x
  rename Bool => x
  show J _ _ _ _ (_ :: _) _ _ _ _ _ _
  refine J_astore_nO d_Switch_refuseWrite_29 (Nat.le_of_ble_eq_true rfl) ?_
  refine J.ls (ls' := [some (.ref this), some (va_rf q15.1), some (va_rf q16.1), some (va_rf q17.1), none, none]) (jst1_o (i := 2) (r := q16.1) rfl) ?_
  refine J_aload_nO d_Switch_refuseWrite_30 rfl ?_
  obtain ⟨a18, ha18, H⟩ := Option.bind_eq_some_iff.mp H
  rw [j_rf ha18]
  have g19 : Γ a18 = .inr 3 := by
    apply Classical.byContradiction
    intro q9
    rw [if_neg q9] at H
    cases H
  rw [if_pos g19] at H
  obtain ⟨q20, hq20, H⟩ := Option.bind_eq_some_iff.mp H
  refine J_callV (kc := 0) (ks := 0) (kc' := 0) (ks' := 0) (a := a18) (ci := 3) (as := []) (st := []) (mf_Row_firstRest hw) (mv_Switch_138 hw) d_Switch_refuseWrite_31 ln_Row_firstRest (by decide) (by first | exact Nat.le_of_ble_eq_true rfl | (simp only [List.map_cons, List.map_nil, List.sum_cons, List.sum_nil, va_rf_cat]; exact Nat.le_of_ble_eq_true rfl)) rfl ((hG _).1 _ g19 (by decide)).1 ((hG _).1 _ g19 (by decide)).2 (by unfold pic; rw [g19]; rfl) (jcl_at hw rfl) rfl (p_Row_firstRest hw hG hq20) ?_ (fun E h' n' x' e1 => by cases e1.1)
  intro v9 h9 n9 x9 e9
  obtain ⟨e91, e92, e93⟩ := e9
  cases e91
  subst e92
  subst e93
  clear x
  rename Bool => x
  show J _ _ _ _ (_ :: _) _ _ _ _ _ _
  obtain ⟨q21, hq21, H⟩ := Option.bind_eq_some_iff.mp H
  refine J_callS (kc := 0) (ks := 0) (kc' := 0) (ks' := 0) (as := [.int q20.1]) (st := []) (mf_Bus_restLast hw) (ms_Switch_237 hw) d_Switch_refuseWrite_34 ln_Bus_restLast (by decide) (by first | exact Nat.le_of_ble_eq_true rfl | (simp only [List.map_cons, List.map_nil, List.sum_cons, List.sum_nil, va_rf_cat]; exact Nat.le_of_ble_eq_true rfl)) rfl (p_Bus_restLast hw hG hq21) ?_ (fun E h' n' x' e1 => by cases e1.1)
  intro v9 h9 n9 x9 e9
  obtain ⟨e91, e92, e93⟩ := e9
  cases e91
  subst e92
  subst e93
  clear x
  rename Bool => x
  show J _ _ _ _ (_ :: _) _ _ _ _ _ _
  refine J_istore d_Switch_refuseWrite_37 (Nat.le_of_ble_eq_true rfl) ?_
  refine J.ls (ls' := [some (.ref this), some (.ref a18), some (va_rf q16.1), some (va_rf q17.1), some (.int q21.1), none]) (jst1_o (i := 3) (r := q17.1) rfl) ?_
  refine J_aload_n d_Switch_refuseWrite_39 rfl ?_
  obtain ⟨q22, hq22, H⟩ := Option.bind_eq_some_iff.mp H
  refine J_callV (kc := 0) (ks := 0) (kc' := 0) (ks' := 0) (a := a18) (ci := 3) (as := []) (st := []) (mf_Row_holds hw) (mv_Switch_131 hw) d_Switch_refuseWrite_40 ln_Row_holds (by decide) (by first | exact Nat.le_of_ble_eq_true rfl | (simp only [List.map_cons, List.map_nil, List.sum_cons, List.sum_nil, va_rf_cat]; exact Nat.le_of_ble_eq_true rfl)) rfl ((hG _).1 _ g19 (by decide)).1 ((hG _).1 _ g19 (by decide)).2 (by unfold pic; rw [g19]; rfl) (jcl_at hw rfl) rfl (p_Row_holds hw hG hq22) ?_ (fun E h' n' x' e1 => by cases e1.1)
  intro v9 h9 n9 x9 e9
  obtain ⟨e91, e92, e93⟩ := e9
  cases e91
  subst e92
  subst e93
  clear x
  rename Bool => x
  show J _ _ _ _ (_ :: _) _ _ _ _ _ _
  refine J_if_eq (tgt := 58) d_Switch_refuseWrite_43 (by decide) ?_ ?_
  · intro c28
    rw [if_pos c28] at H
    refine J.drop [false, false, false, false, false, false] rfl ?_
    exact p_Switch_refuseWrite_L58 hw hG  H
  · intro c28
    rw [if_neg c28] at H
    refine J_iload d_Switch_refuseWrite_46 rfl ?_
    refine J_if_eq (tgt := 59) d_Switch_refuseWrite_48 (by decide) ?_ ?_
    · intro c27
      rw [if_pos c27] at H
      refine J.drop [false, true, true, true, true, false] rfl ?_
      exact p_Switch_refuseWrite_L59 hw hG  H
    · intro c27
      rw [if_neg c27] at H
      refine J_aload_nO d_Switch_refuseWrite_51 rfl ?_
      obtain ⟨a23, ha23, H⟩ := Option.bind_eq_some_iff.mp H
      rw [j_rf ha23]
      have g24 : Γ a23 = .inr 3 := by
        apply Classical.byContradiction
        intro q9
        rw [if_neg q9] at H
        cases H
      rw [if_pos g24] at H
      obtain ⟨q25, hq25, H⟩ := Option.bind_eq_some_iff.mp H
      refine J_callV (kc := 0) (ks := 0) (kc' := 0) (ks' := 0) (a := a23) (ci := 3) (as := []) (st := []) (mf_Row_hasRoom hw) (mv_Switch_127 hw) d_Switch_refuseWrite_52 ln_Row_hasRoom (by decide) (by first | exact Nat.le_of_ble_eq_true rfl | (simp only [List.map_cons, List.map_nil, List.sum_cons, List.sum_nil, va_rf_cat]; exact Nat.le_of_ble_eq_true rfl)) rfl ((hG _).1 _ g24 (by decide)).1 ((hG _).1 _ g24 (by decide)).2 (by unfold pic; rw [g24]; rfl) (jcl_at hw rfl) rfl (p_Row_hasRoom hw hG hq25) ?_ (fun E h' n' x' e1 => by cases e1.1)
      intro v9 h9 n9 x9 e9
      obtain ⟨e91, e92, e93⟩ := e9
      cases e91
      subst e92
      subst e93
      clear x
      rename Bool => x
      show J _ _ _ _ (_ :: _) _ _ _ _ _ _
      refine J_if_ne (tgt := 59) d_Switch_refuseWrite_55 (by decide) ?_ ?_
      · intro c26
        rw [if_neg c26] at H
        refine J.drop [false, true, true, true, true, false] rfl ?_
        exact p_Switch_refuseWrite_L59 hw hG  H
      · intro c26
        rw [if_pos c26] at H
        refine J.drop [false, false, false, false, false, false] rfl ?_
        exact p_Switch_refuseWrite_L58 hw hG  H
