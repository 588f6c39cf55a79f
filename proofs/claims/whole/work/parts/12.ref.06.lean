theorem ln_Ref_unfinished : (parseMethodDescriptor y_Ref_unfinished.desc).map (fun q => q.parameters.length) = some 1 := by decide +kernel
def f_Ref_unfinished_L46 (Γ : gm_T) (Kc2 : ph_T → Nat → Int32 → Int32 → Option (Int32 × ph_T)) (φ : ph_T) (x0 : Nat) (x1 : Int32) (x2 : Int32) : Option (Int32 × ph_T) :=
  Kc2 φ x0 x1 (x2 + (1 : Int32))
set_option maxRecDepth 100000 in
set_option maxHeartbeats 4000000 in
theorem p_Ref_unfinished_L46 {w : jw_T} (hw : jok w) {Γ : gm_T} {n : Nat} (hG : gd w Γ n) {Kc2 : ph_T → Nat → Int32 → Int32 → Option (Int32 × ph_T)} (hKc2 : ∀ {x : Bool} {φ : ph_T} {x0 : Nat} {x1 : Int32} {x2 : Int32} {q : Int32 × ph_T}, Kc2 φ x0 x1 x2 = some q → J w M_Ref_unfinished 2 [some (.ref x0), some (.int x1), some (.int x2)] [] (pic Γ φ) n x 0 0 (fq Γ n (.inl (some (.int q.1))) q.2)) {x : Bool} {φ : ph_T} {x0 : Nat} {x1 : Int32} {x2 : Int32} {q : Int32 × ph_T} (H : f_Ref_unfinished_L46 Γ Kc2 φ x0 x1 x2 = some q) : J w M_Ref_unfinished 46 [some (.ref x0), some (.int x1), some (.int x2)] [] (pic Γ φ) n x 0 0 (fq Γ n (.inl (some (.int q.1))) q.2) := by
  unfold f_Ref_unfinished_L46 at H
  refine J_iinc (v := x2 + 1) d_Ref_unfinished_46 rfl (by rw [show Int32.ofInt 1 = (1 : Int32) from by decide]) ?_
  refine J.ls (ls' := [some (.ref x0), some (.int x1), some (.int (x2 + (1 : Int32)))]) rfl ?_
  refine J_goto (tgt := 2) d_Ref_unfinished_49 (by decide) ?_
  refine J.drop [true, true, true] rfl ?_
  exact hKc2 H
def f_Ref_unfinished_L2 (Γ : gm_T)  : Nat → ph_T → Nat → Int32 → Int32 → Option (Int32 × ph_T)
  | 0, _, _, _, _ => none
  | fu + 1, φ, x0, x1, x2 =>
    @ite _ (Γ x0 = .inr 12) _ (
    if (φ.1 x0 15) ≤ x2 then
      some ((-1 : Int32), φ)
    else
      Option.bind (φ.2.2 x0 16) fun a2 =>
      Option.bind (gA Γ a2 0) fun N3 =>
      Option.bind (ix x2 N3) fun k4 =>
      if (φ.1 a2 k4) = x1 then
        Option.bind (φ.2.2 x0 20) fun a5 =>
        Option.bind (gA Γ a5 2) fun N6 =>
        Option.bind (ix x2 N6) fun k7 =>
        if (φ.1 a5 k7) = 0 then
          f_Ref_unfinished_L46 Γ (f_Ref_unfinished_L2 Γ  fu) φ x0 x1 x2
        else
          Option.bind (φ.2.2 x0 30) fun a8 =>
          Option.bind (gA Γ a8 0) fun N9 =>
          Option.bind (ix x2 N9) fun k10 =>
          Option.bind (φ.2.2 x0 17) fun a11 =>
          Option.bind (gA Γ a11 0) fun N12 =>
          Option.bind (ix x2 N12) fun k13 =>
          if (φ.1 a11 k13) ≤ (φ.1 a8 k10) then
            f_Ref_unfinished_L46 Γ (f_Ref_unfinished_L2 Γ  fu) φ x0 x1 x2
          else
            some (x2, φ)
      else
        f_Ref_unfinished_L46 Γ (f_Ref_unfinished_L2 Γ  fu) φ x0 x1 x2
    ) none
set_option maxRecDepth 100000 in
set_option maxHeartbeats 4000000 in
theorem p_Ref_unfinished_L2 {w : jw_T} (hw : jok w) {Γ : gm_T} {n : Nat} (hG : gd w Γ n)  : ∀ (fu : Nat) {x : Bool} {φ : ph_T} {x0 : Nat} {x1 : Int32} {x2 : Int32} {q : Int32 × ph_T}, f_Ref_unfinished_L2 Γ  fu φ x0 x1 x2 = some q → J w M_Ref_unfinished 2 [some (.ref x0), some (.int x1), some (.int x2)] [] (pic Γ φ) n x 0 0 (fq Γ n (.inl (some (.int q.1))) q.2) := by
  intro fu
  induction fu with
  | zero =>
    intro x φ x0 x1 x2 q H
    cases H
  | succ fu ih =>
    intro x φ x0 x1 x2 q H
    unfold f_Ref_unfinished_L2 at H
    refine J_iload_n d_Ref_unfinished_2 rfl ?_
    refine J_aload_n d_Ref_unfinished_3 rfl ?_
    have g1 : Γ x0 = .inr 12 := by
      apply Classical.byContradiction
      intro q9
      rw [if_neg q9] at H
      cases H
    rw [if_pos g1] at H
    refine F_getI (ci := 12) (k := 15) hG (cf_Ref hw) (fl_Ref_337 hw) (by decide) (by decide) rfl d_Ref_unfinished_4 g1 ?_
    refine J_icmp_ge (tgt := 52) d_Ref_unfinished_7 (by decide) ?_ ?_
    · intro c17
      rw [if_pos c17] at H
      refine J_iconst (v := -1) d_Ref_unfinished_52 (by decide) ?_
      have H := Option.some.inj H
      subst H
      exact J_iret (st := []) d_Ref_unfinished_53 rfl rfl ⟨rfl, rfl, rfl⟩
    · intro c17
      rw [if_neg c17] at H
      refine J_aload_n d_Ref_unfinished_10 rfl ?_
      refine F_getR (ci := 12) (k := 16) hG (cf_Ref hw) (fl_Ref_36 hw) (by decide) (by decide) rfl d_Ref_unfinished_11 g1 ?_
      refine J_iload_n d_Ref_unfinished_14 rfl ?_
      obtain ⟨a2, ha2, H⟩ := Option.bind_eq_some_iff.mp H
      rw [j_rf ha2]
      obtain ⟨N3, hN3, H⟩ := Option.bind_eq_some_iff.mp H
      obtain ⟨k4, hk4, H⟩ := Option.bind_eq_some_iff.mp H
      refine F_iald k4 hw hG d_Ref_unfinished_15 (gA_some hN3) (ix_some hk4) ?_
      refine J_iload_n d_Ref_unfinished_16 rfl ?_
      refine J_icmp_ne (tgt := 46) d_Ref_unfinished_17 (by decide) ?_ ?_
      · intro c16
        rw [if_neg c16] at H
        refine J.drop [true, true, true] rfl ?_
        exact p_Ref_unfinished_L46 hw hG ih H
      · intro c16
        rw [if_pos c16] at H
        refine J_aload_n d_Ref_unfinished_20 rfl ?_
        refine F_getR (ci := 12) (k := 20) hG (cf_Ref hw) (fl_Ref_48 hw) (by decide) (by decide) rfl d_Ref_unfinished_21 g1 ?_
        refine J_iload_n d_Ref_unfinished_24 rfl ?_
        obtain ⟨a5, ha5, H⟩ := Option.bind_eq_some_iff.mp H
        rw [j_rf ha5]
        obtain ⟨N6, hN6, H⟩ := Option.bind_eq_some_iff.mp H
        obtain ⟨k7, hk7, H⟩ := Option.bind_eq_some_iff.mp H
        refine F_zald k7 hw hG d_Ref_unfinished_25 (gA_some hN6) (ix_some hk7) ?_
        refine J_if_eq (tgt := 46) d_Ref_unfinished_26 (by decide) ?_ ?_
        · intro c15
          rw [if_pos c15] at H
          refine J.drop [true, true, true] rfl ?_
          exact p_Ref_unfinished_L46 hw hG ih H
        · intro c15
          rw [if_neg c15] at H
          refine J_aload_n d_Ref_unfinished_29 rfl ?_
          refine F_getR (ci := 12) (k := 30) hG (cf_Ref hw) (fl_Ref_79 hw) (by decide) (by decide) rfl d_Ref_unfinished_30 g1 ?_
          refine J_iload_n d_Ref_unfinished_33 rfl ?_
          obtain ⟨a8, ha8, H⟩ := Option.bind_eq_some_iff.mp H
          rw [j_rf ha8]
          obtain ⟨N9, hN9, H⟩ := Option.bind_eq_some_iff.mp H
          obtain ⟨k10, hk10, H⟩ := Option.bind_eq_some_iff.mp H
          refine F_iald k10 hw hG d_Ref_unfinished_34 (gA_some hN9) (ix_some hk10) ?_
          refine J_aload_n d_Ref_unfinished_35 rfl ?_
          refine F_getR (ci := 12) (k := 17) hG (cf_Ref hw) (fl_Ref_39 hw) (by decide) (by decide) rfl d_Ref_unfinished_36 g1 ?_
          refine J_iload_n d_Ref_unfinished_39 rfl ?_
          obtain ⟨a11, ha11, H⟩ := Option.bind_eq_some_iff.mp H
          rw [j_rf ha11]
          obtain ⟨N12, hN12, H⟩ := Option.bind_eq_some_iff.mp H
          obtain ⟨k13, hk13, H⟩ := Option.bind_eq_some_iff.mp H
          refine F_iald k13 hw hG d_Ref_unfinished_40 (gA_some hN12) (ix_some hk13) ?_
          refine J_icmp_ge (tgt := 46) d_Ref_unfinished_41 (by decide) ?_ ?_
          · intro c14
            rw [if_pos c14] at H
            refine J.drop [true, true, true] rfl ?_
            exact p_Ref_unfinished_L46 hw hG ih H
          · intro c14
            rw [if_neg c14] at H
            refine J_iload_n d_Ref_unfinished_44 rfl ?_
            have H := Option.some.inj H
            subst H
            exact J_iret (st := []) d_Ref_unfinished_45 rfl rfl ⟨rfl, rfl, rfl⟩
def f_Ref_unfinished (Γ : gm_T) (φ : ph_T) (this : Nat) (p0 : Int32) : Option (Int32 × ph_T) :=
  f_Ref_unfinished_L2 Γ  jF φ this p0 (0 : Int32)
set_option maxRecDepth 100000 in
set_option maxHeartbeats 4000000 in
theorem p_Ref_unfinished {w : jw_T} (hw : jok w) {Γ : gm_T} {n : Nat} (hG : gd w Γ n) {x : Bool} {φ : ph_T} {this : Nat} {p0 : Int32} {q : Int32 × ph_T} (H : f_Ref_unfinished Γ φ this p0 = some q) : jc w M_Ref_unfinished [.ref this, .int p0] (pic Γ φ) n x 0 0 (fq Γ n (.inl (some (.int q.1))) q.2) := by
  refine jc.of (by simp only [jent_r, jent_i, jent_l, jent_a, jent_0]; exact Nat.le_of_ble_eq_true rfl) ?_
  have hls : jents [.ref this, .int p0] (jm_nL M_Ref_unfinished) = [some (.ref this), some (.int p0), none] := by simp only [jents, jent_r, jent_i, jent_l, jent_a, jent_0]; rfl
  rw [hls]
  clear hls
  unfold f_Ref_unfinished at H
  refine J_iconst (v := 0) d_Ref_unfinished_0 (by decide) ?_
  refine J_istore_n d_Ref_unfinished_1 (Nat.le_of_ble_eq_true rfl) ?_
  refine J.ls (ls' := [some (.ref this), some (.int p0), some (.int (0 : Int32))]) rfl ?_
  refine J.drop [true, true, true] rfl ?_
  exact p_Ref_unfinished_L2 hw hG  _ H
theorem ln_Ref_beatAt : (parseMethodDescriptor y_Ref_beatAt.desc).map (fun q => q.parameters.length) = some 2 := by decide +kernel
def f_Ref_beatAt_L88 (Γ : gm_T)  (φ : ph_T) (y0 : Int32) : Option (Int32 × ph_T) :=
  some (y0, φ)
set_option maxRecDepth 100000 in
set_option maxHeartbeats 4000000 in
theorem p_Ref_beatAt_L88 {w : jw_T} (hw : jok w) {Γ : gm_T} {n : Nat} (hG : gd w Γ n)  {x : Bool} {φ : ph_T} {y0 : Int32} {q : Int32 × ph_T} (H : f_Ref_beatAt_L88 Γ  φ y0 = some q) : J w M_Ref_beatAt 88 [none, none, none, none, none, none, none, none] [.int y0] (pic Γ φ) n x 0 0 (fq Γ n (.inl (some (.int q.1))) q.2) := by
  unfold f_Ref_beatAt_L88 at H
  have H := Option.some.inj H
  subst H
  exact J_iret (st := []) d_Ref_beatAt_88 rfl rfl ⟨rfl, rfl, rfl⟩
def f_Ref_beatAt_L53 (Γ : gm_T)  (φ : ph_T) (x2 : Int32) (x3 : Int32) (x4 : Int32) (x5 : Int32) (x6 : Int32) (x7 : Int32) : Option (Int32 × ph_T) :=
  if x6 = (1 : Int32) then
    @ite _ (x4 = 0) _ none (
    f_Ref_beatAt_L88 Γ  φ ((x3 - (x3 - x3 / x4 * x4)) + (x2 * x4))
    )
  else
    @ite _ (x5 = 0) _ none (
    f_Ref_beatAt_L88 Γ  φ (x7 + (((x3 - x7) + (x2 * x4)) - ((x3 - x7) + (x2 * x4)) / x5 * x5))
    )
set_option maxRecDepth 100000 in
set_option maxHeartbeats 4000000 in
theorem p_Ref_beatAt_L53 {w : jw_T} (hw : jok w) {Γ : gm_T} {n : Nat} (hG : gd w Γ n)  {x : Bool} {φ : ph_T} {x2 : Int32} {x3 : Int32} {x4 : Int32} {x5 : Int32} {x6 : Int32} {x7 : Int32} {q : Int32 × ph_T} (H : f_Ref_beatAt_L53 Γ  φ x2 x3 x4 x5 x6 x7 = some q) : J w M_Ref_beatAt 53 [none, none, some (.int x2), some (.int x3), some (.int x4), some (.int x5), some (.int x6), some (.int x7)] [] (pic Γ φ) n x 0 0 (fq Γ n (.inl (some (.int q.1))) q.2) := by
  unfold f_Ref_beatAt_L53 at H
  refine J_iload d_Ref_beatAt_53 rfl ?_
  refine J_iconst (v := 1) d_Ref_beatAt_55 (by decide) ?_
  refine J_icmp_ne (tgt := 73) d_Ref_beatAt_56 (by decide) ?_ ?_
  · intro c6
    rw [if_neg c6] at H
    refine J_iload d_Ref_beatAt_73 rfl ?_
    refine J_iload_n d_Ref_beatAt_75 rfl ?_
    refine J_iload d_Ref_beatAt_76 rfl ?_
    refine J_isub d_Ref_beatAt_78 ?_
    refine J_iload_n d_Ref_beatAt_79 rfl ?_
    refine J_iload d_Ref_beatAt_80 rfl ?_
    refine J_imul d_Ref_beatAt_82 ?_
    refine J_iadd d_Ref_beatAt_83 ?_
    refine J_iload d_Ref_beatAt_84 rfl ?_
    have h4 : ¬ x5 = 0 := by
      intro q9
      rw [if_pos q9] at H
      cases H
    rw [if_neg h4] at H
    refine J_irem d_Ref_beatAt_86 h4 ?_
    refine J_iadd d_Ref_beatAt_87 ?_
    refine J.drop [false, false, false, false, false, false, false, false] rfl ?_
    exact p_Ref_beatAt_L88 hw hG  H
  · intro c6
    rw [if_pos c6] at H
    refine J_iload_n d_Ref_beatAt_59 rfl ?_
    refine J_iload_n d_Ref_beatAt_60 rfl ?_
    refine J_iload d_Ref_beatAt_61 rfl ?_
    have h5 : ¬ x4 = 0 := by
      intro q9
      rw [if_pos q9] at H
      cases H
    rw [if_neg h5] at H
    refine J_irem d_Ref_beatAt_63 h5 ?_
    refine J_isub d_Ref_beatAt_64 ?_
    refine J_iload_n d_Ref_beatAt_65 rfl ?_
    refine J_iload d_Ref_beatAt_66 rfl ?_
    refine J_imul d_Ref_beatAt_68 ?_
    refine J_iadd d_Ref_beatAt_69 ?_
    refine J_goto (tgt := 88) d_Ref_beatAt_70 (by decide) ?_
    refine J.drop [false, false, false, false, false, false, false, false] rfl ?_
    exact p_Ref_beatAt_L88 hw hG  H
def f_Ref_beatAt_L49 (Γ : gm_T)  (φ : ph_T) (x3 : Int32) : Option (Int32 × ph_T) :=
  f_Ref_beatAt_L88 Γ  φ x3
set_option maxRecDepth 100000 in
set_option maxHeartbeats 4000000 in
theorem p_Ref_beatAt_L49 {w : jw_T} (hw : jok w) {Γ : gm_T} {n : Nat} (hG : gd w Γ n)  {x : Bool} {φ : ph_T} {x3 : Int32} {q : Int32 × ph_T} (H : f_Ref_beatAt_L49 Γ  φ x3 = some q) : J w M_Ref_beatAt 49 [none, none, none, some (.int x3), none, none, none, none] [] (pic Γ φ) n x 0 0 (fq Γ n (.inl (some (.int q.1))) q.2) := by
  unfold f_Ref_beatAt_L49 at H
  refine J_iload_n d_Ref_beatAt_49 rfl ?_
  refine J_goto (tgt := 88) d_Ref_beatAt_50 (by decide) ?_
  refine J.drop [false, false, false, false, false, false, false, false] rfl ?_
  exact p_Ref_beatAt_L88 hw hG  H
def f_Ref_beatAt (Γ : gm_T) (φ : ph_T) (p0 : Int64) (p1 : Int32) : Option (Int32 × ph_T) :=
  Option.bind (f_Ref_addressOf Γ φ p0) fun q7 =>
  Option.bind (f_Ref_sizeOf Γ q7.2 p0) fun q8 =>
  Option.bind (f_Ref_lengthOf Γ q8.2 p0) fun q9 =>
  Option.bind (f_Ref_kindOf Γ q9.2 p0) fun q10 =>
  @ite _ ((q9.1 * q8.1) = 0) _ none (
  if q10.1 = 0 then
    f_Ref_beatAt_L49 Γ  q10.2 q7.1
  else
    if q10.1 = (1 : Int32) then
      if p1 = 0 then
        f_Ref_beatAt_L49 Γ  q10.2 q7.1
      else
        f_Ref_beatAt_L53 Γ  q10.2 p1 q7.1 q8.1 (q9.1 * q8.1) q10.1 (q7.1 - (q7.1 - q7.1 / (q9.1 * q8.1) * (q9.1 * q8.1)))
    else
      f_Ref_beatAt_L53 Γ  q10.2 p1 q7.1 q8.1 (q9.1 * q8.1) q10.1 (q7.1 - (q7.1 - q7.1 / (q9.1 * q8.1) * (q9.1 * q8.1)))
  )
set_option maxRecDepth 100000 in
set_option maxHeartbeats 4000000 in
theorem p_Ref_beatAt {w : jw_T} (hw : jok w) {Γ : gm_T} {n : Nat} (hG : gd w Γ n) {x : Bool} {φ : ph_T} {p0 : Int64} {p1 : Int32} {q : Int32 × ph_T} (H : f_Ref_beatAt Γ φ p0 p1 = some q) : jc w M_Ref_beatAt [.long p0, .int p1] (pic Γ φ) n x 0 0 (fq Γ n (.inl (some (.int q.1))) q.2) := by
  refine jc.of (by simp only [jent_r, jent_i, jent_l, jent_a, jent_0]; exact Nat.le_of_ble_eq_true rfl) ?_
  have hls : jents [.long p0, .int p1] (jm_nL M_Ref_beatAt) = [some (.long p0), none, some (.int p1), none, none, none, none, none] := by simp only [jents, jent_r, jent_i, jent_l, jent_a, jent_0]; rfl
  rw [hls]
  clear hls
  unfold f_Ref_beatAt at H
  refine J_lload_n d_Ref_beatAt_0 rfl ?_
  obtain ⟨q7, hq7, H⟩ := Option.bind_eq_some_iff.mp H
  refine J_callS (kc := 0) (ks := 0) (kc' := 0) (ks' := 0) (as := [.long p0]) (st := []) (mf_Ref_addressOf hw) (ms_Ref_314 hw) d_Ref_beatAt_1 ln_Ref_addressOf (by decide) (by first | exact Nat.le_of_ble_eq_true rfl | (simp only [List.map_cons, List.map_nil, List.sum_cons, List.sum_nil, va_rf_cat]; exact Nat.le_of_ble_eq_true rfl)) rfl (p_Ref_addressOf hw hG hq7) ?_ (fun E h' n' x' e1 => by cases e1.1)
  intro v9 h9 n9 x9 e9
  obtain ⟨e91, e92, e93⟩ := e9
  cases e91
  subst e92
  subst e93
  clear x
  rename Bool => x
  show J _ _ _ _ (_ :: _) _ _ _ _ _ _
  refine J_istore_n d_Ref_beatAt_4 (Nat.le_of_ble_eq_true rfl) ?_
  refine J.ls (ls' := [some (.long p0), none, some (.int p1), some (.int q7.1), none, none, none, none]) rfl ?_
  refine J_lload_n d_Ref_beatAt_5 rfl ?_
  obtain ⟨q8, hq8, H⟩ := Option.bind_eq_some_iff.mp H
  refine J_callS (kc := 0) (ks := 0) (kc' := 0) (ks' := 0) (as := [.long p0]) (st := []) (mf_Ref_sizeOf hw) (ms_Ref_318 hw) d_Ref_beatAt_6 ln_Ref_sizeOf (by decide) (by first | exact Nat.le_of_ble_eq_true rfl | (simp only [List.map_cons, List.map_nil, List.sum_cons, List.sum_nil, va_rf_cat]; exact Nat.le_of_ble_eq_true rfl)) rfl (p_Ref_sizeOf hw hG hq8) ?_ (fun E h' n' x' e1 => by cases e1.1)
  intro v9 h9 n9 x9 e9
  obtain ⟨e91, e92, e93⟩ := e9
  cases e91
  subst e92
  subst e93
  clear x
  rename Bool => x
  show J _ _ _ _ (_ :: _) _ _ _ _ _ _
  refine J_istore d_Ref_beatAt_9 (Nat.le_of_ble_eq_true rfl) ?_
  refine J.ls (ls' := [some (.long p0), none, some (.int p1), some (.int q7.1), some (.int q8.1), none, none, none]) rfl ?_
  refine J_lload_n d_Ref_beatAt_11 rfl ?_
  obtain ⟨q9, hq9, H⟩ := Option.bind_eq_some_iff.mp H
  refine J_callS (kc := 0) (ks := 0) (kc' := 0) (ks' := 0) (as := [.long p0]) (st := []) (mf_Ref_lengthOf hw) (ms_Ref_321 hw) d_Ref_beatAt_12 ln_Ref_lengthOf (by decide) (by first | exact Nat.le_of_ble_eq_true rfl | (simp only [List.map_cons, List.map_nil, List.sum_cons, List.sum_nil, va_rf_cat]; exact Nat.le_of_ble_eq_true rfl)) rfl (p_Ref_lengthOf hw hG hq9) ?_ (fun E h' n' x' e1 => by cases e1.1)
  intro v9 h9 n9 x9 e9
  obtain ⟨e91, e92, e93⟩ := e9
  cases e91
  subst e92
  subst e93
  clear x
  rename Bool => x
  show J _ _ _ _ (_ :: _) _ _ _ _ _ _
  refine J_iload d_Ref_beatAt_15 rfl ?_
  refine J_imul d_Ref_beatAt_17 ?_
  refine J_istore d_Ref_beatAt_18 (Nat.le_of_ble_eq_true rfl) ?_
  refine J.ls (ls' := [some (.long p0), none, some (.int p1), some (.int q7.1), some (.int q8.1), some (.int (q9.1 * q8.1)), none, none]) rfl ?_
  refine J_lload_n d_Ref_beatAt_20 rfl ?_
  obtain ⟨q10, hq10, H⟩ := Option.bind_eq_some_iff.mp H
  refine J_callS (kc := 0) (ks := 0) (kc' := 0) (ks' := 0) (as := [.long p0]) (st := []) (mf_Ref_kindOf hw) (ms_Ref_324 hw) d_Ref_beatAt_21 ln_Ref_kindOf (by decide) (by first | exact Nat.le_of_ble_eq_true rfl | (simp only [List.map_cons, List.map_nil, List.sum_cons, List.sum_nil, va_rf_cat]; exact Nat.le_of_ble_eq_true rfl)) rfl (p_Ref_kindOf hw hG hq10) ?_ (fun E h' n' x' e1 => by cases e1.1)
  intro v9 h9 n9 x9 e9
  obtain ⟨e91, e92, e93⟩ := e9
  cases e91
  subst e92
  subst e93
  clear x
  rename Bool => x
  show J _ _ _ _ (_ :: _) _ _ _ _ _ _
  refine J_istore d_Ref_beatAt_24 (Nat.le_of_ble_eq_true rfl) ?_
  refine J.ls (ls' := [some (.long p0), none, some (.int p1), some (.int q7.1), some (.int q8.1), some (.int (q9.1 * q8.1)), some (.int q10.1), none]) rfl ?_
  refine J_iload_n d_Ref_beatAt_26 rfl ?_
  refine J_iload_n d_Ref_beatAt_27 rfl ?_
  refine J_iload d_Ref_beatAt_28 rfl ?_
  have h11 : ¬ (q9.1 * q8.1) = 0 := by
    intro q9
    rw [if_pos q9] at H
    cases H
  rw [if_neg h11] at H
  refine J_irem d_Ref_beatAt_30 h11 ?_
  refine J_isub d_Ref_beatAt_31 ?_
  refine J_istore d_Ref_beatAt_32 (Nat.le_of_ble_eq_true rfl) ?_
  refine J.ls (ls' := [some (.long p0), none, some (.int p1), some (.int q7.1), some (.int q8.1), some (.int (q9.1 * q8.1)), some (.int q10.1), some (.int (q7.1 - (q7.1 - q7.1 / (q9.1 * q8.1) * (q9.1 * q8.1))))]) rfl ?_
  refine J_iload d_Ref_beatAt_34 rfl ?_
  refine J_if_eq (tgt := 49) d_Ref_beatAt_36 (by decide) ?_ ?_
  · intro c14
    rw [if_pos c14] at H
    refine J.drop [false, false, false, true, false, false, false, false] rfl ?_
    exact p_Ref_beatAt_L49 hw hG  H
  · intro c14
    rw [if_neg c14] at H
    refine J_iload d_Ref_beatAt_39 rfl ?_
    refine J_iconst (v := 1) d_Ref_beatAt_41 (by decide) ?_
    refine J_icmp_ne (tgt := 53) d_Ref_beatAt_42 (by decide) ?_ ?_
    · intro c13
      rw [if_neg c13] at H
      refine J.drop [false, false, true, true, true, true, true, true] rfl ?_
      exact p_Ref_beatAt_L53 hw hG  H
    · intro c13
      rw [if_pos c13] at H
      refine J_iload_n d_Ref_beatAt_45 rfl ?_
      refine J_if_ne (tgt := 53) d_Ref_beatAt_46 (by decide) ?_ ?_
      · intro c12
        rw [if_neg c12] at H
        refine J.drop [false, false, true, true, true, true, true, true] rfl ?_
        exact p_Ref_beatAt_L53 hw hG  H
      · intro c12
        rw [if_pos c12] at H
        refine J.drop [false, false, false, true, false, false, false, false] rfl ?_
        exact p_Ref_beatAt_L49 hw hG  H
theorem ln_Ref_lanesOf : (parseMethodDescriptor y_Ref_lanesOf.desc).map (fun q => q.parameters.length) = some 2 := by decide +kernel
def f_Ref_lanesOf_L4 (Γ : gm_T)  : Nat → ph_T → Int32 → Int32 → Int32 → Int32 → Option (Int32 × ph_T)
  | 0, _, _, _, _, _ => none
  | fu + 1, φ, x0, x1, x2, x3 =>
    @ite _ (x1 = 0) _ none (
    if ((x0 - (x0 - x0 / x1 * x1)) + x1) ≤ x3 then
      some (x2, φ)
    else
      @ite _ ((8 : Int32) = 0) _ none (
      (f_Ref_lanesOf_L4 Γ  fu) φ x0 x1 (x2 ||| ((1 : Int32) <<< ((x3 - x3 / (8 : Int32) * (8 : Int32)) &&& 31))) (x3 + (1 : Int32))
      )
    )
set_option maxRecDepth 100000 in
set_option maxHeartbeats 4000000 in
theorem p_Ref_lanesOf_L4 {w : jw_T} (hw : jok w) {Γ : gm_T} {n : Nat} (hG : gd w Γ n)  : ∀ (fu : Nat) {x : Bool} {φ : ph_T} {x0 : Int32} {x1 : Int32} {x2 : Int32} {x3 : Int32} {q : Int32 × ph_T}, f_Ref_lanesOf_L4 Γ  fu φ x0 x1 x2 x3 = some q → J w M_Ref_lanesOf 4 [some (.int x0), some (.int x1), some (.int x2), some (.int x3)] [] (pic Γ φ) n x 0 0 (fq Γ n (.inl (some (.int q.1))) q.2) := by
  intro fu
  induction fu with
  | zero =>
    intro x φ x0 x1 x2 x3 q H
    cases H
  | succ fu ih =>
    intro x φ x0 x1 x2 x3 q H
    unfold f_Ref_lanesOf_L4 at H
    refine J_iload_n d_Ref_lanesOf_4 rfl ?_
    refine J_iload_n d_Ref_lanesOf_5 rfl ?_
    refine J_iload_n d_Ref_lanesOf_6 rfl ?_
    refine J_iload_n d_Ref_lanesOf_7 rfl ?_
    have h3 : ¬ x1 = 0 := by
      intro q9
      rw [if_pos q9] at H
      cases H
    rw [if_neg h3] at H
    refine J_irem d_Ref_lanesOf_8 h3 ?_
    refine J_isub d_Ref_lanesOf_9 ?_
    refine J_iload_n d_Ref_lanesOf_10 rfl ?_
    refine J_iadd d_Ref_lanesOf_11 ?_
    refine J_icmp_ge (tgt := 30) d_Ref_lanesOf_12 (by decide) ?_ ?_
    · intro c5
      rw [if_pos c5] at H
      refine J_iload_n d_Ref_lanesOf_30 rfl ?_
      have H := Option.some.inj H
      subst H
      exact J_iret (st := []) d_Ref_lanesOf_31 rfl rfl ⟨rfl, rfl, rfl⟩
    · intro c5
      rw [if_neg c5] at H
      refine J_iload_n d_Ref_lanesOf_15 rfl ?_
      refine J_iconst (v := 1) d_Ref_lanesOf_16 (by decide) ?_
      refine J_iload_n d_Ref_lanesOf_17 rfl ?_
      refine J_bipush (v := 8) d_Ref_lanesOf_18 (by decide) ?_
      have h4 : ¬ (8 : Int32) = 0 := by
        intro q9
        rw [if_pos q9] at H
        cases H
      rw [if_neg h4] at H
      refine J_irem d_Ref_lanesOf_20 h4 ?_
      refine J_ishl d_Ref_lanesOf_21 ?_
      refine J_ior d_Ref_lanesOf_22 ?_
      refine J_istore_n d_Ref_lanesOf_23 (Nat.le_of_ble_eq_true rfl) ?_
      refine J.ls (ls' := [some (.int x0), some (.int x1), some (.int (x2 ||| ((1 : Int32) <<< ((x3 - x3 / (8 : Int32) * (8 : Int32)) &&& 31)))), some (.int x3)]) rfl ?_
      refine J_iinc (v := x3 + 1) d_Ref_lanesOf_24 rfl (by rw [show Int32.ofInt 1 = (1 : Int32) from by decide]) ?_
      refine J.ls (ls' := [some (.int x0), some (.int x1), some (.int (x2 ||| ((1 : Int32) <<< ((x3 - x3 / (8 : Int32) * (8 : Int32)) &&& 31)))), some (.int (x3 + (1 : Int32)))]) rfl ?_
      refine J_goto (tgt := 4) d_Ref_lanesOf_27 (by decide) ?_
      refine J.drop [true, true, true, true] rfl ?_
      exact ih H
def f_Ref_lanesOf (Γ : gm_T) (φ : ph_T) (p0 : Int32) (p1 : Int32) : Option (Int32 × ph_T) :=
  f_Ref_lanesOf_L4 Γ  jF φ p0 p1 (0 : Int32) p0
set_option maxRecDepth 100000 in
set_option maxHeartbeats 4000000 in
theorem p_Ref_lanesOf {w : jw_T} (hw : jok w) {Γ : gm_T} {n : Nat} (hG : gd w Γ n) {x : Bool} {φ : ph_T} {p0 : Int32} {p1 : Int32} {q : Int32 × ph_T} (H : f_Ref_lanesOf Γ φ p0 p1 = some q) : jc w M_Ref_lanesOf [.int p0, .int p1] (pic Γ φ) n x 0 0 (fq Γ n (.inl (some (.int q.1))) q.2) := by
  refine jc.of (by simp only [jent_r, jent_i, jent_l, jent_a, jent_0]; exact Nat.le_of_ble_eq_true rfl) ?_
  have hls : jents [.int p0, .int p1] (jm_nL M_Ref_lanesOf) = [some (.int p0), some (.int p1), none, none] := by simp only [jents, jent_r, jent_i, jent_l, jent_a, jent_0]; rfl
  rw [hls]
  clear hls
  unfold f_Ref_lanesOf at H
  refine J_iconst (v := 0) d_Ref_lanesOf_0 (by decide) ?_
  refine J_istore_n d_Ref_lanesOf_1 (Nat.le_of_ble_eq_true rfl) ?_
  refine J.ls (ls' := [some (.int p0), some (.int p1), some (.int (0 : Int32)), none]) rfl ?_
  refine J_iload_n d_Ref_lanesOf_2 rfl ?_
  refine J_istore_n d_Ref_lanesOf_3 (Nat.le_of_ble_eq_true rfl) ?_
  refine J.ls (ls' := [some (.int p0), some (.int p1), some (.int (0 : Int32)), some (.int p0)]) rfl ?_
  refine J.drop [true, true, true, true] rfl ?_
  exact p_Ref_lanesOf_L4 hw hG  _ H
theorem ln_Ref_maskOf : (parseMethodDescriptor y_Ref_maskOf.desc).map (fun q => q.parameters.length) = some 1 := by decide +kernel
def f_Ref_maskOf_L32 (Γ : gm_T) (Kc4 : ph_T → Int32 → Int64 → Int32 → Option (Int64 × ph_T)) (φ : ph_T) (x0 : Int32) (x3 : Int32) (y0 : Int64) (y1 : Int64) : Option (Int64 × ph_T) :=
  Kc4 φ x0 (y1 ||| y0) (x3 + (1 : Int32))
set_option maxRecDepth 100000 in
set_option maxHeartbeats 4000000 in
theorem p_Ref_maskOf_L32 {w : jw_T} (hw : jok w) {Γ : gm_T} {n : Nat} (hG : gd w Γ n) {Kc4 : ph_T → Int32 → Int64 → Int32 → Option (Int64 × ph_T)} (hKc4 : ∀ {x : Bool} {φ : ph_T} {x0 : Int32} {x1 : Int64} {x3 : Int32} {q : Int64 × ph_T}, Kc4 φ x0 x1 x3 = some q → J w M_Ref_maskOf 4 [some (.int x0), some (.long x1), none, some (.int x3)] [] (pic Γ φ) n x 0 0 (fq Γ n (.inl (some (.long q.1))) q.2)) {x : Bool} {φ : ph_T} {x0 : Int32} {x3 : Int32} {y0 : Int64} {y1 : Int64} {q : Int64 × ph_T} (H : f_Ref_maskOf_L32 Γ Kc4 φ x0 x3 y0 y1 = some q) : J w M_Ref_maskOf 32 [some (.int x0), none, none, some (.int x3)] [.long y0, .long y1] (pic Γ φ) n x 0 0 (fq Γ n (.inl (some (.long q.1))) q.2) := by
  unfold f_Ref_maskOf_L32 at H
  refine J_lor d_Ref_maskOf_32 ?_
  refine J_lstore_n d_Ref_maskOf_33 (Nat.le_of_ble_eq_true rfl) ?_
  refine J.ls (ls' := [some (.int x0), some (.long (y1 ||| y0)), none, some (.int x3)]) rfl ?_
  refine J_iinc (v := x3 + 1) d_Ref_maskOf_34 rfl (by rw [show Int32.ofInt 1 = (1 : Int32) from by decide]) ?_
  refine J.ls (ls' := [some (.int x0), some (.long (y1 ||| y0)), none, some (.int (x3 + (1 : Int32)))]) rfl ?_
  refine J_goto (tgt := 4) d_Ref_maskOf_37 (by decide) ?_
  refine J.drop [true, true, false, true] rfl ?_
  exact hKc4 H
def f_Ref_maskOf_L4 (Γ : gm_T)  : Nat → ph_T → Int32 → Int64 → Int32 → Option (Int64 × ph_T)
  | 0, _, _, _, _ => none
  | fu + 1, φ, x0, x1, x3 =>
    if (8 : Int32) ≤ x3 then
      some (x1, φ)
    else
      if ((x0 >>> (x3 &&& 31)) &&& (1 : Int32)) = (1 : Int32) then
        f_Ref_maskOf_L32 Γ (f_Ref_maskOf_L4 Γ  fu) φ x0 x3 ((255 : Int64) <<< (Int32.toInt64 ((8 : Int32) * x3) &&& 63)) x1
      else
        f_Ref_maskOf_L32 Γ (f_Ref_maskOf_L4 Γ  fu) φ x0 x3 (0 : Int64) x1
set_option maxRecDepth 100000 in
set_option maxHeartbeats 4000000 in
theorem p_Ref_maskOf_L4 {w : jw_T} (hw : jok w) {Γ : gm_T} {n : Nat} (hG : gd w Γ n)  : ∀ (fu : Nat) {x : Bool} {φ : ph_T} {x0 : Int32} {x1 : Int64} {x3 : Int32} {q : Int64 × ph_T}, f_Ref_maskOf_L4 Γ  fu φ x0 x1 x3 = some q → J w M_Ref_maskOf 4 [some (.int x0), some (.long x1), none, some (.int x3)] [] (pic Γ φ) n x 0 0 (fq Γ n (.inl (some (.long q.1))) q.2) := by
  intro fu
  induction fu with
  | zero =>
    intro x φ x0 x1 x3 q H
    cases H
  | succ fu ih =>
    intro x φ x0 x1 x3 q H
    unfold f_Ref_maskOf_L4 at H
    refine J_iload_n d_Ref_maskOf_4 rfl ?_
    refine J_bipush (v := 8) d_Ref_maskOf_5 (by decide) ?_
    refine J_icmp_ge (tgt := 40) d_Ref_maskOf_7 (by decide) ?_ ?_
    · intro c2
      rw [if_pos c2] at H
      refine J_lload_n d_Ref_maskOf_40 rfl ?_
      have H := Option.some.inj H
      subst H
      exact J_lret (st := []) d_Ref_maskOf_41 rfl ⟨rfl, rfl, rfl⟩
    · intro c2
      rw [if_neg c2] at H
      refine J_lload_n d_Ref_maskOf_10 rfl ?_
      refine J_iload_n d_Ref_maskOf_11 rfl ?_
      refine J_iload_n d_Ref_maskOf_12 rfl ?_
      refine J_ishr d_Ref_maskOf_13 ?_
      refine J_iconst (v := 1) d_Ref_maskOf_14 (by decide) ?_
      refine J_iand d_Ref_maskOf_15 ?_
      refine J_iconst (v := 1) d_Ref_maskOf_16 (by decide) ?_
      refine J_icmp_ne (tgt := 31) d_Ref_maskOf_17 (by decide) ?_ ?_
      · intro c1
        rw [if_neg c1] at H
        refine J_lconst (v := 0) d_Ref_maskOf_31 (by decide) ?_
        refine J.drop [true, false, false, true] rfl ?_
        exact p_Ref_maskOf_L32 hw hG ih H
      · intro c1
        rw [if_pos c1] at H
        refine J_ldc2 (v := 255) d_Ref_maskOf_20 (kn_Ref_327 hw) ?_
        refine J_bipush (v := 8) d_Ref_maskOf_23 (by decide) ?_
        refine J_iload_n d_Ref_maskOf_25 rfl ?_
        refine J_imul d_Ref_maskOf_26 ?_
        refine J_lshl d_Ref_maskOf_27 ?_
        refine J_goto (tgt := 32) d_Ref_maskOf_28 (by decide) ?_
        refine J.drop [true, false, false, true] rfl ?_
        exact p_Ref_maskOf_L32 hw hG ih H
def f_Ref_maskOf (Γ : gm_T) (φ : ph_T) (p0 : Int32) : Option (Int64 × ph_T) :=
  f_Ref_maskOf_L4 Γ  jF φ p0 (0 : Int64) (0 : Int32)
set_option maxRecDepth 100000 in
set_option maxHeartbeats 4000000 in
theorem p_Ref_maskOf {w : jw_T} (hw : jok w) {Γ : gm_T} {n : Nat} (hG : gd w Γ n) {x : Bool} {φ : ph_T} {p0 : Int32} {q : Int64 × ph_T} (H : f_Ref_maskOf Γ φ p0 = some q) : jc w M_Ref_maskOf [.int p0] (pic Γ φ) n x 0 0 (fq Γ n (.inl (some (.long q.1))) q.2) := by
  refine jc.of (by simp only [jent_r, jent_i, jent_l, jent_a, jent_0]; exact Nat.le_of_ble_eq_true rfl) ?_
  have hls : jents [.int p0] (jm_nL M_Ref_maskOf) = [some (.int p0), none, none, none] := by simp only [jents, jent_r, jent_i, jent_l, jent_a, jent_0]; rfl
  rw [hls]
  clear hls
  unfold f_Ref_maskOf at H
  refine J_lconst (v := 0) d_Ref_maskOf_0 (by decide) ?_
  refine J_lstore_n d_Ref_maskOf_1 (Nat.le_of_ble_eq_true rfl) ?_
  refine J.ls (ls' := [some (.int p0), some (.long (0 : Int64)), none, none]) rfl ?_
  refine J_iconst (v := 0) d_Ref_maskOf_2 (by decide) ?_
  refine J_istore_n d_Ref_maskOf_3 (Nat.le_of_ble_eq_true rfl) ?_
  refine J.ls (ls' := [some (.int p0), some (.long (0 : Int64)), none, some (.int (0 : Int32))]) rfl ?_
  refine J.drop [true, true, false, true] rfl ?_
  exact p_Ref_maskOf_L4 hw hG  _ H
theorem ln_Ref_showData : (parseMethodDescriptor y_Ref_showData.desc).map (fun q => q.parameters.length) = some 1 := by decide +kernel
def f_Ref_showData_L236 (Γ : gm_T)  (φ : ph_T) (y0 : Int32) (y1 : Int32) (y2 : Int64) (y3 : Int32) (y4 : Int32) (y5 : Nat) : Option (Unit × ph_T) :=
  @ite _ (Γ y5 = .inr 12) _ (
  Option.bind (f_Ref_show Γ φ y5 y4 y3 y2 (y1 ||| y0)) fun q2 =>
  some ((), q2.2)
  ) none
set_option maxRecDepth 100000 in
set_option maxHeartbeats 4000000 in
theorem p_Ref_showData_L236 {w : jw_T} (hw : jok w) {Γ : gm_T} {n : Nat} (hG : gd w Γ n)  {x : Bool} {φ : ph_T} {y0 : Int32} {y1 : Int32} {y2 : Int64} {y3 : Int32} {y4 : Int32} {y5 : Nat} {q : Unit × ph_T} (H : f_Ref_showData_L236 Γ  φ y0 y1 y2 y3 y4 y5 = some q) : J w M_Ref_showData 236 [none, none, none, none, none, none, none, none, none, none, none, none, none] [.int y0, .int y1, .long y2, .int y3, .int y4, .ref y5] (pic Γ φ) n x 0 0 (fq Γ n (.inl none) q.2) := by
  unfold f_Ref_showData_L236 at H
  refine J_ior d_Ref_showData_236 ?_
  have g1 : Γ y5 = .inr 12 := by
    apply Classical.byContradiction
    intro q9
    rw [if_neg q9] at H
    cases H
  rw [if_pos g1] at H
  obtain ⟨q2, hq2, H⟩ := Option.bind_eq_some_iff.mp H
  refine J_callV (kc := 0) (ks := 0) (kc' := 0) (ks' := 0) (a := y5) (ci := 12) (as := [.int y4, .int y3, .long y2, .int (y1 ||| y0)]) (st := []) (mf_Ref_show hw) (mv_Ref_359 hw) d_Ref_showData_237 ln_Ref_show (by decide) (by first | exact Nat.le_of_ble_eq_true rfl | (simp only [List.map_cons, List.map_nil, List.sum_cons, List.sum_nil, va_rf_cat]; exact Nat.le_of_ble_eq_true rfl)) rfl ((hG _).1 _ g1 (by decide)).1 ((hG _).1 _ g1 (by decide)).2 (by unfold pic; rw [g1]; rfl) (jcl_at hw rfl) rfl (p_Ref_show hw hG hq2) ?_ (fun E h' n' x' e1 => by cases e1.1)
  intro v9 h9 n9 x9 e9
  obtain ⟨e91, e92, e93⟩ := e9
  cases e91
  subst e92
  subst e93
  clear x
  rename Bool => x
  show J _ _ _ _ [] _ _ _ _ _ _
  have H := Option.some.inj H
  subst H
  exact J_vret (st := []) d_Ref_showData_240 rfl ⟨rfl, rfl, rfl⟩
def f_Ref_showData_L199 (Γ : gm_T)  (φ : ph_T) (x0 : Nat) (x2 : Int32) (x3 : Int32) (x8 : Int32) (x9 : Int64) (x11 : Int32) : Option (Unit × ph_T) :=
  Option.bind (f_Ref_maskOf Γ φ x8) fun q3 =>
  @ite _ (Γ x0 = .inr 12) _ (
  Option.bind (q3.2.2.2 x0 30) fun a5 =>
  Option.bind (gA Γ a5 0) fun N6 =>
  Option.bind (ix x3 N6) fun k7 =>
  Option.bind (q3.2.2.2 x0 17) fun a8 =>
  Option.bind (gA Γ a8 0) fun N9 =>
  Option.bind (ix x3 N9) fun k10 =>
  if (q3.2.1 a5 k7) = ((q3.2.1 a8 k10) - (1 : Int32)) then
    f_Ref_showData_L236 Γ  q3.2 (256 : Int32) x11 (x9 &&& q3.1) (1 : Int32) x2 x0
  else
    f_Ref_showData_L236 Γ  q3.2 (0 : Int32) x11 (x9 &&& q3.1) (1 : Int32) x2 x0
  ) none
set_option maxRecDepth 100000 in
set_option maxHeartbeats 4000000 in
theorem p_Ref_showData_L199 {w : jw_T} (hw : jok w) {Γ : gm_T} {n : Nat} (hG : gd w Γ n)  {x : Bool} {φ : ph_T} {x0 : Nat} {x2 : Int32} {x3 : Int32} {x8 : Int32} {x9 : Int64} {x11 : Int32} {q : Unit × ph_T} (H : f_Ref_showData_L199 Γ  φ x0 x2 x3 x8 x9 x11 = some q) : J w M_Ref_showData 199 [some (.ref x0), none, some (.int x2), some (.int x3), none, none, none, none, some (.int x8), some (.long x9), none, some (.int x11), none] [] (pic Γ φ) n x 0 0 (fq Γ n (.inl none) q.2) := by
  unfold f_Ref_showData_L199 at H
  refine J_aload_n d_Ref_showData_199 rfl ?_
  refine J_iload_n d_Ref_showData_200 rfl ?_
  refine J_iconst (v := 1) d_Ref_showData_201 (by decide) ?_
  refine J_lload d_Ref_showData_202 rfl ?_
  refine J_iload d_Ref_showData_204 rfl ?_
  obtain ⟨q3, hq3, H⟩ := Option.bind_eq_some_iff.mp H
  refine J_callS (kc := 0) (ks := 0) (kc' := 0) (ks' := 0) (as := [.int x8]) (st := [.long x9, .int (1 : Int32), .int x2, .ref x0]) (mf_Ref_maskOf hw) (ms_Ref_377 hw) d_Ref_showData_206 ln_Ref_maskOf (by decide) (by first | exact Nat.le_of_ble_eq_true rfl | (simp only [List.map_cons, List.map_nil, List.sum_cons, List.sum_nil, va_rf_cat]; exact Nat.le_of_ble_eq_true rfl)) rfl (p_Ref_maskOf hw hG hq3) ?_ (fun E h' n' x' e1 => by cases e1.1)
  intro v9 h9 n9 x9 e9
  obtain ⟨e91, e92, e93⟩ := e9
  cases e91
  subst e92
  subst e93
  clear x
  rename Bool => x
  show J _ _ _ _ (_ :: _) _ _ _ _ _ _
  refine J_land d_Ref_showData_209 ?_
  refine J_iload d_Ref_showData_210 rfl ?_
  refine J_aload_n d_Ref_showData_212 rfl ?_
  have g4 : Γ x0 = .inr 12 := by
    apply Classical.byContradiction
    intro q9
    rw [if_neg q9] at H
    cases H
  rw [if_pos g4] at H
  refine F_getR (ci := 12) (k := 30) hG (cf_Ref hw) (fl_Ref_79 hw) (by decide) (by decide) rfl d_Ref_showData_213 g4 ?_
  refine J_iload_n d_Ref_showData_216 rfl ?_
  obtain ⟨a5, ha5, H⟩ := Option.bind_eq_some_iff.mp H
  rw [j_rf ha5]
  obtain ⟨N6, hN6, H⟩ := Option.bind_eq_some_iff.mp H
  obtain ⟨k7, hk7, H⟩ := Option.bind_eq_some_iff.mp H
  refine F_iald k7 hw hG d_Ref_showData_217 (gA_some hN6) (ix_some hk7) ?_
  refine J_aload_n d_Ref_showData_218 rfl ?_
  refine F_getR (ci := 12) (k := 17) hG (cf_Ref hw) (fl_Ref_39 hw) (by decide) (by decide) rfl d_Ref_showData_219 g4 ?_
  refine J_iload_n d_Ref_showData_222 rfl ?_
  obtain ⟨a8, ha8, H⟩ := Option.bind_eq_some_iff.mp H
  rw [j_rf ha8]
  obtain ⟨N9, hN9, H⟩ := Option.bind_eq_some_iff.mp H
  obtain ⟨k10, hk10, H⟩ := Option.bind_eq_some_iff.mp H
  refine F_iald k10 hw hG d_Ref_showData_223 (gA_some hN9) (ix_some hk10) ?_
  refine J_iconst (v := 1) d_Ref_showData_224 (by decide) ?_
  refine J_isub d_Ref_showData_225 ?_
  refine J_icmp_ne (tgt := 235) d_Ref_showData_226 (by decide) ?_ ?_
  · intro c11
    rw [if_neg c11] at H
    refine J_iconst (v := 0) d_Ref_showData_235 (by decide) ?_
    refine J.drop [false, false, false, false, false, false, false, false, false, false, false, false, false] rfl ?_
    exact p_Ref_showData_L236 hw hG  H
  · intro c11
    rw [if_pos c11] at H
    refine J_sipush (v := 256) d_Ref_showData_229 (by decide) ?_
    refine J_goto (tgt := 236) d_Ref_showData_232 (by decide) ?_
    refine J.drop [false, false, false, false, false, false, false, false, false, false, false, false, false] rfl ?_
    exact p_Ref_showData_L236 hw hG  H
def f_Ref_showData_L190 (Γ : gm_T) (Kc145 : ph_T → Nat → Int32 → Int32 → Int32 → Int64 → Int32 → Int32 → Option (Unit × ph_T)) (φ : ph_T) (x0 : Nat) (x2 : Int32) (x3 : Int32) (x8 : Int32) (x9 : Int64) (x12 : Int32) (y0 : Int32) (y1 : Int32) : Option (Unit × ph_T) :=
  Kc145 φ x0 x2 x3 x8 x9 (y1 &&& y0) (x12 + (1 : Int32))
set_option maxRecDepth 100000 in
set_option maxHeartbeats 4000000 in
theorem p_Ref_showData_L190 {w : jw_T} (hw : jok w) {Γ : gm_T} {n : Nat} (hG : gd w Γ n) {Kc145 : ph_T → Nat → Int32 → Int32 → Int32 → Int64 → Int32 → Int32 → Option (Unit × ph_T)} (hKc145 : ∀ {x : Bool} {φ : ph_T} {x0 : Nat} {x2 : Int32} {x3 : Int32} {x8 : Int32} {x9 : Int64} {x11 : Int32} {x12 : Int32} {q : Unit × ph_T}, Kc145 φ x0 x2 x3 x8 x9 x11 x12 = some q → J w M_Ref_showData 145 [some (.ref x0), none, some (.int x2), some (.int x3), none, none, none, none, some (.int x8), some (.long x9), none, some (.int x11), some (.int x12)] [] (pic Γ φ) n x 0 0 (fq Γ n (.inl none) q.2)) {x : Bool} {φ : ph_T} {x0 : Nat} {x2 : Int32} {x3 : Int32} {x8 : Int32} {x9 : Int64} {x12 : Int32} {y0 : Int32} {y1 : Int32} {q : Unit × ph_T} (H : f_Ref_showData_L190 Γ Kc145 φ x0 x2 x3 x8 x9 x12 y0 y1 = some q) : J w M_Ref_showData 190 [some (.ref x0), none, some (.int x2), some (.int x3), none, none, none, none, some (.int x8), some (.long x9), none, none, some (.int x12)] [.int y0, .int y1] (pic Γ φ) n x 0 0 (fq Γ n (.inl none) q.2) := by
  unfold f_Ref_showData_L190 at H
  refine J_iand d_Ref_showData_190 ?_
  refine J_istore d_Ref_showData_191 (Nat.le_of_ble_eq_true rfl) ?_
  refine J.ls (ls' := [some (.ref x0), none, some (.int x2), some (.int x3), none, none, none, none, some (.int x8), some (.long x9), none, some (.int (y1 &&& y0)), some (.int x12)]) rfl ?_
  refine J_iinc (v := x12 + 1) d_Ref_showData_193 rfl (by rw [show Int32.ofInt 1 = (1 : Int32) from by decide]) ?_
  refine J.ls (ls' := [some (.ref x0), none, some (.int x2), some (.int x3), none, none, none, none, some (.int x8), some (.long x9), none, some (.int (y1 &&& y0)), some (.int (x12 + (1 : Int32)))]) rfl ?_
  refine J_goto (tgt := 145) d_Ref_showData_196 (by decide) ?_
  refine J.drop [true, false, true, true, false, false, false, false, true, true, false, true, true] rfl ?_
  exact hKc145 H
def f_Ref_showData_L145 (Γ : gm_T)  : Nat → ph_T → Nat → Int32 → Int32 → Int32 → Int64 → Int32 → Int32 → Option (Unit × ph_T)
  | 0, _, _, _, _, _, _, _, _ => none
  | fu + 1, φ, x0, x2, x3, x8, x9, x11, x12 =>
    if (8 : Int32) ≤ x12 then
      f_Ref_showData_L199 Γ  φ x0 x2 x3 x8 x9 x11
    else
      @ite _ (Γ x0 = .inr 12) _ (
      Option.bind (φ.2.2 x0 22) fun a13 =>
      Option.bind (gA Γ a13 2) fun N14 =>
      Option.bind (ix x3 N14) fun k15 =>
      if (φ.1 a13 k15) = 0 then
        f_Ref_showData_L199 Γ  φ x0 x2 x3 x8 x9 x11
      else
        if (lg_cmp ((x9 >>> (Int32.toInt64 ((56 : Int32) + x12) &&& 63)) &&& (1 : Int64)) (1 : Int64)) = 0 then
          f_Ref_showData_L190 Γ (f_Ref_showData_L145 Γ  fu) φ x0 x2 x3 x8 x9 x12 (255 : Int32) x11
        else
          f_Ref_showData_L190 Γ (f_Ref_showData_L145 Γ  fu) φ x0 x2 x3 x8 x9 x12 (((1 : Int32) <<< (x12 &&& 31)) ^^^ (-1 : Int32)) x11
      ) none
set_option maxRecDepth 100000 in
set_option maxHeartbeats 4000000 in
theorem p_Ref_showData_L145 {w : jw_T} (hw : jok w) {Γ : gm_T} {n : Nat} (hG : gd w Γ n)  : ∀ (fu : Nat) {x : Bool} {φ : ph_T} {x0 : Nat} {x2 : Int32} {x3 : Int32} {x8 : Int32} {x9 : Int64} {x11 : Int32} {x12 : Int32} {q : Unit × ph_T}, f_Ref_showData_L145 Γ  fu φ x0 x2 x3 x8 x9 x11 x12 = some q → J w M_Ref_showData 145 [some (.ref x0), none, some (.int x2), some (.int x3), none, none, none, none, some (.int x8), some (.long x9), none, some (.int x11), some (.int x12)] [] (pic Γ φ) n x 0 0 (fq Γ n (.inl none) q.2) := by
  intro fu
  induction fu with
  | zero =>
    intro x φ x0 x2 x3 x8 x9 x11 x12 q H
    cases H
  | succ fu ih =>
    intro x φ x0 x2 x3 x8 x9 x11 x12 q H
    unfold f_Ref_showData_L145 at H
    refine J_iload d_Ref_showData_145 rfl ?_
    refine J_bipush (v := 8) d_Ref_showData_147 (by decide) ?_
    refine J_icmp_ge (tgt := 199) d_Ref_showData_149 (by decide) ?_ ?_
    · intro c18
      rw [if_pos c18] at H
      refine J.drop [true, false, true, true, false, false, false, false, true, true, false, true, false] rfl ?_
      exact p_Ref_showData_L199 hw hG  H
    · intro c18
      rw [if_neg c18] at H
      refine J_aload_n d_Ref_showData_152 rfl ?_
      have g12 : Γ x0 = .inr 12 := by
        apply Classical.byContradiction
        intro q9
        rw [if_neg q9] at H
        cases H
      rw [if_pos g12] at H
      refine F_getR (ci := 12) (k := 22) hG (cf_Ref hw) (fl_Ref_54 hw) (by decide) (by decide) rfl d_Ref_showData_153 g12 ?_
      refine J_iload_n d_Ref_showData_156 rfl ?_
      obtain ⟨a13, ha13, H⟩ := Option.bind_eq_some_iff.mp H
      rw [j_rf ha13]
      obtain ⟨N14, hN14, H⟩ := Option.bind_eq_some_iff.mp H
      obtain ⟨k15, hk15, H⟩ := Option.bind_eq_some_iff.mp H
      refine F_zald k15 hw hG d_Ref_showData_157 (gA_some hN14) (ix_some hk15) ?_
      refine J_if_eq (tgt := 199) d_Ref_showData_158 (by decide) ?_ ?_
      · intro c17
        rw [if_pos c17] at H
        refine J.drop [true, false, true, true, false, false, false, false, true, true, false, true, false] rfl ?_
        exact p_Ref_showData_L199 hw hG  H
      · intro c17
        rw [if_neg c17] at H
        refine J_iload d_Ref_showData_161 rfl ?_
        refine J_lload d_Ref_showData_163 rfl ?_
        refine J_bipush (v := 56) d_Ref_showData_165 (by decide) ?_
        refine J_iload d_Ref_showData_167 rfl ?_
        refine J_iadd d_Ref_showData_169 ?_
        refine J_lshr d_Ref_showData_170 ?_
        refine J_lconst (v := 1) d_Ref_showData_171 (by decide) ?_
        refine J_land d_Ref_showData_172 ?_
        refine J_lconst (v := 1) d_Ref_showData_173 (by decide) ?_
        refine J_lcmp d_Ref_showData_174 ?_
        refine J_if_ne (tgt := 184) d_Ref_showData_175 (by decide) ?_ ?_
        · intro c16
          rw [if_neg c16] at H
          refine J_iconst (v := 1) d_Ref_showData_184 (by decide) ?_
          refine J_iload d_Ref_showData_185 rfl ?_
          refine J_ishl d_Ref_showData_187 ?_
          refine J_iconst (v := -1) d_Ref_showData_188 (by decide) ?_
          refine J_ixor d_Ref_showData_189 ?_
          refine J.drop [true, false, true, true, false, false, false, false, true, true, false, false, true] rfl ?_
          exact p_Ref_showData_L190 hw hG ih H
        · intro c16
          rw [if_pos c16] at H
          refine J_sipush (v := 255) d_Ref_showData_178 (by decide) ?_
          refine J_goto (tgt := 190) d_Ref_showData_181 (by decide) ?_
          refine J.drop [true, false, true, true, false, false, false, false, true, true, false, false, true] rfl ?_
          exact p_Ref_showData_L190 hw hG ih H
def f_Ref_showData_L78 (Γ : gm_T)  (φ : ph_T) (x0 : Nat) (x2 : Int32) (x3 : Int32) (y0 : Int32) : Option (Unit × ph_T) :=
  if y0 = 0 then
    @ite _ (Γ x0 = .inr 12) _ (
    Option.bind (f_Ref_show Γ φ x0 x2 (0 : Int32) (0 : Int64) (0 : Int32)) fun q31 =>
    some ((), q31.2)
    ) none
  else
    @ite _ (Γ x0 = .inr 12) _ (
    Option.bind (f_Ref_burstOf Γ φ x0 x3) fun q20 =>
    Option.bind (q20.2.2.2 x0 30) fun a21 =>
    Option.bind (gA Γ a21 0) fun N22 =>
    Option.bind (ix x3 N22) fun k23 =>
    Option.bind (f_Ref_beatAt Γ q20.2 q20.1 (q20.2.1 a21 k23)) fun q24 =>
    Option.bind (f_Ref_sizeOf Γ q24.2 q20.1) fun q25 =>
    Option.bind (f_Ref_lanesOf Γ q25.2 q24.1 q25.1) fun q26 =>
    Option.bind (q26.2.2.2 x0 26) fun a27 =>
    Option.bind (gA Γ a27 1) fun N28 =>
    Option.bind (ix x3 N28) fun k29 =>
    f_Ref_showData_L145 Γ  jF q26.2 x0 x2 x3 q26.1 (((q26.2.2.1 a27 k29) * (6364136223846793005 : Int64)) + (1442695040888963407 : Int64)) q26.1 (0 : Int32)
    ) none
set_option maxRecDepth 100000 in
set_option maxHeartbeats 4000000 in
theorem p_Ref_showData_L78 {w : jw_T} (hw : jok w) {Γ : gm_T} {n : Nat} (hG : gd w Γ n)  {x : Bool} {φ : ph_T} {x0 : Nat} {x2 : Int32} {x3 : Int32} {y0 : Int32} {q : Unit × ph_T} (H : f_Ref_showData_L78 Γ  φ x0 x2 x3 y0 = some q) : J w M_Ref_showData 78 [some (.ref x0), none, some (.int x2), some (.int x3), none, none, none, none, none, none, none, none, none] [.int y0] (pic Γ φ) n x 0 0 (fq Γ n (.inl none) q.2) := by
  unfold f_Ref_showData_L78 at H
  refine J_istore d_Ref_showData_78 (Nat.le_of_ble_eq_true rfl) ?_
  refine J.ls (ls' := [some (.ref x0), none, some (.int x2), some (.int x3), none, some (.int y0), none, none, none, none, none, none, none]) rfl ?_
  refine J_iload d_Ref_showData_80 rfl ?_
  refine J_if_ne (tgt := 94) d_Ref_showData_82 (by decide) ?_ ?_
  · intro c32
    rw [if_neg c32] at H
    refine J_aload_n d_Ref_showData_94 rfl ?_
    refine J_iload_n d_Ref_showData_95 rfl ?_
    have g19 : Γ x0 = .inr 12 := by
      apply Classical.byContradiction
      intro q9
      rw [if_neg q9] at H
      cases H
    rw [if_pos g19] at H
    obtain ⟨q20, hq20, H⟩ := Option.bind_eq_some_iff.mp H
    refine J_callV (kc := 0) (ks := 0) (kc' := 0) (ks' := 0) (a := x0) (ci := 12) (as := [.int x3]) (st := []) (mf_Ref_burstOf hw) (mv_Ref_355 hw) d_Ref_showData_96 ln_Ref_burstOf (by decide) (by first | exact Nat.le_of_ble_eq_true rfl | (simp only [List.map_cons, List.map_nil, List.sum_cons, List.sum_nil, va_rf_cat]; exact Nat.le_of_ble_eq_true rfl)) rfl ((hG _).1 _ g19 (by decide)).1 ((hG _).1 _ g19 (by decide)).2 (by unfold pic; rw [g19]; rfl) (jcl_at hw rfl) rfl (p_Ref_burstOf hw hG hq20) ?_ (fun E h' n' x' e1 => by cases e1.1)
    intro v9 h9 n9 x9 e9
    obtain ⟨e91, e92, e93⟩ := e9
    cases e91
    subst e92
    subst e93
    clear x
    rename Bool => x
    show J _ _ _ _ (_ :: _) _ _ _ _ _ _
    refine J_lstore d_Ref_showData_99 (Nat.le_of_ble_eq_true rfl) ?_
    refine J.ls (ls' := [some (.ref x0), none, some (.int x2), some (.int x3), none, some (.int y0), some (.long q20.1), none, none, none, none, none, none]) rfl ?_
    refine J_lload d_Ref_showData_101 rfl ?_
    refine J_aload_n d_Ref_showData_103 rfl ?_
    refine F_getR (ci := 12) (k := 30) hG (cf_Ref hw) (fl_Ref_79 hw) (by decide) (by decide) rfl d_Ref_showData_104 g19 ?_
    refine J_iload_n d_Ref_showData_107 rfl ?_
    obtain ⟨a21, ha21, H⟩ := Option.bind_eq_some_iff.mp H
    rw [j_rf ha21]
    obtain ⟨N22, hN22, H⟩ := Option.bind_eq_some_iff.mp H
    obtain ⟨k23, hk23, H⟩ := Option.bind_eq_some_iff.mp H
    refine F_iald k23 hw hG d_Ref_showData_108 (gA_some hN22) (ix_some hk23) ?_
    obtain ⟨q24, hq24, H⟩ := Option.bind_eq_some_iff.mp H
    refine J_callS (kc := 0) (ks := 0) (kc' := 0) (ks' := 0) (as := [.long q20.1, .int (q20.2.1 a21 k23)]) (st := []) (mf_Ref_beatAt hw) (ms_Ref_366 hw) d_Ref_showData_109 ln_Ref_beatAt (by decide) (by first | exact Nat.le_of_ble_eq_true rfl | (simp only [List.map_cons, List.map_nil, List.sum_cons, List.sum_nil, va_rf_cat]; exact Nat.le_of_ble_eq_true rfl)) rfl (p_Ref_beatAt hw hG hq24) ?_ (fun E h' n' x' e1 => by cases e1.1)
    intro v9 h9 n9 x9 e9
    obtain ⟨e91, e92, e93⟩ := e9
    cases e91
    subst e92
    subst e93
    clear x
    rename Bool => x
    show J _ _ _ _ (_ :: _) _ _ _ _ _ _
    refine J_lload d_Ref_showData_112 rfl ?_
    obtain ⟨q25, hq25, H⟩ := Option.bind_eq_some_iff.mp H
    refine J_callS (kc := 0) (ks := 0) (kc' := 0) (ks' := 0) (as := [.long q20.1]) (st := [.int q24.1]) (mf_Ref_sizeOf hw) (ms_Ref_318 hw) d_Ref_showData_114 ln_Ref_sizeOf (by decide) (by first | exact Nat.le_of_ble_eq_true rfl | (simp only [List.map_cons, List.map_nil, List.sum_cons, List.sum_nil, va_rf_cat]; exact Nat.le_of_ble_eq_true rfl)) rfl (p_Ref_sizeOf hw hG hq25) ?_ (fun E h' n' x' e1 => by cases e1.1)
    intro v9 h9 n9 x9 e9
    obtain ⟨e91, e92, e93⟩ := e9
    cases e91
    subst e92
    subst e93
    clear x
    rename Bool => x
    show J _ _ _ _ (_ :: _) _ _ _ _ _ _
    obtain ⟨q26, hq26, H⟩ := Option.bind_eq_some_iff.mp H
    refine J_callS (kc := 0) (ks := 0) (kc' := 0) (ks' := 0) (as := [.int q24.1, .int q25.1]) (st := []) (mf_Ref_lanesOf hw) (ms_Ref_370 hw) d_Ref_showData_117 ln_Ref_lanesOf (by decide) (by first | exact Nat.le_of_ble_eq_true rfl | (simp only [List.map_cons, List.map_nil, List.sum_cons, List.sum_nil, va_rf_cat]; exact Nat.le_of_ble_eq_true rfl)) rfl (p_Ref_lanesOf hw hG hq26) ?_ (fun E h' n' x' e1 => by cases e1.1)
    intro v9 h9 n9 x9 e9
    obtain ⟨e91, e92, e93⟩ := e9
    cases e91
    subst e92
    subst e93
    clear x
    rename Bool => x
    show J _ _ _ _ (_ :: _) _ _ _ _ _ _
    refine J_istore d_Ref_showData_120 (Nat.le_of_ble_eq_true rfl) ?_
    refine J.ls (ls' := [some (.ref x0), none, some (.int x2), some (.int x3), none, some (.int y0), some (.long q20.1), none, some (.int q26.1), none, none, none, none]) rfl ?_
    refine J_aload_n d_Ref_showData_122 rfl ?_
    refine F_getR (ci := 12) (k := 26) hG (cf_Ref hw) (fl_Ref_66 hw) (by decide) (by decide) rfl d_Ref_showData_123 g19 ?_
    refine J_iload_n d_Ref_showData_126 rfl ?_
    obtain ⟨a27, ha27, H⟩ := Option.bind_eq_some_iff.mp H
    rw [j_rf ha27]
    obtain ⟨N28, hN28, H⟩ := Option.bind_eq_some_iff.mp H
    obtain ⟨k29, hk29, H⟩ := Option.bind_eq_some_iff.mp H
    refine F_lald k29 hw hG d_Ref_showData_127 (gA_some hN28) (ix_some hk29) ?_
    refine J_ldc2 (v := 6364136223846793005) d_Ref_showData_128 (kn_Ref_373 hw) ?_
    refine J_lmul d_Ref_showData_131 ?_
    refine J_ldc2 (v := 1442695040888963407) d_Ref_showData_132 (kn_Ref_375 hw) ?_
    refine J_ladd d_Ref_showData_135 ?_
    refine J_lstore d_Ref_showData_136 (Nat.le_of_ble_eq_true rfl) ?_
    refine J.ls (ls' := [some (.ref x0), none, some (.int x2), some (.int x3), none, some (.int y0), some (.long q20.1), none, some (.int q26.1), some (.long (((q26.2.2.1 a27 k29) * (6364136223846793005 : Int64)) + (1442695040888963407 : Int64))), none, none, none]) rfl ?_
    refine J_iload d_Ref_showData_138 rfl ?_
    refine J_istore d_Ref_showData_140 (Nat.le_of_ble_eq_true rfl) ?_
    refine J.ls (ls' := [some (.ref x0), none, some (.int x2), some (.int x3), none, some (.int y0), some (.long q20.1), none, some (.int q26.1), some (.long (((q26.2.2.1 a27 k29) * (6364136223846793005 : Int64)) + (1442695040888963407 : Int64))), none, some (.int q26.1), none]) rfl ?_
    refine J_iconst (v := 0) d_Ref_showData_142 (by decide) ?_
    refine J_istore d_Ref_showData_143 (Nat.le_of_ble_eq_true rfl) ?_
    refine J.ls (ls' := [some (.ref x0), none, some (.int x2), some (.int x3), none, some (.int y0), some (.long q20.1), none, some (.int q26.1), some (.long (((q26.2.2.1 a27 k29) * (6364136223846793005 : Int64)) + (1442695040888963407 : Int64))), none, some (.int q26.1), some (.int (0 : Int32))]) rfl ?_
    refine J.drop [true, false, true, true, false, false, false, false, true, true, false, true, true] rfl ?_
    exact p_Ref_showData_L145 hw hG  _ H
  · intro c32
    rw [if_pos c32] at H
    refine J_aload_n d_Ref_showData_85 rfl ?_
    refine J_iload_n d_Ref_showData_86 rfl ?_
    refine J_iconst (v := 0) d_Ref_showData_87 (by decide) ?_
    refine J_lconst (v := 0) d_Ref_showData_88 (by decide) ?_
    refine J_iconst (v := 0) d_Ref_showData_89 (by decide) ?_
    have g30 : Γ x0 = .inr 12 := by
      apply Classical.byContradiction
      intro q9
      rw [if_neg q9] at H
      cases H
    rw [if_pos g30] at H
    obtain ⟨q31, hq31, H⟩ := Option.bind_eq_some_iff.mp H
    refine J_callV (kc := 0) (ks := 0) (kc' := 0) (ks' := 0) (a := x0) (ci := 12) (as := [.int x2, .int (0 : Int32), .long (0 : Int64), .int (0 : Int32)]) (st := []) (mf_Ref_show hw) (mv_Ref_359 hw) d_Ref_showData_90 ln_Ref_show (by decide) (by first | exact Nat.le_of_ble_eq_true rfl | (simp only [List.map_cons, List.map_nil, List.sum_cons, List.sum_nil, va_rf_cat]; exact Nat.le_of_ble_eq_true rfl)) rfl ((hG _).1 _ g30 (by decide)).1 ((hG _).1 _ g30 (by decide)).2 (by unfold pic; rw [g30]; rfl) (jcl_at hw rfl) rfl (p_Ref_show hw hG hq31) ?_ (fun E h' n' x' e1 => by cases e1.1)
    intro v9 h9 n9 x9 e9
    obtain ⟨e91, e92, e93⟩ := e9
    cases e91
    subst e92
    subst e93
    clear x
    rename Bool => x
    show J _ _ _ _ [] _ _ _ _ _ _
    have H := Option.some.inj H
    subst H
    exact J_vret (st := []) d_Ref_showData_93 rfl ⟨rfl, rfl, rfl⟩
def f_Ref_showData_L77 (Γ : gm_T)  (φ : ph_T) (x0 : Nat) (x2 : Int32) (x3 : Int32) : Option (Unit × ph_T) :=
  f_Ref_showData_L78 Γ  φ x0 x2 x3 (0 : Int32)
set_option maxRecDepth 100000 in
set_option maxHeartbeats 4000000 in
theorem p_Ref_showData_L77 {w : jw_T} (hw : jok w) {Γ : gm_T} {n : Nat} (hG : gd w Γ n)  {x : Bool} {φ : ph_T} {x0 : Nat} {x2 : Int32} {x3 : Int32} {q : Unit × ph_T} (H : f_Ref_showData_L77 Γ  φ x0 x2 x3 = some q) : J w M_Ref_showData 77 [some (.ref x0), none, some (.int x2), some (.int x3), none, none, none, none, none, none, none, none, none] [] (pic Γ φ) n x 0 0 (fq Γ n (.inl none) q.2) := by
  unfold f_Ref_showData_L77 at H
  refine J_iconst (v := 0) d_Ref_showData_77 (by decide) ?_
  refine J.drop [true, false, true, true, false, false, false, false, false, false, false, false, false] rfl ?_
  exact p_Ref_showData_L78 hw hG  H
def f_Ref_showData_L73 (Γ : gm_T)  (φ : ph_T) (x0 : Nat) (x2 : Int32) (x3 : Int32) : Option (Unit × ph_T) :=
  f_Ref_showData_L78 Γ  φ x0 x2 x3 (1 : Int32)
set_option maxRecDepth 100000 in
set_option maxHeartbeats 4000000 in
theorem p_Ref_showData_L73 {w : jw_T} (hw : jok w) {Γ : gm_T} {n : Nat} (hG : gd w Γ n)  {x : Bool} {φ : ph_T} {x0 : Nat} {x2 : Int32} {x3 : Int32} {q : Unit × ph_T} (H : f_Ref_showData_L73 Γ  φ x0 x2 x3 = some q) : J w M_Ref_showData 73 [some (.ref x0), none, some (.int x2), some (.int x3), none, none, none, none, none, none, none, none, none] [] (pic Γ φ) n x 0 0 (fq Γ n (.inl none) q.2) := by
  unfold f_Ref_showData_L73 at H
  refine J_iconst (v := 1) d_Ref_showData_73 (by decide) ?_
  refine J_goto (tgt := 78) d_Ref_showData_74 (by decide) ?_
  refine J.drop [true, false, true, true, false, false, false, false, false, false, false, false, false] rfl ?_
  exact p_Ref_showData_L78 hw hG  H
def f_Ref_showData_L41 (Γ : gm_T)  (φ : ph_T) (x0 : Nat) (x2 : Int32) (x3 : Int32) (y0 : Int32) : Option (Unit × ph_T) :=
  @ite _ (Γ x0 = .inr 12) _ (
  Option.bind (φ.2.2 x0 37) fun a34 =>
  Option.bind (gA Γ a34 2) fun N35 =>
  Option.bind (ix x2 N35) fun k36 =>
  if (φ.1 a34 k36) = 0 then
    if y0 = 0 then
      f_Ref_showData_L77 Γ  φ x0 x2 x3
    else
      Option.bind (φ.2.2 x0 8) fun a37 =>
      Option.bind (gA Γ a37 0) fun N38 =>
      Option.bind (ix x2 N38) fun k39 =>
      Option.bind (f_Ref_tells Γ φ (φ.1 a37 k39) (φ.1 x0 6)) fun q40 =>
      if q40.1 = 0 then
        f_Ref_showData_L77 Γ  q40.2 x0 x2 x3
      else
        f_Ref_showData_L73 Γ  q40.2 x0 x2 x3
  else
    f_Ref_showData_L73 Γ  φ x0 x2 x3
  ) none
set_option maxRecDepth 100000 in
set_option maxHeartbeats 4000000 in
theorem p_Ref_showData_L41 {w : jw_T} (hw : jok w) {Γ : gm_T} {n : Nat} (hG : gd w Γ n)  {x : Bool} {φ : ph_T} {x0 : Nat} {x2 : Int32} {x3 : Int32} {y0 : Int32} {q : Unit × ph_T} (H : f_Ref_showData_L41 Γ  φ x0 x2 x3 y0 = some q) : J w M_Ref_showData 41 [some (.ref x0), none, some (.int x2), some (.int x3), none, none, none, none, none, none, none, none, none] [.int y0] (pic Γ φ) n x 0 0 (fq Γ n (.inl none) q.2) := by
  unfold f_Ref_showData_L41 at H
  refine J_istore d_Ref_showData_41 (Nat.le_of_ble_eq_true rfl) ?_
  refine J.ls (ls' := [some (.ref x0), none, some (.int x2), some (.int x3), some (.int y0), none, none, none, none, none, none, none, none]) rfl ?_
  refine J_aload_n d_Ref_showData_43 rfl ?_
  have g33 : Γ x0 = .inr 12 := by
    apply Classical.byContradiction
    intro q9
    rw [if_neg q9] at H
    cases H
  rw [if_pos g33] at H
  refine F_getR (ci := 12) (k := 37) hG (cf_Ref hw) (fl_Ref_100 hw) (by decide) (by decide) rfl d_Ref_showData_44 g33 ?_
  refine J_iload_n d_Ref_showData_47 rfl ?_
  obtain ⟨a34, ha34, H⟩ := Option.bind_eq_some_iff.mp H
  rw [j_rf ha34]
  obtain ⟨N35, hN35, H⟩ := Option.bind_eq_some_iff.mp H
  obtain ⟨k36, hk36, H⟩ := Option.bind_eq_some_iff.mp H
  refine F_zald k36 hw hG d_Ref_showData_48 (gA_some hN35) (ix_some hk36) ?_
  refine J_if_ne (tgt := 73) d_Ref_showData_49 (by decide) ?_ ?_
  · intro c43
    rw [if_neg c43] at H
    refine J.drop [true, false, true, true, false, false, false, false, false, false, false, false, false] rfl ?_
    exact p_Ref_showData_L73 hw hG  H
  · intro c43
    rw [if_pos c43] at H
    refine J_iload d_Ref_showData_52 rfl ?_
    refine J_if_eq (tgt := 77) d_Ref_showData_54 (by decide) ?_ ?_
    · intro c42
      rw [if_pos c42] at H
      refine J.drop [true, false, true, true, false, false, false, false, false, false, false, false, false] rfl ?_
      exact p_Ref_showData_L77 hw hG  H
    · intro c42
      rw [if_neg c42] at H
      refine J_aload_n d_Ref_showData_57 rfl ?_
      refine F_getR (ci := 12) (k := 8) hG (cf_Ref hw) (fl_Ref_13 hw) (by decide) (by decide) rfl d_Ref_showData_58 g33 ?_
      refine J_iload_n d_Ref_showData_61 rfl ?_
      obtain ⟨a37, ha37, H⟩ := Option.bind_eq_some_iff.mp H
      rw [j_rf ha37]
      obtain ⟨N38, hN38, H⟩ := Option.bind_eq_some_iff.mp H
      obtain ⟨k39, hk39, H⟩ := Option.bind_eq_some_iff.mp H
      refine F_iald k39 hw hG d_Ref_showData_62 (gA_some hN38) (ix_some hk39) ?_
      refine J_aload_n d_Ref_showData_63 rfl ?_
      refine F_getI (ci := 12) (k := 6) hG (cf_Ref hw) (fl_Ref_348 hw) (by decide) (by decide) rfl d_Ref_showData_64 g33 ?_
      obtain ⟨q40, hq40, H⟩ := Option.bind_eq_some_iff.mp H
      refine J_callS (kc := 0) (ks := 0) (kc' := 0) (ks' := 0) (as := [.int (φ.1 a37 k39), .int (φ.1 x0 6)]) (st := []) (mf_Ref_tells hw) (ms_Ref_351 hw) d_Ref_showData_67 ln_Ref_tells (by decide) (by first | exact Nat.le_of_ble_eq_true rfl | (simp only [List.map_cons, List.map_nil, List.sum_cons, List.sum_nil, va_rf_cat]; exact Nat.le_of_ble_eq_true rfl)) rfl (p_Ref_tells hw hG hq40) ?_ (fun E h' n' x' e1 => by cases e1.1)
      intro v9 h9 n9 x9 e9
      obtain ⟨e91, e92, e93⟩ := e9
      cases e91
      subst e92
      subst e93
      clear x
      rename Bool => x
      show J _ _ _ _ (_ :: _) _ _ _ _ _ _
      refine J_if_eq (tgt := 77) d_Ref_showData_70 (by decide) ?_ ?_
      · intro c41
        rw [if_pos c41] at H
        refine J.drop [true, false, true, true, false, false, false, false, false, false, false, false, false] rfl ?_
        exact p_Ref_showData_L77 hw hG  H
      · intro c41
        rw [if_neg c41] at H
        refine J.drop [true, false, true, true, false, false, false, false, false, false, false, false, false] rfl ?_
        exact p_Ref_showData_L73 hw hG  H
def f_Ref_showData_L40 (Γ : gm_T)  (φ : ph_T) (x0 : Nat) (x2 : Int32) (x3 : Int32) : Option (Unit × ph_T) :=
  f_Ref_showData_L41 Γ  φ x0 x2 x3 (0 : Int32)
set_option maxRecDepth 100000 in
set_option maxHeartbeats 4000000 in
theorem p_Ref_showData_L40 {w : jw_T} (hw : jok w) {Γ : gm_T} {n : Nat} (hG : gd w Γ n)  {x : Bool} {φ : ph_T} {x0 : Nat} {x2 : Int32} {x3 : Int32} {q : Unit × ph_T} (H : f_Ref_showData_L40 Γ  φ x0 x2 x3 = some q) : J w M_Ref_showData 40 [some (.ref x0), none, some (.int x2), some (.int x3), none, none, none, none, none, none, none, none, none] [] (pic Γ φ) n x 0 0 (fq Γ n (.inl none) q.2) := by
  unfold f_Ref_showData_L40 at H
  refine J_iconst (v := 0) d_Ref_showData_40 (by decide) ?_
  refine J.drop [true, false, true, true, false, false, false, false, false, false, false, false, false] rfl ?_
  exact p_Ref_showData_L41 hw hG  H
def f_Ref_showData_L36 (Γ : gm_T)  (φ : ph_T) (x0 : Nat) (x2 : Int32) (x3 : Int32) : Option (Unit × ph_T) :=
  f_Ref_showData_L41 Γ  φ x0 x2 x3 (1 : Int32)
set_option maxRecDepth 100000 in
set_option maxHeartbeats 4000000 in
theorem p_Ref_showData_L36 {w : jw_T} (hw : jok w) {Γ : gm_T} {n : Nat} (hG : gd w Γ n)  {x : Bool} {φ : ph_T} {x0 : Nat} {x2 : Int32} {x3 : Int32} {q : Unit × ph_T} (H : f_Ref_showData_L36 Γ  φ x0 x2 x3 = some q) : J w M_Ref_showData 36 [some (.ref x0), none, some (.int x2), some (.int x3), none, none, none, none, none, none, none, none, none] [] (pic Γ φ) n x 0 0 (fq Γ n (.inl none) q.2) := by
  unfold f_Ref_showData_L36 at H
  refine J_iconst (v := 1) d_Ref_showData_36 (by decide) ?_
  refine J_goto (tgt := 41) d_Ref_showData_37 (by decide) ?_
  refine J.drop [true, false, true, true, false, false, false, false, false, false, false, false, false] rfl ?_
  exact p_Ref_showData_L41 hw hG  H
def f_Ref_showData (Γ : gm_T) (φ : ph_T) (this : Nat) (p0 : Int32) : Option (Unit × ph_T) :=
  @ite _ (Γ this = .inr 12) _ (
  Option.bind (f_Ref_unfinished Γ φ this p0) fun q45 =>
  if q45.1 = (-1 : Int32) then
    f_Ref_showData_L40 Γ  q45.2 this (((5 : Int32) * p0) + (1 : Int32)) q45.1
  else
    Option.bind (q45.2.2.2 this 28) fun a46 =>
    Option.bind (gA Γ a46 0) fun N47 =>
    Option.bind (ix q45.1 N47) fun k48 =>
    if (q45.2.1 a46 k48) = (-1 : Int32) then
      Option.bind (q45.2.2.2 this 10) fun a49 =>
      Option.bind (gA Γ a49 2) fun N50 =>
      Option.bind (ix p0 N50) fun k51 =>
      if (q45.2.1 a49 k51) = 0 then
        f_Ref_showData_L40 Γ  q45.2 this (((5 : Int32) * p0) + (1 : Int32)) q45.1
      else
        f_Ref_showData_L36 Γ  q45.2 this (((5 : Int32) * p0) + (1 : Int32)) q45.1
    else
      f_Ref_showData_L36 Γ  q45.2 this (((5 : Int32) * p0) + (1 : Int32)) q45.1
  ) none
set_option maxRecDepth 100000 in
set_option maxHeartbeats 4000000 in
theorem p_Ref_showData {w : jw_T} (hw : jok w) {Γ : gm_T} {n : Nat} (hG : gd w Γ n) {x : Bool} {φ : ph_T} {this : Nat} {p0 : Int32} {q : Unit × ph_T} (H : f_Ref_showData Γ φ this p0 = some q) : jc w M_Ref_showData [.ref this, .int p0] (pic Γ φ) n x 0 0 (fq Γ n (.inl none) q.2) := by
  refine jc.of (by simp only [jent_r, jent_i, jent_l, jent_a, jent_0]; exact Nat.le_of_ble_eq_true rfl) ?_
  have hls : jents [.ref this, .int p0] (jm_nL M_Ref_showData) = [some (.ref this), some (.int p0), none, none, none, none, none, none, none, none, none, none, none] := by simp only [jents, jent_r, jent_i, jent_l, jent_a, jent_0]; rfl
  rw [hls]
  clear hls
  unfold f_Ref_showData at H
  refine J_iconst (v := 5) d_Ref_showData_0 (by decide) ?_
  refine J_iload_n d_Ref_showData_1 rfl ?_
  refine J_imul d_Ref_showData_2 ?_
  refine J_iconst (v := 1) d_Ref_showData_3 (by decide) ?_
  refine J_iadd d_Ref_showData_4 ?_
  refine J_istore_n d_Ref_showData_5 (Nat.le_of_ble_eq_true rfl) ?_
  refine J.ls (ls' := [some (.ref this), some (.int p0), some (.int (((5 : Int32) * p0) + (1 : Int32))), none, none, none, none, none, none, none, none, none, none]) rfl ?_
  refine J_aload_n d_Ref_showData_6 rfl ?_
  refine J_iload_n d_Ref_showData_7 rfl ?_
  have g44 : Γ this = .inr 12 := by
    apply Classical.byContradiction
    intro q9
    rw [if_neg q9] at H
    cases H
  rw [if_pos g44] at H
  obtain ⟨q45, hq45, H⟩ := Option.bind_eq_some_iff.mp H
  refine J_callV (kc := 0) (ks := 0) (kc' := 0) (ks' := 0) (a := this) (ci := 12) (as := [.int p0]) (st := []) (mf_Ref_unfinished hw) (mv_Ref_363 hw) d_Ref_showData_8 ln_Ref_unfinished (by decide) (by first | exact Nat.le_of_ble_eq_true rfl | (simp only [List.map_cons, List.map_nil, List.sum_cons, List.sum_nil, va_rf_cat]; exact Nat.le_of_ble_eq_true rfl)) rfl ((hG _).1 _ g44 (by decide)).1 ((hG _).1 _ g44 (by decide)).2 (by unfold pic; rw [g44]; rfl) (jcl_at hw rfl) rfl (p_Ref_unfinished hw hG hq45) ?_ (fun E h' n' x' e1 => by cases e1.1)
  intro v9 h9 n9 x9 e9
  obtain ⟨e91, e92, e93⟩ := e9
  cases e91
  subst e92
  subst e93
  clear x
  rename Bool => x
  show J _ _ _ _ (_ :: _) _ _ _ _ _ _
  refine J_istore_n d_Ref_showData_11 (Nat.le_of_ble_eq_true rfl) ?_
  refine J.ls (ls' := [some (.ref this), some (.int p0), some (.int (((5 : Int32) * p0) + (1 : Int32))), some (.int q45.1), none, none, none, none, none, none, none, none, none]) rfl ?_
  refine J_iload_n d_Ref_showData_12 rfl ?_
  refine J_iconst (v := -1) d_Ref_showData_13 (by decide) ?_
  refine J_icmp_eq (tgt := 40) d_Ref_showData_14 (by decide) ?_ ?_
  · intro c54
    rw [if_pos c54] at H
    refine J.drop [true, false, true, true, false, false, false, false, false, false, false, false, false] rfl ?_
    exact p_Ref_showData_L40 hw hG  H
  · intro c54
    rw [if_neg c54] at H
    refine J_aload_n d_Ref_showData_17 rfl ?_
    refine F_getR (ci := 12) (k := 28) hG (cf_Ref hw) (fl_Ref_73 hw) (by decide) (by decide) rfl d_Ref_showData_18 g44 ?_
    refine J_iload_n d_Ref_showData_21 rfl ?_
    obtain ⟨a46, ha46, H⟩ := Option.bind_eq_some_iff.mp H
    rw [j_rf ha46]
    obtain ⟨N47, hN47, H⟩ := Option.bind_eq_some_iff.mp H
    obtain ⟨k48, hk48, H⟩ := Option.bind_eq_some_iff.mp H
    refine F_iald k48 hw hG d_Ref_showData_22 (gA_some hN47) (ix_some hk48) ?_
    refine J_iconst (v := -1) d_Ref_showData_23 (by decide) ?_
    refine J_icmp_ne (tgt := 36) d_Ref_showData_24 (by decide) ?_ ?_
    · intro c53
      rw [if_neg c53] at H
      refine J.drop [true, false, true, true, false, false, false, false, false, false, false, false, false] rfl ?_
      exact p_Ref_showData_L36 hw hG  H
    · intro c53
      rw [if_pos c53] at H
      refine J_aload_n d_Ref_showData_27 rfl ?_
      refine F_getR (ci := 12) (k := 10) hG (cf_Ref hw) (fl_Ref_19 hw) (by decide) (by decide) rfl d_Ref_showData_28 g44 ?_
      refine J_iload_n d_Ref_showData_31 rfl ?_
      obtain ⟨a49, ha49, H⟩ := Option.bind_eq_some_iff.mp H
      rw [j_rf ha49]
      obtain ⟨N50, hN50, H⟩ := Option.bind_eq_some_iff.mp H
      obtain ⟨k51, hk51, H⟩ := Option.bind_eq_some_iff.mp H
      refine F_zald k51 hw hG d_Ref_showData_32 (gA_some hN50) (ix_some hk51) ?_
      refine J_if_eq (tgt := 40) d_Ref_showData_33 (by decide) ?_ ?_
      · intro c52
        rw [if_pos c52] at H
        refine J.drop [true, false, true, true, false, false, false, false, false, false, false, false, false] rfl ?_
        exact p_Ref_showData_L40 hw hG  H
      · intro c52
        rw [if_neg c52] at H
        refine J.drop [true, false, true, true, false, false, false, false, false, false, false, false, false] rfl ?_
        exact p_Ref_showData_L36 hw hG  H
