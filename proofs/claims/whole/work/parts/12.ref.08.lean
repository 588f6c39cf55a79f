theorem ln_Ref_tick : (parseMethodDescriptor y_Ref_tick.desc).map (fun q => q.parameters.length) = some 1 := by decide +kernel
def f_Ref_tick_L50 (Γ : gm_T)  (φ : ph_T) (x2 : Int32) : Option (Int32 × ph_T) :=
  some (x2, φ)
set_option maxRecDepth 100000 in
set_option maxHeartbeats 4000000 in
theorem p_Ref_tick_L50 {w : jw_T} (hw : jok w) {Γ : gm_T} {n : Nat} (hG : gd w Γ n)  {x : Bool} {φ : ph_T} {x2 : Int32} {q : Int32 × ph_T} (H : f_Ref_tick_L50 Γ  φ x2 = some q) : J w M_Ref_tick 50 [none, none, some (.int x2), none] [] (pic Γ φ) n x 0 0 (fq Γ n (.inl (some (.int q.1))) q.2) := by
  unfold f_Ref_tick_L50 at H
  refine J_iload_n d_Ref_tick_50 rfl ?_
  cases H
  exact J_iret (st := []) d_Ref_tick_51 rfl rfl ⟨rfl, rfl, rfl⟩
def f_Ref_tick_L25 (Γ : gm_T)  : Nat → ph_T → Nat → Int32 → Int32 → Int32 → Option (Int32 × ph_T)
  | 0, _, _, _, _, _ => none
  | fu + 1, φ, x0, x1, x2, x3 =>
    if x1 ≤ x3 then
      f_Ref_tick_L50 Γ  φ x2
    else
      @ite _ (Γ x0 = .inr 12) _ (
      if (φ.1 x0 0) = 0 then
        Option.bind (f_Ref_step Γ φ x0) fun q2 =>
        (f_Ref_tick_L25 Γ  fu) q2.2 x0 x1 (x2 + q2.1) (x3 + (1 : Int32))
      else
        f_Ref_tick_L50 Γ  φ x2
      ) none
set_option maxRecDepth 100000 in
set_option maxHeartbeats 4000000 in
theorem p_Ref_tick_L25 {w : jw_T} (hw : jok w) {Γ : gm_T} {n : Nat} (hG : gd w Γ n)  : ∀ (fu : Nat) {x : Bool} {φ : ph_T} {x0 : Nat} {x1 : Int32} {x2 : Int32} {x3 : Int32} {q : Int32 × ph_T}, f_Ref_tick_L25 Γ  fu φ x0 x1 x2 x3 = some q → J w M_Ref_tick 25 [some (.ref x0), some (.int x1), some (.int x2), some (.int x3)] [] (pic Γ φ) n x 0 0 (fq Γ n (.inl (some (.int q.1))) q.2) := by
  intro fu
  induction fu with
  | zero =>
    intro x φ x0 x1 x2 x3 q H
    cases H
  | succ fu ih =>
    intro x φ x0 x1 x2 x3 q H
    unfold f_Ref_tick_L25 at H
    refine J_iload_n d_Ref_tick_25 rfl ?_
    refine J_iload_n d_Ref_tick_26 rfl ?_
    refine J_icmp_ge (tgt := 50) d_Ref_tick_27 (by decide) ?_ ?_
    · intro c4
      rw [if_pos c4] at H
      refine J.drop [false, false, true, false] rfl ?_
      exact p_Ref_tick_L50 hw hG  H
    · intro c4
      rw [if_neg c4] at H
      refine J_aload_n d_Ref_tick_30 rfl ?_
      have g1 : Γ x0 = .inr 12 := by
        apply Classical.byContradiction
        intro q9
        rw [if_neg q9] at H
        cases H
      rw [if_pos g1] at H
      refine F_getI (ci := 12) (k := 0) hG (cf_Ref hw) (fl_Ref_303 hw) (by decide) (by decide) rfl d_Ref_tick_31 g1 ?_
      refine J_if_ne (tgt := 50) d_Ref_tick_34 (by decide) ?_ ?_
      · intro c3
        rw [if_neg c3] at H
        refine J.drop [false, false, true, false] rfl ?_
        exact p_Ref_tick_L50 hw hG  H
      · intro c3
        rw [if_pos c3] at H
        refine J_iload_n d_Ref_tick_37 rfl ?_
        refine J_aload_n d_Ref_tick_38 rfl ?_
        obtain ⟨q2, hq2, H⟩ := Option.bind_eq_some_iff.mp H
        refine J_callV (kc := 0) (ks := 0) (kc' := 0) (ks' := 0) (a := x0) (ci := 12) (as := []) (st := [.int x2]) (mf_Ref_step hw) (mv_Ref_618 hw) d_Ref_tick_39 ln_Ref_step (by decide) (by first | exact Nat.le_of_ble_eq_true rfl | (simp only [List.map_cons, List.map_nil, List.sum_cons, List.sum_nil, va_rf_cat]; exact Nat.le_of_ble_eq_true rfl)) rfl ((hG _).1 _ g1 (by decide)).1 ((hG _).1 _ g1 (by decide)).2 (by unfold pic; rw [g1]; rfl) (jcl_at hw rfl) rfl (p_Ref_step hw hG hq2) ?_ (fun E h' n' x' e1 => by cases e1.1)
        intro v9 h9 n9 x9 e9
        obtain ⟨e91, e92, e93⟩ := e9
        cases e91
        subst e92
        subst e93
        clear x
        rename Bool => x
        show J _ _ _ _ (_ :: _) _ _ _ _ _ _
        refine J_iadd d_Ref_tick_42 ?_
        refine J_istore_n d_Ref_tick_43 (Nat.le_of_ble_eq_true rfl) ?_
        refine J_iinc (v := x3 + 1) d_Ref_tick_44 rfl (by rw [show Int32.ofInt 1 = (1 : Int32) from by decide]) ?_
        refine J_goto (tgt := 25) d_Ref_tick_47 (by decide) ?_
        refine J.drop [true, true, true, true] rfl ?_
        exact ih H
def f_Ref_tick_L18 (Γ : gm_T)  (φ : ph_T) (x0 : Nat) (x1 : Int32) (y0 : Int32) (y1 : Nat) : Option (Int32 × ph_T) :=
  @ite _ (Γ y1 = .inr 12) _ (
  f_Ref_tick_L25 Γ  jF (uI φ y1 0 y0) x0 x1 (0 : Int32) (0 : Int32)
  ) none
set_option maxRecDepth 100000 in
set_option maxHeartbeats 4000000 in
theorem p_Ref_tick_L18 {w : jw_T} (hw : jok w) {Γ : gm_T} {n : Nat} (hG : gd w Γ n)  {x : Bool} {φ : ph_T} {x0 : Nat} {x1 : Int32} {y0 : Int32} {y1 : Nat} {q : Int32 × ph_T} (H : f_Ref_tick_L18 Γ  φ x0 x1 y0 y1 = some q) : J w M_Ref_tick 18 [some (.ref x0), some (.int x1), none, none] [.int y0, .ref y1] (pic Γ φ) n x 0 0 (fq Γ n (.inl (some (.int q.1))) q.2) := by
  unfold f_Ref_tick_L18 at H
  have g5 : Γ y1 = .inr 12 := by
    apply Classical.byContradiction
    intro q9
    rw [if_neg q9] at H
    cases H
  rw [if_pos g5] at H
  refine F_putI (ci := 12) (k := 0) hG (cf_Ref hw) (fl_Ref_303 hw) (by decide) (by decide) rfl d_Ref_tick_18 rfl rfl rfl g5 ?_
  refine J_iconst (v := 0) d_Ref_tick_21 (by decide) ?_
  refine J_istore_n d_Ref_tick_22 (Nat.le_of_ble_eq_true rfl) ?_
  refine J_iconst (v := 0) d_Ref_tick_23 (by decide) ?_
  refine J_istore_n d_Ref_tick_24 (Nat.le_of_ble_eq_true rfl) ?_
  refine J.drop [true, true, true, true] rfl ?_
  exact p_Ref_tick_L25 hw hG  _ H
def f_Ref_tick (Γ : gm_T) (φ : ph_T) (this : Nat) (p0 : Int32) : Option (Int32 × ph_T) :=
  Option.bind (f_Ref_in Γ φ (Int32.toInt64 p0) (1 : Int64) (100 : Int64)) fun q6 =>
  if q6.1 = 0 then
    f_Ref_tick_L18 Γ  q6.2 this p0 (1 : Int32) this
  else
    f_Ref_tick_L18 Γ  q6.2 this p0 (0 : Int32) this
set_option maxRecDepth 100000 in
set_option maxHeartbeats 4000000 in
theorem p_Ref_tick {w : jw_T} (hw : jok w) {Γ : gm_T} {n : Nat} (hG : gd w Γ n) {x : Bool} {φ : ph_T} {this : Nat} {p0 : Int32} {q : Int32 × ph_T} (H : f_Ref_tick Γ φ this p0 = some q) : jc w M_Ref_tick [.ref this, .int p0] (pic Γ φ) n x 0 0 (fq Γ n (.inl (some (.int q.1))) q.2) := by
  refine jc.of (by simp only [jent_r, jent_i, jent_l, jent_a, jent_0]; exact Nat.le_of_ble_eq_true rfl) ?_
  have hls : jents [.ref this, .int p0] (jm_nL M_Ref_tick) = [some (.ref this), some (.int p0), none, none] := by simp only [jents, jent_r, jent_i, jent_l, jent_a, jent_0]; rfl
  rw [hls]
  clear hls
  unfold f_Ref_tick at H
  refine J_aload_n d_Ref_tick_0 rfl ?_
  refine J_iload_n d_Ref_tick_1 rfl ?_
  refine J_i2l d_Ref_tick_2 ?_
  refine J_lconst (v := 1) d_Ref_tick_3 (by decide) ?_
  refine J_ldc2 (v := 100) d_Ref_tick_4 (kn_Ref_616 hw) ?_
  obtain ⟨q6, hq6, H⟩ := Option.bind_eq_some_iff.mp H
  refine J_callS (kc := 0) (ks := 0) (kc' := 0) (ks' := 0) (as := [.long (Int32.toInt64 p0), .long (1 : Int64), .long (100 : Int64)]) (st := [.ref this]) (mf_Ref_in hw) (ms_Ref_599 hw) d_Ref_tick_7 ln_Ref_in (by decide) (by first | exact Nat.le_of_ble_eq_true rfl | (simp only [List.map_cons, List.map_nil, List.sum_cons, List.sum_nil, va_rf_cat]; exact Nat.le_of_ble_eq_true rfl)) rfl (p_Ref_in hw hG hq6) ?_ (fun E h' n' x' e1 => by cases e1.1)
  intro v9 h9 n9 x9 e9
  obtain ⟨e91, e92, e93⟩ := e9
  cases e91
  subst e92
  subst e93
  clear x
  rename Bool => x
  show J _ _ _ _ (_ :: _) _ _ _ _ _ _
  refine J_if_eq (tgt := 17) d_Ref_tick_10 (by decide) ?_ ?_
  · intro c7
    rw [if_pos c7] at H
    refine J_iconst (v := 1) d_Ref_tick_17 (by decide) ?_
    refine J.drop [true, true, false, false] rfl ?_
    exact p_Ref_tick_L18 hw hG  H
  · intro c7
    rw [if_neg c7] at H
    refine J_iconst (v := 0) d_Ref_tick_13 (by decide) ?_
    refine J_goto (tgt := 18) d_Ref_tick_14 (by decide) ?_
    refine J.drop [true, true, false, false] rfl ?_
    exact p_Ref_tick_L18 hw hG  H
theorem ln_Ref_drain : (parseMethodDescriptor y_Ref_drain.desc).map (fun q => q.parameters.length) = some 1 := by decide +kernel
def f_Ref_drain_L67 (Γ : gm_T)  (φ : ph_T) (y0 : Int32) : Option (Int32 × ph_T) :=
  some (y0, φ)
set_option maxRecDepth 100000 in
set_option maxHeartbeats 4000000 in
theorem p_Ref_drain_L67 {w : jw_T} (hw : jok w) {Γ : gm_T} {n : Nat} (hG : gd w Γ n)  {x : Bool} {φ : ph_T} {y0 : Int32} {q : Int32 × ph_T} (H : f_Ref_drain_L67 Γ  φ y0 = some q) : J w M_Ref_drain 67 [none, none, none] [.int y0] (pic Γ φ) n x 0 0 (fq Γ n (.inl (some (.int q.1))) q.2) := by
  unfold f_Ref_drain_L67 at H
  cases H
  exact J_iret (st := []) d_Ref_drain_67 rfl rfl ⟨rfl, rfl, rfl⟩
def f_Ref_drain_L55 (Γ : gm_T)  (φ : ph_T) (x0 : Nat) (x2 : Int32) : Option (Int32 × ph_T) :=
  @ite _ (Γ x0 = .inr 12) _ (
  Option.bind (f_Ref_open Γ φ x0) fun q2 =>
  if q2.1 ≤ 0 then
    f_Ref_drain_L67 Γ  q2.2 x2
  else
    f_Ref_drain_L67 Γ  q2.2 (-1 : Int32)
  ) none
set_option maxRecDepth 100000 in
set_option maxHeartbeats 4000000 in
theorem p_Ref_drain_L55 {w : jw_T} (hw : jok w) {Γ : gm_T} {n : Nat} (hG : gd w Γ n)  {x : Bool} {φ : ph_T} {x0 : Nat} {x2 : Int32} {q : Int32 × ph_T} (H : f_Ref_drain_L55 Γ  φ x0 x2 = some q) : J w M_Ref_drain 55 [some (.ref x0), none, some (.int x2)] [] (pic Γ φ) n x 0 0 (fq Γ n (.inl (some (.int q.1))) q.2) := by
  unfold f_Ref_drain_L55 at H
  refine J_aload_n d_Ref_drain_55 rfl ?_
  have g1 : Γ x0 = .inr 12 := by
    apply Classical.byContradiction
    intro q9
    rw [if_neg q9] at H
    cases H
  rw [if_pos g1] at H
  obtain ⟨q2, hq2, H⟩ := Option.bind_eq_some_iff.mp H
  refine J_callV (kc := 0) (ks := 0) (kc' := 0) (ks' := 0) (a := x0) (ci := 12) (as := []) (st := []) (mf_Ref_open hw) (mv_Ref_605 hw) d_Ref_drain_56 ln_Ref_open (by decide) (by first | exact Nat.le_of_ble_eq_true rfl | (simp only [List.map_cons, List.map_nil, List.sum_cons, List.sum_nil, va_rf_cat]; exact Nat.le_of_ble_eq_true rfl)) rfl ((hG _).1 _ g1 (by decide)).1 ((hG _).1 _ g1 (by decide)).2 (by unfold pic; rw [g1]; rfl) (jcl_at hw rfl) rfl (p_Ref_open hw hG hq2) ?_ (fun E h' n' x' e1 => by cases e1.1)
  intro v9 h9 n9 x9 e9
  obtain ⟨e91, e92, e93⟩ := e9
  cases e91
  subst e92
  subst e93
  clear x
  rename Bool => x
  show J _ _ _ _ (_ :: _) _ _ _ _ _ _
  refine J_if_le (tgt := 66) d_Ref_drain_59 (by decide) ?_ ?_
  · intro c3
    rw [if_pos c3] at H
    refine J_iload_n d_Ref_drain_66 rfl ?_
    refine J.drop [false, false, false] rfl ?_
    exact p_Ref_drain_L67 hw hG  H
  · intro c3
    rw [if_neg c3] at H
    refine J_iconst (v := -1) d_Ref_drain_62 (by decide) ?_
    refine J_goto (tgt := 67) d_Ref_drain_63 (by decide) ?_
    refine J.drop [false, false, false] rfl ?_
    exact p_Ref_drain_L67 hw hG  H
def f_Ref_drain_L32 (Γ : gm_T)  : Nat → ph_T → Nat → Int32 → Int32 → Option (Int32 × ph_T)
  | 0, _, _, _, _ => none
  | fu + 1, φ, x0, x1, x2 =>
    if x1 ≤ x2 then
      f_Ref_drain_L55 Γ  φ x0 x2
    else
      @ite _ (Γ x0 = .inr 12) _ (
      Option.bind (f_Ref_open Γ φ x0) fun q5 =>
      if q5.1 ≤ 0 then
        f_Ref_drain_L55 Γ  q5.2 x0 x2
      else
        Option.bind (f_Ref_step Γ q5.2 x0) fun q6 =>
        (f_Ref_drain_L32 Γ  fu) q6.2 x0 x1 (x2 + (1 : Int32))
      ) none
set_option maxRecDepth 100000 in
set_option maxHeartbeats 4000000 in
theorem p_Ref_drain_L32 {w : jw_T} (hw : jok w) {Γ : gm_T} {n : Nat} (hG : gd w Γ n)  : ∀ (fu : Nat) {x : Bool} {φ : ph_T} {x0 : Nat} {x1 : Int32} {x2 : Int32} {q : Int32 × ph_T}, f_Ref_drain_L32 Γ  fu φ x0 x1 x2 = some q → J w M_Ref_drain 32 [some (.ref x0), some (.int x1), some (.int x2)] [] (pic Γ φ) n x 0 0 (fq Γ n (.inl (some (.int q.1))) q.2) := by
  intro fu
  induction fu with
  | zero =>
    intro x φ x0 x1 x2 q H
    cases H
  | succ fu ih =>
    intro x φ x0 x1 x2 q H
    unfold f_Ref_drain_L32 at H
    refine J_iload_n d_Ref_drain_32 rfl ?_
    refine J_iload_n d_Ref_drain_33 rfl ?_
    refine J_icmp_ge (tgt := 55) d_Ref_drain_34 (by decide) ?_ ?_
    · intro c8
      rw [if_pos c8] at H
      refine J.drop [true, false, true] rfl ?_
      exact p_Ref_drain_L55 hw hG  H
    · intro c8
      rw [if_neg c8] at H
      refine J_aload_n d_Ref_drain_37 rfl ?_
      have g4 : Γ x0 = .inr 12 := by
        apply Classical.byContradiction
        intro q9
        rw [if_neg q9] at H
        cases H
      rw [if_pos g4] at H
      obtain ⟨q5, hq5, H⟩ := Option.bind_eq_some_iff.mp H
      refine J_callV (kc := 0) (ks := 0) (kc' := 0) (ks' := 0) (a := x0) (ci := 12) (as := []) (st := []) (mf_Ref_open hw) (mv_Ref_605 hw) d_Ref_drain_38 ln_Ref_open (by decide) (by first | exact Nat.le_of_ble_eq_true rfl | (simp only [List.map_cons, List.map_nil, List.sum_cons, List.sum_nil, va_rf_cat]; exact Nat.le_of_ble_eq_true rfl)) rfl ((hG _).1 _ g4 (by decide)).1 ((hG _).1 _ g4 (by decide)).2 (by unfold pic; rw [g4]; rfl) (jcl_at hw rfl) rfl (p_Ref_open hw hG hq5) ?_ (fun E h' n' x' e1 => by cases e1.1)
      intro v9 h9 n9 x9 e9
      obtain ⟨e91, e92, e93⟩ := e9
      cases e91
      subst e92
      subst e93
      clear x
      rename Bool => x
      show J _ _ _ _ (_ :: _) _ _ _ _ _ _
      refine J_if_le (tgt := 55) d_Ref_drain_41 (by decide) ?_ ?_
      · intro c7
        rw [if_pos c7] at H
        refine J.drop [true, false, true] rfl ?_
        exact p_Ref_drain_L55 hw hG  H
      · intro c7
        rw [if_neg c7] at H
        refine J_aload_n d_Ref_drain_44 rfl ?_
        obtain ⟨q6, hq6, H⟩ := Option.bind_eq_some_iff.mp H
        refine J_callV (kc := 0) (ks := 0) (kc' := 0) (ks' := 0) (a := x0) (ci := 12) (as := []) (st := []) (mf_Ref_step hw) (mv_Ref_618 hw) d_Ref_drain_45 ln_Ref_step (by decide) (by first | exact Nat.le_of_ble_eq_true rfl | (simp only [List.map_cons, List.map_nil, List.sum_cons, List.sum_nil, va_rf_cat]; exact Nat.le_of_ble_eq_true rfl)) rfl ((hG _).1 _ g4 (by decide)).1 ((hG _).1 _ g4 (by decide)).2 (by unfold pic; rw [g4]; rfl) (jcl_at hw rfl) rfl (p_Ref_step hw hG hq6) ?_ (fun E h' n' x' e1 => by cases e1.1)
        intro v9 h9 n9 x9 e9
        obtain ⟨e91, e92, e93⟩ := e9
        cases e91
        subst e92
        subst e93
        clear x
        rename Bool => x
        show J _ _ _ _ (_ :: _) _ _ _ _ _ _
        refine J_pop d_Ref_drain_48 rfl ?_
        refine J_iinc (v := x2 + 1) d_Ref_drain_49 rfl (by rw [show Int32.ofInt 1 = (1 : Int32) from by decide]) ?_
        refine J_goto (tgt := 32) d_Ref_drain_52 (by decide) ?_
        refine J.drop [true, true, true] rfl ?_
        exact ih H
def f_Ref_drain_L18 (Γ : gm_T)  (φ : ph_T) (x0 : Nat) (x1 : Int32) (y0 : Int32) (y1 : Nat) : Option (Int32 × ph_T) :=
  @ite _ (Γ y1 = .inr 12) _ (
  @ite _ (Γ x0 = .inr 12) _ (
  if ((uI φ y1 0 y0).1 x0 0) ≤ 0 then
    f_Ref_drain_L32 Γ  jF (uI φ y1 0 y0) x0 x1 (0 : Int32)
  else
    some ((0 : Int32), (uI φ y1 0 y0))
  ) none
  ) none
set_option maxRecDepth 100000 in
set_option maxHeartbeats 4000000 in
theorem p_Ref_drain_L18 {w : jw_T} (hw : jok w) {Γ : gm_T} {n : Nat} (hG : gd w Γ n)  {x : Bool} {φ : ph_T} {x0 : Nat} {x1 : Int32} {y0 : Int32} {y1 : Nat} {q : Int32 × ph_T} (H : f_Ref_drain_L18 Γ  φ x0 x1 y0 y1 = some q) : J w M_Ref_drain 18 [some (.ref x0), some (.int x1), none] [.int y0, .ref y1] (pic Γ φ) n x 0 0 (fq Γ n (.inl (some (.int q.1))) q.2) := by
  unfold f_Ref_drain_L18 at H
  have g9 : Γ y1 = .inr 12 := by
    apply Classical.byContradiction
    intro q9
    rw [if_neg q9] at H
    cases H
  rw [if_pos g9] at H
  refine F_putI (ci := 12) (k := 0) hG (cf_Ref hw) (fl_Ref_303 hw) (by decide) (by decide) rfl d_Ref_drain_18 rfl rfl rfl g9 ?_
  refine J_aload_n d_Ref_drain_21 rfl ?_
  have g10 : Γ x0 = .inr 12 := by
    apply Classical.byContradiction
    intro q9
    rw [if_neg q9] at H
    cases H
  rw [if_pos g10] at H
  refine F_getI (ci := 12) (k := 0) hG (cf_Ref hw) (fl_Ref_303 hw) (by decide) (by decide) rfl d_Ref_drain_22 g10 ?_
  refine J_if_le (tgt := 30) d_Ref_drain_25 (by decide) ?_ ?_
  · intro c11
    rw [if_pos c11] at H
    refine J_iconst (v := 0) d_Ref_drain_30 (by decide) ?_
    refine J_istore_n d_Ref_drain_31 (Nat.le_of_ble_eq_true rfl) ?_
    refine J.drop [true, true, true] rfl ?_
    exact p_Ref_drain_L32 hw hG  _ H
  · intro c11
    rw [if_neg c11] at H
    refine J_iconst (v := 0) d_Ref_drain_28 (by decide) ?_
    cases H
    exact J_iret (st := []) d_Ref_drain_29 rfl rfl ⟨rfl, rfl, rfl⟩
def f_Ref_drain (Γ : gm_T) (φ : ph_T) (this : Nat) (p0 : Int32) : Option (Int32 × ph_T) :=
  Option.bind (f_Ref_in Γ φ (Int32.toInt64 p0) (1 : Int64) (1000 : Int64)) fun q12 =>
  if q12.1 = 0 then
    f_Ref_drain_L18 Γ  q12.2 this p0 (1 : Int32) this
  else
    f_Ref_drain_L18 Γ  q12.2 this p0 (0 : Int32) this
set_option maxRecDepth 100000 in
set_option maxHeartbeats 4000000 in
theorem p_Ref_drain {w : jw_T} (hw : jok w) {Γ : gm_T} {n : Nat} (hG : gd w Γ n) {x : Bool} {φ : ph_T} {this : Nat} {p0 : Int32} {q : Int32 × ph_T} (H : f_Ref_drain Γ φ this p0 = some q) : jc w M_Ref_drain [.ref this, .int p0] (pic Γ φ) n x 0 0 (fq Γ n (.inl (some (.int q.1))) q.2) := by
  refine jc.of (by simp only [jent_r, jent_i, jent_l, jent_a, jent_0]; exact Nat.le_of_ble_eq_true rfl) ?_
  have hls : jents [.ref this, .int p0] (jm_nL M_Ref_drain) = [some (.ref this), some (.int p0), none] := by simp only [jents, jent_r, jent_i, jent_l, jent_a, jent_0]; rfl
  rw [hls]
  clear hls
  unfold f_Ref_drain at H
  refine J_aload_n d_Ref_drain_0 rfl ?_
  refine J_iload_n d_Ref_drain_1 rfl ?_
  refine J_i2l d_Ref_drain_2 ?_
  refine J_lconst (v := 1) d_Ref_drain_3 (by decide) ?_
  refine J_ldc2 (v := 1000) d_Ref_drain_4 (kn_Ref_621 hw) ?_
  obtain ⟨q12, hq12, H⟩ := Option.bind_eq_some_iff.mp H
  refine J_callS (kc := 0) (ks := 0) (kc' := 0) (ks' := 0) (as := [.long (Int32.toInt64 p0), .long (1 : Int64), .long (1000 : Int64)]) (st := [.ref this]) (mf_Ref_in hw) (ms_Ref_599 hw) d_Ref_drain_7 ln_Ref_in (by decide) (by first | exact Nat.le_of_ble_eq_true rfl | (simp only [List.map_cons, List.map_nil, List.sum_cons, List.sum_nil, va_rf_cat]; exact Nat.le_of_ble_eq_true rfl)) rfl (p_Ref_in hw hG hq12) ?_ (fun E h' n' x' e1 => by cases e1.1)
  intro v9 h9 n9 x9 e9
  obtain ⟨e91, e92, e93⟩ := e9
  cases e91
  subst e92
  subst e93
  clear x
  rename Bool => x
  show J _ _ _ _ (_ :: _) _ _ _ _ _ _
  refine J_if_eq (tgt := 17) d_Ref_drain_10 (by decide) ?_ ?_
  · intro c13
    rw [if_pos c13] at H
    refine J_iconst (v := 1) d_Ref_drain_17 (by decide) ?_
    refine J.drop [true, true, false] rfl ?_
    exact p_Ref_drain_L18 hw hG  H
  · intro c13
    rw [if_neg c13] at H
    refine J_iconst (v := 0) d_Ref_drain_13 (by decide) ?_
    refine J_goto (tgt := 18) d_Ref_drain_14 (by decide) ?_
    refine J.drop [true, true, false] rfl ?_
    exact p_Ref_drain_L18 hw hG  H
theorem ln_Ref_isTicket : (parseMethodDescriptor y_Ref_isTicket.desc).map (fun q => q.parameters.length) = some 1 := by decide +kernel
def f_Ref_isTicket (Γ : gm_T) (φ : ph_T) (this : Nat) (p0 : Int32) : Option (Int32 × ph_T) :=
  @ite _ (Γ this = .inr 12) _ (
  Option.bind (f_Ref_in Γ φ (Int32.toInt64 p0) (0 : Int64) ((Int32.toInt64 (φ.1 this 15)) - (1 : Int64))) fun q2 =>
  @ite _ (q2.1 = 0 ∨ q2.1 = 1) _ (
  some (q2.1, q2.2)
  ) none
  ) none
set_option maxRecDepth 100000 in
set_option maxHeartbeats 4000000 in
theorem p_Ref_isTicket {w : jw_T} (hw : jok w) {Γ : gm_T} {n : Nat} (hG : gd w Γ n) {x : Bool} {φ : ph_T} {this : Nat} {p0 : Int32} {q : Int32 × ph_T} (H : f_Ref_isTicket Γ φ this p0 = some q) : jc w M_Ref_isTicket [.ref this, .int p0] (pic Γ φ) n x 0 0 (fq Γ n (.inl (some (.int q.1))) q.2) := by
  refine jc.of (by simp only [jent_r, jent_i, jent_l, jent_a, jent_0]; exact Nat.le_of_ble_eq_true rfl) ?_
  have hls : jents [.ref this, .int p0] (jm_nL M_Ref_isTicket) = [some (.ref this), some (.int p0)] := by simp only [jents, jent_r, jent_i, jent_l, jent_a, jent_0]; rfl
  rw [hls]
  clear hls
  unfold f_Ref_isTicket at H
  refine J_iload_n d_Ref_isTicket_0 rfl ?_
  refine J_i2l d_Ref_isTicket_1 ?_
  refine J_lconst (v := 0) d_Ref_isTicket_2 (by decide) ?_
  refine J_aload_n d_Ref_isTicket_3 rfl ?_
  have g1 : Γ this = .inr 12 := by
    apply Classical.byContradiction
    intro q9
    rw [if_neg q9] at H
    cases H
  rw [if_pos g1] at H
  refine F_getI (ci := 12) (k := 15) hG (cf_Ref hw) (fl_Ref_337 hw) (by decide) (by decide) rfl d_Ref_isTicket_4 g1 ?_
  refine J_i2l d_Ref_isTicket_7 ?_
  refine J_lconst (v := 1) d_Ref_isTicket_8 (by decide) ?_
  refine J_lsub d_Ref_isTicket_9 ?_
  obtain ⟨q2, hq2, H⟩ := Option.bind_eq_some_iff.mp H
  refine J_callS (kc := 0) (ks := 0) (kc' := 0) (ks' := 0) (as := [.long (Int32.toInt64 p0), .long (0 : Int64), .long ((Int32.toInt64 (φ.1 this 15)) - (1 : Int64))]) (st := []) (mf_Ref_in hw) (ms_Ref_599 hw) d_Ref_isTicket_10 ln_Ref_in (by decide) (by first | exact Nat.le_of_ble_eq_true rfl | (simp only [List.map_cons, List.map_nil, List.sum_cons, List.sum_nil, va_rf_cat]; exact Nat.le_of_ble_eq_true rfl)) rfl (p_Ref_in hw hG hq2) ?_ (fun E h' n' x' e1 => by cases e1.1)
  intro v9 h9 n9 x9 e9
  obtain ⟨e91, e92, e93⟩ := e9
  cases e91
  subst e92
  subst e93
  clear x
  rename Bool => x
  show J _ _ _ _ (_ :: _) _ _ _ _ _ _
  have z3 : q2.1 = 0 ∨ q2.1 = 1 := by
    apply Classical.byContradiction
    intro q9
    rw [if_neg q9] at H
    cases H
  rw [if_pos z3] at H
  cases H
  exact J_iret (st := []) d_Ref_isTicket_13 rfl (narrow_z z3).1 ⟨rfl, rfl, rfl⟩
theorem ln_Ref_ticket : (parseMethodDescriptor y_Ref_ticket.desc).map (fun q => q.parameters.length) = some 2 := by decide +kernel
def f_Ref_ticket_L109 (Γ : gm_T)  (φ : ph_T) (y0 : Int32) : Option (Int32 × ph_T) :=
  some (y0, φ)
set_option maxRecDepth 100000 in
set_option maxHeartbeats 4000000 in
theorem p_Ref_ticket_L109 {w : jw_T} (hw : jok w) {Γ : gm_T} {n : Nat} (hG : gd w Γ n)  {x : Bool} {φ : ph_T} {y0 : Int32} {q : Int32 × ph_T} (H : f_Ref_ticket_L109 Γ  φ y0 = some q) : J w M_Ref_ticket 109 [none, none, none] [.int y0] (pic Γ φ) n x 0 0 (fq Γ n (.inl (some (.int q.1))) q.2) := by
  unfold f_Ref_ticket_L109 at H
  cases H
  exact J_iret (st := []) d_Ref_ticket_109 rfl rfl ⟨rfl, rfl, rfl⟩
def f_Ref_ticket_L30 (Γ : gm_T)  (φ : ph_T) (x0 : Nat) (x1 : Int32) (x2 : Int32) (y0 : Int32) (y1 : Nat) : Option (Int32 × ph_T) :=
  @ite _ (Γ y1 = .inr 12) _ (
  @ite _ (Γ x0 = .inr 12) _ (
  if ((uI φ y1 0 y0).1 x0 0) ≤ 0 then
    if x2 = 0 then
      Option.bind ((uI φ y1 0 y0).2.2 x0 29) fun a3 =>
      Option.bind (gA Γ a3 0) fun N4 =>
      Option.bind (ix x1 N4) fun k5 =>
      if ((uI φ y1 0 y0).1 a3 k5) = (-1 : Int32) then
        Option.bind ((uI φ y1 0 y0).2.2 x0 28) fun a6 =>
        Option.bind (gA Γ a6 0) fun N7 =>
        Option.bind (ix x1 N7) fun k8 =>
        if ((uI φ y1 0 y0).1 a6 k8) = (-1 : Int32) then
          f_Ref_ticket_L109 Γ  (uI φ y1 0 y0) (0 : Int32)
        else
          f_Ref_ticket_L109 Γ  (uI φ y1 0 y0) (1 : Int32)
      else
        f_Ref_ticket_L109 Γ  (uI φ y1 0 y0) (2 : Int32)
    else
      if x2 = 1 then
        Option.bind ((uI φ y1 0 y0).2.2 x0 31) fun a11 =>
        Option.bind (gA Γ a11 0) fun N12 =>
        Option.bind (ix x1 N12) fun k13 =>
        some (((uI φ y1 0 y0).1 a11 k13), (uI φ y1 0 y0))
      else
        if x2 = 2 then
          Option.bind ((uI φ y1 0 y0).2.2 x0 27) fun a14 =>
          Option.bind (gA Γ a14 0) fun N15 =>
          Option.bind (ix x1 N15) fun k16 =>
          some (((uI φ y1 0 y0).1 a14 k16), (uI φ y1 0 y0))
        else
          if x2 = 3 then
            Option.bind ((uI φ y1 0 y0).2.2 x0 28) fun a17 =>
            Option.bind (gA Γ a17 0) fun N18 =>
            Option.bind (ix x1 N18) fun k19 =>
            some (((uI φ y1 0 y0).1 a17 k19), (uI φ y1 0 y0))
          else
            if x2 = 4 then
              Option.bind ((uI φ y1 0 y0).2.2 x0 29) fun a20 =>
              Option.bind (gA Γ a20 0) fun N21 =>
              Option.bind (ix x1 N21) fun k22 =>
              some (((uI φ y1 0 y0).1 a20 k22), (uI φ y1 0 y0))
            else
              if x2 = 5 then
                Option.bind ((uI φ y1 0 y0).2.2 x0 30) fun a23 =>
                Option.bind (gA Γ a23 0) fun N24 =>
                Option.bind (ix x1 N24) fun k25 =>
                some (((uI φ y1 0 y0).1 a23 k25), (uI φ y1 0 y0))
              else
                Option.bind ((uI φ y1 0 y0).2.2 x0 24) fun a26 =>
                Option.bind (gA Γ a26 0) fun N27 =>
                Option.bind (ix x1 N27) fun k28 =>
                Option.bind (f_Ref_targetOf Γ (uI φ y1 0 y0) x0 ((uI φ y1 0 y0).1 a26 k28)) fun q29 =>
                some (q29.1, q29.2)
  else
    some ((0 : Int32), (uI φ y1 0 y0))
  ) none
  ) none
set_option maxRecDepth 100000 in
set_option maxHeartbeats 4000000 in
theorem p_Ref_ticket_L30 {w : jw_T} (hw : jok w) {Γ : gm_T} {n : Nat} (hG : gd w Γ n)  {x : Bool} {φ : ph_T} {x0 : Nat} {x1 : Int32} {x2 : Int32} {y0 : Int32} {y1 : Nat} {q : Int32 × ph_T} (H : f_Ref_ticket_L30 Γ  φ x0 x1 x2 y0 y1 = some q) : J w M_Ref_ticket 30 [some (.ref x0), some (.int x1), some (.int x2)] [.int y0, .ref y1] (pic Γ φ) n x 0 0 (fq Γ n (.inl (some (.int q.1))) q.2) := by
  unfold f_Ref_ticket_L30 at H
  have g1 : Γ y1 = .inr 12 := by
    apply Classical.byContradiction
    intro q9
    rw [if_neg q9] at H
    cases H
  rw [if_pos g1] at H
  refine F_putI (ci := 12) (k := 0) hG (cf_Ref hw) (fl_Ref_303 hw) (by decide) (by decide) rfl d_Ref_ticket_30 rfl rfl rfl g1 ?_
  refine J_aload_n d_Ref_ticket_33 rfl ?_
  have g2 : Γ x0 = .inr 12 := by
    apply Classical.byContradiction
    intro q9
    rw [if_neg q9] at H
    cases H
  rw [if_pos g2] at H
  refine F_getI (ci := 12) (k := 0) hG (cf_Ref hw) (fl_Ref_303 hw) (by decide) (by decide) rfl d_Ref_ticket_34 g2 ?_
  refine J_if_le (tgt := 42) d_Ref_ticket_37 (by decide) ?_ ?_
  · intro c36
    rw [if_pos c36] at H
    refine J_iload_n d_Ref_ticket_42 rfl ?_
    by_cases c30 : x2 = 0
    · rw [if_pos c30] at H
      refine J_table (off := 37) (tgt := 80) d_Ref_ticket_43 (by rw [c30]; decide) (by decide) ?_
      refine J_aload_n d_Ref_ticket_80 rfl ?_
      refine F_getR (ci := 12) (k := 29) hG (cf_Ref hw) (fl_Ref_76 hw) (by decide) (by decide) rfl d_Ref_ticket_81 g2 ?_
      refine J_iload_n d_Ref_ticket_84 rfl ?_
      obtain ⟨a3, ha3, H⟩ := Option.bind_eq_some_iff.mp H
      rw [j_rf ha3]
      obtain ⟨N4, hN4, H⟩ := Option.bind_eq_some_iff.mp H
      obtain ⟨k5, hk5, H⟩ := Option.bind_eq_some_iff.mp H
      refine F_iald k5 hw hG d_Ref_ticket_85 (gA_some hN4) (ix_some hk5) ?_
      refine J_iconst (v := -1) d_Ref_ticket_86 (by decide) ?_
      refine J_icmp_eq (tgt := 94) d_Ref_ticket_87 (by decide) ?_ ?_
      · intro c10
        rw [if_pos c10] at H
        refine J_aload_n d_Ref_ticket_94 rfl ?_
        refine F_getR (ci := 12) (k := 28) hG (cf_Ref hw) (fl_Ref_73 hw) (by decide) (by decide) rfl d_Ref_ticket_95 g2 ?_
        refine J_iload_n d_Ref_ticket_98 rfl ?_
        obtain ⟨a6, ha6, H⟩ := Option.bind_eq_some_iff.mp H
        rw [j_rf ha6]
        obtain ⟨N7, hN7, H⟩ := Option.bind_eq_some_iff.mp H
        obtain ⟨k8, hk8, H⟩ := Option.bind_eq_some_iff.mp H
        refine F_iald k8 hw hG d_Ref_ticket_99 (gA_some hN7) (ix_some hk8) ?_
        refine J_iconst (v := -1) d_Ref_ticket_100 (by decide) ?_
        refine J_icmp_eq (tgt := 108) d_Ref_ticket_101 (by decide) ?_ ?_
        · intro c9
          rw [if_pos c9] at H
          refine J_iconst (v := 0) d_Ref_ticket_108 (by decide) ?_
          refine J.drop [false, false, false] rfl ?_
          exact p_Ref_ticket_L109 hw hG  H
        · intro c9
          rw [if_neg c9] at H
          refine J_iconst (v := 1) d_Ref_ticket_104 (by decide) ?_
          refine J_goto (tgt := 109) d_Ref_ticket_105 (by decide) ?_
          refine J.drop [false, false, false] rfl ?_
          exact p_Ref_ticket_L109 hw hG  H
      · intro c10
        rw [if_neg c10] at H
        refine J_iconst (v := 2) d_Ref_ticket_90 (by decide) ?_
        refine J_goto (tgt := 109) d_Ref_ticket_91 (by decide) ?_
        refine J.drop [false, false, false] rfl ?_
        exact p_Ref_ticket_L109 hw hG  H
    · rw [if_neg c30] at H
      by_cases c31 : x2 = 1
      · rw [if_pos c31] at H
        refine J_table (off := 67) (tgt := 110) d_Ref_ticket_43 (by rw [c31]; decide) (by decide) ?_
        refine J_aload_n d_Ref_ticket_110 rfl ?_
        refine F_getR (ci := 12) (k := 31) hG (cf_Ref hw) (fl_Ref_82 hw) (by decide) (by decide) rfl d_Ref_ticket_111 g2 ?_
        refine J_iload_n d_Ref_ticket_114 rfl ?_
        obtain ⟨a11, ha11, H⟩ := Option.bind_eq_some_iff.mp H
        rw [j_rf ha11]
        obtain ⟨N12, hN12, H⟩ := Option.bind_eq_some_iff.mp H
        obtain ⟨k13, hk13, H⟩ := Option.bind_eq_some_iff.mp H
        refine F_iald k13 hw hG d_Ref_ticket_115 (gA_some hN12) (ix_some hk13) ?_
        cases H
        exact J_iret (st := []) d_Ref_ticket_116 rfl rfl ⟨rfl, rfl, rfl⟩
      · rw [if_neg c31] at H
        by_cases c32 : x2 = 2
        · rw [if_pos c32] at H
          refine J_table (off := 74) (tgt := 117) d_Ref_ticket_43 (by rw [c32]; decide) (by decide) ?_
          refine J_aload_n d_Ref_ticket_117 rfl ?_
          refine F_getR (ci := 12) (k := 27) hG (cf_Ref hw) (fl_Ref_70 hw) (by decide) (by decide) rfl d_Ref_ticket_118 g2 ?_
          refine J_iload_n d_Ref_ticket_121 rfl ?_
          obtain ⟨a14, ha14, H⟩ := Option.bind_eq_some_iff.mp H
          rw [j_rf ha14]
          obtain ⟨N15, hN15, H⟩ := Option.bind_eq_some_iff.mp H
          obtain ⟨k16, hk16, H⟩ := Option.bind_eq_some_iff.mp H
          refine F_iald k16 hw hG d_Ref_ticket_122 (gA_some hN15) (ix_some hk16) ?_
          cases H
          exact J_iret (st := []) d_Ref_ticket_123 rfl rfl ⟨rfl, rfl, rfl⟩
        · rw [if_neg c32] at H
          by_cases c33 : x2 = 3
          · rw [if_pos c33] at H
            refine J_table (off := 81) (tgt := 124) d_Ref_ticket_43 (by rw [c33]; decide) (by decide) ?_
            refine J_aload_n d_Ref_ticket_124 rfl ?_
            refine F_getR (ci := 12) (k := 28) hG (cf_Ref hw) (fl_Ref_73 hw) (by decide) (by decide) rfl d_Ref_ticket_125 g2 ?_
            refine J_iload_n d_Ref_ticket_128 rfl ?_
            obtain ⟨a17, ha17, H⟩ := Option.bind_eq_some_iff.mp H
            rw [j_rf ha17]
            obtain ⟨N18, hN18, H⟩ := Option.bind_eq_some_iff.mp H
            obtain ⟨k19, hk19, H⟩ := Option.bind_eq_some_iff.mp H
            refine F_iald k19 hw hG d_Ref_ticket_129 (gA_some hN18) (ix_some hk19) ?_
            cases H
            exact J_iret (st := []) d_Ref_ticket_130 rfl rfl ⟨rfl, rfl, rfl⟩
          · rw [if_neg c33] at H
            by_cases c34 : x2 = 4
            · rw [if_pos c34] at H
              refine J_table (off := 88) (tgt := 131) d_Ref_ticket_43 (by rw [c34]; decide) (by decide) ?_
              refine J_aload_n d_Ref_ticket_131 rfl ?_
              refine F_getR (ci := 12) (k := 29) hG (cf_Ref hw) (fl_Ref_76 hw) (by decide) (by decide) rfl d_Ref_ticket_132 g2 ?_
              refine J_iload_n d_Ref_ticket_135 rfl ?_
              obtain ⟨a20, ha20, H⟩ := Option.bind_eq_some_iff.mp H
              rw [j_rf ha20]
              obtain ⟨N21, hN21, H⟩ := Option.bind_eq_some_iff.mp H
              obtain ⟨k22, hk22, H⟩ := Option.bind_eq_some_iff.mp H
              refine F_iald k22 hw hG d_Ref_ticket_136 (gA_some hN21) (ix_some hk22) ?_
              cases H
              exact J_iret (st := []) d_Ref_ticket_137 rfl rfl ⟨rfl, rfl, rfl⟩
            · rw [if_neg c34] at H
              by_cases c35 : x2 = 5
              · rw [if_pos c35] at H
                refine J_table (off := 95) (tgt := 138) d_Ref_ticket_43 (by rw [c35]; decide) (by decide) ?_
                refine J_aload_n d_Ref_ticket_138 rfl ?_
                refine F_getR (ci := 12) (k := 30) hG (cf_Ref hw) (fl_Ref_79 hw) (by decide) (by decide) rfl d_Ref_ticket_139 g2 ?_
                refine J_iload_n d_Ref_ticket_142 rfl ?_
                obtain ⟨a23, ha23, H⟩ := Option.bind_eq_some_iff.mp H
                rw [j_rf ha23]
                obtain ⟨N24, hN24, H⟩ := Option.bind_eq_some_iff.mp H
                obtain ⟨k25, hk25, H⟩ := Option.bind_eq_some_iff.mp H
                refine F_iald k25 hw hG d_Ref_ticket_143 (gA_some hN24) (ix_some hk25) ?_
                cases H
                exact J_iret (st := []) d_Ref_ticket_144 rfl rfl ⟨rfl, rfl, rfl⟩
              · rw [if_neg c35] at H
                refine J_table (off := 102) (tgt := 145) d_Ref_ticket_43 (by
                    rw [if_pos (by
                      apply Classical.byContradiction
                      intro h9
                      have h8 : (x2).toInt = 0 ∨ (x2).toInt = 1 ∨ (x2).toInt = 2 ∨ (x2).toInt = 3 ∨ (x2).toInt = 4 ∨ (x2).toInt = 5 := by omega
                      rcases h8 with h8 | h8 | h8 | h8 | h8 | h8
                      · exact c30 (j_inj (by rw [h8]; decide))
                      · exact c31 (j_inj (by rw [h8]; decide))
                      · exact c32 (j_inj (by rw [h8]; decide))
                      · exact c33 (j_inj (by rw [h8]; decide))
                      · exact c34 (j_inj (by rw [h8]; decide))
                      · exact c35 (j_inj (by rw [h8]; decide)))]) (by decide) ?_
                refine J_aload_n d_Ref_ticket_145 rfl ?_
                refine J_aload_n d_Ref_ticket_146 rfl ?_
                refine F_getR (ci := 12) (k := 24) hG (cf_Ref hw) (fl_Ref_60 hw) (by decide) (by decide) rfl d_Ref_ticket_147 g2 ?_
                refine J_iload_n d_Ref_ticket_150 rfl ?_
                obtain ⟨a26, ha26, H⟩ := Option.bind_eq_some_iff.mp H
                rw [j_rf ha26]
                obtain ⟨N27, hN27, H⟩ := Option.bind_eq_some_iff.mp H
                obtain ⟨k28, hk28, H⟩ := Option.bind_eq_some_iff.mp H
                refine F_iald k28 hw hG d_Ref_ticket_151 (gA_some hN27) (ix_some hk28) ?_
                obtain ⟨q29, hq29, H⟩ := Option.bind_eq_some_iff.mp H
                refine J_callV (kc := 0) (ks := 0) (kc' := 0) (ks' := 0) (a := x0) (ci := 12) (as := [.int ((uI φ y1 0 y0).1 a26 k28)]) (st := []) (mf_Ref_targetOf hw) (mv_Ref_523 hw) d_Ref_ticket_152 ln_Ref_targetOf (by decide) (by first | exact Nat.le_of_ble_eq_true rfl | (simp only [List.map_cons, List.map_nil, List.sum_cons, List.sum_nil, va_rf_cat]; exact Nat.le_of_ble_eq_true rfl)) rfl ((hG _).1 _ g2 (by decide)).1 ((hG _).1 _ g2 (by decide)).2 (by unfold pic; rw [g2]; rfl) (jcl_at hw rfl) rfl (p_Ref_targetOf hw hG hq29) ?_ (fun E h' n' x' e1 => by cases e1.1)
                intro v9 h9 n9 x9 e9
                obtain ⟨e91, e92, e93⟩ := e9
                cases e91
                subst e92
                subst e93
                clear x
                rename Bool => x
                show J _ _ _ _ (_ :: _) _ _ _ _ _ _
                cases H
                exact J_iret (st := []) d_Ref_ticket_155 rfl rfl ⟨rfl, rfl, rfl⟩
  · intro c36
    rw [if_neg c36] at H
    refine J_iconst (v := 0) d_Ref_ticket_40 (by decide) ?_
    cases H
    exact J_iret (st := []) d_Ref_ticket_41 rfl rfl ⟨rfl, rfl, rfl⟩
def f_Ref_ticket (Γ : gm_T) (φ : ph_T) (this : Nat) (p0 : Int32) (p1 : Int32) : Option (Int32 × ph_T) :=
  @ite _ (Γ this = .inr 12) _ (
  Option.bind (f_Ref_isTicket Γ φ this p0) fun q38 =>
  if q38.1 = 0 then
    f_Ref_ticket_L30 Γ  q38.2 this p0 p1 (1 : Int32) this
  else
    Option.bind (f_Ref_in Γ q38.2 (Int32.toInt64 p1) (0 : Int64) (6 : Int64)) fun q39 =>
    if q39.1 = 0 then
      f_Ref_ticket_L30 Γ  q39.2 this p0 p1 (2 : Int32) this
    else
      f_Ref_ticket_L30 Γ  q39.2 this p0 p1 (0 : Int32) this
  ) none
set_option maxRecDepth 100000 in
set_option maxHeartbeats 4000000 in
theorem p_Ref_ticket {w : jw_T} (hw : jok w) {Γ : gm_T} {n : Nat} (hG : gd w Γ n) {x : Bool} {φ : ph_T} {this : Nat} {p0 : Int32} {p1 : Int32} {q : Int32 × ph_T} (H : f_Ref_ticket Γ φ this p0 p1 = some q) : jc w M_Ref_ticket [.ref this, .int p0, .int p1] (pic Γ φ) n x 0 0 (fq Γ n (.inl (some (.int q.1))) q.2) := by
  refine jc.of (by simp only [jent_r, jent_i, jent_l, jent_a, jent_0]; exact Nat.le_of_ble_eq_true rfl) ?_
  have hls : jents [.ref this, .int p0, .int p1] (jm_nL M_Ref_ticket) = [some (.ref this), some (.int p0), some (.int p1)] := by simp only [jents, jent_r, jent_i, jent_l, jent_a, jent_0]; rfl
  rw [hls]
  clear hls
  unfold f_Ref_ticket at H
  refine J_aload_n d_Ref_ticket_0 rfl ?_
  refine J_aload_n d_Ref_ticket_1 rfl ?_
  refine J_iload_n d_Ref_ticket_2 rfl ?_
  have g37 : Γ this = .inr 12 := by
    apply Classical.byContradiction
    intro q9
    rw [if_neg q9] at H
    cases H
  rw [if_pos g37] at H
  obtain ⟨q38, hq38, H⟩ := Option.bind_eq_some_iff.mp H
  refine J_callV (kc := 0) (ks := 0) (kc' := 0) (ks' := 0) (a := this) (ci := 12) (as := [.int p0]) (st := [.ref this]) (mf_Ref_isTicket hw) (mv_Ref_623 hw) d_Ref_ticket_3 ln_Ref_isTicket (by decide) (by first | exact Nat.le_of_ble_eq_true rfl | (simp only [List.map_cons, List.map_nil, List.sum_cons, List.sum_nil, va_rf_cat]; exact Nat.le_of_ble_eq_true rfl)) rfl ((hG _).1 _ g37 (by decide)).1 ((hG _).1 _ g37 (by decide)).2 (by unfold pic; rw [g37]; rfl) (jcl_at hw rfl) rfl (p_Ref_isTicket hw hG hq38) ?_ (fun E h' n' x' e1 => by cases e1.1)
  intro v9 h9 n9 x9 e9
  obtain ⟨e91, e92, e93⟩ := e9
  cases e91
  subst e92
  subst e93
  clear x
  rename Bool => x
  show J _ _ _ _ (_ :: _) _ _ _ _ _ _
  refine J_if_ne (tgt := 13) d_Ref_ticket_6 (by decide) ?_ ?_
  · intro c41
    rw [if_neg c41] at H
    refine J_iload_n d_Ref_ticket_13 rfl ?_
    refine J_i2l d_Ref_ticket_14 ?_
    refine J_lconst (v := 0) d_Ref_ticket_15 (by decide) ?_
    refine J_ldc2 (v := 6) d_Ref_ticket_16 (kn_Ref_626 hw) ?_
    obtain ⟨q39, hq39, H⟩ := Option.bind_eq_some_iff.mp H
    refine J_callS (kc := 0) (ks := 0) (kc' := 0) (ks' := 0) (as := [.long (Int32.toInt64 p1), .long (0 : Int64), .long (6 : Int64)]) (st := [.ref this]) (mf_Ref_in hw) (ms_Ref_599 hw) d_Ref_ticket_19 ln_Ref_in (by decide) (by first | exact Nat.le_of_ble_eq_true rfl | (simp only [List.map_cons, List.map_nil, List.sum_cons, List.sum_nil, va_rf_cat]; exact Nat.le_of_ble_eq_true rfl)) rfl (p_Ref_in hw hG hq39) ?_ (fun E h' n' x' e1 => by cases e1.1)
    intro v9 h9 n9 x9 e9
    obtain ⟨e91, e92, e93⟩ := e9
    cases e91
    subst e92
    subst e93
    clear x
    rename Bool => x
    show J _ _ _ _ (_ :: _) _ _ _ _ _ _
    refine J_if_ne (tgt := 29) d_Ref_ticket_22 (by decide) ?_ ?_
    · intro c40
      rw [if_neg c40] at H
      refine J_iconst (v := 0) d_Ref_ticket_29 (by decide) ?_
      refine J.drop [true, true, true] rfl ?_
      exact p_Ref_ticket_L30 hw hG  H
    · intro c40
      rw [if_pos c40] at H
      refine J_iconst (v := 2) d_Ref_ticket_25 (by decide) ?_
      refine J_goto (tgt := 30) d_Ref_ticket_26 (by decide) ?_
      refine J.drop [true, true, true] rfl ?_
      exact p_Ref_ticket_L30 hw hG  H
  · intro c41
    rw [if_pos c41] at H
    refine J_iconst (v := 1) d_Ref_ticket_9 (by decide) ?_
    refine J_goto (tgt := 30) d_Ref_ticket_10 (by decide) ?_
    refine J.drop [true, true, true] rfl ?_
    exact p_Ref_ticket_L30 hw hG  H
theorem ln_Ref_data : (parseMethodDescriptor y_Ref_data.desc).map (fun q => q.parameters.length) = some 2 := by decide +kernel
def f_Ref_data_L57 (Γ : gm_T)  (φ : ph_T) (y0 : Int64) : Option (Int64 × ph_T) :=
  some (y0, φ)
set_option maxRecDepth 100000 in
set_option maxHeartbeats 4000000 in
theorem p_Ref_data_L57 {w : jw_T} (hw : jok w) {Γ : gm_T} {n : Nat} (hG : gd w Γ n)  {x : Bool} {φ : ph_T} {y0 : Int64} {q : Int64 × ph_T} (H : f_Ref_data_L57 Γ  φ y0 = some q) : J w M_Ref_data 57 [none, none, none] [.long y0] (pic Γ φ) n x 0 0 (fq Γ n (.inl (some (.long q.1))) q.2) := by
  unfold f_Ref_data_L57 at H
  cases H
  exact J_lret (st := []) d_Ref_data_57 rfl ⟨rfl, rfl, rfl⟩
def f_Ref_data_L32 (Γ : gm_T)  (φ : ph_T) (x0 : Nat) (x1 : Int32) (x2 : Int32) (y0 : Int32) (y1 : Nat) : Option (Int64 × ph_T) :=
  @ite _ (Γ y1 = .inr 12) _ (
  @ite _ (Γ x0 = .inr 12) _ (
  if ((uI φ y1 0 y0).1 x0 0) ≤ 0 then
    Option.bind ((uI φ y1 0 y0).2.2 x0 32) fun a3 =>
    Option.bind (gA Γ a3 1) fun N4 =>
    Option.bind (ix (((16 : Int32) * x1) + x2) N4) fun k5 =>
    f_Ref_data_L57 Γ  (uI φ y1 0 y0) ((uI φ y1 0 y0).2.1 a3 k5)
  else
    f_Ref_data_L57 Γ  (uI φ y1 0 y0) (0 : Int64)
  ) none
  ) none
set_option maxRecDepth 100000 in
set_option maxHeartbeats 4000000 in
theorem p_Ref_data_L32 {w : jw_T} (hw : jok w) {Γ : gm_T} {n : Nat} (hG : gd w Γ n)  {x : Bool} {φ : ph_T} {x0 : Nat} {x1 : Int32} {x2 : Int32} {y0 : Int32} {y1 : Nat} {q : Int64 × ph_T} (H : f_Ref_data_L32 Γ  φ x0 x1 x2 y0 y1 = some q) : J w M_Ref_data 32 [some (.ref x0), some (.int x1), some (.int x2)] [.int y0, .ref y1] (pic Γ φ) n x 0 0 (fq Γ n (.inl (some (.long q.1))) q.2) := by
  unfold f_Ref_data_L32 at H
  have g1 : Γ y1 = .inr 12 := by
    apply Classical.byContradiction
    intro q9
    rw [if_neg q9] at H
    cases H
  rw [if_pos g1] at H
  refine F_putI (ci := 12) (k := 0) hG (cf_Ref hw) (fl_Ref_303 hw) (by decide) (by decide) rfl d_Ref_data_32 rfl rfl rfl g1 ?_
  refine J_aload_n d_Ref_data_35 rfl ?_
  have g2 : Γ x0 = .inr 12 := by
    apply Classical.byContradiction
    intro q9
    rw [if_neg q9] at H
    cases H
  rw [if_pos g2] at H
  refine F_getI (ci := 12) (k := 0) hG (cf_Ref hw) (fl_Ref_303 hw) (by decide) (by decide) rfl d_Ref_data_36 g2 ?_
  refine J_if_le (tgt := 46) d_Ref_data_39 (by decide) ?_ ?_
  · intro c6
    rw [if_pos c6] at H
    refine J_aload_n d_Ref_data_46 rfl ?_
    refine F_getR (ci := 12) (k := 32) hG (cf_Ref hw) (fl_Ref_85 hw) (by decide) (by decide) rfl d_Ref_data_47 g2 ?_
    refine J_bipush (v := 16) d_Ref_data_50 (by decide) ?_
    refine J_iload_n d_Ref_data_52 rfl ?_
    refine J_imul d_Ref_data_53 ?_
    refine J_iload_n d_Ref_data_54 rfl ?_
    refine J_iadd d_Ref_data_55 ?_
    obtain ⟨a3, ha3, H⟩ := Option.bind_eq_some_iff.mp H
    rw [j_rf ha3]
    obtain ⟨N4, hN4, H⟩ := Option.bind_eq_some_iff.mp H
    obtain ⟨k5, hk5, H⟩ := Option.bind_eq_some_iff.mp H
    refine F_lald k5 hw hG d_Ref_data_56 (gA_some hN4) (ix_some hk5) ?_
    refine J.drop [false, false, false] rfl ?_
    exact p_Ref_data_L57 hw hG  H
  · intro c6
    rw [if_neg c6] at H
    refine J_lconst (v := 0) d_Ref_data_42 (by decide) ?_
    refine J_goto (tgt := 57) d_Ref_data_43 (by decide) ?_
    refine J.drop [false, false, false] rfl ?_
    exact p_Ref_data_L57 hw hG  H
def f_Ref_data_L31 (Γ : gm_T)  (φ : ph_T) (x0 : Nat) (x1 : Int32) (x2 : Int32) (y0 : Nat) : Option (Int64 × ph_T) :=
  f_Ref_data_L32 Γ  φ x0 x1 x2 (1 : Int32) y0
set_option maxRecDepth 100000 in
set_option maxHeartbeats 4000000 in
theorem p_Ref_data_L31 {w : jw_T} (hw : jok w) {Γ : gm_T} {n : Nat} (hG : gd w Γ n)  {x : Bool} {φ : ph_T} {x0 : Nat} {x1 : Int32} {x2 : Int32} {y0 : Nat} {q : Int64 × ph_T} (H : f_Ref_data_L31 Γ  φ x0 x1 x2 y0 = some q) : J w M_Ref_data 31 [some (.ref x0), some (.int x1), some (.int x2)] [.ref y0] (pic Γ φ) n x 0 0 (fq Γ n (.inl (some (.long q.1))) q.2) := by
  unfold f_Ref_data_L31 at H
  refine J_iconst (v := 1) d_Ref_data_31 (by decide) ?_
  refine J.drop [true, true, true] rfl ?_
  exact p_Ref_data_L32 hw hG  H
def f_Ref_data (Γ : gm_T) (φ : ph_T) (this : Nat) (p0 : Int32) (p1 : Int32) : Option (Int64 × ph_T) :=
  @ite _ (Γ this = .inr 12) _ (
  Option.bind (f_Ref_isTicket Γ φ this p0) fun q8 =>
  if q8.1 = 0 then
    f_Ref_data_L31 Γ  q8.2 this p0 p1 this
  else
    Option.bind (q8.2.2.2 this 30) fun a9 =>
    Option.bind (gA Γ a9 0) fun N10 =>
    Option.bind (ix p0 N10) fun k11 =>
    Option.bind (f_Ref_in Γ q8.2 (Int32.toInt64 p1) (0 : Int64) ((Int32.toInt64 (q8.2.1 a9 k11)) - (1 : Int64))) fun q12 =>
    if q12.1 = 0 then
      f_Ref_data_L31 Γ  q12.2 this p0 p1 this
    else
      f_Ref_data_L32 Γ  q12.2 this p0 p1 (0 : Int32) this
  ) none
set_option maxRecDepth 100000 in
set_option maxHeartbeats 4000000 in
theorem p_Ref_data {w : jw_T} (hw : jok w) {Γ : gm_T} {n : Nat} (hG : gd w Γ n) {x : Bool} {φ : ph_T} {this : Nat} {p0 : Int32} {p1 : Int32} {q : Int64 × ph_T} (H : f_Ref_data Γ φ this p0 p1 = some q) : jc w M_Ref_data [.ref this, .int p0, .int p1] (pic Γ φ) n x 0 0 (fq Γ n (.inl (some (.long q.1))) q.2) := by
  refine jc.of (by simp only [jent_r, jent_i, jent_l, jent_a, jent_0]; exact Nat.le_of_ble_eq_true rfl) ?_
  have hls : jents [.ref this, .int p0, .int p1] (jm_nL M_Ref_data) = [some (.ref this), some (.int p0), some (.int p1)] := by simp only [jents, jent_r, jent_i, jent_l, jent_a, jent_0]; rfl
  rw [hls]
  clear hls
  unfold f_Ref_data at H
  refine J_aload_n d_Ref_data_0 rfl ?_
  refine J_aload_n d_Ref_data_1 rfl ?_
  refine J_iload_n d_Ref_data_2 rfl ?_
  have g7 : Γ this = .inr 12 := by
    apply Classical.byContradiction
    intro q9
    rw [if_neg q9] at H
    cases H
  rw [if_pos g7] at H
  obtain ⟨q8, hq8, H⟩ := Option.bind_eq_some_iff.mp H
  refine J_callV (kc := 0) (ks := 0) (kc' := 0) (ks' := 0) (a := this) (ci := 12) (as := [.int p0]) (st := [.ref this]) (mf_Ref_isTicket hw) (mv_Ref_623 hw) d_Ref_data_3 ln_Ref_isTicket (by decide) (by first | exact Nat.le_of_ble_eq_true rfl | (simp only [List.map_cons, List.map_nil, List.sum_cons, List.sum_nil, va_rf_cat]; exact Nat.le_of_ble_eq_true rfl)) rfl ((hG _).1 _ g7 (by decide)).1 ((hG _).1 _ g7 (by decide)).2 (by unfold pic; rw [g7]; rfl) (jcl_at hw rfl) rfl (p_Ref_isTicket hw hG hq8) ?_ (fun E h' n' x' e1 => by cases e1.1)
  intro v9 h9 n9 x9 e9
  obtain ⟨e91, e92, e93⟩ := e9
  cases e91
  subst e92
  subst e93
  clear x
  rename Bool => x
  show J _ _ _ _ (_ :: _) _ _ _ _ _ _
  refine J_if_eq (tgt := 31) d_Ref_data_6 (by decide) ?_ ?_
  · intro c14
    rw [if_pos c14] at H
    refine J.drop [true, true, true] rfl ?_
    exact p_Ref_data_L31 hw hG  H
  · intro c14
    rw [if_neg c14] at H
    refine J_iload_n d_Ref_data_9 rfl ?_
    refine J_i2l d_Ref_data_10 ?_
    refine J_lconst (v := 0) d_Ref_data_11 (by decide) ?_
    refine J_aload_n d_Ref_data_12 rfl ?_
    refine F_getR (ci := 12) (k := 30) hG (cf_Ref hw) (fl_Ref_79 hw) (by decide) (by decide) rfl d_Ref_data_13 g7 ?_
    refine J_iload_n d_Ref_data_16 rfl ?_
    obtain ⟨a9, ha9, H⟩ := Option.bind_eq_some_iff.mp H
    rw [j_rf ha9]
    obtain ⟨N10, hN10, H⟩ := Option.bind_eq_some_iff.mp H
    obtain ⟨k11, hk11, H⟩ := Option.bind_eq_some_iff.mp H
    refine F_iald k11 hw hG d_Ref_data_17 (gA_some hN10) (ix_some hk11) ?_
    refine J_i2l d_Ref_data_18 ?_
    refine J_lconst (v := 1) d_Ref_data_19 (by decide) ?_
    refine J_lsub d_Ref_data_20 ?_
    obtain ⟨q12, hq12, H⟩ := Option.bind_eq_some_iff.mp H
    refine J_callS (kc := 0) (ks := 0) (kc' := 0) (ks' := 0) (as := [.long (Int32.toInt64 p1), .long (0 : Int64), .long ((Int32.toInt64 (q8.2.1 a9 k11)) - (1 : Int64))]) (st := [.ref this]) (mf_Ref_in hw) (ms_Ref_599 hw) d_Ref_data_21 ln_Ref_in (by decide) (by first | exact Nat.le_of_ble_eq_true rfl | (simp only [List.map_cons, List.map_nil, List.sum_cons, List.sum_nil, va_rf_cat]; exact Nat.le_of_ble_eq_true rfl)) rfl (p_Ref_in hw hG hq12) ?_ (fun E h' n' x' e1 => by cases e1.1)
    intro v9 h9 n9 x9 e9
    obtain ⟨e91, e92, e93⟩ := e9
    cases e91
    subst e92
    subst e93
    clear x
    rename Bool => x
    show J _ _ _ _ (_ :: _) _ _ _ _ _ _
    refine J_if_eq (tgt := 31) d_Ref_data_24 (by decide) ?_ ?_
    · intro c13
      rw [if_pos c13] at H
      refine J.drop [true, true, true] rfl ?_
      exact p_Ref_data_L31 hw hG  H
    · intro c13
      rw [if_neg c13] at H
      refine J_iconst (v := 0) d_Ref_data_27 (by decide) ?_
      refine J_goto (tgt := 32) d_Ref_data_28 (by decide) ?_
      refine J.drop [true, true, true] rfl ?_
      exact p_Ref_data_L32 hw hG  H
theorem ln_Ref_forget : (parseMethodDescriptor y_Ref_forget.desc).map (fun q => q.parameters.length) = some 0 := by decide +kernel
def f_Ref_forget_L13 (Γ : gm_T)  (φ : ph_T) (x0 : Nat) (y0 : Int32) (y1 : Nat) : Option (Int32 × ph_T) :=
  @ite _ (Γ y1 = .inr 12) _ (
  @ite _ (Γ x0 = .inr 12) _ (
  if ((uI φ y1 0 y0).1 x0 0) ≤ 0 then
    some (((uI φ y1 0 y0).1 x0 15), (uI (uI φ y1 0 y0) x0 15 (0 : Int32)))
  else
    some ((0 : Int32), (uI φ y1 0 y0))
  ) none
  ) none
set_option maxRecDepth 100000 in
set_option maxHeartbeats 4000000 in
theorem p_Ref_forget_L13 {w : jw_T} (hw : jok w) {Γ : gm_T} {n : Nat} (hG : gd w Γ n)  {x : Bool} {φ : ph_T} {x0 : Nat} {y0 : Int32} {y1 : Nat} {q : Int32 × ph_T} (H : f_Ref_forget_L13 Γ  φ x0 y0 y1 = some q) : J w M_Ref_forget 13 [some (.ref x0), none] [.int y0, .ref y1] (pic Γ φ) n x 0 0 (fq Γ n (.inl (some (.int q.1))) q.2) := by
  unfold f_Ref_forget_L13 at H
  have g1 : Γ y1 = .inr 12 := by
    apply Classical.byContradiction
    intro q9
    rw [if_neg q9] at H
    cases H
  rw [if_pos g1] at H
  refine F_putI (ci := 12) (k := 0) hG (cf_Ref hw) (fl_Ref_303 hw) (by decide) (by decide) rfl d_Ref_forget_13 rfl rfl rfl g1 ?_
  refine J_aload_n d_Ref_forget_16 rfl ?_
  have g2 : Γ x0 = .inr 12 := by
    apply Classical.byContradiction
    intro q9
    rw [if_neg q9] at H
    cases H
  rw [if_pos g2] at H
  refine F_getI (ci := 12) (k := 0) hG (cf_Ref hw) (fl_Ref_303 hw) (by decide) (by decide) rfl d_Ref_forget_17 g2 ?_
  refine J_if_le (tgt := 25) d_Ref_forget_20 (by decide) ?_ ?_
  · intro c3
    rw [if_pos c3] at H
    refine J_aload_n d_Ref_forget_25 rfl ?_
    refine F_getI (ci := 12) (k := 15) hG (cf_Ref hw) (fl_Ref_337 hw) (by decide) (by decide) rfl d_Ref_forget_26 g2 ?_
    refine J_istore_n d_Ref_forget_29 (Nat.le_of_ble_eq_true rfl) ?_
    refine J_aload_n d_Ref_forget_30 rfl ?_
    refine J_iconst (v := 0) d_Ref_forget_31 (by decide) ?_
    refine F_putI (ci := 12) (k := 15) hG (cf_Ref hw) (fl_Ref_337 hw) (by decide) (by decide) rfl d_Ref_forget_32 rfl rfl rfl g2 ?_
    refine J_iload_n d_Ref_forget_35 rfl ?_
    cases H
    exact J_iret (st := []) d_Ref_forget_36 rfl rfl ⟨rfl, rfl, rfl⟩
  · intro c3
    rw [if_neg c3] at H
    refine J_iconst (v := 0) d_Ref_forget_23 (by decide) ?_
    cases H
    exact J_iret (st := []) d_Ref_forget_24 rfl rfl ⟨rfl, rfl, rfl⟩
def f_Ref_forget (Γ : gm_T) (φ : ph_T) (this : Nat) : Option (Int32 × ph_T) :=
  @ite _ (Γ this = .inr 12) _ (
  Option.bind (f_Ref_open Γ φ this) fun q5 =>
  if q5.1 ≤ 0 then
    f_Ref_forget_L13 Γ  q5.2 this (0 : Int32) this
  else
    f_Ref_forget_L13 Γ  q5.2 this (1 : Int32) this
  ) none
set_option maxRecDepth 100000 in
set_option maxHeartbeats 4000000 in
theorem p_Ref_forget {w : jw_T} (hw : jok w) {Γ : gm_T} {n : Nat} (hG : gd w Γ n) {x : Bool} {φ : ph_T} {this : Nat} {q : Int32 × ph_T} (H : f_Ref_forget Γ φ this = some q) : jc w M_Ref_forget [.ref this] (pic Γ φ) n x 0 0 (fq Γ n (.inl (some (.int q.1))) q.2) := by
  refine jc.of (by simp only [jent_r, jent_i, jent_l, jent_a, jent_0]; exact Nat.le_of_ble_eq_true rfl) ?_
  have hls : jents [.ref this] (jm_nL M_Ref_forget) = [some (.ref this), none] := by simp only [jents, jent_r, jent_i, jent_l, jent_a, jent_0]; rfl
  rw [hls]
  clear hls
  unfold f_Ref_forget at H
  refine J_aload_n d_Ref_forget_0 rfl ?_
  refine J_aload_n d_Ref_forget_1 rfl ?_
  have g4 : Γ this = .inr 12 := by
    apply Classical.byContradiction
    intro q9
    rw [if_neg q9] at H
    cases H
  rw [if_pos g4] at H
  obtain ⟨q5, hq5, H⟩ := Option.bind_eq_some_iff.mp H
  refine J_callV (kc := 0) (ks := 0) (kc' := 0) (ks' := 0) (a := this) (ci := 12) (as := []) (st := [.ref this]) (mf_Ref_open hw) (mv_Ref_605 hw) d_Ref_forget_2 ln_Ref_open (by decide) (by first | exact Nat.le_of_ble_eq_true rfl | (simp only [List.map_cons, List.map_nil, List.sum_cons, List.sum_nil, va_rf_cat]; exact Nat.le_of_ble_eq_true rfl)) rfl ((hG _).1 _ g4 (by decide)).1 ((hG _).1 _ g4 (by decide)).2 (by unfold pic; rw [g4]; rfl) (jcl_at hw rfl) rfl (p_Ref_open hw hG hq5) ?_ (fun E h' n' x' e1 => by cases e1.1)
  intro v9 h9 n9 x9 e9
  obtain ⟨e91, e92, e93⟩ := e9
  cases e91
  subst e92
  subst e93
  clear x
  rename Bool => x
  show J _ _ _ _ (_ :: _) _ _ _ _ _ _
  refine J_if_le (tgt := 12) d_Ref_forget_5 (by decide) ?_ ?_
  · intro c6
    rw [if_pos c6] at H
    refine J_iconst (v := 0) d_Ref_forget_12 (by decide) ?_
    refine J.drop [true, false] rfl ?_
    exact p_Ref_forget_L13 hw hG  H
  · intro c6
    rw [if_neg c6] at H
    refine J_iconst (v := 1) d_Ref_forget_8 (by decide) ?_
    refine J_goto (tgt := 13) d_Ref_forget_9 (by decide) ?_
    refine J.drop [true, false] rfl ?_
    exact p_Ref_forget_L13 hw hG  H
theorem ln_Ref_isSide : (parseMethodDescriptor y_Ref_isSide.desc).map (fun q => q.parameters.length) = some 2 := by decide +kernel
def f_Ref_isSide_L46 (Γ : gm_T)  (φ : ph_T) (y0 : Int32) : Option (Int32 × ph_T) :=
  @ite _ (y0 = 0 ∨ y0 = 1) _ (
  some (y0, φ)
  ) none
set_option maxRecDepth 100000 in
set_option maxHeartbeats 4000000 in
theorem p_Ref_isSide_L46 {w : jw_T} (hw : jok w) {Γ : gm_T} {n : Nat} (hG : gd w Γ n)  {x : Bool} {φ : ph_T} {y0 : Int32} {q : Int32 × ph_T} (H : f_Ref_isSide_L46 Γ  φ y0 = some q) : J w M_Ref_isSide 46 [none, none, none] [.int y0] (pic Γ φ) n x 0 0 (fq Γ n (.inl (some (.int q.1))) q.2) := by
  unfold f_Ref_isSide_L46 at H
  have z1 : y0 = 0 ∨ y0 = 1 := by
    apply Classical.byContradiction
    intro q9
    rw [if_neg q9] at H
    cases H
  rw [if_pos z1] at H
  cases H
  exact J_iret (st := []) d_Ref_isSide_46 rfl (narrow_z z1).1 ⟨rfl, rfl, rfl⟩
def f_Ref_isSide_L45 (Γ : gm_T)  (φ : ph_T) : Option (Int32 × ph_T) :=
  f_Ref_isSide_L46 Γ  φ (0 : Int32)
set_option maxRecDepth 100000 in
set_option maxHeartbeats 4000000 in
theorem p_Ref_isSide_L45 {w : jw_T} (hw : jok w) {Γ : gm_T} {n : Nat} (hG : gd w Γ n)  {x : Bool} {φ : ph_T} {q : Int32 × ph_T} (H : f_Ref_isSide_L45 Γ  φ  = some q) : J w M_Ref_isSide 45 [none, none, none] [] (pic Γ φ) n x 0 0 (fq Γ n (.inl (some (.int q.1))) q.2) := by
  unfold f_Ref_isSide_L45 at H
  refine J_iconst (v := 0) d_Ref_isSide_45 (by decide) ?_
  refine J.drop [false, false, false] rfl ?_
  exact p_Ref_isSide_L46 hw hG  H
def f_Ref_isSide (Γ : gm_T) (φ : ph_T) (this : Nat) (p0 : Int32) (p1 : Int32) : Option (Int32 × ph_T) :=
  if p0 = 0 then
    @ite _ (Γ this = .inr 12) _ (
    Option.bind (f_Ref_in Γ φ (Int32.toInt64 p1) (0 : Int64) ((Int32.toInt64 (φ.1 this 1)) - (1 : Int64))) fun q7 =>
    f_Ref_isSide_L46 Γ  q7.2 q7.1
    ) none
  else
    if p0 = (1 : Int32) then
      @ite _ (Γ this = .inr 12) _ (
      Option.bind (f_Ref_in Γ φ (Int32.toInt64 p1) (0 : Int64) ((Int32.toInt64 (φ.1 this 2)) - (1 : Int64))) fun q3 =>
      if q3.1 = 0 then
        f_Ref_isSide_L45 Γ  q3.2 
      else
        f_Ref_isSide_L46 Γ  q3.2 (1 : Int32)
      ) none
    else
      f_Ref_isSide_L45 Γ  φ 
set_option maxRecDepth 100000 in
set_option maxHeartbeats 4000000 in
theorem p_Ref_isSide {w : jw_T} (hw : jok w) {Γ : gm_T} {n : Nat} (hG : gd w Γ n) {x : Bool} {φ : ph_T} {this : Nat} {p0 : Int32} {p1 : Int32} {q : Int32 × ph_T} (H : f_Ref_isSide Γ φ this p0 p1 = some q) : jc w M_Ref_isSide [.ref this, .int p0, .int p1] (pic Γ φ) n x 0 0 (fq Γ n (.inl (some (.int q.1))) q.2) := by
  refine jc.of (by simp only [jent_r, jent_i, jent_l, jent_a, jent_0]; exact Nat.le_of_ble_eq_true rfl) ?_
  have hls : jents [.ref this, .int p0, .int p1] (jm_nL M_Ref_isSide) = [some (.ref this), some (.int p0), some (.int p1)] := by simp only [jents, jent_r, jent_i, jent_l, jent_a, jent_0]; rfl
  rw [hls]
  clear hls
  unfold f_Ref_isSide at H
  refine J_iload_n d_Ref_isSide_0 rfl ?_
  refine J_if_ne (tgt := 20) d_Ref_isSide_1 (by decide) ?_ ?_
  · intro c8
    rw [if_neg c8] at H
    refine J_iload_n d_Ref_isSide_20 rfl ?_
    refine J_iconst (v := 1) d_Ref_isSide_21 (by decide) ?_
    refine J_icmp_ne (tgt := 45) d_Ref_isSide_22 (by decide) ?_ ?_
    · intro c5
      rw [if_neg c5] at H
      refine J.drop [false, false, false] rfl ?_
      exact p_Ref_isSide_L45 hw hG  H
    · intro c5
      rw [if_pos c5] at H
      refine J_iload_n d_Ref_isSide_25 rfl ?_
      refine J_i2l d_Ref_isSide_26 ?_
      refine J_lconst (v := 0) d_Ref_isSide_27 (by decide) ?_
      refine J_aload_n d_Ref_isSide_28 rfl ?_
      have g2 : Γ this = .inr 12 := by
        apply Classical.byContradiction
        intro q9
        rw [if_neg q9] at H
        cases H
      rw [if_pos g2] at H
      refine F_getI (ci := 12) (k := 2) hG (cf_Ref hw) (fl_Ref_294 hw) (by decide) (by decide) rfl d_Ref_isSide_29 g2 ?_
      refine J_i2l d_Ref_isSide_32 ?_
      refine J_lconst (v := 1) d_Ref_isSide_33 (by decide) ?_
      refine J_lsub d_Ref_isSide_34 ?_
      obtain ⟨q3, hq3, H⟩ := Option.bind_eq_some_iff.mp H
      refine J_callS (kc := 0) (ks := 0) (kc' := 0) (ks' := 0) (as := [.long (Int32.toInt64 p1), .long (0 : Int64), .long ((Int32.toInt64 (φ.1 this 2)) - (1 : Int64))]) (st := []) (mf_Ref_in hw) (ms_Ref_599 hw) d_Ref_isSide_35 ln_Ref_in (by decide) (by first | exact Nat.le_of_ble_eq_true rfl | (simp only [List.map_cons, List.map_nil, List.sum_cons, List.sum_nil, va_rf_cat]; exact Nat.le_of_ble_eq_true rfl)) rfl (p_Ref_in hw hG hq3) ?_ (fun E h' n' x' e1 => by cases e1.1)
      intro v9 h9 n9 x9 e9
      obtain ⟨e91, e92, e93⟩ := e9
      cases e91
      subst e92
      subst e93
      clear x
      rename Bool => x
      show J _ _ _ _ (_ :: _) _ _ _ _ _ _
      refine J_if_eq (tgt := 45) d_Ref_isSide_38 (by decide) ?_ ?_
      · intro c4
        rw [if_pos c4] at H
        refine J.drop [false, false, false] rfl ?_
        exact p_Ref_isSide_L45 hw hG  H
      · intro c4
        rw [if_neg c4] at H
        refine J_iconst (v := 1) d_Ref_isSide_41 (by decide) ?_
        refine J_goto (tgt := 46) d_Ref_isSide_42 (by decide) ?_
        refine J.drop [false, false, false] rfl ?_
        exact p_Ref_isSide_L46 hw hG  H
  · intro c8
    rw [if_pos c8] at H
    refine J_iload_n d_Ref_isSide_4 rfl ?_
    refine J_i2l d_Ref_isSide_5 ?_
    refine J_lconst (v := 0) d_Ref_isSide_6 (by decide) ?_
    refine J_aload_n d_Ref_isSide_7 rfl ?_
    have g6 : Γ this = .inr 12 := by
      apply Classical.byContradiction
      intro q9
      rw [if_neg q9] at H
      cases H
    rw [if_pos g6] at H
    refine F_getI (ci := 12) (k := 1) hG (cf_Ref hw) (fl_Ref_290 hw) (by decide) (by decide) rfl d_Ref_isSide_8 g6 ?_
    refine J_i2l d_Ref_isSide_11 ?_
    refine J_lconst (v := 1) d_Ref_isSide_12 (by decide) ?_
    refine J_lsub d_Ref_isSide_13 ?_
    obtain ⟨q7, hq7, H⟩ := Option.bind_eq_some_iff.mp H
    refine J_callS (kc := 0) (ks := 0) (kc' := 0) (ks' := 0) (as := [.long (Int32.toInt64 p1), .long (0 : Int64), .long ((Int32.toInt64 (φ.1 this 1)) - (1 : Int64))]) (st := []) (mf_Ref_in hw) (ms_Ref_599 hw) d_Ref_isSide_14 ln_Ref_in (by decide) (by first | exact Nat.le_of_ble_eq_true rfl | (simp only [List.map_cons, List.map_nil, List.sum_cons, List.sum_nil, va_rf_cat]; exact Nat.le_of_ble_eq_true rfl)) rfl (p_Ref_in hw hG hq7) ?_ (fun E h' n' x' e1 => by cases e1.1)
    intro v9 h9 n9 x9 e9
    obtain ⟨e91, e92, e93⟩ := e9
    cases e91
    subst e92
    subst e93
    clear x
    rename Bool => x
    show J _ _ _ _ (_ :: _) _ _ _ _ _ _
    refine J_goto (tgt := 46) d_Ref_isSide_17 (by decide) ?_
    refine J.drop [false, false, false] rfl ?_
    exact p_Ref_isSide_L46 hw hG  H
theorem ln_Ref_wireOf : (parseMethodDescriptor y_Ref_wireOf.desc).map (fun q => q.parameters.length) = some 3 := by decide +kernel
def f_Ref_wireOf (Γ : gm_T) (φ : ph_T) (p0 : Int32) (p1 : Int32) (p2 : Int32) : Option (Int32 × ph_T) :=
  some ((((5 : Int32) * (((4 : Int32) * p0) + p1)) + p2), φ)
set_option maxRecDepth 100000 in
set_option maxHeartbeats 4000000 in
theorem p_Ref_wireOf {w : jw_T} (hw : jok w) {Γ : gm_T} {n : Nat} (hG : gd w Γ n) {x : Bool} {φ : ph_T} {p0 : Int32} {p1 : Int32} {p2 : Int32} {q : Int32 × ph_T} (H : f_Ref_wireOf Γ φ p0 p1 p2 = some q) : jc w M_Ref_wireOf [.int p0, .int p1, .int p2] (pic Γ φ) n x 0 0 (fq Γ n (.inl (some (.int q.1))) q.2) := by
  refine jc.of (by simp only [jent_r, jent_i, jent_l, jent_a, jent_0]; exact Nat.le_of_ble_eq_true rfl) ?_
  have hls : jents [.int p0, .int p1, .int p2] (jm_nL M_Ref_wireOf) = [some (.int p0), some (.int p1), some (.int p2)] := by simp only [jents, jent_r, jent_i, jent_l, jent_a, jent_0]; rfl
  rw [hls]
  clear hls
  unfold f_Ref_wireOf at H
  refine J_iconst (v := 5) d_Ref_wireOf_0 (by decide) ?_
  refine J_iconst (v := 4) d_Ref_wireOf_1 (by decide) ?_
  refine J_iload_n d_Ref_wireOf_2 rfl ?_
  refine J_imul d_Ref_wireOf_3 ?_
  refine J_iload_n d_Ref_wireOf_4 rfl ?_
  refine J_iadd d_Ref_wireOf_5 ?_
  refine J_imul d_Ref_wireOf_6 ?_
  refine J_iload_n d_Ref_wireOf_7 rfl ?_
  refine J_iadd d_Ref_wireOf_8 ?_
  cases H
  exact J_iret (st := []) d_Ref_wireOf_9 rfl rfl ⟨rfl, rfl, rfl⟩
theorem ln_Ref_wire : (parseMethodDescriptor y_Ref_wire.desc).map (fun q => q.parameters.length) = some 4 := by decide +kernel
def f_Ref_wire_L118 (Γ : gm_T)  (φ : ph_T) (y0 : Int32) : Option (Int32 × ph_T) :=
  some (y0, φ)
set_option maxRecDepth 100000 in
set_option maxHeartbeats 4000000 in
theorem p_Ref_wire_L118 {w : jw_T} (hw : jok w) {Γ : gm_T} {n : Nat} (hG : gd w Γ n)  {x : Bool} {φ : ph_T} {y0 : Int32} {q : Int32 × ph_T} (H : f_Ref_wire_L118 Γ  φ y0 = some q) : J w M_Ref_wire 118 [none, none, none, none, none, none] [.int y0] (pic Γ φ) n x 0 0 (fq Γ n (.inl (some (.int q.1))) q.2) := by
  unfold f_Ref_wire_L118 at H
  cases H
  exact J_iret (st := []) d_Ref_wire_118 rfl rfl ⟨rfl, rfl, rfl⟩
def f_Ref_wire_L44 (Γ : gm_T)  (φ : ph_T) (x0 : Nat) (x1 : Int32) (x2 : Int32) (x3 : Int32) (x4 : Int32) (y0 : Int32) (y1 : Nat) : Option (Int32 × ph_T) :=
  @ite _ (Γ y1 = .inr 12) _ (
  @ite _ (Γ x0 = .inr 12) _ (
  if ((uI φ y1 0 y0).1 x0 0) ≤ 0 then
    Option.bind (f_Ref_wireOf Γ (uI φ y1 0 y0) x1 x2 x3) fun q3 =>
    if x4 = 0 then
      Option.bind (q3.2.2.2 x0 33) fun a12 =>
      Option.bind (gA Γ a12 2) fun N13 =>
      Option.bind (ix q3.1 N13) fun k14 =>
      if (q3.2.1 a12 k14) = 0 then
        f_Ref_wire_L118 Γ  q3.2 (0 : Int32)
      else
        f_Ref_wire_L118 Γ  q3.2 (1 : Int32)
    else
      if x4 = (1 : Int32) then
        Option.bind (q3.2.2.2 x0 34) fun a7 =>
        Option.bind (gA Γ a7 2) fun N8 =>
        Option.bind (ix q3.1 N8) fun k9 =>
        if (q3.2.1 a7 k9) = 0 then
          f_Ref_wire_L118 Γ  q3.2 (0 : Int32)
        else
          f_Ref_wire_L118 Γ  q3.2 (1 : Int32)
      else
        Option.bind (q3.2.2.2 x0 36) fun a4 =>
        Option.bind (gA Γ a4 0) fun N5 =>
        Option.bind (ix q3.1 N5) fun k6 =>
        f_Ref_wire_L118 Γ  q3.2 (q3.2.1 a4 k6)
  else
    some ((0 : Int32), (uI φ y1 0 y0))
  ) none
  ) none
set_option maxRecDepth 100000 in
set_option maxHeartbeats 4000000 in
theorem p_Ref_wire_L44 {w : jw_T} (hw : jok w) {Γ : gm_T} {n : Nat} (hG : gd w Γ n)  {x : Bool} {φ : ph_T} {x0 : Nat} {x1 : Int32} {x2 : Int32} {x3 : Int32} {x4 : Int32} {y0 : Int32} {y1 : Nat} {q : Int32 × ph_T} (H : f_Ref_wire_L44 Γ  φ x0 x1 x2 x3 x4 y0 y1 = some q) : J w M_Ref_wire 44 [some (.ref x0), some (.int x1), some (.int x2), some (.int x3), some (.int x4), none] [.int y0, .ref y1] (pic Γ φ) n x 0 0 (fq Γ n (.inl (some (.int q.1))) q.2) := by
  unfold f_Ref_wire_L44 at H
  have g1 : Γ y1 = .inr 12 := by
    apply Classical.byContradiction
    intro q9
    rw [if_neg q9] at H
    cases H
  rw [if_pos g1] at H
  refine F_putI (ci := 12) (k := 0) hG (cf_Ref hw) (fl_Ref_303 hw) (by decide) (by decide) rfl d_Ref_wire_44 rfl rfl rfl g1 ?_
  refine J_aload_n d_Ref_wire_47 rfl ?_
  have g2 : Γ x0 = .inr 12 := by
    apply Classical.byContradiction
    intro q9
    rw [if_neg q9] at H
    cases H
  rw [if_pos g2] at H
  refine F_getI (ci := 12) (k := 0) hG (cf_Ref hw) (fl_Ref_303 hw) (by decide) (by decide) rfl d_Ref_wire_48 g2 ?_
  refine J_if_le (tgt := 56) d_Ref_wire_51 (by decide) ?_ ?_
  · intro c17
    rw [if_pos c17] at H
    refine J_iload_n d_Ref_wire_56 rfl ?_
    refine J_iload_n d_Ref_wire_57 rfl ?_
    refine J_iload_n d_Ref_wire_58 rfl ?_
    obtain ⟨q3, hq3, H⟩ := Option.bind_eq_some_iff.mp H
    refine J_callS (kc := 0) (ks := 0) (kc' := 0) (ks' := 0) (as := [.int x1, .int x2, .int x3]) (st := []) (mf_Ref_wireOf hw) (ms_Ref_631 hw) d_Ref_wire_59 ln_Ref_wireOf (by decide) (by first | exact Nat.le_of_ble_eq_true rfl | (simp only [List.map_cons, List.map_nil, List.sum_cons, List.sum_nil, va_rf_cat]; exact Nat.le_of_ble_eq_true rfl)) rfl (p_Ref_wireOf hw hG hq3) ?_ (fun E h' n' x' e1 => by cases e1.1)
    intro v9 h9 n9 x9 e9
    obtain ⟨e91, e92, e93⟩ := e9
    cases e91
    subst e92
    subst e93
    clear x
    rename Bool => x
    show J _ _ _ _ (_ :: _) _ _ _ _ _ _
    refine J_istore d_Ref_wire_62 (Nat.le_of_ble_eq_true rfl) ?_
    refine J_iload d_Ref_wire_64 rfl ?_
    refine J_if_ne (tgt := 87) d_Ref_wire_66 (by decide) ?_ ?_
    · intro c16
      rw [if_neg c16] at H
      refine J_iload d_Ref_wire_87 rfl ?_
      refine J_iconst (v := 1) d_Ref_wire_89 (by decide) ?_
      refine J_icmp_ne (tgt := 111) d_Ref_wire_90 (by decide) ?_ ?_
      · intro c11
        rw [if_neg c11] at H
        refine J_aload_n d_Ref_wire_111 rfl ?_
        refine F_getR (ci := 12) (k := 36) hG (cf_Ref hw) (fl_Ref_97 hw) (by decide) (by decide) rfl d_Ref_wire_112 g2 ?_
        refine J_iload d_Ref_wire_115 rfl ?_
        obtain ⟨a4, ha4, H⟩ := Option.bind_eq_some_iff.mp H
        rw [j_rf ha4]
        obtain ⟨N5, hN5, H⟩ := Option.bind_eq_some_iff.mp H
        obtain ⟨k6, hk6, H⟩ := Option.bind_eq_some_iff.mp H
        refine F_iald k6 hw hG d_Ref_wire_117 (gA_some hN5) (ix_some hk6) ?_
        refine J.drop [false, false, false, false, false, false] rfl ?_
        exact p_Ref_wire_L118 hw hG  H
      · intro c11
        rw [if_pos c11] at H
        refine J_aload_n d_Ref_wire_93 rfl ?_
        refine F_getR (ci := 12) (k := 34) hG (cf_Ref hw) (fl_Ref_91 hw) (by decide) (by decide) rfl d_Ref_wire_94 g2 ?_
        refine J_iload d_Ref_wire_97 rfl ?_
        obtain ⟨a7, ha7, H⟩ := Option.bind_eq_some_iff.mp H
        rw [j_rf ha7]
        obtain ⟨N8, hN8, H⟩ := Option.bind_eq_some_iff.mp H
        obtain ⟨k9, hk9, H⟩ := Option.bind_eq_some_iff.mp H
        refine F_zald k9 hw hG d_Ref_wire_99 (gA_some hN8) (ix_some hk9) ?_
        refine J_if_eq (tgt := 107) d_Ref_wire_100 (by decide) ?_ ?_
        · intro c10
          rw [if_pos c10] at H
          refine J_iconst (v := 0) d_Ref_wire_107 (by decide) ?_
          refine J_goto (tgt := 118) d_Ref_wire_108 (by decide) ?_
          refine J.drop [false, false, false, false, false, false] rfl ?_
          exact p_Ref_wire_L118 hw hG  H
        · intro c10
          rw [if_neg c10] at H
          refine J_iconst (v := 1) d_Ref_wire_103 (by decide) ?_
          refine J_goto (tgt := 118) d_Ref_wire_104 (by decide) ?_
          refine J.drop [false, false, false, false, false, false] rfl ?_
          exact p_Ref_wire_L118 hw hG  H
    · intro c16
      rw [if_pos c16] at H
      refine J_aload_n d_Ref_wire_69 rfl ?_
      refine F_getR (ci := 12) (k := 33) hG (cf_Ref hw) (fl_Ref_88 hw) (by decide) (by decide) rfl d_Ref_wire_70 g2 ?_
      refine J_iload d_Ref_wire_73 rfl ?_
      obtain ⟨a12, ha12, H⟩ := Option.bind_eq_some_iff.mp H
      rw [j_rf ha12]
      obtain ⟨N13, hN13, H⟩ := Option.bind_eq_some_iff.mp H
      obtain ⟨k14, hk14, H⟩ := Option.bind_eq_some_iff.mp H
      refine F_zald k14 hw hG d_Ref_wire_75 (gA_some hN13) (ix_some hk14) ?_
      refine J_if_eq (tgt := 83) d_Ref_wire_76 (by decide) ?_ ?_
      · intro c15
        rw [if_pos c15] at H
        refine J_iconst (v := 0) d_Ref_wire_83 (by decide) ?_
        refine J_goto (tgt := 118) d_Ref_wire_84 (by decide) ?_
        refine J.drop [false, false, false, false, false, false] rfl ?_
        exact p_Ref_wire_L118 hw hG  H
      · intro c15
        rw [if_neg c15] at H
        refine J_iconst (v := 1) d_Ref_wire_79 (by decide) ?_
        refine J_goto (tgt := 118) d_Ref_wire_80 (by decide) ?_
        refine J.drop [false, false, false, false, false, false] rfl ?_
        exact p_Ref_wire_L118 hw hG  H
  · intro c17
    rw [if_neg c17] at H
    refine J_iconst (v := 0) d_Ref_wire_54 (by decide) ?_
    cases H
    exact J_iret (st := []) d_Ref_wire_55 rfl rfl ⟨rfl, rfl, rfl⟩
def f_Ref_wire_L22 (Γ : gm_T)  (φ : ph_T) (x0 : Nat) (x1 : Int32) (x2 : Int32) (x3 : Int32) (x4 : Int32) (y0 : Nat) : Option (Int32 × ph_T) :=
  f_Ref_wire_L44 Γ  φ x0 x1 x2 x3 x4 (1 : Int32) y0
set_option maxRecDepth 100000 in
set_option maxHeartbeats 4000000 in
theorem p_Ref_wire_L22 {w : jw_T} (hw : jok w) {Γ : gm_T} {n : Nat} (hG : gd w Γ n)  {x : Bool} {φ : ph_T} {x0 : Nat} {x1 : Int32} {x2 : Int32} {x3 : Int32} {x4 : Int32} {y0 : Nat} {q : Int32 × ph_T} (H : f_Ref_wire_L22 Γ  φ x0 x1 x2 x3 x4 y0 = some q) : J w M_Ref_wire 22 [some (.ref x0), some (.int x1), some (.int x2), some (.int x3), some (.int x4), none] [.ref y0] (pic Γ φ) n x 0 0 (fq Γ n (.inl (some (.int q.1))) q.2) := by
  unfold f_Ref_wire_L22 at H
  refine J_iconst (v := 1) d_Ref_wire_22 (by decide) ?_
  refine J_goto (tgt := 44) d_Ref_wire_23 (by decide) ?_
  refine J.drop [true, true, true, true, true, false] rfl ?_
  exact p_Ref_wire_L44 hw hG  H
def f_Ref_wire (Γ : gm_T) (φ : ph_T) (this : Nat) (p0 : Int32) (p1 : Int32) (p2 : Int32) (p3 : Int32) : Option (Int32 × ph_T) :=
  @ite _ (Γ this = .inr 12) _ (
  Option.bind (f_Ref_isSide Γ φ this p0 p1) fun q19 =>
  if q19.1 = 0 then
    f_Ref_wire_L22 Γ  q19.2 this p0 p1 p2 p3 this
  else
    Option.bind (f_Ref_in Γ q19.2 (Int32.toInt64 p2) (0 : Int64) (4 : Int64)) fun q20 =>
    if q20.1 = 0 then
      f_Ref_wire_L22 Γ  q20.2 this p0 p1 p2 p3 this
    else
      Option.bind (f_Ref_in Γ q20.2 (Int32.toInt64 p3) (0 : Int64) (2 : Int64)) fun q21 =>
      if q21.1 = 0 then
        f_Ref_wire_L44 Γ  q21.2 this p0 p1 p2 p3 (2 : Int32) this
      else
        f_Ref_wire_L44 Γ  q21.2 this p0 p1 p2 p3 (0 : Int32) this
  ) none
set_option maxRecDepth 100000 in
set_option maxHeartbeats 4000000 in
theorem p_Ref_wire {w : jw_T} (hw : jok w) {Γ : gm_T} {n : Nat} (hG : gd w Γ n) {x : Bool} {φ : ph_T} {this : Nat} {p0 : Int32} {p1 : Int32} {p2 : Int32} {p3 : Int32} {q : Int32 × ph_T} (H : f_Ref_wire Γ φ this p0 p1 p2 p3 = some q) : jc w M_Ref_wire [.ref this, .int p0, .int p1, .int p2, .int p3] (pic Γ φ) n x 0 0 (fq Γ n (.inl (some (.int q.1))) q.2) := by
  refine jc.of (by simp only [jent_r, jent_i, jent_l, jent_a, jent_0]; exact Nat.le_of_ble_eq_true rfl) ?_
  have hls : jents [.ref this, .int p0, .int p1, .int p2, .int p3] (jm_nL M_Ref_wire) = [some (.ref this), some (.int p0), some (.int p1), some (.int p2), some (.int p3), none] := by simp only [jents, jent_r, jent_i, jent_l, jent_a, jent_0]; rfl
  rw [hls]
  clear hls
  unfold f_Ref_wire at H
  refine J_aload_n d_Ref_wire_0 rfl ?_
  refine J_aload_n d_Ref_wire_1 rfl ?_
  refine J_iload_n d_Ref_wire_2 rfl ?_
  refine J_iload_n d_Ref_wire_3 rfl ?_
  have g18 : Γ this = .inr 12 := by
    apply Classical.byContradiction
    intro q9
    rw [if_neg q9] at H
    cases H
  rw [if_pos g18] at H
  obtain ⟨q19, hq19, H⟩ := Option.bind_eq_some_iff.mp H
  refine J_callV (kc := 0) (ks := 0) (kc' := 0) (ks' := 0) (a := this) (ci := 12) (as := [.int p0, .int p1]) (st := [.ref this]) (mf_Ref_isSide hw) (mv_Ref_628 hw) d_Ref_wire_4 ln_Ref_isSide (by decide) (by first | exact Nat.le_of_ble_eq_true rfl | (simp only [List.map_cons, List.map_nil, List.sum_cons, List.sum_nil, va_rf_cat]; exact Nat.le_of_ble_eq_true rfl)) rfl ((hG _).1 _ g18 (by decide)).1 ((hG _).1 _ g18 (by decide)).2 (by unfold pic; rw [g18]; rfl) (jcl_at hw rfl) rfl (p_Ref_isSide hw hG hq19) ?_ (fun E h' n' x' e1 => by cases e1.1)
  intro v9 h9 n9 x9 e9
  obtain ⟨e91, e92, e93⟩ := e9
  cases e91
  subst e92
  subst e93
  clear x
  rename Bool => x
  show J _ _ _ _ (_ :: _) _ _ _ _ _ _
  refine J_if_eq (tgt := 22) d_Ref_wire_7 (by decide) ?_ ?_
  · intro c24
    rw [if_pos c24] at H
    refine J.drop [true, true, true, true, true, false] rfl ?_
    exact p_Ref_wire_L22 hw hG  H
  · intro c24
    rw [if_neg c24] at H
    refine J_iload_n d_Ref_wire_10 rfl ?_
    refine J_i2l d_Ref_wire_11 ?_
    refine J_lconst (v := 0) d_Ref_wire_12 (by decide) ?_
    refine J_ldc2 (v := 4) d_Ref_wire_13 (kn_Ref_609 hw) ?_
    obtain ⟨q20, hq20, H⟩ := Option.bind_eq_some_iff.mp H
    refine J_callS (kc := 0) (ks := 0) (kc' := 0) (ks' := 0) (as := [.long (Int32.toInt64 p2), .long (0 : Int64), .long (4 : Int64)]) (st := [.ref this]) (mf_Ref_in hw) (ms_Ref_599 hw) d_Ref_wire_16 ln_Ref_in (by decide) (by first | exact Nat.le_of_ble_eq_true rfl | (simp only [List.map_cons, List.map_nil, List.sum_cons, List.sum_nil, va_rf_cat]; exact Nat.le_of_ble_eq_true rfl)) rfl (p_Ref_in hw hG hq20) ?_ (fun E h' n' x' e1 => by cases e1.1)
    intro v9 h9 n9 x9 e9
    obtain ⟨e91, e92, e93⟩ := e9
    cases e91
    subst e92
    subst e93
    clear x
    rename Bool => x
    show J _ _ _ _ (_ :: _) _ _ _ _ _ _
    refine J_if_ne (tgt := 26) d_Ref_wire_19 (by decide) ?_ ?_
    · intro c23
      rw [if_neg c23] at H
      refine J_iload d_Ref_wire_26 rfl ?_
      refine J_i2l d_Ref_wire_28 ?_
      refine J_lconst (v := 0) d_Ref_wire_29 (by decide) ?_
      refine J_ldc2 (v := 2) d_Ref_wire_30 (kn_Ref_612 hw) ?_
      obtain ⟨q21, hq21, H⟩ := Option.bind_eq_some_iff.mp H
      refine J_callS (kc := 0) (ks := 0) (kc' := 0) (ks' := 0) (as := [.long (Int32.toInt64 p3), .long (0 : Int64), .long (2 : Int64)]) (st := [.ref this]) (mf_Ref_in hw) (ms_Ref_599 hw) d_Ref_wire_33 ln_Ref_in (by decide) (by first | exact Nat.le_of_ble_eq_true rfl | (simp only [List.map_cons, List.map_nil, List.sum_cons, List.sum_nil, va_rf_cat]; exact Nat.le_of_ble_eq_true rfl)) rfl (p_Ref_in hw hG hq21) ?_ (fun E h' n' x' e1 => by cases e1.1)
      intro v9 h9 n9 x9 e9
      obtain ⟨e91, e92, e93⟩ := e9
      cases e91
      subst e92
      subst e93
      clear x
      rename Bool => x
      show J _ _ _ _ (_ :: _) _ _ _ _ _ _
      refine J_if_ne (tgt := 43) d_Ref_wire_36 (by decide) ?_ ?_
      · intro c22
        rw [if_neg c22] at H
        refine J_iconst (v := 0) d_Ref_wire_43 (by decide) ?_
        refine J.drop [true, true, true, true, true, false] rfl ?_
        exact p_Ref_wire_L44 hw hG  H
      · intro c22
        rw [if_pos c22] at H
        refine J_iconst (v := 2) d_Ref_wire_39 (by decide) ?_
        refine J_goto (tgt := 44) d_Ref_wire_40 (by decide) ?_
        refine J.drop [true, true, true, true, true, false] rfl ?_
        exact p_Ref_wire_L44 hw hG  H
    · intro c23
      rw [if_pos c23] at H
      refine J.drop [true, true, true, true, true, false] rfl ?_
      exact p_Ref_wire_L22 hw hG  H
theorem ln_Ref_content : (parseMethodDescriptor y_Ref_content.desc).map (fun q => q.parameters.length) = some 3 := by decide +kernel
def f_Ref_content_L52 (Γ : gm_T)  (φ : ph_T) (y0 : Int64) : Option (Int64 × ph_T) :=
  some (y0, φ)
set_option maxRecDepth 100000 in
set_option maxHeartbeats 4000000 in
theorem p_Ref_content_L52 {w : jw_T} (hw : jok w) {Γ : gm_T} {n : Nat} (hG : gd w Γ n)  {x : Bool} {φ : ph_T} {y0 : Int64} {q : Int64 × ph_T} (H : f_Ref_content_L52 Γ  φ y0 = some q) : J w M_Ref_content 52 [none, none, none, none] [.long y0] (pic Γ φ) n x 0 0 (fq Γ n (.inl (some (.long q.1))) q.2) := by
  unfold f_Ref_content_L52 at H
  cases H
  exact J_lret (st := []) d_Ref_content_52 rfl ⟨rfl, rfl, rfl⟩
def f_Ref_content_L27 (Γ : gm_T)  (φ : ph_T) (x0 : Nat) (x1 : Int32) (x2 : Int32) (x3 : Int32) (y0 : Int32) (y1 : Nat) : Option (Int64 × ph_T) :=
  @ite _ (Γ y1 = .inr 12) _ (
  @ite _ (Γ x0 = .inr 12) _ (
  if ((uI φ y1 0 y0).1 x0 0) ≤ 0 then
    Option.bind (f_Ref_wireOf Γ (uI φ y1 0 y0) x1 x2 x3) fun q3 =>
    Option.bind ((uI φ y1 0 y0).2.2 x0 35) fun a4 =>
    Option.bind (gA Γ a4 1) fun N5 =>
    Option.bind (ix q3.1 N5) fun k6 =>
    f_Ref_content_L52 Γ  q3.2 (q3.2.2.1 a4 k6)
  else
    f_Ref_content_L52 Γ  (uI φ y1 0 y0) (0 : Int64)
  ) none
  ) none
set_option maxRecDepth 100000 in
set_option maxHeartbeats 4000000 in
theorem p_Ref_content_L27 {w : jw_T} (hw : jok w) {Γ : gm_T} {n : Nat} (hG : gd w Γ n)  {x : Bool} {φ : ph_T} {x0 : Nat} {x1 : Int32} {x2 : Int32} {x3 : Int32} {y0 : Int32} {y1 : Nat} {q : Int64 × ph_T} (H : f_Ref_content_L27 Γ  φ x0 x1 x2 x3 y0 y1 = some q) : J w M_Ref_content 27 [some (.ref x0), some (.int x1), some (.int x2), some (.int x3)] [.int y0, .ref y1] (pic Γ φ) n x 0 0 (fq Γ n (.inl (some (.long q.1))) q.2) := by
  unfold f_Ref_content_L27 at H
  have g1 : Γ y1 = .inr 12 := by
    apply Classical.byContradiction
    intro q9
    rw [if_neg q9] at H
    cases H
  rw [if_pos g1] at H
  refine F_putI (ci := 12) (k := 0) hG (cf_Ref hw) (fl_Ref_303 hw) (by decide) (by decide) rfl d_Ref_content_27 rfl rfl rfl g1 ?_
  refine J_aload_n d_Ref_content_30 rfl ?_
  have g2 : Γ x0 = .inr 12 := by
    apply Classical.byContradiction
    intro q9
    rw [if_neg q9] at H
    cases H
  rw [if_pos g2] at H
  refine F_getI (ci := 12) (k := 0) hG (cf_Ref hw) (fl_Ref_303 hw) (by decide) (by decide) rfl d_Ref_content_31 g2 ?_
  refine J_if_le (tgt := 41) d_Ref_content_34 (by decide) ?_ ?_
  · intro c7
    rw [if_pos c7] at H
    refine J_aload_n d_Ref_content_41 rfl ?_
    refine F_getR (ci := 12) (k := 35) hG (cf_Ref hw) (fl_Ref_94 hw) (by decide) (by decide) rfl d_Ref_content_42 g2 ?_
    refine J_iload_n d_Ref_content_45 rfl ?_
    refine J_iload_n d_Ref_content_46 rfl ?_
    refine J_iload_n d_Ref_content_47 rfl ?_
    obtain ⟨q3, hq3, H⟩ := Option.bind_eq_some_iff.mp H
    refine J_callS (kc := 0) (ks := 0) (kc' := 0) (ks' := 0) (as := [.int x1, .int x2, .int x3]) (st := [va_rf ((uI φ y1 0 y0).2.2 x0 35)]) (mf_Ref_wireOf hw) (ms_Ref_631 hw) d_Ref_content_48 ln_Ref_wireOf (by decide) (by first | exact Nat.le_of_ble_eq_true rfl | (simp only [List.map_cons, List.map_nil, List.sum_cons, List.sum_nil, va_rf_cat]; exact Nat.le_of_ble_eq_true rfl)) rfl (p_Ref_wireOf hw hG hq3) ?_ (fun E h' n' x' e1 => by cases e1.1)
    intro v9 h9 n9 x9 e9
    obtain ⟨e91, e92, e93⟩ := e9
    cases e91
    subst e92
    subst e93
    clear x
    rename Bool => x
    show J _ _ _ _ (_ :: _) _ _ _ _ _ _
    obtain ⟨a4, ha4, H⟩ := Option.bind_eq_some_iff.mp H
    rw [j_rf ha4]
    obtain ⟨N5, hN5, H⟩ := Option.bind_eq_some_iff.mp H
    obtain ⟨k6, hk6, H⟩ := Option.bind_eq_some_iff.mp H
    refine F_lald k6 hw hG d_Ref_content_51 (gA_some hN5) (ix_some hk6) ?_
    refine J.drop [false, false, false, false] rfl ?_
    exact p_Ref_content_L52 hw hG  H
  · intro c7
    rw [if_neg c7] at H
    refine J_lconst (v := 0) d_Ref_content_37 (by decide) ?_
    refine J_goto (tgt := 52) d_Ref_content_38 (by decide) ?_
    refine J.drop [false, false, false, false] rfl ?_
    exact p_Ref_content_L52 hw hG  H
def f_Ref_content_L26 (Γ : gm_T)  (φ : ph_T) (x0 : Nat) (x1 : Int32) (x2 : Int32) (x3 : Int32) (y0 : Nat) : Option (Int64 × ph_T) :=
  f_Ref_content_L27 Γ  φ x0 x1 x2 x3 (1 : Int32) y0
set_option maxRecDepth 100000 in
set_option maxHeartbeats 4000000 in
theorem p_Ref_content_L26 {w : jw_T} (hw : jok w) {Γ : gm_T} {n : Nat} (hG : gd w Γ n)  {x : Bool} {φ : ph_T} {x0 : Nat} {x1 : Int32} {x2 : Int32} {x3 : Int32} {y0 : Nat} {q : Int64 × ph_T} (H : f_Ref_content_L26 Γ  φ x0 x1 x2 x3 y0 = some q) : J w M_Ref_content 26 [some (.ref x0), some (.int x1), some (.int x2), some (.int x3)] [.ref y0] (pic Γ φ) n x 0 0 (fq Γ n (.inl (some (.long q.1))) q.2) := by
  unfold f_Ref_content_L26 at H
  refine J_iconst (v := 1) d_Ref_content_26 (by decide) ?_
  refine J.drop [true, true, true, true] rfl ?_
  exact p_Ref_content_L27 hw hG  H
def f_Ref_content (Γ : gm_T) (φ : ph_T) (this : Nat) (p0 : Int32) (p1 : Int32) (p2 : Int32) : Option (Int64 × ph_T) :=
  @ite _ (Γ this = .inr 12) _ (
  Option.bind (f_Ref_isSide Γ φ this p0 p1) fun q9 =>
  if q9.1 = 0 then
    f_Ref_content_L26 Γ  q9.2 this p0 p1 p2 this
  else
    Option.bind (f_Ref_in Γ q9.2 (Int32.toInt64 p2) (0 : Int64) (4 : Int64)) fun q10 =>
    if q10.1 = 0 then
      f_Ref_content_L26 Γ  q10.2 this p0 p1 p2 this
    else
      f_Ref_content_L27 Γ  q10.2 this p0 p1 p2 (0 : Int32) this
  ) none
set_option maxRecDepth 100000 in
set_option maxHeartbeats 4000000 in
theorem p_Ref_content {w : jw_T} (hw : jok w) {Γ : gm_T} {n : Nat} (hG : gd w Γ n) {x : Bool} {φ : ph_T} {this : Nat} {p0 : Int32} {p1 : Int32} {p2 : Int32} {q : Int64 × ph_T} (H : f_Ref_content Γ φ this p0 p1 p2 = some q) : jc w M_Ref_content [.ref this, .int p0, .int p1, .int p2] (pic Γ φ) n x 0 0 (fq Γ n (.inl (some (.long q.1))) q.2) := by
  refine jc.of (by simp only [jent_r, jent_i, jent_l, jent_a, jent_0]; exact Nat.le_of_ble_eq_true rfl) ?_
  have hls : jents [.ref this, .int p0, .int p1, .int p2] (jm_nL M_Ref_content) = [some (.ref this), some (.int p0), some (.int p1), some (.int p2)] := by simp only [jents, jent_r, jent_i, jent_l, jent_a, jent_0]; rfl
  rw [hls]
  clear hls
  unfold f_Ref_content at H
  refine J_aload_n d_Ref_content_0 rfl ?_
  refine J_aload_n d_Ref_content_1 rfl ?_
  refine J_iload_n d_Ref_content_2 rfl ?_
  refine J_iload_n d_Ref_content_3 rfl ?_
  have g8 : Γ this = .inr 12 := by
    apply Classical.byContradiction
    intro q9
    rw [if_neg q9] at H
    cases H
  rw [if_pos g8] at H
  obtain ⟨q9, hq9, H⟩ := Option.bind_eq_some_iff.mp H
  refine J_callV (kc := 0) (ks := 0) (kc' := 0) (ks' := 0) (a := this) (ci := 12) (as := [.int p0, .int p1]) (st := [.ref this]) (mf_Ref_isSide hw) (mv_Ref_628 hw) d_Ref_content_4 ln_Ref_isSide (by decide) (by first | exact Nat.le_of_ble_eq_true rfl | (simp only [List.map_cons, List.map_nil, List.sum_cons, List.sum_nil, va_rf_cat]; exact Nat.le_of_ble_eq_true rfl)) rfl ((hG _).1 _ g8 (by decide)).1 ((hG _).1 _ g8 (by decide)).2 (by unfold pic; rw [g8]; rfl) (jcl_at hw rfl) rfl (p_Ref_isSide hw hG hq9) ?_ (fun E h' n' x' e1 => by cases e1.1)
  intro v9 h9 n9 x9 e9
  obtain ⟨e91, e92, e93⟩ := e9
  cases e91
  subst e92
  subst e93
  clear x
  rename Bool => x
  show J _ _ _ _ (_ :: _) _ _ _ _ _ _
  refine J_if_eq (tgt := 26) d_Ref_content_7 (by decide) ?_ ?_
  · intro c12
    rw [if_pos c12] at H
    refine J.drop [true, true, true, true] rfl ?_
    exact p_Ref_content_L26 hw hG  H
  · intro c12
    rw [if_neg c12] at H
    refine J_iload_n d_Ref_content_10 rfl ?_
    refine J_i2l d_Ref_content_11 ?_
    refine J_lconst (v := 0) d_Ref_content_12 (by decide) ?_
    refine J_ldc2 (v := 4) d_Ref_content_13 (kn_Ref_609 hw) ?_
    obtain ⟨q10, hq10, H⟩ := Option.bind_eq_some_iff.mp H
    refine J_callS (kc := 0) (ks := 0) (kc' := 0) (ks' := 0) (as := [.long (Int32.toInt64 p2), .long (0 : Int64), .long (4 : Int64)]) (st := [.ref this]) (mf_Ref_in hw) (ms_Ref_599 hw) d_Ref_content_16 ln_Ref_in (by decide) (by first | exact Nat.le_of_ble_eq_true rfl | (simp only [List.map_cons, List.map_nil, List.sum_cons, List.sum_nil, va_rf_cat]; exact Nat.le_of_ble_eq_true rfl)) rfl (p_Ref_in hw hG hq10) ?_ (fun E h' n' x' e1 => by cases e1.1)
    intro v9 h9 n9 x9 e9
    obtain ⟨e91, e92, e93⟩ := e9
    cases e91
    subst e92
    subst e93
    clear x
    rename Bool => x
    show J _ _ _ _ (_ :: _) _ _ _ _ _ _
    refine J_if_eq (tgt := 26) d_Ref_content_19 (by decide) ?_ ?_
    · intro c11
      rw [if_pos c11] at H
      refine J.drop [true, true, true, true] rfl ?_
      exact p_Ref_content_L26 hw hG  H
    · intro c11
      rw [if_neg c11] at H
      refine J_iconst (v := 0) d_Ref_content_22 (by decide) ?_
      refine J_goto (tgt := 27) d_Ref_content_23 (by decide) ?_
      refine J.drop [true, true, true, true] rfl ?_
      exact p_Ref_content_L27 hw hG  H
theorem ln_Ref_port : (parseMethodDescriptor y_Ref_port.desc).map (fun q => q.parameters.length) = some 3 := by decide +kernel
def f_Ref_port_L107 (Γ : gm_T)  (φ : ph_T) (y0 : Int32) : Option (Int32 × ph_T) :=
  some (y0, φ)
set_option maxRecDepth 100000 in
set_option maxHeartbeats 4000000 in
theorem p_Ref_port_L107 {w : jw_T} (hw : jok w) {Γ : gm_T} {n : Nat} (hG : gd w Γ n)  {x : Bool} {φ : ph_T} {y0 : Int32} {q : Int32 × ph_T} (H : f_Ref_port_L107 Γ  φ y0 = some q) : J w M_Ref_port 107 [none, none, none, none, none] [.int y0] (pic Γ φ) n x 0 0 (fq Γ n (.inl (some (.int q.1))) q.2) := by
  unfold f_Ref_port_L107 at H
  cases H
  exact J_iret (st := []) d_Ref_port_107 rfl rfl ⟨rfl, rfl, rfl⟩
def f_Ref_port_L31 (Γ : gm_T)  (φ : ph_T) (x0 : Nat) (x1 : Int32) (x2 : Int32) (x3 : Int32) (y0 : Int32) (y1 : Nat) : Option (Int32 × ph_T) :=
  @ite _ (Γ y1 = .inr 12) _ (
  @ite _ (Γ x0 = .inr 12) _ (
  if ((uI φ y1 0 y0).1 x0 0) ≤ 0 then
    if (5 : Int32) ≤ x3 then
      if x3 = (5 : Int32) then
        Option.bind ((uI φ y1 0 y0).2.2 x0 86) fun a10 =>
        Option.bind (gA Γ a10 0) fun N11 =>
        Option.bind (ix (((4 : Int32) * x1) + x2) N11) fun k12 =>
        f_Ref_port_L107 Γ  (uI φ y1 0 y0) ((uI φ y1 0 y0).1 a10 k12)
      else
        if x3 = (6 : Int32) then
          Option.bind ((uI φ y1 0 y0).2.2 x0 87) fun a6 =>
          Option.bind (gA Γ a6 0) fun N7 =>
          Option.bind (ix (((4 : Int32) * x1) + x2) N7) fun k8 =>
          f_Ref_port_L107 Γ  (uI φ y1 0 y0) ((uI φ y1 0 y0).1 a6 k8)
        else
          Option.bind ((uI φ y1 0 y0).2.2 x0 88) fun a3 =>
          Option.bind (gA Γ a3 0) fun N4 =>
          Option.bind (ix (((4 : Int32) * x1) + x2) N4) fun k5 =>
          f_Ref_port_L107 Γ  (uI φ y1 0 y0) ((uI φ y1 0 y0).1 a3 k5)
    else
      Option.bind ((uI φ y1 0 y0).2.2 x0 38) fun a14 =>
      Option.bind (gA Γ a14 0) fun N15 =>
      Option.bind (ix (((5 : Int32) * (((4 : Int32) * x1) + x2)) + x3) N15) fun k16 =>
      f_Ref_port_L107 Γ  (uI φ y1 0 y0) ((uI φ y1 0 y0).1 a14 k16)
  else
    some ((0 : Int32), (uI φ y1 0 y0))
  ) none
  ) none
set_option maxRecDepth 100000 in
set_option maxHeartbeats 4000000 in
theorem p_Ref_port_L31 {w : jw_T} (hw : jok w) {Γ : gm_T} {n : Nat} (hG : gd w Γ n)  {x : Bool} {φ : ph_T} {x0 : Nat} {x1 : Int32} {x2 : Int32} {x3 : Int32} {y0 : Int32} {y1 : Nat} {q : Int32 × ph_T} (H : f_Ref_port_L31 Γ  φ x0 x1 x2 x3 y0 y1 = some q) : J w M_Ref_port 31 [some (.ref x0), some (.int x1), some (.int x2), some (.int x3), none] [.int y0, .ref y1] (pic Γ φ) n x 0 0 (fq Γ n (.inl (some (.int q.1))) q.2) := by
  unfold f_Ref_port_L31 at H
  have g1 : Γ y1 = .inr 12 := by
    apply Classical.byContradiction
    intro q9
    rw [if_neg q9] at H
    cases H
  rw [if_pos g1] at H
  refine F_putI (ci := 12) (k := 0) hG (cf_Ref hw) (fl_Ref_303 hw) (by decide) (by decide) rfl d_Ref_port_31 rfl rfl rfl g1 ?_
  refine J_aload_n d_Ref_port_34 rfl ?_
  have g2 : Γ x0 = .inr 12 := by
    apply Classical.byContradiction
    intro q9
    rw [if_neg q9] at H
    cases H
  rw [if_pos g2] at H
  refine F_getI (ci := 12) (k := 0) hG (cf_Ref hw) (fl_Ref_303 hw) (by decide) (by decide) rfl d_Ref_port_35 g2 ?_
  refine J_if_le (tgt := 43) d_Ref_port_38 (by decide) ?_ ?_
  · intro c18
    rw [if_pos c18] at H
    refine J_iconst (v := 4) d_Ref_port_43 (by decide) ?_
    refine J_iload_n d_Ref_port_44 rfl ?_
    refine J_imul d_Ref_port_45 ?_
    refine J_iload_n d_Ref_port_46 rfl ?_
    refine J_iadd d_Ref_port_47 ?_
    refine J_istore d_Ref_port_48 (Nat.le_of_ble_eq_true rfl) ?_
    refine J_iload_n d_Ref_port_50 rfl ?_
    refine J_iconst (v := 5) d_Ref_port_51 (by decide) ?_
    refine J_icmp_ge (tgt := 69) d_Ref_port_52 (by decide) ?_ ?_
    · intro c17
      rw [if_pos c17] at H
      refine J_iload_n d_Ref_port_69 rfl ?_
      refine J_iconst (v := 5) d_Ref_port_70 (by decide) ?_
      refine J_icmp_ne (tgt := 84) d_Ref_port_71 (by decide) ?_ ?_
      · intro c13
        rw [if_neg c13] at H
        refine J_iload_n d_Ref_port_84 rfl ?_
        refine J_bipush (v := 6) d_Ref_port_85 (by decide) ?_
        refine J_icmp_ne (tgt := 100) d_Ref_port_87 (by decide) ?_ ?_
        · intro c9
          rw [if_neg c9] at H
          refine J_aload_n d_Ref_port_100 rfl ?_
          refine F_getR (ci := 12) (k := 88) hG (cf_Ref hw) (fl_Ref_244 hw) (by decide) (by decide) rfl d_Ref_port_101 g2 ?_
          refine J_iload d_Ref_port_104 rfl ?_
          obtain ⟨a3, ha3, H⟩ := Option.bind_eq_some_iff.mp H
          rw [j_rf ha3]
          obtain ⟨N4, hN4, H⟩ := Option.bind_eq_some_iff.mp H
          obtain ⟨k5, hk5, H⟩ := Option.bind_eq_some_iff.mp H
          refine F_iald k5 hw hG d_Ref_port_106 (gA_some hN4) (ix_some hk5) ?_
          refine J.drop [false, false, false, false, false] rfl ?_
          exact p_Ref_port_L107 hw hG  H
        · intro c9
          rw [if_pos c9] at H
          refine J_aload_n d_Ref_port_90 rfl ?_
          refine F_getR (ci := 12) (k := 87) hG (cf_Ref hw) (fl_Ref_241 hw) (by decide) (by decide) rfl d_Ref_port_91 g2 ?_
          refine J_iload d_Ref_port_94 rfl ?_
          obtain ⟨a6, ha6, H⟩ := Option.bind_eq_some_iff.mp H
          rw [j_rf ha6]
          obtain ⟨N7, hN7, H⟩ := Option.bind_eq_some_iff.mp H
          obtain ⟨k8, hk8, H⟩ := Option.bind_eq_some_iff.mp H
          refine F_iald k8 hw hG d_Ref_port_96 (gA_some hN7) (ix_some hk8) ?_
          refine J_goto (tgt := 107) d_Ref_port_97 (by decide) ?_
          refine J.drop [false, false, false, false, false] rfl ?_
          exact p_Ref_port_L107 hw hG  H
      · intro c13
        rw [if_pos c13] at H
        refine J_aload_n d_Ref_port_74 rfl ?_
        refine F_getR (ci := 12) (k := 86) hG (cf_Ref hw) (fl_Ref_238 hw) (by decide) (by decide) rfl d_Ref_port_75 g2 ?_
        refine J_iload d_Ref_port_78 rfl ?_
        obtain ⟨a10, ha10, H⟩ := Option.bind_eq_some_iff.mp H
        rw [j_rf ha10]
        obtain ⟨N11, hN11, H⟩ := Option.bind_eq_some_iff.mp H
        obtain ⟨k12, hk12, H⟩ := Option.bind_eq_some_iff.mp H
        refine F_iald k12 hw hG d_Ref_port_80 (gA_some hN11) (ix_some hk12) ?_
        refine J_goto (tgt := 107) d_Ref_port_81 (by decide) ?_
        refine J.drop [false, false, false, false, false] rfl ?_
        exact p_Ref_port_L107 hw hG  H
    · intro c17
      rw [if_neg c17] at H
      refine J_aload_n d_Ref_port_55 rfl ?_
      refine F_getR (ci := 12) (k := 38) hG (cf_Ref hw) (fl_Ref_103 hw) (by decide) (by decide) rfl d_Ref_port_56 g2 ?_
      refine J_iconst (v := 5) d_Ref_port_59 (by decide) ?_
      refine J_iload d_Ref_port_60 rfl ?_
      refine J_imul d_Ref_port_62 ?_
      refine J_iload_n d_Ref_port_63 rfl ?_
      refine J_iadd d_Ref_port_64 ?_
      obtain ⟨a14, ha14, H⟩ := Option.bind_eq_some_iff.mp H
      rw [j_rf ha14]
      obtain ⟨N15, hN15, H⟩ := Option.bind_eq_some_iff.mp H
      obtain ⟨k16, hk16, H⟩ := Option.bind_eq_some_iff.mp H
      refine F_iald k16 hw hG d_Ref_port_65 (gA_some hN15) (ix_some hk16) ?_
      refine J_goto (tgt := 107) d_Ref_port_66 (by decide) ?_
      refine J.drop [false, false, false, false, false] rfl ?_
      exact p_Ref_port_L107 hw hG  H
  · intro c18
    rw [if_neg c18] at H
    refine J_iconst (v := 0) d_Ref_port_41 (by decide) ?_
    cases H
    exact J_iret (st := []) d_Ref_port_42 rfl rfl ⟨rfl, rfl, rfl⟩
def f_Ref_port (Γ : gm_T) (φ : ph_T) (this : Nat) (p0 : Int32) (p1 : Int32) (p2 : Int32) : Option (Int32 × ph_T) :=
  @ite _ (Γ this = .inr 12) _ (
  Option.bind (f_Ref_isSide Γ φ this p0 p1) fun q20 =>
  if q20.1 = 0 then
    f_Ref_port_L31 Γ  q20.2 this p0 p1 p2 (1 : Int32) this
  else
    Option.bind (f_Ref_in Γ q20.2 (Int32.toInt64 p2) (0 : Int64) (7 : Int64)) fun q21 =>
    if q21.1 = 0 then
      f_Ref_port_L31 Γ  q21.2 this p0 p1 p2 (2 : Int32) this
    else
      f_Ref_port_L31 Γ  q21.2 this p0 p1 p2 (0 : Int32) this
  ) none
set_option maxRecDepth 100000 in
set_option maxHeartbeats 4000000 in
theorem p_Ref_port {w : jw_T} (hw : jok w) {Γ : gm_T} {n : Nat} (hG : gd w Γ n) {x : Bool} {φ : ph_T} {this : Nat} {p0 : Int32} {p1 : Int32} {p2 : Int32} {q : Int32 × ph_T} (H : f_Ref_port Γ φ this p0 p1 p2 = some q) : jc w M_Ref_port [.ref this, .int p0, .int p1, .int p2] (pic Γ φ) n x 0 0 (fq Γ n (.inl (some (.int q.1))) q.2) := by
  refine jc.of (by simp only [jent_r, jent_i, jent_l, jent_a, jent_0]; exact Nat.le_of_ble_eq_true rfl) ?_
  have hls : jents [.ref this, .int p0, .int p1, .int p2] (jm_nL M_Ref_port) = [some (.ref this), some (.int p0), some (.int p1), some (.int p2), none] := by simp only [jents, jent_r, jent_i, jent_l, jent_a, jent_0]; rfl
  rw [hls]
  clear hls
  unfold f_Ref_port at H
  refine J_aload_n d_Ref_port_0 rfl ?_
  refine J_aload_n d_Ref_port_1 rfl ?_
  refine J_iload_n d_Ref_port_2 rfl ?_
  refine J_iload_n d_Ref_port_3 rfl ?_
  have g19 : Γ this = .inr 12 := by
    apply Classical.byContradiction
    intro q9
    rw [if_neg q9] at H
    cases H
  rw [if_pos g19] at H
  obtain ⟨q20, hq20, H⟩ := Option.bind_eq_some_iff.mp H
  refine J_callV (kc := 0) (ks := 0) (kc' := 0) (ks' := 0) (a := this) (ci := 12) (as := [.int p0, .int p1]) (st := [.ref this]) (mf_Ref_isSide hw) (mv_Ref_628 hw) d_Ref_port_4 ln_Ref_isSide (by decide) (by first | exact Nat.le_of_ble_eq_true rfl | (simp only [List.map_cons, List.map_nil, List.sum_cons, List.sum_nil, va_rf_cat]; exact Nat.le_of_ble_eq_true rfl)) rfl ((hG _).1 _ g19 (by decide)).1 ((hG _).1 _ g19 (by decide)).2 (by unfold pic; rw [g19]; rfl) (jcl_at hw rfl) rfl (p_Ref_isSide hw hG hq20) ?_ (fun E h' n' x' e1 => by cases e1.1)
  intro v9 h9 n9 x9 e9
  obtain ⟨e91, e92, e93⟩ := e9
  cases e91
  subst e92
  subst e93
  clear x
  rename Bool => x
  show J _ _ _ _ (_ :: _) _ _ _ _ _ _
  refine J_if_ne (tgt := 14) d_Ref_port_7 (by decide) ?_ ?_
  · intro c23
    rw [if_neg c23] at H
    refine J_iload_n d_Ref_port_14 rfl ?_
    refine J_i2l d_Ref_port_15 ?_
    refine J_lconst (v := 0) d_Ref_port_16 (by decide) ?_
    refine J_ldc2 (v := 7) d_Ref_port_17 (kn_Ref_635 hw) ?_
    obtain ⟨q21, hq21, H⟩ := Option.bind_eq_some_iff.mp H
    refine J_callS (kc := 0) (ks := 0) (kc' := 0) (ks' := 0) (as := [.long (Int32.toInt64 p2), .long (0 : Int64), .long (7 : Int64)]) (st := [.ref this]) (mf_Ref_in hw) (ms_Ref_599 hw) d_Ref_port_20 ln_Ref_in (by decide) (by first | exact Nat.le_of_ble_eq_true rfl | (simp only [List.map_cons, List.map_nil, List.sum_cons, List.sum_nil, va_rf_cat]; exact Nat.le_of_ble_eq_true rfl)) rfl (p_Ref_in hw hG hq21) ?_ (fun E h' n' x' e1 => by cases e1.1)
    intro v9 h9 n9 x9 e9
    obtain ⟨e91, e92, e93⟩ := e9
    cases e91
    subst e92
    subst e93
    clear x
    rename Bool => x
    show J _ _ _ _ (_ :: _) _ _ _ _ _ _
    refine J_if_ne (tgt := 30) d_Ref_port_23 (by decide) ?_ ?_
    · intro c22
      rw [if_neg c22] at H
      refine J_iconst (v := 0) d_Ref_port_30 (by decide) ?_
      refine J.drop [true, true, true, true, false] rfl ?_
      exact p_Ref_port_L31 hw hG  H
    · intro c22
      rw [if_pos c22] at H
      refine J_iconst (v := 2) d_Ref_port_26 (by decide) ?_
      refine J_goto (tgt := 31) d_Ref_port_27 (by decide) ?_
      refine J.drop [true, true, true, true, false] rfl ?_
      exact p_Ref_port_L31 hw hG  H
  · intro c23
    rw [if_pos c23] at H
    refine J_iconst (v := 1) d_Ref_port_10 (by decide) ?_
    refine J_goto (tgt := 31) d_Ref_port_11 (by decide) ?_
    refine J.drop [true, true, true, true, false] rfl ?_
    exact p_Ref_port_L31 hw hG  H
theorem ln_Ref_target : (parseMethodDescriptor y_Ref_target.desc).map (fun q => q.parameters.length) = some 2 := by decide +kernel
def f_Ref_target_L174 (Γ : gm_T)  (φ : ph_T) (y0 : Int32) : Option (Int32 × ph_T) :=
  some (y0, φ)
set_option maxRecDepth 100000 in
set_option maxHeartbeats 4000000 in
theorem p_Ref_target_L174 {w : jw_T} (hw : jok w) {Γ : gm_T} {n : Nat} (hG : gd w Γ n)  {x : Bool} {φ : ph_T} {y0 : Int32} {q : Int32 × ph_T} (H : f_Ref_target_L174 Γ  φ y0 = some q) : J w M_Ref_target 174 [none, none, none, none, none] [.int y0] (pic Γ φ) n x 0 0 (fq Γ n (.inl (some (.int q.1))) q.2) := by
  unfold f_Ref_target_L174 at H
  cases H
  exact J_iret (st := []) d_Ref_target_174 rfl rfl ⟨rfl, rfl, rfl⟩
def f_Ref_target_L133 (Γ : gm_T)  (φ : ph_T) (x0 : Nat) (x1 : Int32) (x2 : Int32) (x3 : Int32) : Option (Int32 × ph_T) :=
  if (2 : Int32) ≤ x2 then
    @ite _ (Γ x0 = .inr 12) _ (
    if x1 = (φ.1 x0 2) then
      f_Ref_target_L174 Γ  φ (0 : Int32)
    else
      if x2 = (2 : Int32) then
        Option.bind (φ.2.2 x0 58) fun a5 =>
        Option.bind (gA Γ a5 0) fun N6 =>
        Option.bind (ix x1 N6) fun k7 =>
        f_Ref_target_L174 Γ  φ (φ.1 a5 k7)
      else
        Option.bind (φ.2.2 x0 67) fun a2 =>
        Option.bind (gA Γ a2 0) fun N3 =>
        Option.bind (ix x1 N3) fun k4 =>
        f_Ref_target_L174 Γ  φ (φ.1 a2 k4)
    ) none
  else
    f_Ref_target_L174 Γ  φ x3
set_option maxRecDepth 100000 in
set_option maxHeartbeats 4000000 in
theorem p_Ref_target_L133 {w : jw_T} (hw : jok w) {Γ : gm_T} {n : Nat} (hG : gd w Γ n)  {x : Bool} {φ : ph_T} {x0 : Nat} {x1 : Int32} {x2 : Int32} {x3 : Int32} {q : Int32 × ph_T} (H : f_Ref_target_L133 Γ  φ x0 x1 x2 x3 = some q) : J w M_Ref_target 133 [some (.ref x0), some (.int x1), some (.int x2), some (.int x3), none] [] (pic Γ φ) n x 0 0 (fq Γ n (.inl (some (.int q.1))) q.2) := by
  unfold f_Ref_target_L133 at H
  refine J_iload_n d_Ref_target_133 rfl ?_
  refine J_iconst (v := 2) d_Ref_target_134 (by decide) ?_
  refine J_icmp_ge (tgt := 142) d_Ref_target_135 (by decide) ?_ ?_
  · intro c10
    rw [if_pos c10] at H
    refine J_iload_n d_Ref_target_142 rfl ?_
    refine J_aload_n d_Ref_target_143 rfl ?_
    have g1 : Γ x0 = .inr 12 := by
      apply Classical.byContradiction
      intro q9
      rw [if_neg q9] at H
      cases H
    rw [if_pos g1] at H
    refine F_getI (ci := 12) (k := 2) hG (cf_Ref hw) (fl_Ref_294 hw) (by decide) (by decide) rfl d_Ref_target_144 g1 ?_
    refine J_icmp_ne (tgt := 154) d_Ref_target_147 (by decide) ?_ ?_
    · intro c9
      rw [if_neg c9] at H
      refine J_iload_n d_Ref_target_154 rfl ?_
      refine J_iconst (v := 2) d_Ref_target_155 (by decide) ?_
      refine J_icmp_ne (tgt := 168) d_Ref_target_156 (by decide) ?_ ?_
      · intro c8
        rw [if_neg c8] at H
        refine J_aload_n d_Ref_target_168 rfl ?_
        refine F_getR (ci := 12) (k := 67) hG (cf_Ref hw) (fl_Ref_181 hw) (by decide) (by decide) rfl d_Ref_target_169 g1 ?_
        refine J_iload_n d_Ref_target_172 rfl ?_
        obtain ⟨a2, ha2, H⟩ := Option.bind_eq_some_iff.mp H
        rw [j_rf ha2]
        obtain ⟨N3, hN3, H⟩ := Option.bind_eq_some_iff.mp H
        obtain ⟨k4, hk4, H⟩ := Option.bind_eq_some_iff.mp H
        refine F_iald k4 hw hG d_Ref_target_173 (gA_some hN3) (ix_some hk4) ?_
        refine J.drop [false, false, false, false, false] rfl ?_
        exact p_Ref_target_L174 hw hG  H
      · intro c8
        rw [if_pos c8] at H
        refine J_aload_n d_Ref_target_159 rfl ?_
        refine F_getR (ci := 12) (k := 58) hG (cf_Ref hw) (fl_Ref_154 hw) (by decide) (by decide) rfl d_Ref_target_160 g1 ?_
        refine J_iload_n d_Ref_target_163 rfl ?_
        obtain ⟨a5, ha5, H⟩ := Option.bind_eq_some_iff.mp H
        rw [j_rf ha5]
        obtain ⟨N6, hN6, H⟩ := Option.bind_eq_some_iff.mp H
        obtain ⟨k7, hk7, H⟩ := Option.bind_eq_some_iff.mp H
        refine F_iald k7 hw hG d_Ref_target_164 (gA_some hN6) (ix_some hk7) ?_
        refine J_goto (tgt := 174) d_Ref_target_165 (by decide) ?_
        refine J.drop [false, false, false, false, false] rfl ?_
        exact p_Ref_target_L174 hw hG  H
    · intro c9
      rw [if_pos c9] at H
      refine J_iconst (v := 0) d_Ref_target_150 (by decide) ?_
      refine J_goto (tgt := 174) d_Ref_target_151 (by decide) ?_
      refine J.drop [false, false, false, false, false] rfl ?_
      exact p_Ref_target_L174 hw hG  H
  · intro c10
    rw [if_neg c10] at H
    refine J_iload_n d_Ref_target_138 rfl ?_
    refine J_goto (tgt := 174) d_Ref_target_139 (by decide) ?_
    refine J.drop [false, false, false, false, false] rfl ?_
    exact p_Ref_target_L174 hw hG  H
def f_Ref_target_L125 (Γ : gm_T) (Kc94 : ph_T → Nat → Int32 → Int32 → Int32 → Int32 → Option (Int32 × ph_T)) (φ : ph_T) (x0 : Nat) (x1 : Int32) (x2 : Int32) (x4 : Int32) (y0 : Int32) (y1 : Int32) : Option (Int32 × ph_T) :=
  Kc94 φ x0 x1 x2 (y1 + y0) (x4 + (1 : Int32))
set_option maxRecDepth 100000 in
set_option maxHeartbeats 4000000 in
theorem p_Ref_target_L125 {w : jw_T} (hw : jok w) {Γ : gm_T} {n : Nat} (hG : gd w Γ n) {Kc94 : ph_T → Nat → Int32 → Int32 → Int32 → Int32 → Option (Int32 × ph_T)} (hKc94 : ∀ {x : Bool} {φ : ph_T} {x0 : Nat} {x1 : Int32} {x2 : Int32} {x3 : Int32} {x4 : Int32} {q : Int32 × ph_T}, Kc94 φ x0 x1 x2 x3 x4 = some q → J w M_Ref_target 94 [some (.ref x0), some (.int x1), some (.int x2), some (.int x3), some (.int x4)] [] (pic Γ φ) n x 0 0 (fq Γ n (.inl (some (.int q.1))) q.2)) {x : Bool} {φ : ph_T} {x0 : Nat} {x1 : Int32} {x2 : Int32} {x4 : Int32} {y0 : Int32} {y1 : Int32} {q : Int32 × ph_T} (H : f_Ref_target_L125 Γ Kc94 φ x0 x1 x2 x4 y0 y1 = some q) : J w M_Ref_target 125 [some (.ref x0), some (.int x1), some (.int x2), none, some (.int x4)] [.int y0, .int y1] (pic Γ φ) n x 0 0 (fq Γ n (.inl (some (.int q.1))) q.2) := by
  unfold f_Ref_target_L125 at H
  refine J_iadd d_Ref_target_125 ?_
  refine J_istore_n d_Ref_target_126 (Nat.le_of_ble_eq_true rfl) ?_
  refine J_iinc (v := x4 + 1) d_Ref_target_127 rfl (by rw [show Int32.ofInt 1 = (1 : Int32) from by decide]) ?_
  refine J_goto (tgt := 94) d_Ref_target_130 (by decide) ?_
  refine J.drop [true, true, true, true, true] rfl ?_
  exact hKc94 H
def f_Ref_target_L94 (Γ : gm_T)  : Nat → ph_T → Nat → Int32 → Int32 → Int32 → Int32 → Option (Int32 × ph_T)
  | 0, _, _, _, _, _, _ => none
  | fu + 1, φ, x0, x1, x2, x3, x4 =>
    @ite _ (Γ x0 = .inr 12) _ (
    if (φ.1 x0 51) ≤ x4 then
      f_Ref_target_L133 Γ  φ x0 x1 x2 x3
    else
      if x2 = (1 : Int32) then
        Option.bind (φ.2.2 x0 50) fun a12 =>
        Option.bind (gA Γ a12 0) fun N13 =>
        Option.bind (ix x4 N13) fun k14 =>
        if (φ.1 a12 k14) = x1 then
          f_Ref_target_L125 Γ (f_Ref_target_L94 Γ  fu) φ x0 x1 x2 x4 (1 : Int32) x3
        else
          f_Ref_target_L125 Γ (f_Ref_target_L94 Γ  fu) φ x0 x1 x2 x4 (0 : Int32) x3
      else
        f_Ref_target_L133 Γ  φ x0 x1 x2 x3
    ) none
set_option maxRecDepth 100000 in
set_option maxHeartbeats 4000000 in
theorem p_Ref_target_L94 {w : jw_T} (hw : jok w) {Γ : gm_T} {n : Nat} (hG : gd w Γ n)  : ∀ (fu : Nat) {x : Bool} {φ : ph_T} {x0 : Nat} {x1 : Int32} {x2 : Int32} {x3 : Int32} {x4 : Int32} {q : Int32 × ph_T}, f_Ref_target_L94 Γ  fu φ x0 x1 x2 x3 x4 = some q → J w M_Ref_target 94 [some (.ref x0), some (.int x1), some (.int x2), some (.int x3), some (.int x4)] [] (pic Γ φ) n x 0 0 (fq Γ n (.inl (some (.int q.1))) q.2) := by
  intro fu
  induction fu with
  | zero =>
    intro x φ x0 x1 x2 x3 x4 q H
    cases H
  | succ fu ih =>
    intro x φ x0 x1 x2 x3 x4 q H
    unfold f_Ref_target_L94 at H
    refine J_iload d_Ref_target_94 rfl ?_
    refine J_aload_n d_Ref_target_96 rfl ?_
    have g11 : Γ x0 = .inr 12 := by
      apply Classical.byContradiction
      intro q9
      rw [if_neg q9] at H
      cases H
    rw [if_pos g11] at H
    refine F_getI (ci := 12) (k := 51) hG (cf_Ref hw) (fl_Ref_529 hw) (by decide) (by decide) rfl d_Ref_target_97 g11 ?_
    refine J_icmp_ge (tgt := 133) d_Ref_target_100 (by decide) ?_ ?_
    · intro c17
      rw [if_pos c17] at H
      refine J.drop [true, true, true, true, false] rfl ?_
      exact p_Ref_target_L133 hw hG  H
    · intro c17
      rw [if_neg c17] at H
      refine J_iload_n d_Ref_target_103 rfl ?_
      refine J_iconst (v := 1) d_Ref_target_104 (by decide) ?_
      refine J_icmp_ne (tgt := 133) d_Ref_target_105 (by decide) ?_ ?_
      · intro c16
        rw [if_neg c16] at H
        refine J.drop [true, true, true, true, false] rfl ?_
        exact p_Ref_target_L133 hw hG  H
      · intro c16
        rw [if_pos c16] at H
        refine J_iload_n d_Ref_target_108 rfl ?_
        refine J_aload_n d_Ref_target_109 rfl ?_
        refine F_getR (ci := 12) (k := 50) hG (cf_Ref hw) (fl_Ref_136 hw) (by decide) (by decide) rfl d_Ref_target_110 g11 ?_
        refine J_iload d_Ref_target_113 rfl ?_
        obtain ⟨a12, ha12, H⟩ := Option.bind_eq_some_iff.mp H
        rw [j_rf ha12]
        obtain ⟨N13, hN13, H⟩ := Option.bind_eq_some_iff.mp H
        obtain ⟨k14, hk14, H⟩ := Option.bind_eq_some_iff.mp H
        refine F_iald k14 hw hG d_Ref_target_115 (gA_some hN13) (ix_some hk14) ?_
        refine J_iload_n d_Ref_target_116 rfl ?_
        refine J_icmp_ne (tgt := 124) d_Ref_target_117 (by decide) ?_ ?_
        · intro c15
          rw [if_neg c15] at H
          refine J_iconst (v := 0) d_Ref_target_124 (by decide) ?_
          refine J.drop [true, true, true, false, true] rfl ?_
          exact p_Ref_target_L125 hw hG ih H
        · intro c15
          rw [if_pos c15] at H
          refine J_iconst (v := 1) d_Ref_target_120 (by decide) ?_
          refine J_goto (tgt := 125) d_Ref_target_121 (by decide) ?_
          refine J.drop [true, true, true, false, true] rfl ?_
          exact p_Ref_target_L125 hw hG ih H
def f_Ref_target_L91 (Γ : gm_T)  (φ : ph_T) (x0 : Nat) (x1 : Int32) (x2 : Int32) (x3 : Int32) : Option (Int32 × ph_T) :=
  f_Ref_target_L94 Γ  jF φ x0 x1 x2 x3 (0 : Int32)
set_option maxRecDepth 100000 in
set_option maxHeartbeats 4000000 in
theorem p_Ref_target_L91 {w : jw_T} (hw : jok w) {Γ : gm_T} {n : Nat} (hG : gd w Γ n)  {x : Bool} {φ : ph_T} {x0 : Nat} {x1 : Int32} {x2 : Int32} {x3 : Int32} {q : Int32 × ph_T} (H : f_Ref_target_L91 Γ  φ x0 x1 x2 x3 = some q) : J w M_Ref_target 91 [some (.ref x0), some (.int x1), some (.int x2), some (.int x3), none] [] (pic Γ φ) n x 0 0 (fq Γ n (.inl (some (.int q.1))) q.2) := by
  unfold f_Ref_target_L91 at H
  refine J_iconst (v := 0) d_Ref_target_91 (by decide) ?_
  refine J_istore d_Ref_target_92 (Nat.le_of_ble_eq_true rfl) ?_
  refine J.drop [true, true, true, true, true] rfl ?_
  exact p_Ref_target_L94 hw hG  _ H
def f_Ref_target_L83 (Γ : gm_T) (Kc53 : ph_T → Nat → Int32 → Int32 → Int32 → Int32 → Option (Int32 × ph_T)) (φ : ph_T) (x0 : Nat) (x1 : Int32) (x2 : Int32) (x4 : Int32) (y0 : Int32) (y1 : Int32) : Option (Int32 × ph_T) :=
  Kc53 φ x0 x1 x2 (y1 + y0) (x4 + (1 : Int32))
set_option maxRecDepth 100000 in
set_option maxHeartbeats 4000000 in
theorem p_Ref_target_L83 {w : jw_T} (hw : jok w) {Γ : gm_T} {n : Nat} (hG : gd w Γ n) {Kc53 : ph_T → Nat → Int32 → Int32 → Int32 → Int32 → Option (Int32 × ph_T)} (hKc53 : ∀ {x : Bool} {φ : ph_T} {x0 : Nat} {x1 : Int32} {x2 : Int32} {x3 : Int32} {x4 : Int32} {q : Int32 × ph_T}, Kc53 φ x0 x1 x2 x3 x4 = some q → J w M_Ref_target 53 [some (.ref x0), some (.int x1), some (.int x2), some (.int x3), some (.int x4)] [] (pic Γ φ) n x 0 0 (fq Γ n (.inl (some (.int q.1))) q.2)) {x : Bool} {φ : ph_T} {x0 : Nat} {x1 : Int32} {x2 : Int32} {x4 : Int32} {y0 : Int32} {y1 : Int32} {q : Int32 × ph_T} (H : f_Ref_target_L83 Γ Kc53 φ x0 x1 x2 x4 y0 y1 = some q) : J w M_Ref_target 83 [some (.ref x0), some (.int x1), some (.int x2), none, some (.int x4)] [.int y0, .int y1] (pic Γ φ) n x 0 0 (fq Γ n (.inl (some (.int q.1))) q.2) := by
  unfold f_Ref_target_L83 at H
  refine J_iadd d_Ref_target_83 ?_
  refine J_istore_n d_Ref_target_84 (Nat.le_of_ble_eq_true rfl) ?_
  refine J_iinc (v := x4 + 1) d_Ref_target_85 rfl (by rw [show Int32.ofInt 1 = (1 : Int32) from by decide]) ?_
  refine J_goto (tgt := 53) d_Ref_target_88 (by decide) ?_
  refine J.drop [true, true, true, true, true] rfl ?_
  exact hKc53 H
def f_Ref_target_L53 (Γ : gm_T)  : Nat → ph_T → Nat → Int32 → Int32 → Int32 → Int32 → Option (Int32 × ph_T)
  | 0, _, _, _, _, _, _ => none
  | fu + 1, φ, x0, x1, x2, x3, x4 =>
    @ite _ (Γ x0 = .inr 12) _ (
    if (φ.1 x0 47) ≤ x4 then
      f_Ref_target_L91 Γ  φ x0 x1 x2 x3
    else
      if x2 = 0 then
        Option.bind (φ.2.2 x0 45) fun a19 =>
        Option.bind (gA Γ a19 0) fun N20 =>
        Option.bind (ix x4 N20) fun k21 =>
        if (φ.1 a19 k21) = x1 then
          f_Ref_target_L83 Γ (f_Ref_target_L53 Γ  fu) φ x0 x1 x2 x4 (1 : Int32) x3
        else
          f_Ref_target_L83 Γ (f_Ref_target_L53 Γ  fu) φ x0 x1 x2 x4 (0 : Int32) x3
      else
        f_Ref_target_L91 Γ  φ x0 x1 x2 x3
    ) none
set_option maxRecDepth 100000 in
set_option maxHeartbeats 4000000 in
theorem p_Ref_target_L53 {w : jw_T} (hw : jok w) {Γ : gm_T} {n : Nat} (hG : gd w Γ n)  : ∀ (fu : Nat) {x : Bool} {φ : ph_T} {x0 : Nat} {x1 : Int32} {x2 : Int32} {x3 : Int32} {x4 : Int32} {q : Int32 × ph_T}, f_Ref_target_L53 Γ  fu φ x0 x1 x2 x3 x4 = some q → J w M_Ref_target 53 [some (.ref x0), some (.int x1), some (.int x2), some (.int x3), some (.int x4)] [] (pic Γ φ) n x 0 0 (fq Γ n (.inl (some (.int q.1))) q.2) := by
  intro fu
  induction fu with
  | zero =>
    intro x φ x0 x1 x2 x3 x4 q H
    cases H
  | succ fu ih =>
    intro x φ x0 x1 x2 x3 x4 q H
    unfold f_Ref_target_L53 at H
    refine J_iload d_Ref_target_53 rfl ?_
    refine J_aload_n d_Ref_target_55 rfl ?_
    have g18 : Γ x0 = .inr 12 := by
      apply Classical.byContradiction
      intro q9
      rw [if_neg q9] at H
      cases H
    rw [if_pos g18] at H
    refine F_getI (ci := 12) (k := 47) hG (cf_Ref hw) (fl_Ref_526 hw) (by decide) (by decide) rfl d_Ref_target_56 g18 ?_
    refine J_icmp_ge (tgt := 91) d_Ref_target_59 (by decide) ?_ ?_
    · intro c24
      rw [if_pos c24] at H
      refine J.drop [true, true, true, true, false] rfl ?_
      exact p_Ref_target_L91 hw hG  H
    · intro c24
      rw [if_neg c24] at H
      refine J_iload_n d_Ref_target_62 rfl ?_
      refine J_if_ne (tgt := 91) d_Ref_target_63 (by decide) ?_ ?_
      · intro c23
        rw [if_neg c23] at H
        refine J.drop [true, true, true, true, false] rfl ?_
        exact p_Ref_target_L91 hw hG  H
      · intro c23
        rw [if_pos c23] at H
        refine J_iload_n d_Ref_target_66 rfl ?_
        refine J_aload_n d_Ref_target_67 rfl ?_
        refine F_getR (ci := 12) (k := 45) hG (cf_Ref hw) (fl_Ref_124 hw) (by decide) (by decide) rfl d_Ref_target_68 g18 ?_
        refine J_iload d_Ref_target_71 rfl ?_
        obtain ⟨a19, ha19, H⟩ := Option.bind_eq_some_iff.mp H
        rw [j_rf ha19]
        obtain ⟨N20, hN20, H⟩ := Option.bind_eq_some_iff.mp H
        obtain ⟨k21, hk21, H⟩ := Option.bind_eq_some_iff.mp H
        refine F_iald k21 hw hG d_Ref_target_73 (gA_some hN20) (ix_some hk21) ?_
        refine J_iload_n d_Ref_target_74 rfl ?_
        refine J_icmp_ne (tgt := 82) d_Ref_target_75 (by decide) ?_ ?_
        · intro c22
          rw [if_neg c22] at H
          refine J_iconst (v := 0) d_Ref_target_82 (by decide) ?_
          refine J.drop [true, true, true, false, true] rfl ?_
          exact p_Ref_target_L83 hw hG ih H
        · intro c22
          rw [if_pos c22] at H
          refine J_iconst (v := 1) d_Ref_target_78 (by decide) ?_
          refine J_goto (tgt := 83) d_Ref_target_79 (by decide) ?_
          refine J.drop [true, true, true, false, true] rfl ?_
          exact p_Ref_target_L83 hw hG ih H
def f_Ref_target_L36 (Γ : gm_T)  (φ : ph_T) (x0 : Nat) (x1 : Int32) (x2 : Int32) (y0 : Int32) (y1 : Nat) : Option (Int32 × ph_T) :=
  @ite _ (Γ y1 = .inr 12) _ (
  @ite _ (Γ x0 = .inr 12) _ (
  if ((uI φ y1 0 y0).1 x0 0) ≤ 0 then
    f_Ref_target_L53 Γ  jF (uI φ y1 0 y0) x0 x1 x2 (0 : Int32) (0 : Int32)
  else
    some ((0 : Int32), (uI φ y1 0 y0))
  ) none
  ) none
set_option maxRecDepth 100000 in
set_option maxHeartbeats 4000000 in
theorem p_Ref_target_L36 {w : jw_T} (hw : jok w) {Γ : gm_T} {n : Nat} (hG : gd w Γ n)  {x : Bool} {φ : ph_T} {x0 : Nat} {x1 : Int32} {x2 : Int32} {y0 : Int32} {y1 : Nat} {q : Int32 × ph_T} (H : f_Ref_target_L36 Γ  φ x0 x1 x2 y0 y1 = some q) : J w M_Ref_target 36 [some (.ref x0), some (.int x1), some (.int x2), none, none] [.int y0, .ref y1] (pic Γ φ) n x 0 0 (fq Γ n (.inl (some (.int q.1))) q.2) := by
  unfold f_Ref_target_L36 at H
  have g25 : Γ y1 = .inr 12 := by
    apply Classical.byContradiction
    intro q9
    rw [if_neg q9] at H
    cases H
  rw [if_pos g25] at H
  refine F_putI (ci := 12) (k := 0) hG (cf_Ref hw) (fl_Ref_303 hw) (by decide) (by decide) rfl d_Ref_target_36 rfl rfl rfl g25 ?_
  refine J_aload_n d_Ref_target_39 rfl ?_
  have g26 : Γ x0 = .inr 12 := by
    apply Classical.byContradiction
    intro q9
    rw [if_neg q9] at H
    cases H
  rw [if_pos g26] at H
  refine F_getI (ci := 12) (k := 0) hG (cf_Ref hw) (fl_Ref_303 hw) (by decide) (by decide) rfl d_Ref_target_40 g26 ?_
  refine J_if_le (tgt := 48) d_Ref_target_43 (by decide) ?_ ?_
  · intro c27
    rw [if_pos c27] at H
    refine J_iconst (v := 0) d_Ref_target_48 (by decide) ?_
    refine J_istore_n d_Ref_target_49 (Nat.le_of_ble_eq_true rfl) ?_
    refine J_iconst (v := 0) d_Ref_target_50 (by decide) ?_
    refine J_istore d_Ref_target_51 (Nat.le_of_ble_eq_true rfl) ?_
    refine J.drop [true, true, true, true, true] rfl ?_
    exact p_Ref_target_L53 hw hG  _ H
  · intro c27
    rw [if_neg c27] at H
    refine J_iconst (v := 0) d_Ref_target_46 (by decide) ?_
    cases H
    exact J_iret (st := []) d_Ref_target_47 rfl rfl ⟨rfl, rfl, rfl⟩
def f_Ref_target (Γ : gm_T) (φ : ph_T) (this : Nat) (p0 : Int32) (p1 : Int32) : Option (Int32 × ph_T) :=
  @ite _ (Γ this = .inr 12) _ (
  Option.bind (f_Ref_in Γ φ (Int32.toInt64 p0) (0 : Int64) (Int32.toInt64 (φ.1 this 2))) fun q29 =>
  if q29.1 = 0 then
    f_Ref_target_L36 Γ  q29.2 this p0 p1 (1 : Int32) this
  else
    Option.bind (f_Ref_in Γ q29.2 (Int32.toInt64 p1) (0 : Int64) (3 : Int64)) fun q30 =>
    if q30.1 = 0 then
      f_Ref_target_L36 Γ  q30.2 this p0 p1 (2 : Int32) this
    else
      f_Ref_target_L36 Γ  q30.2 this p0 p1 (0 : Int32) this
  ) none
set_option maxRecDepth 100000 in
set_option maxHeartbeats 4000000 in
theorem p_Ref_target {w : jw_T} (hw : jok w) {Γ : gm_T} {n : Nat} (hG : gd w Γ n) {x : Bool} {φ : ph_T} {this : Nat} {p0 : Int32} {p1 : Int32} {q : Int32 × ph_T} (H : f_Ref_target Γ φ this p0 p1 = some q) : jc w M_Ref_target [.ref this, .int p0, .int p1] (pic Γ φ) n x 0 0 (fq Γ n (.inl (some (.int q.1))) q.2) := by
  refine jc.of (by simp only [jent_r, jent_i, jent_l, jent_a, jent_0]; exact Nat.le_of_ble_eq_true rfl) ?_
  have hls : jents [.ref this, .int p0, .int p1] (jm_nL M_Ref_target) = [some (.ref this), some (.int p0), some (.int p1), none, none] := by simp only [jents, jent_r, jent_i, jent_l, jent_a, jent_0]; rfl
  rw [hls]
  clear hls
  unfold f_Ref_target at H
  refine J_aload_n d_Ref_target_0 rfl ?_
  refine J_iload_n d_Ref_target_1 rfl ?_
  refine J_i2l d_Ref_target_2 ?_
  refine J_lconst (v := 0) d_Ref_target_3 (by decide) ?_
  refine J_aload_n d_Ref_target_4 rfl ?_
  have g28 : Γ this = .inr 12 := by
    apply Classical.byContradiction
    intro q9
    rw [if_neg q9] at H
    cases H
  rw [if_pos g28] at H
  refine F_getI (ci := 12) (k := 2) hG (cf_Ref hw) (fl_Ref_294 hw) (by decide) (by decide) rfl d_Ref_target_5 g28 ?_
  refine J_i2l d_Ref_target_8 ?_
  obtain ⟨q29, hq29, H⟩ := Option.bind_eq_some_iff.mp H
  refine J_callS (kc := 0) (ks := 0) (kc' := 0) (ks' := 0) (as := [.long (Int32.toInt64 p0), .long (0 : Int64), .long (Int32.toInt64 (φ.1 this 2))]) (st := [.ref this]) (mf_Ref_in hw) (ms_Ref_599 hw) d_Ref_target_9 ln_Ref_in (by decide) (by first | exact Nat.le_of_ble_eq_true rfl | (simp only [List.map_cons, List.map_nil, List.sum_cons, List.sum_nil, va_rf_cat]; exact Nat.le_of_ble_eq_true rfl)) rfl (p_Ref_in hw hG hq29) ?_ (fun E h' n' x' e1 => by cases e1.1)
  intro v9 h9 n9 x9 e9
  obtain ⟨e91, e92, e93⟩ := e9
  cases e91
  subst e92
  subst e93
  clear x
  rename Bool => x
  show J _ _ _ _ (_ :: _) _ _ _ _ _ _
  refine J_if_ne (tgt := 19) d_Ref_target_12 (by decide) ?_ ?_
  · intro c32
    rw [if_neg c32] at H
    refine J_iload_n d_Ref_target_19 rfl ?_
    refine J_i2l d_Ref_target_20 ?_
    refine J_lconst (v := 0) d_Ref_target_21 (by decide) ?_
    refine J_ldc2 (v := 3) d_Ref_target_22 (kn_Ref_312 hw) ?_
    obtain ⟨q30, hq30, H⟩ := Option.bind_eq_some_iff.mp H
    refine J_callS (kc := 0) (ks := 0) (kc' := 0) (ks' := 0) (as := [.long (Int32.toInt64 p1), .long (0 : Int64), .long (3 : Int64)]) (st := [.ref this]) (mf_Ref_in hw) (ms_Ref_599 hw) d_Ref_target_25 ln_Ref_in (by decide) (by first | exact Nat.le_of_ble_eq_true rfl | (simp only [List.map_cons, List.map_nil, List.sum_cons, List.sum_nil, va_rf_cat]; exact Nat.le_of_ble_eq_true rfl)) rfl (p_Ref_in hw hG hq30) ?_ (fun E h' n' x' e1 => by cases e1.1)
    intro v9 h9 n9 x9 e9
    obtain ⟨e91, e92, e93⟩ := e9
    cases e91
    subst e92
    subst e93
    clear x
    rename Bool => x
    show J _ _ _ _ (_ :: _) _ _ _ _ _ _
    refine J_if_ne (tgt := 35) d_Ref_target_28 (by decide) ?_ ?_
    · intro c31
      rw [if_neg c31] at H
      refine J_iconst (v := 0) d_Ref_target_35 (by decide) ?_
      refine J.drop [true, true, true, false, false] rfl ?_
      exact p_Ref_target_L36 hw hG  H
    · intro c31
      rw [if_pos c31] at H
      refine J_iconst (v := 2) d_Ref_target_31 (by decide) ?_
      refine J_goto (tgt := 36) d_Ref_target_32 (by decide) ?_
      refine J.drop [true, true, true, false, false] rfl ?_
      exact p_Ref_target_L36 hw hG  H
  · intro c32
    rw [if_pos c32] at H
    refine J_iconst (v := 1) d_Ref_target_15 (by decide) ?_
    refine J_goto (tgt := 36) d_Ref_target_16 (by decide) ?_
    refine J.drop [true, true, true, false, false] rfl ?_
    exact p_Ref_target_L36 hw hG  H
theorem ln_Ref_right : (parseMethodDescriptor y_Ref_right.desc).map (fun q => q.parameters.length) = some 2 := by decide +kernel
def f_Ref_right_L63 (Γ : gm_T)  (φ : ph_T) (y0 : Int32) : Option (Int32 × ph_T) :=
  some (y0, φ)
set_option maxRecDepth 100000 in
set_option maxHeartbeats 4000000 in
theorem p_Ref_right_L63 {w : jw_T} (hw : jok w) {Γ : gm_T} {n : Nat} (hG : gd w Γ n)  {x : Bool} {φ : ph_T} {y0 : Int32} {q : Int32 × ph_T} (H : f_Ref_right_L63 Γ  φ y0 = some q) : J w M_Ref_right 63 [none, none, none] [.int y0] (pic Γ φ) n x 0 0 (fq Γ n (.inl (some (.int q.1))) q.2) := by
  unfold f_Ref_right_L63 at H
  cases H
  exact J_iret (st := []) d_Ref_right_63 rfl rfl ⟨rfl, rfl, rfl⟩
def f_Ref_right_L38 (Γ : gm_T)  (φ : ph_T) (x0 : Nat) (x1 : Int32) (x2 : Int32) (y0 : Int32) (y1 : Nat) : Option (Int32 × ph_T) :=
  @ite _ (Γ y1 = .inr 12) _ (
  @ite _ (Γ x0 = .inr 12) _ (
  if ((uI φ y1 0 y0).1 x0 0) ≤ 0 then
    Option.bind ((uI φ y1 0 y0).2.2 x0 80) fun a3 =>
    Option.bind (gA Γ a3 0) fun N4 =>
    Option.bind (ix (((64 : Int32) * x1) + x2) N4) fun k5 =>
    f_Ref_right_L63 Γ  (uI φ y1 0 y0) ((uI φ y1 0 y0).1 a3 k5)
  else
    f_Ref_right_L63 Γ  (uI φ y1 0 y0) (0 : Int32)
  ) none
  ) none
set_option maxRecDepth 100000 in
set_option maxHeartbeats 4000000 in
theorem p_Ref_right_L38 {w : jw_T} (hw : jok w) {Γ : gm_T} {n : Nat} (hG : gd w Γ n)  {x : Bool} {φ : ph_T} {x0 : Nat} {x1 : Int32} {x2 : Int32} {y0 : Int32} {y1 : Nat} {q : Int32 × ph_T} (H : f_Ref_right_L38 Γ  φ x0 x1 x2 y0 y1 = some q) : J w M_Ref_right 38 [some (.ref x0), some (.int x1), some (.int x2)] [.int y0, .ref y1] (pic Γ φ) n x 0 0 (fq Γ n (.inl (some (.int q.1))) q.2) := by
  unfold f_Ref_right_L38 at H
  have g1 : Γ y1 = .inr 12 := by
    apply Classical.byContradiction
    intro q9
    rw [if_neg q9] at H
    cases H
  rw [if_pos g1] at H
  refine F_putI (ci := 12) (k := 0) hG (cf_Ref hw) (fl_Ref_303 hw) (by decide) (by decide) rfl d_Ref_right_38 rfl rfl rfl g1 ?_
  refine J_aload_n d_Ref_right_41 rfl ?_
  have g2 : Γ x0 = .inr 12 := by
    apply Classical.byContradiction
    intro q9
    rw [if_neg q9] at H
    cases H
  rw [if_pos g2] at H
  refine F_getI (ci := 12) (k := 0) hG (cf_Ref hw) (fl_Ref_303 hw) (by decide) (by decide) rfl d_Ref_right_42 g2 ?_
  refine J_if_le (tgt := 52) d_Ref_right_45 (by decide) ?_ ?_
  · intro c6
    rw [if_pos c6] at H
    refine J_aload_n d_Ref_right_52 rfl ?_
    refine F_getR (ci := 12) (k := 80) hG (cf_Ref hw) (fl_Ref_220 hw) (by decide) (by decide) rfl d_Ref_right_53 g2 ?_
    refine J_bipush (v := 64) d_Ref_right_56 (by decide) ?_
    refine J_iload_n d_Ref_right_58 rfl ?_
    refine J_imul d_Ref_right_59 ?_
    refine J_iload_n d_Ref_right_60 rfl ?_
    refine J_iadd d_Ref_right_61 ?_
    obtain ⟨a3, ha3, H⟩ := Option.bind_eq_some_iff.mp H
    rw [j_rf ha3]
    obtain ⟨N4, hN4, H⟩ := Option.bind_eq_some_iff.mp H
    obtain ⟨k5, hk5, H⟩ := Option.bind_eq_some_iff.mp H
    refine F_iald k5 hw hG d_Ref_right_62 (gA_some hN4) (ix_some hk5) ?_
    refine J.drop [false, false, false] rfl ?_
    exact p_Ref_right_L63 hw hG  H
  · intro c6
    rw [if_neg c6] at H
    refine J_iconst (v := 0) d_Ref_right_48 (by decide) ?_
    refine J_goto (tgt := 63) d_Ref_right_49 (by decide) ?_
    refine J.drop [false, false, false] rfl ?_
    exact p_Ref_right_L63 hw hG  H
def f_Ref_right (Γ : gm_T) (φ : ph_T) (this : Nat) (p0 : Int32) (p1 : Int32) : Option (Int32 × ph_T) :=
  @ite _ (Γ this = .inr 12) _ (
  Option.bind (f_Ref_in Γ φ (Int32.toInt64 p0) (0 : Int64) ((Int32.toInt64 (φ.1 this 2)) - (1 : Int64))) fun q8 =>
  if q8.1 = 0 then
    f_Ref_right_L38 Γ  q8.2 this p0 p1 (1 : Int32) this
  else
    Option.bind (f_Ref_in Γ q8.2 (Int32.toInt64 p1) (0 : Int64) (63 : Int64)) fun q9 =>
    if q9.1 = 0 then
      f_Ref_right_L38 Γ  q9.2 this p0 p1 (2 : Int32) this
    else
      f_Ref_right_L38 Γ  q9.2 this p0 p1 (0 : Int32) this
  ) none
set_option maxRecDepth 100000 in
set_option maxHeartbeats 4000000 in
theorem p_Ref_right {w : jw_T} (hw : jok w) {Γ : gm_T} {n : Nat} (hG : gd w Γ n) {x : Bool} {φ : ph_T} {this : Nat} {p0 : Int32} {p1 : Int32} {q : Int32 × ph_T} (H : f_Ref_right Γ φ this p0 p1 = some q) : jc w M_Ref_right [.ref this, .int p0, .int p1] (pic Γ φ) n x 0 0 (fq Γ n (.inl (some (.int q.1))) q.2) := by
  refine jc.of (by simp only [jent_r, jent_i, jent_l, jent_a, jent_0]; exact Nat.le_of_ble_eq_true rfl) ?_
  have hls : jents [.ref this, .int p0, .int p1] (jm_nL M_Ref_right) = [some (.ref this), some (.int p0), some (.int p1)] := by simp only [jents, jent_r, jent_i, jent_l, jent_a, jent_0]; rfl
  rw [hls]
  clear hls
  unfold f_Ref_right at H
  refine J_aload_n d_Ref_right_0 rfl ?_
  refine J_iload_n d_Ref_right_1 rfl ?_
  refine J_i2l d_Ref_right_2 ?_
  refine J_lconst (v := 0) d_Ref_right_3 (by decide) ?_
  refine J_aload_n d_Ref_right_4 rfl ?_
  have g7 : Γ this = .inr 12 := by
    apply Classical.byContradiction
    intro q9
    rw [if_neg q9] at H
    cases H
  rw [if_pos g7] at H
  refine F_getI (ci := 12) (k := 2) hG (cf_Ref hw) (fl_Ref_294 hw) (by decide) (by decide) rfl d_Ref_right_5 g7 ?_
  refine J_i2l d_Ref_right_8 ?_
  refine J_lconst (v := 1) d_Ref_right_9 (by decide) ?_
  refine J_lsub d_Ref_right_10 ?_
  obtain ⟨q8, hq8, H⟩ := Option.bind_eq_some_iff.mp H
  refine J_callS (kc := 0) (ks := 0) (kc' := 0) (ks' := 0) (as := [.long (Int32.toInt64 p0), .long (0 : Int64), .long ((Int32.toInt64 (φ.1 this 2)) - (1 : Int64))]) (st := [.ref this]) (mf_Ref_in hw) (ms_Ref_599 hw) d_Ref_right_11 ln_Ref_in (by decide) (by first | exact Nat.le_of_ble_eq_true rfl | (simp only [List.map_cons, List.map_nil, List.sum_cons, List.sum_nil, va_rf_cat]; exact Nat.le_of_ble_eq_true rfl)) rfl (p_Ref_in hw hG hq8) ?_ (fun E h' n' x' e1 => by cases e1.1)
  intro v9 h9 n9 x9 e9
  obtain ⟨e91, e92, e93⟩ := e9
  cases e91
  subst e92
  subst e93
  clear x
  rename Bool => x
  show J _ _ _ _ (_ :: _) _ _ _ _ _ _
  refine J_if_ne (tgt := 21) d_Ref_right_14 (by decide) ?_ ?_
  · intro c11
    rw [if_neg c11] at H
    refine J_iload_n d_Ref_right_21 rfl ?_
    refine J_i2l d_Ref_right_22 ?_
    refine J_lconst (v := 0) d_Ref_right_23 (by decide) ?_
    refine J_ldc2 (v := 63) d_Ref_right_24 (kn_Ref_306 hw) ?_
    obtain ⟨q9, hq9, H⟩ := Option.bind_eq_some_iff.mp H
    refine J_callS (kc := 0) (ks := 0) (kc' := 0) (ks' := 0) (as := [.long (Int32.toInt64 p1), .long (0 : Int64), .long (63 : Int64)]) (st := [.ref this]) (mf_Ref_in hw) (ms_Ref_599 hw) d_Ref_right_27 ln_Ref_in (by decide) (by first | exact Nat.le_of_ble_eq_true rfl | (simp only [List.map_cons, List.map_nil, List.sum_cons, List.sum_nil, va_rf_cat]; exact Nat.le_of_ble_eq_true rfl)) rfl (p_Ref_in hw hG hq9) ?_ (fun E h' n' x' e1 => by cases e1.1)
    intro v9 h9 n9 x9 e9
    obtain ⟨e91, e92, e93⟩ := e9
    cases e91
    subst e92
    subst e93
    clear x
    rename Bool => x
    show J _ _ _ _ (_ :: _) _ _ _ _ _ _
    refine J_if_ne (tgt := 37) d_Ref_right_30 (by decide) ?_ ?_
    · intro c10
      rw [if_neg c10] at H
      refine J_iconst (v := 0) d_Ref_right_37 (by decide) ?_
      refine J.drop [true, true, true] rfl ?_
      exact p_Ref_right_L38 hw hG  H
    · intro c10
      rw [if_pos c10] at H
      refine J_iconst (v := 2) d_Ref_right_33 (by decide) ?_
      refine J_goto (tgt := 38) d_Ref_right_34 (by decide) ?_
      refine J.drop [true, true, true] rfl ?_
      exact p_Ref_right_L38 hw hG  H
  · intro c11
    rw [if_pos c11] at H
    refine J_iconst (v := 1) d_Ref_right_17 (by decide) ?_
    refine J_goto (tgt := 38) d_Ref_right_18 (by decide) ?_
    refine J.drop [true, true, true] rfl ?_
    exact p_Ref_right_L38 hw hG  H
theorem ln_Ref_told : (parseMethodDescriptor y_Ref_told.desc).map (fun q => q.parameters.length) = some 1 := by decide +kernel
def f_Ref_told (Γ : gm_T) (φ : ph_T) (this : Nat) (p0 : Int32) : Option (Int32 × ph_T) :=
  @ite _ (Γ this = .inr 12) _ (
  if p0 = 0 then
    some (((uI φ this 0 (0 : Int32)).1 this 6), (uI φ this 0 (0 : Int32)))
  else
    if p0 = 1 then
      some (((uI φ this 0 (0 : Int32)).1 this 15), (uI φ this 0 (0 : Int32)))
    else
      if p0 = 2 then
        Option.bind (f_Ref_open Γ (uI φ this 0 (0 : Int32)) this) fun q2 =>
        some (q2.1, q2.2)
      else
        if p0 = 3 then
          some (((uI φ this 0 (0 : Int32)).1 this 1), (uI φ this 0 (0 : Int32)))
        else
          if p0 = 4 then
            some (((uI φ this 0 (0 : Int32)).1 this 2), (uI φ this 0 (0 : Int32)))
          else
            if p0 = 5 then
              some (((uI φ this 0 (0 : Int32)).1 this 3), (uI φ this 0 (0 : Int32)))
            else
              if p0 = 6 then
                some (((uI φ this 0 (0 : Int32)).1 this 4), (uI φ this 0 (0 : Int32)))
              else
                some ((-1 : Int32), (uI φ this 0 (0 : Int32)))
  ) none
set_option maxRecDepth 100000 in
set_option maxHeartbeats 4000000 in
theorem p_Ref_told {w : jw_T} (hw : jok w) {Γ : gm_T} {n : Nat} (hG : gd w Γ n) {x : Bool} {φ : ph_T} {this : Nat} {p0 : Int32} {q : Int32 × ph_T} (H : f_Ref_told Γ φ this p0 = some q) : jc w M_Ref_told [.ref this, .int p0] (pic Γ φ) n x 0 0 (fq Γ n (.inl (some (.int q.1))) q.2) := by
  refine jc.of (by simp only [jent_r, jent_i, jent_l, jent_a, jent_0]; exact Nat.le_of_ble_eq_true rfl) ?_
  have hls : jents [.ref this, .int p0] (jm_nL M_Ref_told) = [some (.ref this), some (.int p0)] := by simp only [jents, jent_r, jent_i, jent_l, jent_a, jent_0]; rfl
  rw [hls]
  clear hls
  unfold f_Ref_told at H
  refine J_aload_n d_Ref_told_0 rfl ?_
  refine J_iconst (v := 0) d_Ref_told_1 (by decide) ?_
  have g1 : Γ this = .inr 12 := by
    apply Classical.byContradiction
    intro q9
    rw [if_neg q9] at H
    cases H
  rw [if_pos g1] at H
  refine F_putI (ci := 12) (k := 0) hG (cf_Ref hw) (fl_Ref_303 hw) (by decide) (by decide) rfl d_Ref_told_2 rfl rfl rfl g1 ?_
  refine J_iload_n d_Ref_told_5 rfl ?_
  by_cases c3 : p0 = 0
  · rw [if_pos c3] at H
    refine J_table (off := 42) (tgt := 48) d_Ref_told_6 (by rw [c3]; decide) (by decide) ?_
    refine J_aload_n d_Ref_told_48 rfl ?_
    refine F_getI (ci := 12) (k := 6) hG (cf_Ref hw) (fl_Ref_348 hw) (by decide) (by decide) rfl d_Ref_told_49 g1 ?_
    cases H
    exact J_iret (st := []) d_Ref_told_52 rfl rfl ⟨rfl, rfl, rfl⟩
  · rw [if_neg c3] at H
    by_cases c4 : p0 = 1
    · rw [if_pos c4] at H
      refine J_table (off := 47) (tgt := 53) d_Ref_told_6 (by rw [c4]; decide) (by decide) ?_
      refine J_aload_n d_Ref_told_53 rfl ?_
      refine F_getI (ci := 12) (k := 15) hG (cf_Ref hw) (fl_Ref_337 hw) (by decide) (by decide) rfl d_Ref_told_54 g1 ?_
      cases H
      exact J_iret (st := []) d_Ref_told_57 rfl rfl ⟨rfl, rfl, rfl⟩
    · rw [if_neg c4] at H
      by_cases c5 : p0 = 2
      · rw [if_pos c5] at H
        refine J_table (off := 52) (tgt := 58) d_Ref_told_6 (by rw [c5]; decide) (by decide) ?_
        refine J_aload_n d_Ref_told_58 rfl ?_
        obtain ⟨q2, hq2, H⟩ := Option.bind_eq_some_iff.mp H
        refine J_callV (kc := 0) (ks := 0) (kc' := 0) (ks' := 0) (a := this) (ci := 12) (as := []) (st := []) (mf_Ref_open hw) (mv_Ref_605 hw) d_Ref_told_59 ln_Ref_open (by decide) (by first | exact Nat.le_of_ble_eq_true rfl | (simp only [List.map_cons, List.map_nil, List.sum_cons, List.sum_nil, va_rf_cat]; exact Nat.le_of_ble_eq_true rfl)) rfl ((hG _).1 _ g1 (by decide)).1 ((hG _).1 _ g1 (by decide)).2 (by unfold pic; rw [g1]; rfl) (jcl_at hw rfl) rfl (p_Ref_open hw hG hq2) ?_ (fun E h' n' x' e1 => by cases e1.1)
        intro v9 h9 n9 x9 e9
        obtain ⟨e91, e92, e93⟩ := e9
        cases e91
        subst e92
        subst e93
        clear x
        rename Bool => x
        show J _ _ _ _ (_ :: _) _ _ _ _ _ _
        cases H
        exact J_iret (st := []) d_Ref_told_62 rfl rfl ⟨rfl, rfl, rfl⟩
      · rw [if_neg c5] at H
        by_cases c6 : p0 = 3
        · rw [if_pos c6] at H
          refine J_table (off := 57) (tgt := 63) d_Ref_told_6 (by rw [c6]; decide) (by decide) ?_
          refine J_aload_n d_Ref_told_63 rfl ?_
          refine F_getI (ci := 12) (k := 1) hG (cf_Ref hw) (fl_Ref_290 hw) (by decide) (by decide) rfl d_Ref_told_64 g1 ?_
          cases H
          exact J_iret (st := []) d_Ref_told_67 rfl rfl ⟨rfl, rfl, rfl⟩
        · rw [if_neg c6] at H
          by_cases c7 : p0 = 4
          · rw [if_pos c7] at H
            refine J_table (off := 62) (tgt := 68) d_Ref_told_6 (by rw [c7]; decide) (by decide) ?_
            refine J_aload_n d_Ref_told_68 rfl ?_
            refine F_getI (ci := 12) (k := 2) hG (cf_Ref hw) (fl_Ref_294 hw) (by decide) (by decide) rfl d_Ref_told_69 g1 ?_
            cases H
            exact J_iret (st := []) d_Ref_told_72 rfl rfl ⟨rfl, rfl, rfl⟩
          · rw [if_neg c7] at H
            by_cases c8 : p0 = 5
            · rw [if_pos c8] at H
              refine J_table (off := 67) (tgt := 73) d_Ref_told_6 (by rw [c8]; decide) (by decide) ?_
              refine J_aload_n d_Ref_told_73 rfl ?_
              refine F_getI (ci := 12) (k := 3) hG (cf_Ref hw) (fl_Ref_297 hw) (by decide) (by decide) rfl d_Ref_told_74 g1 ?_
              cases H
              exact J_iret (st := []) d_Ref_told_77 rfl rfl ⟨rfl, rfl, rfl⟩
            · rw [if_neg c8] at H
              by_cases c9 : p0 = 6
              · rw [if_pos c9] at H
                refine J_table (off := 72) (tgt := 78) d_Ref_told_6 (by rw [c9]; decide) (by decide) ?_
                refine J_aload_n d_Ref_told_78 rfl ?_
                refine F_getI (ci := 12) (k := 4) hG (cf_Ref hw) (fl_Ref_532 hw) (by decide) (by decide) rfl d_Ref_told_79 g1 ?_
                cases H
                exact J_iret (st := []) d_Ref_told_82 rfl rfl ⟨rfl, rfl, rfl⟩
              · rw [if_neg c9] at H
                refine J_table (off := 77) (tgt := 83) d_Ref_told_6 (by
                    rw [if_pos (by
                      apply Classical.byContradiction
                      intro h9
                      have h8 : (p0).toInt = 0 ∨ (p0).toInt = 1 ∨ (p0).toInt = 2 ∨ (p0).toInt = 3 ∨ (p0).toInt = 4 ∨ (p0).toInt = 5 ∨ (p0).toInt = 6 := by omega
                      rcases h8 with h8 | h8 | h8 | h8 | h8 | h8 | h8
                      · exact c3 (j_inj (by rw [h8]; decide))
                      · exact c4 (j_inj (by rw [h8]; decide))
                      · exact c5 (j_inj (by rw [h8]; decide))
                      · exact c6 (j_inj (by rw [h8]; decide))
                      · exact c7 (j_inj (by rw [h8]; decide))
                      · exact c8 (j_inj (by rw [h8]; decide))
                      · exact c9 (j_inj (by rw [h8]; decide)))]) (by decide) ?_
                refine J_iconst (v := -1) d_Ref_told_83 (by decide) ?_
                cases H
                exact J_iret (st := []) d_Ref_told_84 rfl rfl ⟨rfl, rfl, rfl⟩
theorem ln_Ref_isWatcher : (parseMethodDescriptor y_Ref_isWatcher.desc).map (fun q => q.parameters.length) = some 1 := by decide +kernel
def f_Ref_isWatcher (Γ : gm_T) (φ : ph_T) (p0 : Int32) : Option (Int32 × ph_T) :=
  Option.bind (f_Ref_in Γ φ (Int32.toInt64 p0) (0 : Int64) (1 : Int64)) fun q1 =>
  @ite _ (q1.1 = 0 ∨ q1.1 = 1) _ (
  some (q1.1, q1.2)
  ) none
set_option maxRecDepth 100000 in
set_option maxHeartbeats 4000000 in
theorem p_Ref_isWatcher {w : jw_T} (hw : jok w) {Γ : gm_T} {n : Nat} (hG : gd w Γ n) {x : Bool} {φ : ph_T} {p0 : Int32} {q : Int32 × ph_T} (H : f_Ref_isWatcher Γ φ p0 = some q) : jc w M_Ref_isWatcher [.int p0] (pic Γ φ) n x 0 0 (fq Γ n (.inl (some (.int q.1))) q.2) := by
  refine jc.of (by simp only [jent_r, jent_i, jent_l, jent_a, jent_0]; exact Nat.le_of_ble_eq_true rfl) ?_
  have hls : jents [.int p0] (jm_nL M_Ref_isWatcher) = [some (.int p0)] := by simp only [jents, jent_r, jent_i, jent_l, jent_a, jent_0]; rfl
  rw [hls]
  clear hls
  unfold f_Ref_isWatcher at H
  refine J_iload_n d_Ref_isWatcher_0 rfl ?_
  refine J_i2l d_Ref_isWatcher_1 ?_
  refine J_lconst (v := 0) d_Ref_isWatcher_2 (by decide) ?_
  refine J_lconst (v := 1) d_Ref_isWatcher_3 (by decide) ?_
  obtain ⟨q1, hq1, H⟩ := Option.bind_eq_some_iff.mp H
  refine J_callS (kc := 0) (ks := 0) (kc' := 0) (ks' := 0) (as := [.long (Int32.toInt64 p0), .long (0 : Int64), .long (1 : Int64)]) (st := []) (mf_Ref_in hw) (ms_Ref_599 hw) d_Ref_isWatcher_4 ln_Ref_in (by decide) (by first | exact Nat.le_of_ble_eq_true rfl | (simp only [List.map_cons, List.map_nil, List.sum_cons, List.sum_nil, va_rf_cat]; exact Nat.le_of_ble_eq_true rfl)) rfl (p_Ref_in hw hG hq1) ?_ (fun E h' n' x' e1 => by cases e1.1)
  intro v9 h9 n9 x9 e9
  obtain ⟨e91, e92, e93⟩ := e9
  cases e91
  subst e92
  subst e93
  clear x
  rename Bool => x
  show J _ _ _ _ (_ :: _) _ _ _ _ _ _
  have z2 : q1.1 = 0 ∨ q1.1 = 1 := by
    apply Classical.byContradiction
    intro q9
    rw [if_neg q9] at H
    cases H
  rw [if_pos z2] at H
  cases H
  exact J_iret (st := []) d_Ref_isWatcher_7 rfl (narrow_z z2).1 ⟨rfl, rfl, rfl⟩
theorem ln_Ref_see : (parseMethodDescriptor y_Ref_see.desc).map (fun q => q.parameters.length) = some 5 := by decide +kernel
def f_Ref_see_L153 (Γ : gm_T)  (φ : ph_T) (y0 : Int32) (y1 : Int32) (y2 : Option Nat) : Option (Unit × ph_T) :=
  Option.bind y2 fun a2 =>
  Option.bind (gA Γ a2 0) fun N3 =>
  Option.bind (ix y1 N3) fun k4 =>
  some ((), (uI φ a2 k4 y0))
set_option maxRecDepth 100000 in
set_option maxHeartbeats 4000000 in
theorem p_Ref_see_L153 {w : jw_T} (hw : jok w) {Γ : gm_T} {n : Nat} (hG : gd w Γ n)  {x : Bool} {φ : ph_T} {y0 : Int32} {y1 : Int32} {y2 : Option Nat} {q : Unit × ph_T} (H : f_Ref_see_L153 Γ  φ y0 y1 y2 = some q) : J w M_Ref_see 153 [none, none, none, none, none, none, none, none] [.int y0, .int y1, va_rf y2] (pic Γ φ) n x 0 0 (fq Γ n (.inl none) q.2) := by
  unfold f_Ref_see_L153 at H
  obtain ⟨a2, ha2, H⟩ := Option.bind_eq_some_iff.mp H
  rw [j_rf ha2]
  obtain ⟨N3, hN3, H⟩ := Option.bind_eq_some_iff.mp H
  obtain ⟨k4, hk4, H⟩ := Option.bind_eq_some_iff.mp H
  refine F_iast k4 hw hG d_Ref_see_153 (gA_some hN3) (ix_some hk4) ?_
  cases H
  exact J_vret (st := []) d_Ref_see_154 rfl ⟨rfl, rfl, rfl⟩
def f_Ref_see_L130 (Γ : gm_T)  (φ : ph_T) (x0 : Nat) (x6 : Int32) (x7 : Int32) (y0 : Int64) (y1 : Int32) (y2 : Option Nat) : Option (Unit × ph_T) :=
  Option.bind y2 fun a5 =>
  Option.bind (gA Γ a5 1) fun N6 =>
  Option.bind (ix y1 N6) fun k7 =>
  @ite _ (Γ x0 = .inr 12) _ (
  Option.bind ((uL φ a5 k7 y0).2.2 x0 98) fun a9 =>
  Option.bind (gA Γ a9 2) fun N10 =>
  Option.bind (ix x7 N10) fun k11 =>
  if ((uL φ a5 k7 y0).1 a9 k11) = 0 then
    f_Ref_see_L153 Γ  (uL φ a5 k7 y0) (0 : Int32) x7 ((uL φ a5 k7 y0).2.2 x0 101)
  else
    f_Ref_see_L153 Γ  (uL φ a5 k7 y0) x6 x7 ((uL φ a5 k7 y0).2.2 x0 101)
  ) none
set_option maxRecDepth 100000 in
set_option maxHeartbeats 4000000 in
theorem p_Ref_see_L130 {w : jw_T} (hw : jok w) {Γ : gm_T} {n : Nat} (hG : gd w Γ n)  {x : Bool} {φ : ph_T} {x0 : Nat} {x6 : Int32} {x7 : Int32} {y0 : Int64} {y1 : Int32} {y2 : Option Nat} {q : Unit × ph_T} (H : f_Ref_see_L130 Γ  φ x0 x6 x7 y0 y1 y2 = some q) : J w M_Ref_see 130 [some (.ref x0), none, none, none, none, none, some (.int x6), some (.int x7)] [.long y0, .int y1, va_rf y2] (pic Γ φ) n x 0 0 (fq Γ n (.inl none) q.2) := by
  unfold f_Ref_see_L130 at H
  obtain ⟨a5, ha5, H⟩ := Option.bind_eq_some_iff.mp H
  rw [j_rf ha5]
  obtain ⟨N6, hN6, H⟩ := Option.bind_eq_some_iff.mp H
  obtain ⟨k7, hk7, H⟩ := Option.bind_eq_some_iff.mp H
  refine F_last k7 hw hG d_Ref_see_130 (gA_some hN6) (ix_some hk7) ?_
  refine J_aload_n d_Ref_see_131 rfl ?_
  have g8 : Γ x0 = .inr 12 := by
    apply Classical.byContradiction
    intro q9
    rw [if_neg q9] at H
    cases H
  rw [if_pos g8] at H
  refine F_getR (ci := 12) (k := 101) hG (cf_Ref hw) (fl_Ref_283 hw) (by decide) (by decide) rfl d_Ref_see_132 g8 ?_
  refine J_iload d_Ref_see_135 rfl ?_
  refine J_aload_n d_Ref_see_137 rfl ?_
  refine F_getR (ci := 12) (k := 98) hG (cf_Ref hw) (fl_Ref_274 hw) (by decide) (by decide) rfl d_Ref_see_138 g8 ?_
  refine J_iload d_Ref_see_141 rfl ?_
  obtain ⟨a9, ha9, H⟩ := Option.bind_eq_some_iff.mp H
  rw [j_rf ha9]
  obtain ⟨N10, hN10, H⟩ := Option.bind_eq_some_iff.mp H
  obtain ⟨k11, hk11, H⟩ := Option.bind_eq_some_iff.mp H
  refine F_zald k11 hw hG d_Ref_see_143 (gA_some hN10) (ix_some hk11) ?_
  refine J_if_eq (tgt := 152) d_Ref_see_144 (by decide) ?_ ?_
  · intro c12
    rw [if_pos c12] at H
    refine J_iconst (v := 0) d_Ref_see_152 (by decide) ?_
    refine J.drop [false, false, false, false, false, false, false, false] rfl ?_
    exact p_Ref_see_L153 hw hG  H
  · intro c12
    rw [if_neg c12] at H
    refine J_iload d_Ref_see_147 rfl ?_
    refine J_goto (tgt := 153) d_Ref_see_149 (by decide) ?_
    refine J.drop [false, false, false, false, false, false, false, false] rfl ?_
    exact p_Ref_see_L153 hw hG  H
def f_Ref_see_L107 (Γ : gm_T)  (φ : ph_T) (x0 : Nat) (x4 : Int64) (x6 : Int32) (x7 : Int32) (y0 : Int32) (y1 : Int32) (y2 : Option Nat) : Option (Unit × ph_T) :=
  Option.bind y2 fun a13 =>
  Option.bind (gA Γ a13 2) fun N14 =>
  Option.bind (ix y1 N14) fun k15 =>
  @ite _ (y0 = 0 ∨ y0 = 1) _ (
  @ite _ (Γ x0 = .inr 12) _ (
  Option.bind ((uI φ a13 k15 y0).2.2 x0 98) fun a18 =>
  Option.bind (gA Γ a18 2) fun N19 =>
  Option.bind (ix x7 N19) fun k20 =>
  if ((uI φ a13 k15 y0).1 a18 k20) = 0 then
    f_Ref_see_L130 Γ  (uI φ a13 k15 y0) x0 x6 x7 (0 : Int64) x7 ((uI φ a13 k15 y0).2.2 x0 100)
  else
    f_Ref_see_L130 Γ  (uI φ a13 k15 y0) x0 x6 x7 x4 x7 ((uI φ a13 k15 y0).2.2 x0 100)
  ) none
  ) none
set_option maxRecDepth 100000 in
set_option maxHeartbeats 4000000 in
theorem p_Ref_see_L107 {w : jw_T} (hw : jok w) {Γ : gm_T} {n : Nat} (hG : gd w Γ n)  {x : Bool} {φ : ph_T} {x0 : Nat} {x4 : Int64} {x6 : Int32} {x7 : Int32} {y0 : Int32} {y1 : Int32} {y2 : Option Nat} {q : Unit × ph_T} (H : f_Ref_see_L107 Γ  φ x0 x4 x6 x7 y0 y1 y2 = some q) : J w M_Ref_see 107 [some (.ref x0), none, none, none, some (.long x4), none, some (.int x6), some (.int x7)] [.int y0, .int y1, va_rf y2] (pic Γ φ) n x 0 0 (fq Γ n (.inl none) q.2) := by
  unfold f_Ref_see_L107 at H
  obtain ⟨a13, ha13, H⟩ := Option.bind_eq_some_iff.mp H
  rw [j_rf ha13]
  obtain ⟨N14, hN14, H⟩ := Option.bind_eq_some_iff.mp H
  obtain ⟨k15, hk15, H⟩ := Option.bind_eq_some_iff.mp H
  have z16 : y0 = 0 ∨ y0 = 1 := by
    apply Classical.byContradiction
    intro q9
    rw [if_neg q9] at H
    cases H
  rw [if_pos z16] at H
  refine F_zast k15 hw hG d_Ref_see_107 (gA_some hN14) (ix_some hk15) z16 ?_
  refine J_aload_n d_Ref_see_108 rfl ?_
  have g17 : Γ x0 = .inr 12 := by
    apply Classical.byContradiction
    intro q9
    rw [if_neg q9] at H
    cases H
  rw [if_pos g17] at H
  refine F_getR (ci := 12) (k := 100) hG (cf_Ref hw) (fl_Ref_280 hw) (by decide) (by decide) rfl d_Ref_see_109 g17 ?_
  refine J_iload d_Ref_see_112 rfl ?_
  refine J_aload_n d_Ref_see_114 rfl ?_
  refine F_getR (ci := 12) (k := 98) hG (cf_Ref hw) (fl_Ref_274 hw) (by decide) (by decide) rfl d_Ref_see_115 g17 ?_
  refine J_iload d_Ref_see_118 rfl ?_
  obtain ⟨a18, ha18, H⟩ := Option.bind_eq_some_iff.mp H
  rw [j_rf ha18]
  obtain ⟨N19, hN19, H⟩ := Option.bind_eq_some_iff.mp H
  obtain ⟨k20, hk20, H⟩ := Option.bind_eq_some_iff.mp H
  refine F_zald k20 hw hG d_Ref_see_120 (gA_some hN19) (ix_some hk20) ?_
  refine J_if_eq (tgt := 129) d_Ref_see_121 (by decide) ?_ ?_
  · intro c21
    rw [if_pos c21] at H
    refine J_lconst (v := 0) d_Ref_see_129 (by decide) ?_
    refine J.drop [true, false, false, false, false, false, true, true] rfl ?_
    exact p_Ref_see_L130 hw hG  H
  · intro c21
    rw [if_neg c21] at H
    refine J_lload d_Ref_see_124 rfl ?_
    refine J_goto (tgt := 130) d_Ref_see_126 (by decide) ?_
    refine J.drop [true, false, false, false, false, false, true, true] rfl ?_
    exact p_Ref_see_L130 hw hG  H
def f_Ref_see_L90 (Γ : gm_T)  (φ : ph_T) (x0 : Nat) (x3 : Int32) (x4 : Int64) (x6 : Int32) (x7 : Int32) (y0 : Int32) (y1 : Int32) (y2 : Option Nat) : Option (Unit × ph_T) :=
  Option.bind y2 fun a22 =>
  Option.bind (gA Γ a22 2) fun N23 =>
  Option.bind (ix y1 N23) fun k24 =>
  @ite _ (y0 = 0 ∨ y0 = 1) _ (
  @ite _ (Γ x0 = .inr 12) _ (
  if x3 ≤ (1 : Int32) then
    f_Ref_see_L107 Γ  (uI φ a22 k24 y0) x0 x4 x6 x7 (0 : Int32) x7 ((uI φ a22 k24 y0).2.2 x0 99)
  else
    f_Ref_see_L107 Γ  (uI φ a22 k24 y0) x0 x4 x6 x7 (1 : Int32) x7 ((uI φ a22 k24 y0).2.2 x0 99)
  ) none
  ) none
set_option maxRecDepth 100000 in
set_option maxHeartbeats 4000000 in
theorem p_Ref_see_L90 {w : jw_T} (hw : jok w) {Γ : gm_T} {n : Nat} (hG : gd w Γ n)  {x : Bool} {φ : ph_T} {x0 : Nat} {x3 : Int32} {x4 : Int64} {x6 : Int32} {x7 : Int32} {y0 : Int32} {y1 : Int32} {y2 : Option Nat} {q : Unit × ph_T} (H : f_Ref_see_L90 Γ  φ x0 x3 x4 x6 x7 y0 y1 y2 = some q) : J w M_Ref_see 90 [some (.ref x0), none, none, some (.int x3), some (.long x4), none, some (.int x6), some (.int x7)] [.int y0, .int y1, va_rf y2] (pic Γ φ) n x 0 0 (fq Γ n (.inl none) q.2) := by
  unfold f_Ref_see_L90 at H
  obtain ⟨a22, ha22, H⟩ := Option.bind_eq_some_iff.mp H
  rw [j_rf ha22]
  obtain ⟨N23, hN23, H⟩ := Option.bind_eq_some_iff.mp H
  obtain ⟨k24, hk24, H⟩ := Option.bind_eq_some_iff.mp H
  have z25 : y0 = 0 ∨ y0 = 1 := by
    apply Classical.byContradiction
    intro q9
    rw [if_neg q9] at H
    cases H
  rw [if_pos z25] at H
  refine F_zast k24 hw hG d_Ref_see_90 (gA_some hN23) (ix_some hk24) z25 ?_
  refine J_aload_n d_Ref_see_91 rfl ?_
  have g26 : Γ x0 = .inr 12 := by
    apply Classical.byContradiction
    intro q9
    rw [if_neg q9] at H
    cases H
  rw [if_pos g26] at H
  refine F_getR (ci := 12) (k := 99) hG (cf_Ref hw) (fl_Ref_277 hw) (by decide) (by decide) rfl d_Ref_see_92 g26 ?_
  refine J_iload d_Ref_see_95 rfl ?_
  refine J_iload_n d_Ref_see_97 rfl ?_
  refine J_iconst (v := 1) d_Ref_see_98 (by decide) ?_
  refine J_icmp_le (tgt := 106) d_Ref_see_99 (by decide) ?_ ?_
  · intro c27
    rw [if_pos c27] at H
    refine J_iconst (v := 0) d_Ref_see_106 (by decide) ?_
    refine J.drop [true, false, false, false, true, false, true, true] rfl ?_
    exact p_Ref_see_L107 hw hG  H
  · intro c27
    rw [if_neg c27] at H
    refine J_iconst (v := 1) d_Ref_see_102 (by decide) ?_
    refine J_goto (tgt := 107) d_Ref_see_103 (by decide) ?_
    refine J.drop [true, false, false, false, true, false, true, true] rfl ?_
    exact p_Ref_see_L107 hw hG  H
def f_Ref_see_L54 (Γ : gm_T)  (φ : ph_T) (x0 : Nat) (x1 : Int32) (x2 : Int32) (x3 : Int32) (x4 : Int64) (x6 : Int32) (y0 : Int32) (y1 : Nat) : Option (Unit × ph_T) :=
  @ite _ (Γ y1 = .inr 12) _ (
  @ite _ (Γ x0 = .inr 12) _ (
  if ((uI φ y1 0 y0).1 x0 0) ≤ 0 then
    @ite _ ((2 : Int32) = 0) _ none (
    if (x3 - x3 / (2 : Int32) * (2 : Int32)) = (1 : Int32) then
      f_Ref_see_L90 Γ  (uI φ y1 0 y0) x0 x3 x4 x6 (((5 : Int32) * x1) + x2) (1 : Int32) (((5 : Int32) * x1) + x2) ((uI φ y1 0 y0).2.2 x0 98)
    else
      f_Ref_see_L90 Γ  (uI φ y1 0 y0) x0 x3 x4 x6 (((5 : Int32) * x1) + x2) (0 : Int32) (((5 : Int32) * x1) + x2) ((uI φ y1 0 y0).2.2 x0 98)
    )
  else
    some ((), (uI φ y1 0 y0))
  ) none
  ) none
set_option maxRecDepth 100000 in
set_option maxHeartbeats 4000000 in
theorem p_Ref_see_L54 {w : jw_T} (hw : jok w) {Γ : gm_T} {n : Nat} (hG : gd w Γ n)  {x : Bool} {φ : ph_T} {x0 : Nat} {x1 : Int32} {x2 : Int32} {x3 : Int32} {x4 : Int64} {x6 : Int32} {y0 : Int32} {y1 : Nat} {q : Unit × ph_T} (H : f_Ref_see_L54 Γ  φ x0 x1 x2 x3 x4 x6 y0 y1 = some q) : J w M_Ref_see 54 [some (.ref x0), some (.int x1), some (.int x2), some (.int x3), some (.long x4), none, some (.int x6), none] [.int y0, .ref y1] (pic Γ φ) n x 0 0 (fq Γ n (.inl none) q.2) := by
  unfold f_Ref_see_L54 at H
  have g28 : Γ y1 = .inr 12 := by
    apply Classical.byContradiction
    intro q9
    rw [if_neg q9] at H
    cases H
  rw [if_pos g28] at H
  refine F_putI (ci := 12) (k := 0) hG (cf_Ref hw) (fl_Ref_303 hw) (by decide) (by decide) rfl d_Ref_see_54 rfl rfl rfl g28 ?_
  refine J_aload_n d_Ref_see_57 rfl ?_
  have g29 : Γ x0 = .inr 12 := by
    apply Classical.byContradiction
    intro q9
    rw [if_neg q9] at H
    cases H
  rw [if_pos g29] at H
  refine F_getI (ci := 12) (k := 0) hG (cf_Ref hw) (fl_Ref_303 hw) (by decide) (by decide) rfl d_Ref_see_58 g29 ?_
  refine J_if_le (tgt := 65) d_Ref_see_61 (by decide) ?_ ?_
  · intro c32
    rw [if_pos c32] at H
    refine J_iconst (v := 5) d_Ref_see_65 (by decide) ?_
    refine J_iload_n d_Ref_see_66 rfl ?_
    refine J_imul d_Ref_see_67 ?_
    refine J_iload_n d_Ref_see_68 rfl ?_
    refine J_iadd d_Ref_see_69 ?_
    refine J_istore d_Ref_see_70 (Nat.le_of_ble_eq_true rfl) ?_
    refine J_aload_n d_Ref_see_72 rfl ?_
    refine F_getR (ci := 12) (k := 98) hG (cf_Ref hw) (fl_Ref_274 hw) (by decide) (by decide) rfl d_Ref_see_73 g29 ?_
    refine J_iload d_Ref_see_76 rfl ?_
    refine J_iload_n d_Ref_see_78 rfl ?_
    refine J_iconst (v := 2) d_Ref_see_79 (by decide) ?_
    have h30 : ¬ (2 : Int32) = 0 := by
      intro q9
      rw [if_pos q9] at H
      cases H
    rw [if_neg h30] at H
    refine J_irem d_Ref_see_80 h30 ?_
    refine J_iconst (v := 1) d_Ref_see_81 (by decide) ?_
    refine J_icmp_ne (tgt := 89) d_Ref_see_82 (by decide) ?_ ?_
    · intro c31
      rw [if_neg c31] at H
      refine J_iconst (v := 0) d_Ref_see_89 (by decide) ?_
      refine J.drop [true, false, false, true, true, false, true, true] rfl ?_
      exact p_Ref_see_L90 hw hG  H
    · intro c31
      rw [if_pos c31] at H
      refine J_iconst (v := 1) d_Ref_see_85 (by decide) ?_
      refine J_goto (tgt := 90) d_Ref_see_86 (by decide) ?_
      refine J.drop [true, false, false, true, true, false, true, true] rfl ?_
      exact p_Ref_see_L90 hw hG  H
  · intro c32
    rw [if_neg c32] at H
    cases H
    exact J_vret (st := []) d_Ref_see_64 rfl ⟨rfl, rfl, rfl⟩
def f_Ref_see_L49 (Γ : gm_T)  (φ : ph_T) (x0 : Nat) (x1 : Int32) (x2 : Int32) (x3 : Int32) (x4 : Int64) (x6 : Int32) (y0 : Nat) : Option (Unit × ph_T) :=
  f_Ref_see_L54 Γ  φ x0 x1 x2 x3 x4 x6 (2 : Int32) y0
set_option maxRecDepth 100000 in
set_option maxHeartbeats 4000000 in
theorem p_Ref_see_L49 {w : jw_T} (hw : jok w) {Γ : gm_T} {n : Nat} (hG : gd w Γ n)  {x : Bool} {φ : ph_T} {x0 : Nat} {x1 : Int32} {x2 : Int32} {x3 : Int32} {x4 : Int64} {x6 : Int32} {y0 : Nat} {q : Unit × ph_T} (H : f_Ref_see_L49 Γ  φ x0 x1 x2 x3 x4 x6 y0 = some q) : J w M_Ref_see 49 [some (.ref x0), some (.int x1), some (.int x2), some (.int x3), some (.long x4), none, some (.int x6), none] [.ref y0] (pic Γ φ) n x 0 0 (fq Γ n (.inl none) q.2) := by
  unfold f_Ref_see_L49 at H
  refine J_iconst (v := 2) d_Ref_see_49 (by decide) ?_
  refine J_goto (tgt := 54) d_Ref_see_50 (by decide) ?_
  refine J.drop [true, true, true, true, true, false, true, false] rfl ?_
  exact p_Ref_see_L54 hw hG  H
def f_Ref_see_L20 (Γ : gm_T)  (φ : ph_T) (x0 : Nat) (x1 : Int32) (x2 : Int32) (x3 : Int32) (x4 : Int64) (x6 : Int32) (y0 : Nat) : Option (Unit × ph_T) :=
  f_Ref_see_L54 Γ  φ x0 x1 x2 x3 x4 x6 (1 : Int32) y0
set_option maxRecDepth 100000 in
set_option maxHeartbeats 4000000 in
theorem p_Ref_see_L20 {w : jw_T} (hw : jok w) {Γ : gm_T} {n : Nat} (hG : gd w Γ n)  {x : Bool} {φ : ph_T} {x0 : Nat} {x1 : Int32} {x2 : Int32} {x3 : Int32} {x4 : Int64} {x6 : Int32} {y0 : Nat} {q : Unit × ph_T} (H : f_Ref_see_L20 Γ  φ x0 x1 x2 x3 x4 x6 y0 = some q) : J w M_Ref_see 20 [some (.ref x0), some (.int x1), some (.int x2), some (.int x3), some (.long x4), none, some (.int x6), none] [.ref y0] (pic Γ φ) n x 0 0 (fq Γ n (.inl none) q.2) := by
  unfold f_Ref_see_L20 at H
  refine J_iconst (v := 1) d_Ref_see_20 (by decide) ?_
  refine J_goto (tgt := 54) d_Ref_see_21 (by decide) ?_
  refine J.drop [true, true, true, true, true, false, true, false] rfl ?_
  exact p_Ref_see_L54 hw hG  H
def f_Ref_see (Γ : gm_T) (φ : ph_T) (this : Nat) (p0 : Int32) (p1 : Int32) (p2 : Int32) (p3 : Int64) (p4 : Int32) : Option (Unit × ph_T) :=
  Option.bind (f_Ref_isWatcher Γ φ p0) fun q33 =>
  if q33.1 = 0 then
    f_Ref_see_L20 Γ  q33.2 this p0 p1 p2 p3 p4 this
  else
    Option.bind (f_Ref_in Γ q33.2 (Int32.toInt64 p1) (0 : Int64) (4 : Int64)) fun q34 =>
    if q34.1 = 0 then
      f_Ref_see_L20 Γ  q34.2 this p0 p1 p2 p3 p4 this
    else
      Option.bind (f_Ref_in Γ q34.2 (Int32.toInt64 p2) (0 : Int64) (3 : Int64)) fun q35 =>
      if q35.1 = 0 then
        f_Ref_see_L49 Γ  q35.2 this p0 p1 p2 p3 p4 this
      else
        Option.bind (f_Ref_in Γ q35.2 (Int32.toInt64 p4) (0 : Int64) (511 : Int64)) fun q36 =>
        if q36.1 = 0 then
          f_Ref_see_L49 Γ  q36.2 this p0 p1 p2 p3 p4 this
        else
          f_Ref_see_L54 Γ  q36.2 this p0 p1 p2 p3 p4 (0 : Int32) this
set_option maxRecDepth 100000 in
set_option maxHeartbeats 4000000 in
theorem p_Ref_see {w : jw_T} (hw : jok w) {Γ : gm_T} {n : Nat} (hG : gd w Γ n) {x : Bool} {φ : ph_T} {this : Nat} {p0 : Int32} {p1 : Int32} {p2 : Int32} {p3 : Int64} {p4 : Int32} {q : Unit × ph_T} (H : f_Ref_see Γ φ this p0 p1 p2 p3 p4 = some q) : jc w M_Ref_see [.ref this, .int p0, .int p1, .int p2, .long p3, .int p4] (pic Γ φ) n x 0 0 (fq Γ n (.inl none) q.2) := by
  refine jc.of (by simp only [jent_r, jent_i, jent_l, jent_a, jent_0]; exact Nat.le_of_ble_eq_true rfl) ?_
  have hls : jents [.ref this, .int p0, .int p1, .int p2, .long p3, .int p4] (jm_nL M_Ref_see) = [some (.ref this), some (.int p0), some (.int p1), some (.int p2), some (.long p3), none, some (.int p4), none] := by simp only [jents, jent_r, jent_i, jent_l, jent_a, jent_0]; rfl
  rw [hls]
  clear hls
  unfold f_Ref_see at H
  refine J_aload_n d_Ref_see_0 rfl ?_
  refine J_iload_n d_Ref_see_1 rfl ?_
  obtain ⟨q33, hq33, H⟩ := Option.bind_eq_some_iff.mp H
  refine J_callS (kc := 0) (ks := 0) (kc' := 0) (ks' := 0) (as := [.int p0]) (st := [.ref this]) (mf_Ref_isWatcher hw) (ms_Ref_637 hw) d_Ref_see_2 ln_Ref_isWatcher (by decide) (by first | exact Nat.le_of_ble_eq_true rfl | (simp only [List.map_cons, List.map_nil, List.sum_cons, List.sum_nil, va_rf_cat]; exact Nat.le_of_ble_eq_true rfl)) rfl (p_Ref_isWatcher hw hG hq33) ?_ (fun E h' n' x' e1 => by cases e1.1)
  intro v9 h9 n9 x9 e9
  obtain ⟨e91, e92, e93⟩ := e9
  cases e91
  subst e92
  subst e93
  clear x
  rename Bool => x
  show J _ _ _ _ (_ :: _) _ _ _ _ _ _
  refine J_if_eq (tgt := 20) d_Ref_see_5 (by decide) ?_ ?_
  · intro c40
    rw [if_pos c40] at H
    refine J.drop [true, true, true, true, true, false, true, false] rfl ?_
    exact p_Ref_see_L20 hw hG  H
  · intro c40
    rw [if_neg c40] at H
    refine J_iload_n d_Ref_see_8 rfl ?_
    refine J_i2l d_Ref_see_9 ?_
    refine J_lconst (v := 0) d_Ref_see_10 (by decide) ?_
    refine J_ldc2 (v := 4) d_Ref_see_11 (kn_Ref_609 hw) ?_
    obtain ⟨q34, hq34, H⟩ := Option.bind_eq_some_iff.mp H
    refine J_callS (kc := 0) (ks := 0) (kc' := 0) (ks' := 0) (as := [.long (Int32.toInt64 p1), .long (0 : Int64), .long (4 : Int64)]) (st := [.ref this]) (mf_Ref_in hw) (ms_Ref_599 hw) d_Ref_see_14 ln_Ref_in (by decide) (by first | exact Nat.le_of_ble_eq_true rfl | (simp only [List.map_cons, List.map_nil, List.sum_cons, List.sum_nil, va_rf_cat]; exact Nat.le_of_ble_eq_true rfl)) rfl (p_Ref_in hw hG hq34) ?_ (fun E h' n' x' e1 => by cases e1.1)
    intro v9 h9 n9 x9 e9
    obtain ⟨e91, e92, e93⟩ := e9
    cases e91
    subst e92
    subst e93
    clear x
    rename Bool => x
    show J _ _ _ _ (_ :: _) _ _ _ _ _ _
    refine J_if_ne (tgt := 24) d_Ref_see_17 (by decide) ?_ ?_
    · intro c39
      rw [if_neg c39] at H
      refine J_iload_n d_Ref_see_24 rfl ?_
      refine J_i2l d_Ref_see_25 ?_
      refine J_lconst (v := 0) d_Ref_see_26 (by decide) ?_
      refine J_ldc2 (v := 3) d_Ref_see_27 (kn_Ref_312 hw) ?_
      obtain ⟨q35, hq35, H⟩ := Option.bind_eq_some_iff.mp H
      refine J_callS (kc := 0) (ks := 0) (kc' := 0) (ks' := 0) (as := [.long (Int32.toInt64 p2), .long (0 : Int64), .long (3 : Int64)]) (st := [.ref this]) (mf_Ref_in hw) (ms_Ref_599 hw) d_Ref_see_30 ln_Ref_in (by decide) (by first | exact Nat.le_of_ble_eq_true rfl | (simp only [List.map_cons, List.map_nil, List.sum_cons, List.sum_nil, va_rf_cat]; exact Nat.le_of_ble_eq_true rfl)) rfl (p_Ref_in hw hG hq35) ?_ (fun E h' n' x' e1 => by cases e1.1)
      intro v9 h9 n9 x9 e9
      obtain ⟨e91, e92, e93⟩ := e9
      cases e91
      subst e92
      subst e93
      clear x
      rename Bool => x
      show J _ _ _ _ (_ :: _) _ _ _ _ _ _
      refine J_if_eq (tgt := 49) d_Ref_see_33 (by decide) ?_ ?_
      · intro c38
        rw [if_pos c38] at H
        refine J.drop [true, true, true, true, true, false, true, false] rfl ?_
        exact p_Ref_see_L49 hw hG  H
      · intro c38
        rw [if_neg c38] at H
        refine J_iload d_Ref_see_36 rfl ?_
        refine J_i2l d_Ref_see_38 ?_
        refine J_lconst (v := 0) d_Ref_see_39 (by decide) ?_
        refine J_ldc2 (v := 511) d_Ref_see_40 (kn_Ref_640 hw) ?_
        obtain ⟨q36, hq36, H⟩ := Option.bind_eq_some_iff.mp H
        refine J_callS (kc := 0) (ks := 0) (kc' := 0) (ks' := 0) (as := [.long (Int32.toInt64 p4), .long (0 : Int64), .long (511 : Int64)]) (st := [.ref this]) (mf_Ref_in hw) (ms_Ref_599 hw) d_Ref_see_43 ln_Ref_in (by decide) (by first | exact Nat.le_of_ble_eq_true rfl | (simp only [List.map_cons, List.map_nil, List.sum_cons, List.sum_nil, va_rf_cat]; exact Nat.le_of_ble_eq_true rfl)) rfl (p_Ref_in hw hG hq36) ?_ (fun E h' n' x' e1 => by cases e1.1)
        intro v9 h9 n9 x9 e9
        obtain ⟨e91, e92, e93⟩ := e9
        cases e91
        subst e92
        subst e93
        clear x
        rename Bool => x
        show J _ _ _ _ (_ :: _) _ _ _ _ _ _
        refine J_if_ne (tgt := 53) d_Ref_see_46 (by decide) ?_ ?_
        · intro c37
          rw [if_neg c37] at H
          refine J_iconst (v := 0) d_Ref_see_53 (by decide) ?_
          refine J.drop [true, true, true, true, true, false, true, false] rfl ?_
          exact p_Ref_see_L54 hw hG  H
        · intro c37
          rw [if_pos c37] at H
          refine J.drop [true, true, true, true, true, false, true, false] rfl ?_
          exact p_Ref_see_L49 hw hG  H
    · intro c39
      rw [if_pos c39] at H
      refine J.drop [true, true, true, true, true, false, true, false] rfl ?_
      exact p_Ref_see_L20 hw hG  H
