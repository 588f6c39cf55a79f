theorem ln_Ref_tick : (parseMethodDescriptor y_Ref_tick.desc).map (fun q => q.parameters.length) = some 1 := by decide +kernel
def f_Ref_tick_L50 (Γ : gm_T)  (φ : ph_T) (x2 : Int32) : Option (Int32 × ph_T) :=
  some (x2, φ)
set_option maxRecDepth 100000 in
set_option maxHeartbeats 4000000 in
theorem p_Ref_tick_L50 {w : jw_T} (hw : jok w) {Γ : gm_T} {n : Nat} (hG : gd w Γ n)  {x : Bool} {φ : ph_T} {x2 : Int32} {q : Int32 × ph_T} (H : f_Ref_tick_L50 Γ  φ x2 = some q) : J w M_Ref_tick 50 [none, none, some (.int x2), none] [] (pic Γ φ) n x 0 0 (fq Γ n (.inl (some (.int q.1))) q.2) := by
  unfold f_Ref_tick_L50 at H
  refine J_iload_n d_Ref_tick_50 rfl ?_
  have H := Option.some.inj H
  subst H
  exact J_iret (st := []) d_Ref_tick_51 rfl rfl ⟨rfl, rfl, rfl⟩
def f_Ref_tick_L25 (Γ : gm_T)  : Nat → ph_T → Nat → Int32 → Int32 → Int32 → Option (Int32 × ph_T)
  | 0, _, _, _, _, _ => none
  | fu + 1, φ, x0, x1, x2, x3 =>
    if x1 ≤ x3 then
      f_Ref_tick_L50 Γ  φ x2
    else
      @ite _ (Γ x0 = .inr 12) _ (
      if (φ.1 x0 0) = 0 then
        Option.bind (f_Ref_step Γ φ x0) fun q2 =>
        (f_Ref_tick_L25 Γ  fu) q2.2 x0 x1 (x2 + q2.1) (x3 + (1 : Int32))
      else
        f_Ref_tick_L50 Γ  φ x2
      ) none
set_option maxRecDepth 100000 in
set_option maxHeartbeats 4000000 in
theorem p_Ref_tick_L25 {w : jw_T} (hw : jok w) {Γ : gm_T} {n : Nat} (hG : gd w Γ n)  : ∀ (fu : Nat) {x : Bool} {φ : ph_T} {x0 : Nat} {x1 : Int32} {x2 : Int32} {x3 : Int32} {q : Int32 × ph_T}, f_Ref_tick_L25 Γ  fu φ x0 x1 x2 x3 = some q → J w M_Ref_tick 25 [some (.ref x0), some (.int x1), some (.int x2), some (.int x3)] [] (pic Γ φ) n x 0 0 (fq Γ n (.inl (some (.int q.1))) q.2) := by
  intro fu
  induction fu with
  | zero =>
    intro x φ x0 x1 x2 x3 q H
    cases H
  | succ fu ih =>
    intro x φ x0 x1 x2 x3 q H
    unfold f_Ref_tick_L25 at H
    refine J_iload_n d_Ref_tick_25 rfl ?_
    refine J_iload_n d_Ref_tick_26 rfl ?_
    refine J_icmp_ge (tgt := 50) d_Ref_tick_27 (by decide) ?_ ?_
    · intro c4
      rw [if_pos c4] at H
      refine J.drop [false, false, true, false] rfl ?_
      exact p_Ref_tick_L50 hw hG  H
    · intro c4
      rw [if_neg c4] at H
      refine J_aload_n d_Ref_tick_30 rfl ?_
      have g1 : Γ x0 = .inr 12 := by
        apply Classical.byContradiction
        intro q9
        rw [if_neg q9] at H
        cases H
      rw [if_pos g1] at H
      refine F_getI (ci := 12) (k := 0) hG (cf_Ref hw) (fl_Ref_303 hw) (by decide) (by decide) rfl d_Ref_tick_31 g1 ?_
      refine J_if_ne (tgt := 50) d_Ref_tick_34 (by decide) ?_ ?_
      · intro c3
        rw [if_neg c3] at H
        refine J.drop [false, false, true, false] rfl ?_
        exact p_Ref_tick_L50 hw hG  H
      · intro c3
        rw [if_pos c3] at H
        refine J_iload_n d_Ref_tick_37 rfl ?_
        refine J_aload_n d_Ref_tick_38 rfl ?_
        obtain ⟨q2, hq2, H⟩ := Option.bind_eq_some_iff.mp H
        refine J_callV (kc := 0) (ks := 0) (kc' := 0) (ks' := 0) (a := x0) (ci := 12) (as := []) (st := [.int x2]) (mf_Ref_step hw) (mv_Ref_618 hw) d_Ref_tick_39 ln_Ref_step (by decide) (by first | exact Nat.le_of_ble_eq_true rfl | (simp only [List.map_cons, List.map_nil, List.sum_cons, List.sum_nil, va_rf_cat]; exact Nat.le_of_ble_eq_true rfl)) rfl ((hG _).1 _ g1 (by decide)).1 ((hG _).1 _ g1 (by decide)).2 (by unfold pic; rw [g1]; rfl) (jcl_at hw rfl) rfl (p_Ref_step hw hG hq2) ?_ (fun E h' n' x' e1 => by cases e1.1)
        intro v9 h9 n9 x9 e9
        obtain ⟨e91, e92, e93⟩ := e9
        cases e91
        subst e92
        subst e93
        clear x
        rename Bool => x
        show J _ _ _ _ (_ :: _) _ _ _ _ _ _
        refine J_iadd d_Ref_tick_42 ?_
        refine J_istore_n d_Ref_tick_43 (Nat.le_of_ble_eq_true rfl) ?_
        refine J.ls (ls' := [some (.ref x0), some (.int x1), some (.int (x2 + q2.1)), some (.int x3)]) rfl ?_
        refine J_iinc (v := x3 + 1) d_Ref_tick_44 rfl (by rw [show Int32.ofInt 1 = (1 : Int32) from by decide]) ?_
        refine J.ls (ls' := [some (.ref x0), some (.int x1), some (.int (x2 + q2.1)), some (.int (x3 + (1 : Int32)))]) rfl ?_
        refine J_goto (tgt := 25) d_Ref_tick_47 (by decide) ?_
        refine J.drop [true, true, true, true] rfl ?_
        exact ih H
def f_Ref_tick_L18 (Γ : gm_T)  (φ : ph_T) (x0 : Nat) (x1 : Int32) (y0 : Int32) (y1 : Nat) : Option (Int32 × ph_T) :=
  @ite _ (Γ y1 = .inr 12) _ (
  f_Ref_tick_L25 Γ  jF (uI φ y1 0 y0) x0 x1 (0 : Int32) (0 : Int32)
  ) none
set_option maxRecDepth 100000 in
set_option maxHeartbeats 4000000 in
theorem p_Ref_tick_L18 {w : jw_T} (hw : jok w) {Γ : gm_T} {n : Nat} (hG : gd w Γ n)  {x : Bool} {φ : ph_T} {x0 : Nat} {x1 : Int32} {y0 : Int32} {y1 : Nat} {q : Int32 × ph_T} (H : f_Ref_tick_L18 Γ  φ x0 x1 y0 y1 = some q) : J w M_Ref_tick 18 [some (.ref x0), some (.int x1), none, none] [.int y0, .ref y1] (pic Γ φ) n x 0 0 (fq Γ n (.inl (some (.int q.1))) q.2) := by
  unfold f_Ref_tick_L18 at H
  have g5 : Γ y1 = .inr 12 := by
    apply Classical.byContradiction
    intro q9
    rw [if_neg q9] at H
    cases H
  rw [if_pos g5] at H
  refine F_putI (ci := 12) (k := 0) hG (cf_Ref hw) (fl_Ref_303 hw) (by decide) (by decide) rfl d_Ref_tick_18 rfl rfl rfl g5 ?_
  refine J_iconst (v := 0) d_Ref_tick_21 (by decide) ?_
  refine J_istore_n d_Ref_tick_22 (Nat.le_of_ble_eq_true rfl) ?_
  refine J.ls (ls' := [some (.ref x0), some (.int x1), some (.int (0 : Int32)), none]) rfl ?_
  refine J_iconst (v := 0) d_Ref_tick_23 (by decide) ?_
  refine J_istore_n d_Ref_tick_24 (Nat.le_of_ble_eq_true rfl) ?_
  refine J.ls (ls' := [some (.ref x0), some (.int x1), some (.int (0 : Int32)), some (.int (0 : Int32))]) rfl ?_
  refine J.drop [true, true, true, true] rfl ?_
  exact p_Ref_tick_L25 hw hG  _ H
def f_Ref_tick (Γ : gm_T) (φ : ph_T) (this : Nat) (p0 : Int32) : Option (Int32 × ph_T) :=
  Option.bind (f_Ref_in Γ φ (Int32.toInt64 p0) (1 : Int64) (100 : Int64)) fun q6 =>
  if q6.1 = 0 then
    f_Ref_tick_L18 Γ  q6.2 this p0 (1 : Int32) this
  else
    f_Ref_tick_L18 Γ  q6.2 this p0 (0 : Int32) this
set_option maxRecDepth 100000 in
set_option maxHeartbeats 4000000 in
theorem p_Ref_tick {w : jw_T} (hw : jok w) {Γ : gm_T} {n : Nat} (hG : gd w Γ n) {x : Bool} {φ : ph_T} {this : Nat} {p0 : Int32} {q : Int32 × ph_T} (H : f_Ref_tick Γ φ this p0 = some q) : jc w M_Ref_tick [.ref this, .int p0] (pic Γ φ) n x 0 0 (fq Γ n (.inl (some (.int q.1))) q.2) := by
  refine jc.of (by simp only [jent_r, jent_i, jent_l, jent_a, jent_0]; exact Nat.le_of_ble_eq_true rfl) ?_
  have hls : jents [.ref this, .int p0] (jm_nL M_Ref_tick) = [some (.ref this), some (.int p0), none, none] := by simp only [jents, jent_r, jent_i, jent_l, jent_a, jent_0]; rfl
  rw [hls]
  clear hls
  unfold f_Ref_tick at H
  refine J_aload_n d_Ref_tick_0 rfl ?_
  refine J_iload_n d_Ref_tick_1 rfl ?_
  refine J_i2l d_Ref_tick_2 ?_
  refine J_lconst (v := 1) d_Ref_tick_3 (by decide) ?_
  refine J_ldc2 (v := 100) d_Ref_tick_4 (kn_Ref_616 hw) ?_
  obtain ⟨q6, hq6, H⟩ := Option.bind_eq_some_iff.mp H
  refine J_callS (kc := 0) (ks := 0) (kc' := 0) (ks' := 0) (as := [.long (Int32.toInt64 p0), .long (1 : Int64), .long (100 : Int64)]) (st := [.ref this]) (mf_Ref_in hw) (ms_Ref_599 hw) d_Ref_tick_7 ln_Ref_in (by decide) (by first | exact Nat.le_of_ble_eq_true rfl | (simp only [List.map_cons, List.map_nil, List.sum_cons, List.sum_nil, va_rf_cat]; exact Nat.le_of_ble_eq_true rfl)) rfl (p_Ref_in hw hG hq6) ?_ (fun E h' n' x' e1 => by cases e1.1)
  intro v9 h9 n9 x9 e9
  obtain ⟨e91, e92, e93⟩ := e9
  cases e91
  subst e92
  subst e93
  clear x
  rename Bool => x
  show J _ _ _ _ (_ :: _) _ _ _ _ _ _
  refine J_if_eq (tgt := 17) d_Ref_tick_10 (by decide) ?_ ?_
  · intro c7
    rw [if_pos c7] at H
    refine J_iconst (v := 1) d_Ref_tick_17 (by decide) ?_
    refine J.drop [true, true, false, false] rfl ?_
    exact p_Ref_tick_L18 hw hG  H
  · intro c7
    rw [if_neg c7] at H
    refine J_iconst (v := 0) d_Ref_tick_13 (by decide) ?_
    refine J_goto (tgt := 18) d_Ref_tick_14 (by decide) ?_
    refine J.drop [true, true, false, false] rfl ?_
    exact p_Ref_tick_L18 hw hG  H
theorem ln_Ref_drain : (parseMethodDescriptor y_Ref_drain.desc).map (fun q => q.parameters.length) = some 1 := by decide +kernel
def f_Ref_drain_L67 (Γ : gm_T)  (φ : ph_T) (y0 : Int32) : Option (Int32 × ph_T) :=
  some (y0, φ)
set_option maxRecDepth 100000 in
set_option maxHeartbeats 4000000 in
theorem p_Ref_drain_L67 {w : jw_T} (hw : jok w) {Γ : gm_T} {n : Nat} (hG : gd w Γ n)  {x : Bool} {φ : ph_T} {y0 : Int32} {q : Int32 × ph_T} (H : f_Ref_drain_L67 Γ  φ y0 = some q) : J w M_Ref_drain 67 [none, none, none] [.int y0] (pic Γ φ) n x 0 0 (fq Γ n (.inl (some (.int q.1))) q.2) := by
  unfold f_Ref_drain_L67 at H
  have H := Option.some.inj H
  subst H
  exact J_iret (st := []) d_Ref_drain_67 rfl rfl ⟨rfl, rfl, rfl⟩
def f_Ref_drain_L55 (Γ : gm_T)  (φ : ph_T) (x0 : Nat) (x2 : Int32) : Option (Int32 × ph_T) :=
  @ite _ (Γ x0 = .inr 12) _ (
  Option.bind (f_Ref_open Γ φ x0) fun q2 =>
  if q2.1 ≤ 0 then
    f_Ref_drain_L67 Γ  q2.2 x2
  else
    f_Ref_drain_L67 Γ  q2.2 (-1 : Int32)
  ) none
set_option maxRecDepth 100000 in
set_option maxHeartbeats 4000000 in
theorem p_Ref_drain_L55 {w : jw_T} (hw : jok w) {Γ : gm_T} {n : Nat} (hG : gd w Γ n)  {x : Bool} {φ : ph_T} {x0 : Nat} {x2 : Int32} {q : Int32 × ph_T} (H : f_Ref_drain_L55 Γ  φ x0 x2 = some q) : J w M_Ref_drain 55 [some (.ref x0), none, some (.int x2)] [] (pic Γ φ) n x 0 0 (fq Γ n (.inl (some (.int q.1))) q.2) := by
  unfold f_Ref_drain_L55 at H
  refine J_aload_n d_Ref_drain_55 rfl ?_
  have g1 : Γ x0 = .inr 12 := by
    apply Classical.byContradiction
    intro q9
    rw [if_neg q9] at H
    cases H
  rw [if_pos g1] at H
  obtain ⟨q2, hq2, H⟩ := Option.bind_eq_some_iff.mp H
  refine J_callV (kc := 0) (ks := 0) (kc' := 0) (ks' := 0) (a := x0) (ci := 12) (as := []) (st := []) (mf_Ref_open hw) (mv_Ref_605 hw) d_Ref_drain_56 ln_Ref_open (by decide) (by first | exact Nat.le_of_ble_eq_true rfl | (simp only [List.map_cons, List.map_nil, List.sum_cons, List.sum_nil, va_rf_cat]; exact Nat.le_of_ble_eq_true rfl)) rfl ((hG _).1 _ g1 (by decide)).1 ((hG _).1 _ g1 (by decide)).2 (by unfold pic; rw [g1]; rfl) (jcl_at hw rfl) rfl (p_Ref_open hw hG hq2) ?_ (fun E h' n' x' e1 => by cases e1.1)
  intro v9 h9 n9 x9 e9
  obtain ⟨e91, e92, e93⟩ := e9
  cases e91
  subst e92
  subst e93
  clear x
  rename Bool => x
  show J _ _ _ _ (_ :: _) _ _ _ _ _ _
  refine J_if_le (tgt := 66) d_Ref_drain_59 (by decide) ?_ ?_
  · intro c3
    rw [if_pos c3] at H
    refine J_iload_n d_Ref_drain_66 rfl ?_
    refine J.drop [false, false, false] rfl ?_
    exact p_Ref_drain_L67 hw hG  H
  · intro c3
    rw [if_neg c3] at H
    refine J_iconst (v := -1) d_Ref_drain_62 (by decide) ?_
    refine J_goto (tgt := 67) d_Ref_drain_63 (by decide) ?_
    refine J.drop [false, false, false] rfl ?_
    exact p_Ref_drain_L67 hw hG  H
def f_Ref_drain_L32 (Γ : gm_T)  : Nat → ph_T → Nat → Int32 → Int32 → Option (Int32 × ph_T)
  | 0, _, _, _, _ => none
  | fu + 1, φ, x0, x1, x2 =>
    if x1 ≤ x2 then
      f_Ref_drain_L55 Γ  φ x0 x2
    else
      @ite _ (Γ x0 = .inr 12) _ (
      Option.bind (f_Ref_open Γ φ x0) fun q5 =>
      if q5.1 ≤ 0 then
        f_Ref_drain_L55 Γ  q5.2 x0 x2
      else
        Option.bind (f_Ref_step Γ q5.2 x0) fun q6 =>
        (f_Ref_drain_L32 Γ  fu) q6.2 x0 x1 (x2 + (1 : Int32))
      ) none
set_option maxRecDepth 100000 in
set_option maxHeartbeats 4000000 in
theorem p_Ref_drain_L32 {w : jw_T} (hw : jok w) {Γ : gm_T} {n : Nat} (hG : gd w Γ n)  : ∀ (fu : Nat) {x : Bool} {φ : ph_T} {x0 : Nat} {x1 : Int32} {x2 : Int32} {q : Int32 × ph_T}, f_Ref_drain_L32 Γ  fu φ x0 x1 x2 = some q → J w M_Ref_drain 32 [some (.ref x0), some (.int x1), some (.int x2)] [] (pic Γ φ) n x 0 0 (fq Γ n (.inl (some (.int q.1))) q.2) := by
  intro fu
  induction fu with
  | zero =>
    intro x φ x0 x1 x2 q H
    cases H
  | succ fu ih =>
    intro x φ x0 x1 x2 q H
    unfold f_Ref_drain_L32 at H
    refine J_iload_n d_Ref_drain_32 rfl ?_
    refine J_iload_n d_Ref_drain_33 rfl ?_
    refine J_icmp_ge (tgt := 55) d_Ref_drain_34 (by decide) ?_ ?_
    · intro c8
      rw [if_pos c8] at H
      refine J.drop [true, false, true] rfl ?_
      exact p_Ref_drain_L55 hw hG  H
    · intro c8
      rw [if_neg c8] at H
      refine J_aload_n d_Ref_drain_37 rfl ?_
      have g4 : Γ x0 = .inr 12 := by
        apply Classical.byContradiction
        intro q9
        rw [if_neg q9] at H
        cases H
      rw [if_pos g4] at H
      obtain ⟨q5, hq5, H⟩ := Option.bind_eq_some_iff.mp H
      refine J_callV (kc := 0) (ks := 0) (kc' := 0) (ks' := 0) (a := x0) (ci := 12) (as := []) (st := []) (mf_Ref_open hw) (mv_Ref_605 hw) d_Ref_drain_38 ln_Ref_open (by decide) (by first | exact Nat.le_of_ble_eq_true rfl | (simp only [List.map_cons, List.map_nil, List.sum_cons, List.sum_nil, va_rf_cat]; exact Nat.le_of_ble_eq_true rfl)) rfl ((hG _).1 _ g4 (by decide)).1 ((hG _).1 _ g4 (by decide)).2 (by unfold pic; rw [g4]; rfl) (jcl_at hw rfl) rfl (p_Ref_open hw hG hq5) ?_ (fun E h' n' x' e1 => by cases e1.1)
      intro v9 h9 n9 x9 e9
      obtain ⟨e91, e92, e93⟩ := e9
      cases e91
      subst e92
      subst e93
      clear x
      rename Bool => x
      show J _ _ _ _ (_ :: _) _ _ _ _ _ _
      refine J_if_le (tgt := 55) d_Ref_drain_41 (by decide) ?_ ?_
      · intro c7
        rw [if_pos c7] at H
        refine J.drop [true, false, true] rfl ?_
        exact p_Ref_drain_L55 hw hG  H
      · intro c7
        rw [if_neg c7] at H
        refine J_aload_n d_Ref_drain_44 rfl ?_
        obtain ⟨q6, hq6, H⟩ := Option.bind_eq_some_iff.mp H
        refine J_callV (kc := 0) (ks := 0) (kc' := 0) (ks' := 0) (a := x0) (ci := 12) (as := []) (st := []) (mf_Ref_step hw) (mv_Ref_618 hw) d_Ref_drain_45 ln_Ref_step (by decide) (by first | exact Nat.le_of_ble_eq_true rfl | (simp only [List.map_cons, List.map_nil, List.sum_cons, List.sum_nil, va_rf_cat]; exact Nat.le_of_ble_eq_true rfl)) rfl ((hG _).1 _ g4 (by decide)).1 ((hG _).1 _ g4 (by decide)).2 (by unfold pic; rw [g4]; rfl) (jcl_at hw rfl) rfl (p_Ref_step hw hG hq6) ?_ (fun E h' n' x' e1 => by cases e1.1)
        intro v9 h9 n9 x9 e9
        obtain ⟨e91, e92, e93⟩ := e9
        cases e91
        subst e92
        subst e93
        clear x
        rename Bool => x
        show J _ _ _ _ (_ :: _) _ _ _ _ _ _
        refine J_pop d_Ref_drain_48 rfl ?_
        refine J_iinc (v := x2 + 1) d_Ref_drain_49 rfl (by rw [show Int32.ofInt 1 = (1 : Int32) from by decide]) ?_
        refine J.ls (ls' := [some (.ref x0), some (.int x1), some (.int (x2 + (1 : Int32)))]) rfl ?_
        refine J_goto (tgt := 32) d_Ref_drain_52 (by decide) ?_
        refine J.drop [true, true, true] rfl ?_
        exact ih H
def f_Ref_drain_L18 (Γ : gm_T)  (φ : ph_T) (x0 : Nat) (x1 : Int32) (y0 : Int32) (y1 : Nat) : Option (Int32 × ph_T) :=
  @ite _ (Γ y1 = .inr 12) _ (
  @ite _ (Γ x0 = .inr 12) _ (
  if ((uI φ y1 0 y0).1 x0 0) ≤ 0 then
    f_Ref_drain_L32 Γ  jF (uI φ y1 0 y0) x0 x1 (0 : Int32)
  else
    some ((0 : Int32), (uI φ y1 0 y0))
  ) none
  ) none
set_option maxRecDepth 100000 in
set_option maxHeartbeats 4000000 in
theorem p_Ref_drain_L18 {w : jw_T} (hw : jok w) {Γ : gm_T} {n : Nat} (hG : gd w Γ n)  {x : Bool} {φ : ph_T} {x0 : Nat} {x1 : Int32} {y0 : Int32} {y1 : Nat} {q : Int32 × ph_T} (H : f_Ref_drain_L18 Γ  φ x0 x1 y0 y1 = some q) : J w M_Ref_drain 18 [some (.ref x0), some (.int x1), none] [.int y0, .ref y1] (pic Γ φ) n x 0 0 (fq Γ n (.inl (some (.int q.1))) q.2) := by
  unfold f_Ref_drain_L18 at H
  have g9 : Γ y1 = .inr 12 := by
    apply Classical.byContradiction
    intro q9
    rw [if_neg q9] at H
    cases H
  rw [if_pos g9] at H
  refine F_putI (ci := 12) (k := 0) hG (cf_Ref hw) (fl_Ref_303 hw) (by decide) (by decide) rfl d_Ref_drain_18 rfl rfl rfl g9 ?_
  refine J_aload_n d_Ref_drain_21 rfl ?_
  have g10 : Γ x0 = .inr 12 := by
    apply Classical.byContradiction
    intro q9
    rw [if_neg q9] at H
    cases H
  rw [if_pos g10] at H
  refine F_getI (ci := 12) (k := 0) hG (cf_Ref hw) (fl_Ref_303 hw) (by decide) (by decide) rfl d_Ref_drain_22 g10 ?_
  refine J_if_le (tgt := 30) d_Ref_drain_25 (by decide) ?_ ?_
  · intro c11
    rw [if_pos c11] at H
    refine J_iconst (v := 0) d_Ref_drain_30 (by decide) ?_
    refine J_istore_n d_Ref_drain_31 (Nat.le_of_ble_eq_true rfl) ?_
    refine J.ls (ls' := [some (.ref x0), some (.int x1), some (.int (0 : Int32))]) rfl ?_
    refine J.drop [true, true, true] rfl ?_
    exact p_Ref_drain_L32 hw hG  _ H
  · intro c11
    rw [if_neg c11] at H
    refine J_iconst (v := 0) d_Ref_drain_28 (by decide) ?_
    have H := Option.some.inj H
    subst H
    exact J_iret (st := []) d_Ref_drain_29 rfl rfl ⟨rfl, rfl, rfl⟩
def f_Ref_drain (Γ : gm_T) (φ : ph_T) (this : Nat) (p0 : Int32) : Option (Int32 × ph_T) :=
  Option.bind (f_Ref_in Γ φ (Int32.toInt64 p0) (1 : Int64) (1000 : Int64)) fun q12 =>
  if q12.1 = 0 then
    f_Ref_drain_L18 Γ  q12.2 this p0 (1 : Int32) this
  else
    f_Ref_drain_L18 Γ  q12.2 this p0 (0 : Int32) this
set_option maxRecDepth 100000 in
set_option maxHeartbeats 4000000 in
theorem p_Ref_drain {w : jw_T} (hw : jok w) {Γ : gm_T} {n : Nat} (hG : gd w Γ n) {x : Bool} {φ : ph_T} {this : Nat} {p0 : Int32} {q : Int32 × ph_T} (H : f_Ref_drain Γ φ this p0 = some q) : jc w M_Ref_drain [.ref this, .int p0] (pic Γ φ) n x 0 0 (fq Γ n (.inl (some (.int q.1))) q.2) := by
  refine jc.of (by simp only [jent_r, jent_i, jent_l, jent_a, jent_0]; exact Nat.le_of_ble_eq_true rfl) ?_
  have hls : jents [.ref this, .int p0] (jm_nL M_Ref_drain) = [some (.ref this), some (.int p0), none] := by simp only [jents, jent_r, jent_i, jent_l, jent_a, jent_0]; rfl
  rw [hls]
  clear hls
  unfold f_Ref_drain at H
  refine J_aload_n d_Ref_drain_0 rfl ?_
  refine J_iload_n d_Ref_drain_1 rfl ?_
  refine J_i2l d_Ref_drain_2 ?_
  refine J_lconst (v := 1) d_Ref_drain_3 (by decide) ?_
  refine J_ldc2 (v := 1000) d_Ref_drain_4 (kn_Ref_621 hw) ?_
  obtain ⟨q12, hq12, H⟩ := Option.bind_eq_some_iff.mp H
  refine J_callS (kc := 0) (ks := 0) (kc' := 0) (ks' := 0) (as := [.long (Int32.toInt64 p0), .long (1 : Int64), .long (1000 : Int64)]) (st := [.ref this]) (mf_Ref_in hw) (ms_Ref_599 hw) d_Ref_drain_7 ln_Ref_in (by decide) (by first | exact Nat.le_of_ble_eq_true rfl | (simp only [List.map_cons, List.map_nil, List.sum_cons, List.sum_nil, va_rf_cat]; exact Nat.le_of_ble_eq_true rfl)) rfl (p_Ref_in hw hG hq12) ?_ (fun E h' n' x' e1 => by cases e1.1)
  intro v9 h9 n9 x9 e9
  obtain ⟨e91, e92, e93⟩ := e9
  cases e91
  subst e92
  subst e93
  clear x
  rename Bool => x
  show J _ _ _ _ (_ :: _) _ _ _ _ _ _
  refine J_if_eq (tgt := 17) d_Ref_drain_10 (by decide) ?_ ?_
  · intro c13
    rw [if_pos c13] at H
    refine J_iconst (v := 1) d_Ref_drain_17 (by decide) ?_
    refine J.drop [true, true, false] rfl ?_
    exact p_Ref_drain_L18 hw hG  H
  · intro c13
    rw [if_neg c13] at H
    refine J_iconst (v := 0) d_Ref_drain_13 (by decide) ?_
    refine J_goto (tgt := 18) d_Ref_drain_14 (by decide) ?_
    refine J.drop [true, true, false] rfl ?_
    exact p_Ref_drain_L18 hw hG  H
theorem ln_Ref_isTicket : (parseMethodDescriptor y_Ref_isTicket.desc).map (fun q => q.parameters.length) = some 1 := by decide +kernel
def f_Ref_isTicket (Γ : gm_T) (φ : ph_T) (this : Nat) (p0 : Int32) : Option (Int32 × ph_T) :=
  @ite _ (Γ this = .inr 12) _ (
  Option.bind (f_Ref_in Γ φ (Int32.toInt64 p0) (0 : Int64) ((Int32.toInt64 (φ.1 this 15)) - (1 : Int64))) fun q2 =>
  @ite _ (q2.1 = 0 ∨ q2.1 = 1) _ (
  some (q2.1, q2.2)
  ) none
  ) none
set_option maxRecDepth 100000 in
set_option maxHeartbeats 4000000 in
theorem p_Ref_isTicket {w : jw_T} (hw : jok w) {Γ : gm_T} {n : Nat} (hG : gd w Γ n) {x : Bool} {φ : ph_T} {this : Nat} {p0 : Int32} {q : Int32 × ph_T} (H : f_Ref_isTicket Γ φ this p0 = some q) : jc w M_Ref_isTicket [.ref this, .int p0] (pic Γ φ) n x 0 0 (fq Γ n (.inl (some (.int q.1))) q.2) := by
  refine jc.of (by simp only [jent_r, jent_i, jent_l, jent_a, jent_0]; exact Nat.le_of_ble_eq_true rfl) ?_
  have hls : jents [.ref this, .int p0] (jm_nL M_Ref_isTicket) = [some (.ref this), some (.int p0)] := by simp only [jents, jent_r, jent_i, jent_l, jent_a, jent_0]; rfl
  rw [hls]
  clear hls
  unfold f_Ref_isTicket at H
  refine J_iload_n d_Ref_isTicket_0 rfl ?_
  refine J_i2l d_Ref_isTicket_1 ?_
  refine J_lconst (v := 0) d_Ref_isTicket_2 (by decide) ?_
  refine J_aload_n d_Ref_isTicket_3 rfl ?_
  have g1 : Γ this = .inr 12 := by
    apply Classical.byContradiction
    intro q9
    rw [if_neg q9] at H
    cases H
  rw [if_pos g1] at H
  refine F_getI (ci := 12) (k := 15) hG (cf_Ref hw) (fl_Ref_337 hw) (by decide) (by decide) rfl d_Ref_isTicket_4 g1 ?_
  refine J_i2l d_Ref_isTicket_7 ?_
  refine J_lconst (v := 1) d_Ref_isTicket_8 (by decide) ?_
  refine J_lsub d_Ref_isTicket_9 ?_
  obtain ⟨q2, hq2, H⟩ := Option.bind_eq_some_iff.mp H
  refine J_callS (kc := 0) (ks := 0) (kc' := 0) (ks' := 0) (as := [.long (Int32.toInt64 p0), .long (0 : Int64), .long ((Int32.toInt64 (φ.1 this 15)) - (1 : Int64))]) (st := []) (mf_Ref_in hw) (ms_Ref_599 hw) d_Ref_isTicket_10 ln_Ref_in (by decide) (by first | exact Nat.le_of_ble_eq_true rfl | (simp only [List.map_cons, List.map_nil, List.sum_cons, List.sum_nil, va_rf_cat]; exact Nat.le_of_ble_eq_true rfl)) rfl (p_Ref_in hw hG hq2) ?_ (fun E h' n' x' e1 => by cases e1.1)
  intro v9 h9 n9 x9 e9
  obtain ⟨e91, e92, e93⟩ := e9
  cases e91
  subst e92
  subst e93
  clear x
  rename Bool => x
  show J _ _ _ _ (_ :: _) _ _ _ _ _ _
  have z3 : q2.1 = 0 ∨ q2.1 = 1 := by
    apply Classical.byContradiction
    intro q9
    rw [if_neg q9] at H
    cases H
  rw [if_pos z3] at H
  have H := Option.some.inj H
  subst H
  exact J_iret (st := []) d_Ref_isTicket_13 rfl (narrow_z z3).1 ⟨rfl, rfl, rfl⟩
theorem ln_Ref_ticket : (parseMethodDescriptor y_Ref_ticket.desc).map (fun q => q.parameters.length) = some 2 := by decide +kernel
def f_Ref_ticket_L109 (Γ : gm_T)  (φ : ph_T) (y0 : Int32) : Option (Int32 × ph_T) :=
  some (y0, φ)
set_option maxRecDepth 100000 in
set_option maxHeartbeats 4000000 in
theorem p_Ref_ticket_L109 {w : jw_T} (hw : jok w) {Γ : gm_T} {n : Nat} (hG : gd w Γ n)  {x : Bool} {φ : ph_T} {y0 : Int32} {q : Int32 × ph_T} (H : f_Ref_ticket_L109 Γ  φ y0 = some q) : J w M_Ref_ticket 109 [none, none, none] [.int y0] (pic Γ φ) n x 0 0 (fq Γ n (.inl (some (.int q.1))) q.2) := by
  unfold f_Ref_ticket_L109 at H
  have H := Option.some.inj H
  subst H
  exact J_iret (st := []) d_Ref_ticket_109 rfl rfl ⟨rfl, rfl, rfl⟩
def f_Ref_ticket_L30 (Γ : gm_T)  (φ : ph_T) (x0 : Nat) (x1 : Int32) (x2 : Int32) (y0 : Int32) (y1 : Nat) : Option (Int32 × ph_T) :=
  @ite _ (Γ y1 = .inr 12) _ (
  @ite _ (Γ x0 = .inr 12) _ (
  if ((uI φ y1 0 y0).1 x0 0) ≤ 0 then
    if x2 = 0 then
      Option.bind (φ.2.2 x0 29) fun a3 =>
      Option.bind (gA Γ a3 0) fun N4 =>
      Option.bind (ix x1 N4) fun k5 =>
      if ((uI φ y1 0 y0).1 a3 k5) = (-1 : Int32) then
        Option.bind (φ.2.2 x0 28) fun a6 =>
        Option.bind (gA Γ a6 0) fun N7 =>
        Option.bind (ix x1 N7) fun k8 =>
        if ((uI φ y1 0 y0).1 a6 k8) = (-1 : Int32) then
          f_Ref_ticket_L109 Γ  (uI φ y1 0 y0) (0 : Int32)
        else
          f_Ref_ticket_L109 Γ  (uI φ y1 0 y0) (1 : Int32)
      else
        f_Ref_ticket_L109 Γ  (uI φ y1 0 y0) (2 : Int32)
    else
      if x2 = 1 then
        Option.bind (φ.2.2 x0 31) fun a11 =>
        Option.bind (gA Γ a11 0) fun N12 =>
        Option.bind (ix x1 N12) fun k13 =>
        some (((uI φ y1 0 y0).1 a11 k13), (uI φ y1 0 y0))
      else
        if x2 = 2 then
          Option.bind (φ.2.2 x0 27) fun a14 =>
          Option.bind (gA Γ a14 0) fun N15 =>
          Option.bind (ix x1 N15) fun k16 =>
          some (((uI φ y1 0 y0).1 a14 k16), (uI φ y1 0 y0))
        else
          if x2 = 3 then
            Option.bind (φ.2.2 x0 28) fun a17 =>
            Option.bind (gA Γ a17 0) fun N18 =>
            Option.bind (ix x1 N18) fun k19 =>
            some (((uI φ y1 0 y0).1 a17 k19), (uI φ y1 0 y0))
          else
            if x2 = 4 then
              Option.bind (φ.2.2 x0 29) fun a20 =>
              Option.bind (gA Γ a20 0) fun N21 =>
              Option.bind (ix x1 N21) fun k22 =>
              some (((uI φ y1 0 y0).1 a20 k22), (uI φ y1 0 y0))
            else
              if x2 = 5 then
                Option.bind (φ.2.2 x0 30) fun a23 =>
                Option.bind (gA Γ a23 0) fun N24 =>
                Option.bind (ix x1 N24) fun k25 =>
                some (((uI φ y1 0 y0).1 a23 k25), (uI φ y1 0 y0))
              else
                Option.bind (φ.2.2 x0 24) fun a26 =>
                Option.bind (gA Γ a26 0) fun N27 =>
                Option.bind (ix x1 N27) fun k28 =>
                Option.bind (f_Ref_targetOf Γ (uI φ y1 0 y0) x0 ((uI φ y1 0 y0).1 a26 k28)) fun q29 =>
                some (q29.1, q29.2)
  else
    some ((0 : Int32), (uI φ y1 0 y0))
  ) none
  ) none
set_option maxRecDepth 100000 in
set_option maxHeartbeats 4000000 in
theorem p_Ref_ticket_L30 {w : jw_T} (hw : jok w) {Γ : gm_T} {n : Nat} (hG : gd w Γ n)  {x : Bool} {φ : ph_T} {x0 : Nat} {x1 : Int32} {x2 : Int32} {y0 : Int32} {y1 : Nat} {q : Int32 × ph_T} (H : f_Ref_ticket_L30 Γ  φ x0 x1 x2 y0 y1 = some q) : J w M_Ref_ticket 30 [some (.ref x0), some (.int x1), some (.int x2)] [.int y0, .ref y1] (pic Γ φ) n x 0 0 (fq Γ n (.inl (some (.int q.1))) q.2) := by
  unfold f_Ref_ticket_L30 at H
  have g1 : Γ y1 = .inr 12 := by
    apply Classical.byContradiction
    intro q9
    rw [if_neg q9] at H
    cases H
  rw [if_pos g1] at H
  refine F_putI (ci := 12) (k := 0) hG (cf_Ref hw) (fl_Ref_303 hw) (by decide) (by decide) rfl d_Ref_ticket_30 rfl rfl rfl g1 ?_
  refine J_aload_n d_Ref_ticket_33 rfl ?_
  have g2 : Γ x0 = .inr 12 := by
    apply Classical.byContradiction
    intro q9
    rw [if_neg q9] at H
    cases H
  rw [if_pos g2] at H
  refine F_getI (ci := 12) (k := 0) hG (cf_Ref hw) (fl_Ref_303 hw) (by decide) (by decide) rfl d_Ref_ticket_34 g2 ?_
  refine J_if_le (tgt := 42) d_Ref_ticket_37 (by decide) ?_ ?_
  · intro c36
    rw [if_pos c36] at H
    refine J_iload_n d_Ref_ticket_42 rfl ?_
    by_cases c30 : x2 = 0
    · rw [if_pos c30] at H
      refine J_table (off := 37) (tgt := 80) d_Ref_ticket_43 (by rw [c30]; decide) (by decide) ?_
      refine J_aload_n d_Ref_ticket_80 rfl ?_
      refine F_getR (ci := 12) (k := 29) hG (cf_Ref hw) (fl_Ref_76 hw) (by decide) (by decide) rfl d_Ref_ticket_81 g2 ?_
      show J _ _ _ _ (va_rf (φ.2.2 x0 29) :: _) _ _ _ _ _ _
      refine J_iload_n d_Ref_ticket_84 rfl ?_
      obtain ⟨a3, ha3, H⟩ := Option.bind_eq_some_iff.mp H
      rw [j_rf ha3]
      obtain ⟨N4, hN4, H⟩ := Option.bind_eq_some_iff.mp H
      obtain ⟨k5, hk5, H⟩ := Option.bind_eq_some_iff.mp H
      refine F_iald k5 hw hG d_Ref_ticket_85 (gA_some hN4) (ix_some hk5) ?_
      refine J_iconst (v := -1) d_Ref_ticket_86 (by decide) ?_
      refine J_icmp_eq (tgt := 94) d_Ref_ticket_87 (by decide) ?_ ?_
      · intro c10
        rw [if_pos c10] at H
        refine J_aload_n d_Ref_ticket_94 rfl ?_
        refine F_getR (ci := 12) (k := 28) hG (cf_Ref hw) (fl_Ref_73 hw) (by decide) (by decide) rfl d_Ref_ticket_95 g2 ?_
        show J _ _ _ _ (va_rf (φ.2.2 x0 28) :: _) _ _ _ _ _ _
        refine J_iload_n d_Ref_ticket_98 rfl ?_
        obtain ⟨a6, ha6, H⟩ := Option.bind_eq_some_iff.mp H
        rw [j_rf ha6]
        obtain ⟨N7, hN7, H⟩ := Option.bind_eq_some_iff.mp H
        obtain ⟨k8, hk8, H⟩ := Option.bind_eq_some_iff.mp H
        refine F_iald k8 hw hG d_Ref_ticket_99 (gA_some hN7) (ix_some hk8) ?_
        refine J_iconst (v := -1) d_Ref_ticket_100 (by decide) ?_
        refine J_icmp_eq (tgt := 108) d_Ref_ticket_101 (by decide) ?_ ?_
        · intro c9
          rw [if_pos c9] at H
          refine J_iconst (v := 0) d_Ref_ticket_108 (by decide) ?_
          refine J.drop [false, false, false] rfl ?_
          exact p_Ref_ticket_L109 hw hG  H
        · intro c9
          rw [if_neg c9] at H
          refine J_iconst (v := 1) d_Ref_ticket_104 (by decide) ?_
          refine J_goto (tgt := 109) d_Ref_ticket_105 (by decide) ?_
          refine J.drop [false, false, false] rfl ?_
          exact p_Ref_ticket_L109 hw hG  H
      · intro c10
        rw [if_neg c10] at H
        refine J_iconst (v := 2) d_Ref_ticket_90 (by decide) ?_
        refine J_goto (tgt := 109) d_Ref_ticket_91 (by decide) ?_
        refine J.drop [false, false, false] rfl ?_
        exact p_Ref_ticket_L109 hw hG  H
    · rw [if_neg c30] at H
      by_cases c31 : x2 = 1
      · rw [if_pos c31] at H
        refine J_table (off := 67) (tgt := 110) d_Ref_ticket_43 (by rw [c31]; decide) (by decide) ?_
        refine J_aload_n d_Ref_ticket_110 rfl ?_
        refine F_getR (ci := 12) (k := 31) hG (cf_Ref hw) (fl_Ref_82 hw) (by decide) (by decide) rfl d_Ref_ticket_111 g2 ?_
        show J _ _ _ _ (va_rf (φ.2.2 x0 31) :: _) _ _ _ _ _ _
        refine J_iload_n d_Ref_ticket_114 rfl ?_
        obtain ⟨a11, ha11, H⟩ := Option.bind_eq_some_iff.mp H
        rw [j_rf ha11]
        obtain ⟨N12, hN12, H⟩ := Option.bind_eq_some_iff.mp H
        obtain ⟨k13, hk13, H⟩ := Option.bind_eq_some_iff.mp H
        refine F_iald k13 hw hG d_Ref_ticket_115 (gA_some hN12) (ix_some hk13) ?_
        have H := Option.some.inj H
        subst H
        exact J_iret (st := []) d_Ref_ticket_116 rfl rfl ⟨rfl, rfl, rfl⟩
      · rw [if_neg c31] at H
        by_cases c32 : x2 = 2
        · rw [if_pos c32] at H
          refine J_table (off := 74) (tgt := 117) d_Ref_ticket_43 (by rw [c32]; decide) (by decide) ?_
          refine J_aload_n d_Ref_ticket_117 rfl ?_
          refine F_getR (ci := 12) (k := 27) hG (cf_Ref hw) (fl_Ref_70 hw) (by decide) (by decide) rfl d_Ref_ticket_118 g2 ?_
          show J _ _ _ _ (va_rf (φ.2.2 x0 27) :: _) _ _ _ _ _ _
          refine J_iload_n d_Ref_ticket_121 rfl ?_
          obtain ⟨a14, ha14, H⟩ := Option.bind_eq_some_iff.mp H
          rw [j_rf ha14]
          obtain ⟨N15, hN15, H⟩ := Option.bind_eq_some_iff.mp H
          obtain ⟨k16, hk16, H⟩ := Option.bind_eq_some_iff.mp H
          refine F_iald k16 hw hG d_Ref_ticket_122 (gA_some hN15) (ix_some hk16) ?_
          have H := Option.some.inj H
          subst H
          exact J_iret (st := []) d_Ref_ticket_123 rfl rfl ⟨rfl, rfl, rfl⟩
        · rw [if_neg c32] at H
          by_cases c33 : x2 = 3
          · rw [if_pos c33] at H
            refine J_table (off := 81) (tgt := 124) d_Ref_ticket_43 (by rw [c33]; decide) (by decide) ?_
            refine J_aload_n d_Ref_ticket_124 rfl ?_
            refine F_getR (ci := 12) (k := 28) hG (cf_Ref hw) (fl_Ref_73 hw) (by decide) (by decide) rfl d_Ref_ticket_125 g2 ?_
            show J _ _ _ _ (va_rf (φ.2.2 x0 28) :: _) _ _ _ _ _ _
            refine J_iload_n d_Ref_ticket_128 rfl ?_
            obtain ⟨a17, ha17, H⟩ := Option.bind_eq_some_iff.mp H
            rw [j_rf ha17]
            obtain ⟨N18, hN18, H⟩ := Option.bind_eq_some_iff.mp H
            obtain ⟨k19, hk19, H⟩ := Option.bind_eq_some_iff.mp H
            refine F_iald k19 hw hG d_Ref_ticket_129 (gA_some hN18) (ix_some hk19) ?_
            have H := Option.some.inj H
            subst H
            exact J_iret (st := []) d_Ref_ticket_130 rfl rfl ⟨rfl, rfl, rfl⟩
          · rw [if_neg c33] at H
            by_cases c34 : x2 = 4
            · rw [if_pos c34] at H
              refine J_table (off := 88) (tgt := 131) d_Ref_ticket_43 (by rw [c34]; decide) (by decide) ?_
              refine J_aload_n d_Ref_ticket_131 rfl ?_
              refine F_getR (ci := 12) (k := 29) hG (cf_Ref hw) (fl_Ref_76 hw) (by decide) (by decide) rfl d_Ref_ticket_132 g2 ?_
              show J _ _ _ _ (va_rf (φ.2.2 x0 29) :: _) _ _ _ _ _ _
              refine J_iload_n d_Ref_ticket_135 rfl ?_
              obtain ⟨a20, ha20, H⟩ := Option.bind_eq_some_iff.mp H
              rw [j_rf ha20]
              obtain ⟨N21, hN21, H⟩ := Option.bind_eq_some_iff.mp H
              obtain ⟨k22, hk22, H⟩ := Option.bind_eq_some_iff.mp H
              refine F_iald k22 hw hG d_Ref_ticket_136 (gA_some hN21) (ix_some hk22) ?_
              have H := Option.some.inj H
              subst H
              exact J_iret (st := []) d_Ref_ticket_137 rfl rfl ⟨rfl, rfl, rfl⟩
            · rw [if_neg c34] at H
              by_cases c35 : x2 = 5
              · rw [if_pos c35] at H
                refine J_table (off := 95) (tgt := 138) d_Ref_ticket_43 (by rw [c35]; decide) (by decide) ?_
                refine J_aload_n d_Ref_ticket_138 rfl ?_
                refine F_getR (ci := 12) (k := 30) hG (cf_Ref hw) (fl_Ref_79 hw) (by decide) (by decide) rfl d_Ref_ticket_139 g2 ?_
                show J _ _ _ _ (va_rf (φ.2.2 x0 30) :: _) _ _ _ _ _ _
                refine J_iload_n d_Ref_ticket_142 rfl ?_
                obtain ⟨a23, ha23, H⟩ := Option.bind_eq_some_iff.mp H
                rw [j_rf ha23]
                obtain ⟨N24, hN24, H⟩ := Option.bind_eq_some_iff.mp H
                obtain ⟨k25, hk25, H⟩ := Option.bind_eq_some_iff.mp H
                refine F_iald k25 hw hG d_Ref_ticket_143 (gA_some hN24) (ix_some hk25) ?_
                have H := Option.some.inj H
                subst H
                exact J_iret (st := []) d_Ref_ticket_144 rfl rfl ⟨rfl, rfl, rfl⟩
              · rw [if_neg c35] at H
                refine J_table (off := 102) (tgt := 145) d_Ref_ticket_43 (by
                    rw [if_pos (by
                      apply Classical.byContradiction
                      intro h9
                      have h8 : (x2).toInt = 0 ∨ (x2).toInt = 1 ∨ (x2).toInt = 2 ∨ (x2).toInt = 3 ∨ (x2).toInt = 4 ∨ (x2).toInt = 5 := by omega
                      rcases h8 with h8 | h8 | h8 | h8 | h8 | h8
                      · exact c30 (j_inj (by rw [h8]; decide))
                      · exact c31 (j_inj (by rw [h8]; decide))
                      · exact c32 (j_inj (by rw [h8]; decide))
                      · exact c33 (j_inj (by rw [h8]; decide))
                      · exact c34 (j_inj (by rw [h8]; decide))
                      · exact c35 (j_inj (by rw [h8]; decide)))]) (by decide) ?_
                refine J_aload_n d_Ref_ticket_145 rfl ?_
                refine J_aload_n d_Ref_ticket_146 rfl ?_
                refine F_getR (ci := 12) (k := 24) hG (cf_Ref hw) (fl_Ref_60 hw) (by decide) (by decide) rfl d_Ref_ticket_147 g2 ?_
                show J _ _ _ _ (va_rf (φ.2.2 x0 24) :: _) _ _ _ _ _ _
                refine J_iload_n d_Ref_ticket_150 rfl ?_
                obtain ⟨a26, ha26, H⟩ := Option.bind_eq_some_iff.mp H
                rw [j_rf ha26]
                obtain ⟨N27, hN27, H⟩ := Option.bind_eq_some_iff.mp H
                obtain ⟨k28, hk28, H⟩ := Option.bind_eq_some_iff.mp H
                refine F_iald k28 hw hG d_Ref_ticket_151 (gA_some hN27) (ix_some hk28) ?_
                obtain ⟨q29, hq29, H⟩ := Option.bind_eq_some_iff.mp H
                refine J_callV (kc := 0) (ks := 0) (kc' := 0) (ks' := 0) (a := x0) (ci := 12) (as := [.int ((uI φ y1 0 y0).1 a26 k28)]) (st := []) (mf_Ref_targetOf hw) (mv_Ref_523 hw) d_Ref_ticket_152 ln_Ref_targetOf (by decide) (by first | exact Nat.le_of_ble_eq_true rfl | (simp only [List.map_cons, List.map_nil, List.sum_cons, List.sum_nil, va_rf_cat]; exact Nat.le_of_ble_eq_true rfl)) rfl ((hG _).1 _ g2 (by decide)).1 ((hG _).1 _ g2 (by decide)).2 (by unfold pic; rw [g2]; rfl) (jcl_at hw rfl) rfl (p_Ref_targetOf hw hG hq29) ?_ (fun E h' n' x' e1 => by cases e1.1)
                intro v9 h9 n9 x9 e9
                obtain ⟨e91, e92, e93⟩ := e9
                cases e91
                subst e92
                subst e93
                clear x
                rename Bool => x
                show J _ _ _ _ (_ :: _) _ _ _ _ _ _
                have H := Option.some.inj H
                subst H
                exact J_iret (st := []) d_Ref_ticket_155 rfl rfl ⟨rfl, rfl, rfl⟩
  · intro c36
    rw [if_neg c36] at H
    refine J_iconst (v := 0) d_Ref_ticket_40 (by decide) ?_
    have H := Option.some.inj H
    subst H
    exact J_iret (st := []) d_Ref_ticket_41 rfl rfl ⟨rfl, rfl, rfl⟩
def f_Ref_ticket (Γ : gm_T) (φ : ph_T) (this : Nat) (p0 : Int32) (p1 : Int32) : Option (Int32 × ph_T) :=
  @ite _ (Γ this = .inr 12) _ (
  Option.bind (f_Ref_isTicket Γ φ this p0) fun q38 =>
  if q38.1 = 0 then
    f_Ref_ticket_L30 Γ  q38.2 this p0 p1 (1 : Int32) this
  else
    Option.bind (f_Ref_in Γ q38.2 (Int32.toInt64 p1) (0 : Int64) (6 : Int64)) fun q39 =>
    if q39.1 = 0 then
      f_Ref_ticket_L30 Γ  q39.2 this p0 p1 (2 : Int32) this
    else
      f_Ref_ticket_L30 Γ  q39.2 this p0 p1 (0 : Int32) this
  ) none
set_option maxRecDepth 100000 in
set_option maxHeartbeats 4000000 in
theorem p_Ref_ticket {w : jw_T} (hw : jok w) {Γ : gm_T} {n : Nat} (hG : gd w Γ n) {x : Bool} {φ : ph_T} {this : Nat} {p0 : Int32} {p1 : Int32} {q : Int32 × ph_T} (H : f_Ref_ticket Γ φ this p0 p1 = some q) : jc w M_Ref_ticket [.ref this, .int p0, .int p1] (pic Γ φ) n x 0 0 (fq Γ n (.inl (some (.int q.1))) q.2) := by
  refine jc.of (by simp only [jent_r, jent_i, jent_l, jent_a, jent_0]; exact Nat.le_of_ble_eq_true rfl) ?_
  have hls : jents [.ref this, .int p0, .int p1] (jm_nL M_Ref_ticket) = [some (.ref this), some (.int p0), some (.int p1)] := by simp only [jents, jent_r, jent_i, jent_l, jent_a, jent_0]; rfl
  rw [hls]
  clear hls
  unfold f_Ref_ticket at H
  refine J_aload_n d_Ref_ticket_0 rfl ?_
  refine J_aload_n d_Ref_ticket_1 rfl ?_
  refine J_iload_n d_Ref_ticket_2 rfl ?_
  have g37 : Γ this = .inr 12 := by
    apply Classical.byContradiction
    intro q9
    rw [if_neg q9] at H
    cases H
  rw [if_pos g37] at H
  obtain ⟨q38, hq38, H⟩ := Option.bind_eq_some_iff.mp H
  refine J_callV (kc := 0) (ks := 0) (kc' := 0) (ks' := 0) (a := this) (ci := 12) (as := [.int p0]) (st := [.ref this]) (mf_Ref_isTicket hw) (mv_Ref_623 hw) d_Ref_ticket_3 ln_Ref_isTicket (by decide) (by first | exact Nat.le_of_ble_eq_true rfl | (simp only [List.map_cons, List.map_nil, List.sum_cons, List.sum_nil, va_rf_cat]; exact Nat.le_of_ble_eq_true rfl)) rfl ((hG _).1 _ g37 (by decide)).1 ((hG _).1 _ g37 (by decide)).2 (by unfold pic; rw [g37]; rfl) (jcl_at hw rfl) rfl (p_Ref_isTicket hw hG hq38) ?_ (fun E h' n' x' e1 => by cases e1.1)
  intro v9 h9 n9 x9 e9
  obtain ⟨e91, e92, e93⟩ := e9
  cases e91
  subst e92
  subst e93
  clear x
  rename Bool => x
  show J _ _ _ _ (_ :: _) _ _ _ _ _ _
  refine J_if_ne (tgt := 13) d_Ref_ticket_6 (by decide) ?_ ?_
  · intro c41
    rw [if_neg c41] at H
    refine J_iload_n d_Ref_ticket_13 rfl ?_
    refine J_i2l d_Ref_ticket_14 ?_
    refine J_lconst (v := 0) d_Ref_ticket_15 (by decide) ?_
    refine J_ldc2 (v := 6) d_Ref_ticket_16 (kn_Ref_626 hw) ?_
    obtain ⟨q39, hq39, H⟩ := Option.bind_eq_some_iff.mp H
    refine J_callS (kc := 0) (ks := 0) (kc' := 0) (ks' := 0) (as := [.long (Int32.toInt64 p1), .long (0 : Int64), .long (6 : Int64)]) (st := [.ref this]) (mf_Ref_in hw) (ms_Ref_599 hw) d_Ref_ticket_19 ln_Ref_in (by decide) (by first | exact Nat.le_of_ble_eq_true rfl | (simp only [List.map_cons, List.map_nil, List.sum_cons, List.sum_nil, va_rf_cat]; exact Nat.le_of_ble_eq_true rfl)) rfl (p_Ref_in hw hG hq39) ?_ (fun E h' n' x' e1 => by cases e1.1)
    intro v9 h9 n9 x9 e9
    obtain ⟨e91, e92, e93⟩ := e9
    cases e91
    subst e92
    subst e93
    clear x
    rename Bool => x
    show J _ _ _ _ (_ :: _) _ _ _ _ _ _
    refine J_if_ne (tgt := 29) d_Ref_ticket_22 (by decide) ?_ ?_
    · intro c40
      rw [if_neg c40] at H
      refine J_iconst (v := 0) d_Ref_ticket_29 (by decide) ?_
      refine J.drop [true, true, true] rfl ?_
      exact p_Ref_ticket_L30 hw hG  H
    · intro c40
      rw [if_pos c40] at H
      refine J_iconst (v := 2) d_Ref_ticket_25 (by decide) ?_
      refine J_goto (tgt := 30) d_Ref_ticket_26 (by decide) ?_
      refine J.drop [true, true, true] rfl ?_
      exact p_Ref_ticket_L30 hw hG  H
  · intro c41
    rw [if_pos c41] at H
    refine J_iconst (v := 1) d_Ref_ticket_9 (by decide) ?_
    refine J_goto (tgt := 30) d_Ref_ticket_10 (by decide) ?_
    refine J.drop [true, true, true] rfl ?_
    exact p_Ref_ticket_L30 hw hG  H
