theorem ln_Ref_data : (parseMethodDescriptor y_Ref_data.desc).map (fun q => q.parameters.length) = some 2 := by decide +kernel
def f_Ref_data_L57 (Γ : gm_T)  (φ : ph_T) (y0 : Int64) : Option (Int64 × ph_T) :=
  some (y0, φ)
set_option maxRecDepth 100000 in
set_option maxHeartbeats 4000000 in
theorem p_Ref_data_L57 {w : jw_T} (hw : jok w) {Γ : gm_T} {n : Nat} (hG : gd w Γ n)  {x : Bool} {φ : ph_T} {y0 : Int64} {q : Int64 × ph_T} (H : f_Ref_data_L57 Γ  φ y0 = some q) : J w M_Ref_data 57 [none, none, none] [.long y0] (pic Γ φ) n x 0 0 (fq Γ n (.inl (some (.long q.1))) q.2) := by
  unfold f_Ref_data_L57 at H
  have H := Option.some.inj H
  subst H
  exact J_lret (st := []) d_Ref_data_57 rfl ⟨rfl, rfl, rfl⟩
def f_Ref_data_L32 (Γ : gm_T)  (φ : ph_T) (x0 : Nat) (x1 : Int32) (x2 : Int32) (y0 : Int32) (y1 : Nat) : Option (Int64 × ph_T) :=
  @ite _ (Γ y1 = .inr 12) _ (
  @ite _ (Γ x0 = .inr 12) _ (
  if ((uI φ y1 0 y0).1 x0 0) ≤ 0 then
    Option.bind (φ.2.2 x0 32) fun a3 =>
    Option.bind (gA Γ a3 1) fun N4 =>
    Option.bind (ix (((16 : Int32) * x1) + x2) N4) fun k5 =>
    f_Ref_data_L57 Γ  (uI φ y1 0 y0) (φ.2.1 a3 k5)
  else
    f_Ref_data_L57 Γ  (uI φ y1 0 y0) (0 : Int64)
  ) none
  ) none
set_option maxRecDepth 100000 in
set_option maxHeartbeats 4000000 in
theorem p_Ref_data_L32 {w : jw_T} (hw : jok w) {Γ : gm_T} {n : Nat} (hG : gd w Γ n)  {x : Bool} {φ : ph_T} {x0 : Nat} {x1 : Int32} {x2 : Int32} {y0 : Int32} {y1 : Nat} {q : Int64 × ph_T} (H : f_Ref_data_L32 Γ  φ x0 x1 x2 y0 y1 = some q) : J w M_Ref_data 32 [some (.ref x0), some (.int x1), some (.int x2)] [.int y0, .ref y1] (pic Γ φ) n x 0 0 (fq Γ n (.inl (some (.long q.1))) q.2) := by
  unfold f_Ref_data_L32 at H
  have g1 : Γ y1 = .inr 12 := by
    apply Classical.byContradiction
    intro q9
    rw [if_neg q9] at H
    cases H
  rw [if_pos g1] at H
  refine F_putI (ci := 12) (k := 0) hG (cf_Ref hw) (fl_Ref_303 hw) (by decide) (by decide) rfl d_Ref_data_32 rfl rfl rfl g1 ?_
  refine J_aload_n d_Ref_data_35 rfl ?_
  have g2 : Γ x0 = .inr 12 := by
    apply Classical.byContradiction
    intro q9
    rw [if_neg q9] at H
    cases H
  rw [if_pos g2] at H
  refine F_getI (ci := 12) (k := 0) hG (cf_Ref hw) (fl_Ref_303 hw) (by decide) (by decide) rfl d_Ref_data_36 g2 ?_
  refine J_if_le (tgt := 46) d_Ref_data_39 (by decide) ?_ ?_
  · intro c6
    rw [if_pos c6] at H
    refine J_aload_n d_Ref_data_46 rfl ?_
    refine F_getR (ci := 12) (k := 32) hG (cf_Ref hw) (fl_Ref_85 hw) (by decide) (by decide) rfl d_Ref_data_47 g2 ?_
    show J _ _ _ _ (va_rf (φ.2.2 x0 32) :: _) _ _ _ _ _ _
    refine J_bipush (v := 16) d_Ref_data_50 (by decide) ?_
    refine J_iload_n d_Ref_data_52 rfl ?_
    refine J_imul d_Ref_data_53 ?_
    refine J_iload_n d_Ref_data_54 rfl ?_
    refine J_iadd d_Ref_data_55 ?_
    obtain ⟨a3, ha3, H⟩ := Option.bind_eq_some_iff.mp H
    rw [j_rf ha3]
    obtain ⟨N4, hN4, H⟩ := Option.bind_eq_some_iff.mp H
    obtain ⟨k5, hk5, H⟩ := Option.bind_eq_some_iff.mp H
    refine F_lald k5 hw hG d_Ref_data_56 (gA_some hN4) (ix_some hk5) ?_
    show J _ _ _ _ (.long (φ.2.1 a3 k5) :: _) _ _ _ _ _ _
    refine J.drop [false, false, false] rfl ?_
    exact p_Ref_data_L57 hw hG  H
  · intro c6
    rw [if_neg c6] at H
    refine J_lconst (v := 0) d_Ref_data_42 (by decide) ?_
    refine J_goto (tgt := 57) d_Ref_data_43 (by decide) ?_
    refine J.drop [false, false, false] rfl ?_
    exact p_Ref_data_L57 hw hG  H
def f_Ref_data_L31 (Γ : gm_T)  (φ : ph_T) (x0 : Nat) (x1 : Int32) (x2 : Int32) (y0 : Nat) : Option (Int64 × ph_T) :=
  f_Ref_data_L32 Γ  φ x0 x1 x2 (1 : Int32) y0
set_option maxRecDepth 100000 in
set_option maxHeartbeats 4000000 in
theorem p_Ref_data_L31 {w : jw_T} (hw : jok w) {Γ : gm_T} {n : Nat} (hG : gd w Γ n)  {x : Bool} {φ : ph_T} {x0 : Nat} {x1 : Int32} {x2 : Int32} {y0 : Nat} {q : Int64 × ph_T} (H : f_Ref_data_L31 Γ  φ x0 x1 x2 y0 = some q) : J w M_Ref_data 31 [some (.ref x0), some (.int x1), some (.int x2)] [.ref y0] (pic Γ φ) n x 0 0 (fq Γ n (.inl (some (.long q.1))) q.2) := by
  unfold f_Ref_data_L31 at H
  refine J_iconst (v := 1) d_Ref_data_31 (by decide) ?_
  refine J.drop [true, true, true] rfl ?_
  exact p_Ref_data_L32 hw hG  H
def f_Ref_data (Γ : gm_T) (φ : ph_T) (this : Nat) (p0 : Int32) (p1 : Int32) : Option (Int64 × ph_T) :=
  @ite _ (Γ this = .inr 12) _ (
  Option.bind (f_Ref_isTicket Γ φ this p0) fun q8 =>
  if q8.1 = 0 then
    f_Ref_data_L31 Γ  q8.2 this p0 p1 this
  else
    Option.bind (q8.2.2.2 this 30) fun a9 =>
    Option.bind (gA Γ a9 0) fun N10 =>
    Option.bind (ix p0 N10) fun k11 =>
    Option.bind (f_Ref_in Γ q8.2 (Int32.toInt64 p1) (0 : Int64) ((Int32.toInt64 (q8.2.1 a9 k11)) - (1 : Int64))) fun q12 =>
    if q12.1 = 0 then
      f_Ref_data_L31 Γ  q12.2 this p0 p1 this
    else
      f_Ref_data_L32 Γ  q12.2 this p0 p1 (0 : Int32) this
  ) none
set_option maxRecDepth 100000 in
set_option maxHeartbeats 4000000 in
theorem p_Ref_data {w : jw_T} (hw : jok w) {Γ : gm_T} {n : Nat} (hG : gd w Γ n) {x : Bool} {φ : ph_T} {this : Nat} {p0 : Int32} {p1 : Int32} {q : Int64 × ph_T} (H : f_Ref_data Γ φ this p0 p1 = some q) : jc w M_Ref_data [.ref this, .int p0, .int p1] (pic Γ φ) n x 0 0 (fq Γ n (.inl (some (.long q.1))) q.2) := by
  refine jc.of (by simp only [jent_r, jent_i, jent_l, jent_a, jent_0]; exact Nat.le_of_ble_eq_true rfl) ?_
  have hls : jents [.ref this, .int p0, .int p1] (jm_nL M_Ref_data) = [some (.ref this), some (.int p0), some (.int p1)] := by simp only [jents, jent_r, jent_i, jent_l, jent_a, jent_0]; rfl
  rw [hls]
  clear hls
  unfold f_Ref_data at H
  refine J_aload_n d_Ref_data_0 rfl ?_
  refine J_aload_n d_Ref_data_1 rfl ?_
  refine J_iload_n d_Ref_data_2 rfl ?_
  have g7 : Γ this = .inr 12 := by
    apply Classical.byContradiction
    intro q9
    rw [if_neg q9] at H
    cases H
  rw [if_pos g7] at H
  obtain ⟨q8, hq8, H⟩ := Option.bind_eq_some_iff.mp H
  refine J_callV (kc := 0) (ks := 0) (kc' := 0) (ks' := 0) (a := this) (ci := 12) (as := [.int p0]) (st := [.ref this]) (mf_Ref_isTicket hw) (mv_Ref_623 hw) d_Ref_data_3 ln_Ref_isTicket (by decide) (by first | exact Nat.le_of_ble_eq_true rfl | (simp only [List.map_cons, List.map_nil, List.sum_cons, List.sum_nil, va_rf_cat]; exact Nat.le_of_ble_eq_true rfl)) rfl ((hG _).1 _ g7 (by decide)).1 ((hG _).1 _ g7 (by decide)).2 (by unfold pic; rw [g7]; rfl) (jcl_at hw rfl) rfl (p_Ref_isTicket hw hG hq8) ?_ (fun E h' n' x' e1 => by cases e1.1)
  intro v9 h9 n9 x9 e9
  obtain ⟨e91, e92, e93⟩ := e9
  cases e91
  subst e92
  subst e93
  clear x
  rename Bool => x
  show J _ _ _ _ (_ :: _) _ _ _ _ _ _
  refine J_if_eq (tgt := 31) d_Ref_data_6 (by decide) ?_ ?_
  · intro c14
    rw [if_pos c14] at H
    refine J.drop [true, true, true] rfl ?_
    exact p_Ref_data_L31 hw hG  H
  · intro c14
    rw [if_neg c14] at H
    refine J_iload_n d_Ref_data_9 rfl ?_
    refine J_i2l d_Ref_data_10 ?_
    refine J_lconst (v := 0) d_Ref_data_11 (by decide) ?_
    refine J_aload_n d_Ref_data_12 rfl ?_
    refine F_getR (ci := 12) (k := 30) hG (cf_Ref hw) (fl_Ref_79 hw) (by decide) (by decide) rfl d_Ref_data_13 g7 ?_
    refine J_iload_n d_Ref_data_16 rfl ?_
    obtain ⟨a9, ha9, H⟩ := Option.bind_eq_some_iff.mp H
    rw [j_rf ha9]
    obtain ⟨N10, hN10, H⟩ := Option.bind_eq_some_iff.mp H
    obtain ⟨k11, hk11, H⟩ := Option.bind_eq_some_iff.mp H
    refine F_iald k11 hw hG d_Ref_data_17 (gA_some hN10) (ix_some hk11) ?_
    refine J_i2l d_Ref_data_18 ?_
    refine J_lconst (v := 1) d_Ref_data_19 (by decide) ?_
    refine J_lsub d_Ref_data_20 ?_
    obtain ⟨q12, hq12, H⟩ := Option.bind_eq_some_iff.mp H
    refine J_callS (kc := 0) (ks := 0) (kc' := 0) (ks' := 0) (as := [.long (Int32.toInt64 p1), .long (0 : Int64), .long ((Int32.toInt64 (q8.2.1 a9 k11)) - (1 : Int64))]) (st := [.ref this]) (mf_Ref_in hw) (ms_Ref_599 hw) d_Ref_data_21 ln_Ref_in (by decide) (by first | exact Nat.le_of_ble_eq_true rfl | (simp only [List.map_cons, List.map_nil, List.sum_cons, List.sum_nil, va_rf_cat]; exact Nat.le_of_ble_eq_true rfl)) rfl (p_Ref_in hw hG hq12) ?_ (fun E h' n' x' e1 => by cases e1.1)
    intro v9 h9 n9 x9 e9
    obtain ⟨e91, e92, e93⟩ := e9
    cases e91
    subst e92
    subst e93
    clear x
    rename Bool => x
    show J _ _ _ _ (_ :: _) _ _ _ _ _ _
    refine J_if_eq (tgt := 31) d_Ref_data_24 (by decide) ?_ ?_
    · intro c13
      rw [if_pos c13] at H
      refine J.drop [true, true, true] rfl ?_
      exact p_Ref_data_L31 hw hG  H
    · intro c13
      rw [if_neg c13] at H
      refine J_iconst (v := 0) d_Ref_data_27 (by decide) ?_
      refine J_goto (tgt := 32) d_Ref_data_28 (by decide) ?_
      refine J.drop [true, true, true] rfl ?_
      exact p_Ref_data_L32 hw hG  H
theorem ln_Ref_forget : (parseMethodDescriptor y_Ref_forget.desc).map (fun q => q.parameters.length) = some 0 := by decide +kernel
def f_Ref_forget_L13 (Γ : gm_T)  (φ : ph_T) (x0 : Nat) (y0 : Int32) (y1 : Nat) : Option (Int32 × ph_T) :=
  @ite _ (Γ y1 = .inr 12) _ (
  @ite _ (Γ x0 = .inr 12) _ (
  if ((uI φ y1 0 y0).1 x0 0) ≤ 0 then
    some (((uI φ y1 0 y0).1 x0 15), (uI (uI φ y1 0 y0) x0 15 (0 : Int32)))
  else
    some ((0 : Int32), (uI φ y1 0 y0))
  ) none
  ) none
set_option maxRecDepth 100000 in
set_option maxHeartbeats 4000000 in
theorem p_Ref_forget_L13 {w : jw_T} (hw : jok w) {Γ : gm_T} {n : Nat} (hG : gd w Γ n)  {x : Bool} {φ : ph_T} {x0 : Nat} {y0 : Int32} {y1 : Nat} {q : Int32 × ph_T} (H : f_Ref_forget_L13 Γ  φ x0 y0 y1 = some q) : J w M_Ref_forget 13 [some (.ref x0), none] [.int y0, .ref y1] (pic Γ φ) n x 0 0 (fq Γ n (.inl (some (.int q.1))) q.2) := by
  unfold f_Ref_forget_L13 at H
  have g1 : Γ y1 = .inr 12 := by
    apply Classical.byContradiction
    intro q9
    rw [if_neg q9] at H
    cases H
  rw [if_pos g1] at H
  refine F_putI (ci := 12) (k := 0) hG (cf_Ref hw) (fl_Ref_303 hw) (by decide) (by decide) rfl d_Ref_forget_13 rfl rfl rfl g1 ?_
  refine J_aload_n d_Ref_forget_16 rfl ?_
  have g2 : Γ x0 = .inr 12 := by
    apply Classical.byContradiction
    intro q9
    rw [if_neg q9] at H
    cases H
  rw [if_pos g2] at H
  refine F_getI (ci := 12) (k := 0) hG (cf_Ref hw) (fl_Ref_303 hw) (by decide) (by decide) rfl d_Ref_forget_17 g2 ?_
  refine J_if_le (tgt := 25) d_Ref_forget_20 (by decide) ?_ ?_
  · intro c3
    rw [if_pos c3] at H
    refine J_aload_n d_Ref_forget_25 rfl ?_
    refine F_getI (ci := 12) (k := 15) hG (cf_Ref hw) (fl_Ref_337 hw) (by decide) (by decide) rfl d_Ref_forget_26 g2 ?_
    refine J_istore_n d_Ref_forget_29 (Nat.le_of_ble_eq_true rfl) ?_
    refine J.ls (ls' := [some (.ref x0), some (.int ((uI φ y1 0 y0).1 x0 15))]) rfl ?_
    refine J_aload_n d_Ref_forget_30 rfl ?_
    refine J_iconst (v := 0) d_Ref_forget_31 (by decide) ?_
    refine F_putI (ci := 12) (k := 15) hG (cf_Ref hw) (fl_Ref_337 hw) (by decide) (by decide) rfl d_Ref_forget_32 rfl rfl rfl g2 ?_
    refine J_iload_n d_Ref_forget_35 rfl ?_
    have H := Option.some.inj H
    subst H
    exact J_iret (st := []) d_Ref_forget_36 rfl rfl ⟨rfl, rfl, rfl⟩
  · intro c3
    rw [if_neg c3] at H
    refine J_iconst (v := 0) d_Ref_forget_23 (by decide) ?_
    have H := Option.some.inj H
    subst H
    exact J_iret (st := []) d_Ref_forget_24 rfl rfl ⟨rfl, rfl, rfl⟩
def f_Ref_forget (Γ : gm_T) (φ : ph_T) (this : Nat) : Option (Int32 × ph_T) :=
  @ite _ (Γ this = .inr 12) _ (
  Option.bind (f_Ref_open Γ φ this) fun q5 =>
  if q5.1 ≤ 0 then
    f_Ref_forget_L13 Γ  q5.2 this (0 : Int32) this
  else
    f_Ref_forget_L13 Γ  q5.2 this (1 : Int32) this
  ) none
set_option maxRecDepth 100000 in
set_option maxHeartbeats 4000000 in
theorem p_Ref_forget {w : jw_T} (hw : jok w) {Γ : gm_T} {n : Nat} (hG : gd w Γ n) {x : Bool} {φ : ph_T} {this : Nat} {q : Int32 × ph_T} (H : f_Ref_forget Γ φ this = some q) : jc w M_Ref_forget [.ref this] (pic Γ φ) n x 0 0 (fq Γ n (.inl (some (.int q.1))) q.2) := by
  refine jc.of (by simp only [jent_r, jent_i, jent_l, jent_a, jent_0]; exact Nat.le_of_ble_eq_true rfl) ?_
  have hls : jents [.ref this] (jm_nL M_Ref_forget) = [some (.ref this), none] := by simp only [jents, jent_r, jent_i, jent_l, jent_a, jent_0]; rfl
  rw [hls]
  clear hls
  unfold f_Ref_forget at H
  refine J_aload_n d_Ref_forget_0 rfl ?_
  refine J_aload_n d_Ref_forget_1 rfl ?_
  have g4 : Γ this = .inr 12 := by
    apply Classical.byContradiction
    intro q9
    rw [if_neg q9] at H
    cases H
  rw [if_pos g4] at H
  obtain ⟨q5, hq5, H⟩ := Option.bind_eq_some_iff.mp H
  refine J_callV (kc := 0) (ks := 0) (kc' := 0) (ks' := 0) (a := this) (ci := 12) (as := []) (st := [.ref this]) (mf_Ref_open hw) (mv_Ref_605 hw) d_Ref_forget_2 ln_Ref_open (by decide) (by first | exact Nat.le_of_ble_eq_true rfl | (simp only [List.map_cons, List.map_nil, List.sum_cons, List.sum_nil, va_rf_cat]; exact Nat.le_of_ble_eq_true rfl)) rfl ((hG _).1 _ g4 (by decide)).1 ((hG _).1 _ g4 (by decide)).2 (by unfold pic; rw [g4]; rfl) (jcl_at hw rfl) rfl (p_Ref_open hw hG hq5) ?_ (fun E h' n' x' e1 => by cases e1.1)
  intro v9 h9 n9 x9 e9
  obtain ⟨e91, e92, e93⟩ := e9
  cases e91
  subst e92
  subst e93
  clear x
  rename Bool => x
  show J _ _ _ _ (_ :: _) _ _ _ _ _ _
  refine J_if_le (tgt := 12) d_Ref_forget_5 (by decide) ?_ ?_
  · intro c6
    rw [if_pos c6] at H
    refine J_iconst (v := 0) d_Ref_forget_12 (by decide) ?_
    refine J.drop [true, false] rfl ?_
    exact p_Ref_forget_L13 hw hG  H
  · intro c6
    rw [if_neg c6] at H
    refine J_iconst (v := 1) d_Ref_forget_8 (by decide) ?_
    refine J_goto (tgt := 13) d_Ref_forget_9 (by decide) ?_
    refine J.drop [true, false] rfl ?_
    exact p_Ref_forget_L13 hw hG  H
theorem ln_Ref_isSide : (parseMethodDescriptor y_Ref_isSide.desc).map (fun q => q.parameters.length) = some 2 := by decide +kernel
def f_Ref_isSide_L46 (Γ : gm_T)  (φ : ph_T) (y0 : Int32) : Option (Int32 × ph_T) :=
  @ite _ (y0 = 0 ∨ y0 = 1) _ (
  some (y0, φ)
  ) none
set_option maxRecDepth 100000 in
set_option maxHeartbeats 4000000 in
theorem p_Ref_isSide_L46 {w : jw_T} (hw : jok w) {Γ : gm_T} {n : Nat} (hG : gd w Γ n)  {x : Bool} {φ : ph_T} {y0 : Int32} {q : Int32 × ph_T} (H : f_Ref_isSide_L46 Γ  φ y0 = some q) : J w M_Ref_isSide 46 [none, none, none] [.int y0] (pic Γ φ) n x 0 0 (fq Γ n (.inl (some (.int q.1))) q.2) := by
  unfold f_Ref_isSide_L46 at H
  have z1 : y0 = 0 ∨ y0 = 1 := by
    apply Classical.byContradiction
    intro q9
    rw [if_neg q9] at H
    cases H
  rw [if_pos z1] at H
  have H := Option.some.inj H
  subst H
  exact J_iret (st := []) d_Ref_isSide_46 rfl (narrow_z z1).1 ⟨rfl, rfl, rfl⟩
def f_Ref_isSide_L45 (Γ : gm_T)  (φ : ph_T) : Option (Int32 × ph_T) :=
  f_Ref_isSide_L46 Γ  φ (0 : Int32)
set_option maxRecDepth 100000 in
set_option maxHeartbeats 4000000 in
theorem p_Ref_isSide_L45 {w : jw_T} (hw : jok w) {Γ : gm_T} {n : Nat} (hG : gd w Γ n)  {x : Bool} {φ : ph_T} {q : Int32 × ph_T} (H : f_Ref_isSide_L45 Γ  φ  = some q) : J w M_Ref_isSide 45 [none, none, none] [] (pic Γ φ) n x 0 0 (fq Γ n (.inl (some (.int q.1))) q.2) := by
  unfold f_Ref_isSide_L45 at H
  refine J_iconst (v := 0) d_Ref_isSide_45 (by decide) ?_
  refine J.drop [false, false, false] rfl ?_
  exact p_Ref_isSide_L46 hw hG  H
def f_Ref_isSide (Γ : gm_T) (φ : ph_T) (this : Nat) (p0 : Int32) (p1 : Int32) : Option (Int32 × ph_T) :=
  if p0 = 0 then
    @ite _ (Γ this = .inr 12) _ (
    Option.bind (f_Ref_in Γ φ (Int32.toInt64 p1) (0 : Int64) ((Int32.toInt64 (φ.1 this 1)) - (1 : Int64))) fun q7 =>
    f_Ref_isSide_L46 Γ  q7.2 q7.1
    ) none
  else
    if p0 = (1 : Int32) then
      @ite _ (Γ this = .inr 12) _ (
      Option.bind (f_Ref_in Γ φ (Int32.toInt64 p1) (0 : Int64) ((Int32.toInt64 (φ.1 this 2)) - (1 : Int64))) fun q3 =>
      if q3.1 = 0 then
        f_Ref_isSide_L45 Γ  q3.2 
      else
        f_Ref_isSide_L46 Γ  q3.2 (1 : Int32)
      ) none
    else
      f_Ref_isSide_L45 Γ  φ 
set_option maxRecDepth 100000 in
set_option maxHeartbeats 4000000 in
theorem p_Ref_isSide {w : jw_T} (hw : jok w) {Γ : gm_T} {n : Nat} (hG : gd w Γ n) {x : Bool} {φ : ph_T} {this : Nat} {p0 : Int32} {p1 : Int32} {q : Int32 × ph_T} (H : f_Ref_isSide Γ φ this p0 p1 = some q) : jc w M_Ref_isSide [.ref this, .int p0, .int p1] (pic Γ φ) n x 0 0 (fq Γ n (.inl (some (.int q.1))) q.2) := by
  refine jc.of (by simp only [jent_r, jent_i, jent_l, jent_a, jent_0]; exact Nat.le_of_ble_eq_true rfl) ?_
  have hls : jents [.ref this, .int p0, .int p1] (jm_nL M_Ref_isSide) = [some (.ref this), some (.int p0), some (.int p1)] := by simp only [jents, jent_r, jent_i, jent_l, jent_a, jent_0]; rfl
  rw [hls]
  clear hls
  unfold f_Ref_isSide at H
  refine J_iload_n d_Ref_isSide_0 rfl ?_
  refine J_if_ne (tgt := 20) d_Ref_isSide_1 (by decide) ?_ ?_
  · intro c8
    rw [if_neg c8] at H
    refine J_iload_n d_Ref_isSide_20 rfl ?_
    refine J_iconst (v := 1) d_Ref_isSide_21 (by decide) ?_
    refine J_icmp_ne (tgt := 45) d_Ref_isSide_22 (by decide) ?_ ?_
    · intro c5
      rw [if_neg c5] at H
      refine J.drop [false, false, false] rfl ?_
      exact p_Ref_isSide_L45 hw hG  H
    · intro c5
      rw [if_pos c5] at H
      refine J_iload_n d_Ref_isSide_25 rfl ?_
      refine J_i2l d_Ref_isSide_26 ?_
      refine J_lconst (v := 0) d_Ref_isSide_27 (by decide) ?_
      refine J_aload_n d_Ref_isSide_28 rfl ?_
      have g2 : Γ this = .inr 12 := by
        apply Classical.byContradiction
        intro q9
        rw [if_neg q9] at H
        cases H
      rw [if_pos g2] at H
      refine F_getI (ci := 12) (k := 2) hG (cf_Ref hw) (fl_Ref_294 hw) (by decide) (by decide) rfl d_Ref_isSide_29 g2 ?_
      refine J_i2l d_Ref_isSide_32 ?_
      refine J_lconst (v := 1) d_Ref_isSide_33 (by decide) ?_
      refine J_lsub d_Ref_isSide_34 ?_
      obtain ⟨q3, hq3, H⟩ := Option.bind_eq_some_iff.mp H
      refine J_callS (kc := 0) (ks := 0) (kc' := 0) (ks' := 0) (as := [.long (Int32.toInt64 p1), .long (0 : Int64), .long ((Int32.toInt64 (φ.1 this 2)) - (1 : Int64))]) (st := []) (mf_Ref_in hw) (ms_Ref_599 hw) d_Ref_isSide_35 ln_Ref_in (by decide) (by first | exact Nat.le_of_ble_eq_true rfl | (simp only [List.map_cons, List.map_nil, List.sum_cons, List.sum_nil, va_rf_cat]; exact Nat.le_of_ble_eq_true rfl)) rfl (p_Ref_in hw hG hq3) ?_ (fun E h' n' x' e1 => by cases e1.1)
      intro v9 h9 n9 x9 e9
      obtain ⟨e91, e92, e93⟩ := e9
      cases e91
      subst e92
      subst e93
      clear x
      rename Bool => x
      show J _ _ _ _ (_ :: _) _ _ _ _ _ _
      refine J_if_eq (tgt := 45) d_Ref_isSide_38 (by decide) ?_ ?_
      · intro c4
        rw [if_pos c4] at H
        refine J.drop [false, false, false] rfl ?_
        exact p_Ref_isSide_L45 hw hG  H
      · intro c4
        rw [if_neg c4] at H
        refine J_iconst (v := 1) d_Ref_isSide_41 (by decide) ?_
        refine J_goto (tgt := 46) d_Ref_isSide_42 (by decide) ?_
        refine J.drop [false, false, false] rfl ?_
        exact p_Ref_isSide_L46 hw hG  H
  · intro c8
    rw [if_pos c8] at H
    refine J_iload_n d_Ref_isSide_4 rfl ?_
    refine J_i2l d_Ref_isSide_5 ?_
    refine J_lconst (v := 0) d_Ref_isSide_6 (by decide) ?_
    refine J_aload_n d_Ref_isSide_7 rfl ?_
    have g6 : Γ this = .inr 12 := by
      apply Classical.byContradiction
      intro q9
      rw [if_neg q9] at H
      cases H
    rw [if_pos g6] at H
    refine F_getI (ci := 12) (k := 1) hG (cf_Ref hw) (fl_Ref_290 hw) (by decide) (by decide) rfl d_Ref_isSide_8 g6 ?_
    refine J_i2l d_Ref_isSide_11 ?_
    refine J_lconst (v := 1) d_Ref_isSide_12 (by decide) ?_
    refine J_lsub d_Ref_isSide_13 ?_
    obtain ⟨q7, hq7, H⟩ := Option.bind_eq_some_iff.mp H
    refine J_callS (kc := 0) (ks := 0) (kc' := 0) (ks' := 0) (as := [.long (Int32.toInt64 p1), .long (0 : Int64), .long ((Int32.toInt64 (φ.1 this 1)) - (1 : Int64))]) (st := []) (mf_Ref_in hw) (ms_Ref_599 hw) d_Ref_isSide_14 ln_Ref_in (by decide) (by first | exact Nat.le_of_ble_eq_true rfl | (simp only [List.map_cons, List.map_nil, List.sum_cons, List.sum_nil, va_rf_cat]; exact Nat.le_of_ble_eq_true rfl)) rfl (p_Ref_in hw hG hq7) ?_ (fun E h' n' x' e1 => by cases e1.1)
    intro v9 h9 n9 x9 e9
    obtain ⟨e91, e92, e93⟩ := e9
    cases e91
    subst e92
    subst e93
    clear x
    rename Bool => x
    show J _ _ _ _ (_ :: _) _ _ _ _ _ _
    refine J_goto (tgt := 46) d_Ref_isSide_17 (by decide) ?_
    refine J.drop [false, false, false] rfl ?_
    exact p_Ref_isSide_L46 hw hG  H
theorem ln_Ref_wireOf : (parseMethodDescriptor y_Ref_wireOf.desc).map (fun q => q.parameters.length) = some 3 := by decide +kernel
def f_Ref_wireOf (Γ : gm_T) (φ : ph_T) (p0 : Int32) (p1 : Int32) (p2 : Int32) : Option (Int32 × ph_T) :=
  some ((((5 : Int32) * (((4 : Int32) * p0) + p1)) + p2), φ)
set_option maxRecDepth 100000 in
set_option maxHeartbeats 4000000 in
theorem p_Ref_wireOf {w : jw_T} (hw : jok w) {Γ : gm_T} {n : Nat} (hG : gd w Γ n) {x : Bool} {φ : ph_T} {p0 : Int32} {p1 : Int32} {p2 : Int32} {q : Int32 × ph_T} (H : f_Ref_wireOf Γ φ p0 p1 p2 = some q) : jc w M_Ref_wireOf [.int p0, .int p1, .int p2] (pic Γ φ) n x 0 0 (fq Γ n (.inl (some (.int q.1))) q.2) := by
  refine jc.of (by simp only [jent_r, jent_i, jent_l, jent_a, jent_0]; exact Nat.le_of_ble_eq_true rfl) ?_
  have hls : jents [.int p0, .int p1, .int p2] (jm_nL M_Ref_wireOf) = [some (.int p0), some (.int p1), some (.int p2)] := by simp only [jents, jent_r, jent_i, jent_l, jent_a, jent_0]; rfl
  rw [hls]
  clear hls
  unfold f_Ref_wireOf at H
  refine J_iconst (v := 5) d_Ref_wireOf_0 (by decide) ?_
  refine J_iconst (v := 4) d_Ref_wireOf_1 (by decide) ?_
  refine J_iload_n d_Ref_wireOf_2 rfl ?_
  refine J_imul d_Ref_wireOf_3 ?_
  refine J_iload_n d_Ref_wireOf_4 rfl ?_
  refine J_iadd d_Ref_wireOf_5 ?_
  refine J_imul d_Ref_wireOf_6 ?_
  refine J_iload_n d_Ref_wireOf_7 rfl ?_
  refine J_iadd d_Ref_wireOf_8 ?_
  have H := Option.some.inj H
  subst H
  exact J_iret (st := []) d_Ref_wireOf_9 rfl rfl ⟨rfl, rfl, rfl⟩
theorem ln_Ref_wire : (parseMethodDescriptor y_Ref_wire.desc).map (fun q => q.parameters.length) = some 4 := by decide +kernel
def f_Ref_wire_L118 (Γ : gm_T)  (φ : ph_T) (y0 : Int32) : Option (Int32 × ph_T) :=
  some (y0, φ)
set_option maxRecDepth 100000 in
set_option maxHeartbeats 4000000 in
theorem p_Ref_wire_L118 {w : jw_T} (hw : jok w) {Γ : gm_T} {n : Nat} (hG : gd w Γ n)  {x : Bool} {φ : ph_T} {y0 : Int32} {q : Int32 × ph_T} (H : f_Ref_wire_L118 Γ  φ y0 = some q) : J w M_Ref_wire 118 [none, none, none, none, none, none] [.int y0] (pic Γ φ) n x 0 0 (fq Γ n (.inl (some (.int q.1))) q.2) := by
  unfold f_Ref_wire_L118 at H
  have H := Option.some.inj H
  subst H
  exact J_iret (st := []) d_Ref_wire_118 rfl rfl ⟨rfl, rfl, rfl⟩
def f_Ref_wire_L44 (Γ : gm_T)  (φ : ph_T) (x0 : Nat) (x1 : Int32) (x2 : Int32) (x3 : Int32) (x4 : Int32) (y0 : Int32) (y1 : Nat) : Option (Int32 × ph_T) :=
  @ite _ (Γ y1 = .inr 12) _ (
  @ite _ (Γ x0 = .inr 12) _ (
  if ((uI φ y1 0 y0).1 x0 0) ≤ 0 then
    Option.bind (f_Ref_wireOf Γ (uI φ y1 0 y0) x1 x2 x3) fun q3 =>
    if x4 = 0 then
      Option.bind (q3.2.2.2 x0 33) fun a12 =>
      Option.bind (gA Γ a12 2) fun N13 =>
      Option.bind (ix q3.1 N13) fun k14 =>
      if (q3.2.1 a12 k14) = 0 then
        f_Ref_wire_L118 Γ  q3.2 (0 : Int32)
      else
        f_Ref_wire_L118 Γ  q3.2 (1 : Int32)
    else
      if x4 = (1 : Int32) then
        Option.bind (q3.2.2.2 x0 34) fun a7 =>
        Option.bind (gA Γ a7 2) fun N8 =>
        Option.bind (ix q3.1 N8) fun k9 =>
        if (q3.2.1 a7 k9) = 0 then
          f_Ref_wire_L118 Γ  q3.2 (0 : Int32)
        else
          f_Ref_wire_L118 Γ  q3.2 (1 : Int32)
      else
        Option.bind (q3.2.2.2 x0 36) fun a4 =>
        Option.bind (gA Γ a4 0) fun N5 =>
        Option.bind (ix q3.1 N5) fun k6 =>
        f_Ref_wire_L118 Γ  q3.2 (q3.2.1 a4 k6)
  else
    some ((0 : Int32), (uI φ y1 0 y0))
  ) none
  ) none
set_option maxRecDepth 100000 in
set_option maxHeartbeats 4000000 in
theorem p_Ref_wire_L44 {w : jw_T} (hw : jok w) {Γ : gm_T} {n : Nat} (hG : gd w Γ n)  {x : Bool} {φ : ph_T} {x0 : Nat} {x1 : Int32} {x2 : Int32} {x3 : Int32} {x4 : Int32} {y0 : Int32} {y1 : Nat} {q : Int32 × ph_T} (H : f_Ref_wire_L44 Γ  φ x0 x1 x2 x3 x4 y0 y1 = some q) : J w M_Ref_wire 44 [some (.ref x0), some (.int x1), some (.int x2), some (.int x3), some (.int x4), none] [.int y0, .ref y1] (pic Γ φ) n x 0 0 (fq Γ n (.inl (some (.int q.1))) q.2) := by
  unfold f_Ref_wire_L44 at H
  have g1 : Γ y1 = .inr 12 := by
    apply Classical.byContradiction
    intro q9
    rw [if_neg q9] at H
    cases H
  rw [if_pos g1] at H
  refine F_putI (ci := 12) (k := 0) hG (cf_Ref hw) (fl_Ref_303 hw) (by decide) (by decide) rfl d_Ref_wire_44 rfl rfl rfl g1 ?_
  refine J_aload_n d_Ref_wire_47 rfl ?_
  have g2 : Γ x0 = .inr 12 := by
    apply Classical.byContradiction
    intro q9
    rw [if_neg q9] at H
    cases H
  rw [if_pos g2] at H
  refine F_getI (ci := 12) (k := 0) hG (cf_Ref hw) (fl_Ref_303 hw) (by decide) (by decide) rfl d_Ref_wire_48 g2 ?_
  refine J_if_le (tgt := 56) d_Ref_wire_51 (by decide) ?_ ?_
  · intro c17
    rw [if_pos c17] at H
    refine J_iload_n d_Ref_wire_56 rfl ?_
    refine J_iload_n d_Ref_wire_57 rfl ?_
    refine J_iload_n d_Ref_wire_58 rfl ?_
    obtain ⟨q3, hq3, H⟩ := Option.bind_eq_some_iff.mp H
    refine J_callS (kc := 0) (ks := 0) (kc' := 0) (ks' := 0) (as := [.int x1, .int x2, .int x3]) (st := []) (mf_Ref_wireOf hw) (ms_Ref_631 hw) d_Ref_wire_59 ln_Ref_wireOf (by decide) (by first | exact Nat.le_of_ble_eq_true rfl | (simp only [List.map_cons, List.map_nil, List.sum_cons, List.sum_nil, va_rf_cat]; exact Nat.le_of_ble_eq_true rfl)) rfl (p_Ref_wireOf hw hG hq3) ?_ (fun E h' n' x' e1 => by cases e1.1)
    intro v9 h9 n9 x9 e9
    obtain ⟨e91, e92, e93⟩ := e9
    cases e91
    subst e92
    subst e93
    clear x
    rename Bool => x
    show J _ _ _ _ (_ :: _) _ _ _ _ _ _
    refine J_istore d_Ref_wire_62 (Nat.le_of_ble_eq_true rfl) ?_
    refine J.ls (ls' := [some (.ref x0), some (.int x1), some (.int x2), some (.int x3), some (.int x4), some (.int q3.1)]) rfl ?_
    refine J_iload d_Ref_wire_64 rfl ?_
    refine J_if_ne (tgt := 87) d_Ref_wire_66 (by decide) ?_ ?_
    · intro c16
      rw [if_neg c16] at H
      refine J_iload d_Ref_wire_87 rfl ?_
      refine J_iconst (v := 1) d_Ref_wire_89 (by decide) ?_
      refine J_icmp_ne (tgt := 111) d_Ref_wire_90 (by decide) ?_ ?_
      · intro c11
        rw [if_neg c11] at H
        refine J_aload_n d_Ref_wire_111 rfl ?_
        refine F_getR (ci := 12) (k := 36) hG (cf_Ref hw) (fl_Ref_97 hw) (by decide) (by decide) rfl d_Ref_wire_112 g2 ?_
        refine J_iload d_Ref_wire_115 rfl ?_
        obtain ⟨a4, ha4, H⟩ := Option.bind_eq_some_iff.mp H
        rw [j_rf ha4]
        obtain ⟨N5, hN5, H⟩ := Option.bind_eq_some_iff.mp H
        obtain ⟨k6, hk6, H⟩ := Option.bind_eq_some_iff.mp H
        refine F_iald k6 hw hG d_Ref_wire_117 (gA_some hN5) (ix_some hk6) ?_
        refine J.drop [false, false, false, false, false, false] rfl ?_
        exact p_Ref_wire_L118 hw hG  H
      · intro c11
        rw [if_pos c11] at H
        refine J_aload_n d_Ref_wire_93 rfl ?_
        refine F_getR (ci := 12) (k := 34) hG (cf_Ref hw) (fl_Ref_91 hw) (by decide) (by decide) rfl d_Ref_wire_94 g2 ?_
        refine J_iload d_Ref_wire_97 rfl ?_
        obtain ⟨a7, ha7, H⟩ := Option.bind_eq_some_iff.mp H
        rw [j_rf ha7]
        obtain ⟨N8, hN8, H⟩ := Option.bind_eq_some_iff.mp H
        obtain ⟨k9, hk9, H⟩ := Option.bind_eq_some_iff.mp H
        refine F_zald k9 hw hG d_Ref_wire_99 (gA_some hN8) (ix_some hk9) ?_
        refine J_if_eq (tgt := 107) d_Ref_wire_100 (by decide) ?_ ?_
        · intro c10
          rw [if_pos c10] at H
          refine J_iconst (v := 0) d_Ref_wire_107 (by decide) ?_
          refine J_goto (tgt := 118) d_Ref_wire_108 (by decide) ?_
          refine J.drop [false, false, false, false, false, false] rfl ?_
          exact p_Ref_wire_L118 hw hG  H
        · intro c10
          rw [if_neg c10] at H
          refine J_iconst (v := 1) d_Ref_wire_103 (by decide) ?_
          refine J_goto (tgt := 118) d_Ref_wire_104 (by decide) ?_
          refine J.drop [false, false, false, false, false, false] rfl ?_
          exact p_Ref_wire_L118 hw hG  H
    · intro c16
      rw [if_pos c16] at H
      refine J_aload_n d_Ref_wire_69 rfl ?_
      refine F_getR (ci := 12) (k := 33) hG (cf_Ref hw) (fl_Ref_88 hw) (by decide) (by decide) rfl d_Ref_wire_70 g2 ?_
      refine J_iload d_Ref_wire_73 rfl ?_
      obtain ⟨a12, ha12, H⟩ := Option.bind_eq_some_iff.mp H
      rw [j_rf ha12]
      obtain ⟨N13, hN13, H⟩ := Option.bind_eq_some_iff.mp H
      obtain ⟨k14, hk14, H⟩ := Option.bind_eq_some_iff.mp H
      refine F_zald k14 hw hG d_Ref_wire_75 (gA_some hN13) (ix_some hk14) ?_
      refine J_if_eq (tgt := 83) d_Ref_wire_76 (by decide) ?_ ?_
      · intro c15
        rw [if_pos c15] at H
        refine J_iconst (v := 0) d_Ref_wire_83 (by decide) ?_
        refine J_goto (tgt := 118) d_Ref_wire_84 (by decide) ?_
        refine J.drop [false, false, false, false, false, false] rfl ?_
        exact p_Ref_wire_L118 hw hG  H
      · intro c15
        rw [if_neg c15] at H
        refine J_iconst (v := 1) d_Ref_wire_79 (by decide) ?_
        refine J_goto (tgt := 118) d_Ref_wire_80 (by decide) ?_
        refine J.drop [false, false, false, false, false, false] rfl ?_
        exact p_Ref_wire_L118 hw hG  H
  · intro c17
    rw [if_neg c17] at H
    refine J_iconst (v := 0) d_Ref_wire_54 (by decide) ?_
    have H := Option.some.inj H
    subst H
    exact J_iret (st := []) d_Ref_wire_55 rfl rfl ⟨rfl, rfl, rfl⟩
def f_Ref_wire_L22 (Γ : gm_T)  (φ : ph_T) (x0 : Nat) (x1 : Int32) (x2 : Int32) (x3 : Int32) (x4 : Int32) (y0 : Nat) : Option (Int32 × ph_T) :=
  f_Ref_wire_L44 Γ  φ x0 x1 x2 x3 x4 (1 : Int32) y0
set_option maxRecDepth 100000 in
set_option maxHeartbeats 4000000 in
theorem p_Ref_wire_L22 {w : jw_T} (hw : jok w) {Γ : gm_T} {n : Nat} (hG : gd w Γ n)  {x : Bool} {φ : ph_T} {x0 : Nat} {x1 : Int32} {x2 : Int32} {x3 : Int32} {x4 : Int32} {y0 : Nat} {q : Int32 × ph_T} (H : f_Ref_wire_L22 Γ  φ x0 x1 x2 x3 x4 y0 = some q) : J w M_Ref_wire 22 [some (.ref x0), some (.int x1), some (.int x2), some (.int x3), some (.int x4), none] [.ref y0] (pic Γ φ) n x 0 0 (fq Γ n (.inl (some (.int q.1))) q.2) := by
  unfold f_Ref_wire_L22 at H
  refine J_iconst (v := 1) d_Ref_wire_22 (by decide) ?_
  refine J_goto (tgt := 44) d_Ref_wire_23 (by decide) ?_
  refine J.drop [true, true, true, true, true, false] rfl ?_
  exact p_Ref_wire_L44 hw hG  H
def f_Ref_wire (Γ : gm_T) (φ : ph_T) (this : Nat) (p0 : Int32) (p1 : Int32) (p2 : Int32) (p3 : Int32) : Option (Int32 × ph_T) :=
  @ite _ (Γ this = .inr 12) _ (
  Option.bind (f_Ref_isSide Γ φ this p0 p1) fun q19 =>
  if q19.1 = 0 then
    f_Ref_wire_L22 Γ  q19.2 this p0 p1 p2 p3 this
  else
    Option.bind (f_Ref_in Γ q19.2 (Int32.toInt64 p2) (0 : Int64) (4 : Int64)) fun q20 =>
    if q20.1 = 0 then
      f_Ref_wire_L22 Γ  q20.2 this p0 p1 p2 p3 this
    else
      Option.bind (f_Ref_in Γ q20.2 (Int32.toInt64 p3) (0 : Int64) (2 : Int64)) fun q21 =>
      if q21.1 = 0 then
        f_Ref_wire_L44 Γ  q21.2 this p0 p1 p2 p3 (2 : Int32) this
      else
        f_Ref_wire_L44 Γ  q21.2 this p0 p1 p2 p3 (0 : Int32) this
  ) none
set_option maxRecDepth 100000 in
set_option maxHeartbeats 4000000 in
theorem p_Ref_wire {w : jw_T} (hw : jok w) {Γ : gm_T} {n : Nat} (hG : gd w Γ n) {x : Bool} {φ : ph_T} {this : Nat} {p0 : Int32} {p1 : Int32} {p2 : Int32} {p3 : Int32} {q : Int32 × ph_T} (H : f_Ref_wire Γ φ this p0 p1 p2 p3 = some q) : jc w M_Ref_wire [.ref this, .int p0, .int p1, .int p2, .int p3] (pic Γ φ) n x 0 0 (fq Γ n (.inl (some (.int q.1))) q.2) := by
  refine jc.of (by simp only [jent_r, jent_i, jent_l, jent_a, jent_0]; exact Nat.le_of_ble_eq_true rfl) ?_
  have hls : jents [.ref this, .int p0, .int p1, .int p2, .int p3] (jm_nL M_Ref_wire) = [some (.ref this), some (.int p0), some (.int p1), some (.int p2), some (.int p3), none] := by simp only [jents, jent_r, jent_i, jent_l, jent_a, jent_0]; rfl
  rw [hls]
  clear hls
  unfold f_Ref_wire at H
  refine J_aload_n d_Ref_wire_0 rfl ?_
  refine J_aload_n d_Ref_wire_1 rfl ?_
  refine J_iload_n d_Ref_wire_2 rfl ?_
  refine J_iload_n d_Ref_wire_3 rfl ?_
  have g18 : Γ this = .inr 12 := by
    apply Classical.byContradiction
    intro q9
    rw [if_neg q9] at H
    cases H
  rw [if_pos g18] at H
  obtain ⟨q19, hq19, H⟩ := Option.bind_eq_some_iff.mp H
  refine J_callV (kc := 0) (ks := 0) (kc' := 0) (ks' := 0) (a := this) (ci := 12) (as := [.int p0, .int p1]) (st := [.ref this]) (mf_Ref_isSide hw) (mv_Ref_628 hw) d_Ref_wire_4 ln_Ref_isSide (by decide) (by first | exact Nat.le_of_ble_eq_true rfl | (simp only [List.map_cons, List.map_nil, List.sum_cons, List.sum_nil, va_rf_cat]; exact Nat.le_of_ble_eq_true rfl)) rfl ((hG _).1 _ g18 (by decide)).1 ((hG _).1 _ g18 (by decide)).2 (by unfold pic; rw [g18]; rfl) (jcl_at hw rfl) rfl (p_Ref_isSide hw hG hq19) ?_ (fun E h' n' x' e1 => by cases e1.1)
  intro v9 h9 n9 x9 e9
  obtain ⟨e91, e92, e93⟩ := e9
  cases e91
  subst e92
  subst e93
  clear x
  rename Bool => x
  show J _ _ _ _ (_ :: _) _ _ _ _ _ _
  refine J_if_eq (tgt := 22) d_Ref_wire_7 (by decide) ?_ ?_
  · intro c24
    rw [if_pos c24] at H
    refine J.drop [true, true, true, true, true, false] rfl ?_
    exact p_Ref_wire_L22 hw hG  H
  · intro c24
    rw [if_neg c24] at H
    refine J_iload_n d_Ref_wire_10 rfl ?_
    refine J_i2l d_Ref_wire_11 ?_
    refine J_lconst (v := 0) d_Ref_wire_12 (by decide) ?_
    refine J_ldc2 (v := 4) d_Ref_wire_13 (kn_Ref_609 hw) ?_
    obtain ⟨q20, hq20, H⟩ := Option.bind_eq_some_iff.mp H
    refine J_callS (kc := 0) (ks := 0) (kc' := 0) (ks' := 0) (as := [.long (Int32.toInt64 p2), .long (0 : Int64), .long (4 : Int64)]) (st := [.ref this]) (mf_Ref_in hw) (ms_Ref_599 hw) d_Ref_wire_16 ln_Ref_in (by decide) (by first | exact Nat.le_of_ble_eq_true rfl | (simp only [List.map_cons, List.map_nil, List.sum_cons, List.sum_nil, va_rf_cat]; exact Nat.le_of_ble_eq_true rfl)) rfl (p_Ref_in hw hG hq20) ?_ (fun E h' n' x' e1 => by cases e1.1)
    intro v9 h9 n9 x9 e9
    obtain ⟨e91, e92, e93⟩ := e9
    cases e91
    subst e92
    subst e93
    clear x
    rename Bool => x
    show J _ _ _ _ (_ :: _) _ _ _ _ _ _
    refine J_if_ne (tgt := 26) d_Ref_wire_19 (by decide) ?_ ?_
    · intro c23
      rw [if_neg c23] at H
      refine J_iload d_Ref_wire_26 rfl ?_
      refine J_i2l d_Ref_wire_28 ?_
      refine J_lconst (v := 0) d_Ref_wire_29 (by decide) ?_
      refine J_ldc2 (v := 2) d_Ref_wire_30 (kn_Ref_612 hw) ?_
      obtain ⟨q21, hq21, H⟩ := Option.bind_eq_some_iff.mp H
      refine J_callS (kc := 0) (ks := 0) (kc' := 0) (ks' := 0) (as := [.long (Int32.toInt64 p3), .long (0 : Int64), .long (2 : Int64)]) (st := [.ref this]) (mf_Ref_in hw) (ms_Ref_599 hw) d_Ref_wire_33 ln_Ref_in (by decide) (by first | exact Nat.le_of_ble_eq_true rfl | (simp only [List.map_cons, List.map_nil, List.sum_cons, List.sum_nil, va_rf_cat]; exact Nat.le_of_ble_eq_true rfl)) rfl (p_Ref_in hw hG hq21) ?_ (fun E h' n' x' e1 => by cases e1.1)
      intro v9 h9 n9 x9 e9
      obtain ⟨e91, e92, e93⟩ := e9
      cases e91
      subst e92
      subst e93
      clear x
      rename Bool => x
      show J _ _ _ _ (_ :: _) _ _ _ _ _ _
      refine J_if_ne (tgt := 43) d_Ref_wire_36 (by decide) ?_ ?_
      · intro c22
        rw [if_neg c22] at H
        refine J_iconst (v := 0) d_Ref_wire_43 (by decide) ?_
        refine J.drop [true, true, true, true, true, false] rfl ?_
        exact p_Ref_wire_L44 hw hG  H
      · intro c22
        rw [if_pos c22] at H
        refine J_iconst (v := 2) d_Ref_wire_39 (by decide) ?_
        refine J_goto (tgt := 44) d_Ref_wire_40 (by decide) ?_
        refine J.drop [true, true, true, true, true, false] rfl ?_
        exact p_Ref_wire_L44 hw hG  H
    · intro c23
      rw [if_pos c23] at H
      refine J.drop [true, true, true, true, true, false] rfl ?_
      exact p_Ref_wire_L22 hw hG  H
