theorem ln_Ref_thrown : (parseMethodDescriptor y_Ref_thrown.desc).map (fun q => q.parameters.length) = some 0 := by decide +kernel
def f_Ref_thrown (Γ : gm_T) (φ : ph_T) (this : Nat) : Option (Int32 × ph_T) :=
  @ite _ (Γ this = .inr 12) _ (
  some ((φ.1 this 0), φ)
  ) none
set_option maxRecDepth 100000 in
set_option maxHeartbeats 4000000 in
theorem p_Ref_thrown {w : jw_T} (hw : jok w) {Γ : gm_T} {n : Nat} (hG : gd w Γ n) {x : Bool} {φ : ph_T} {this : Nat} {q : Int32 × ph_T} (H : f_Ref_thrown Γ φ this = some q) : jc w M_Ref_thrown [.ref this] (pic Γ φ) n x 0 0 (fq Γ n (.inl (some (.int q.1))) q.2) := by
  refine jc.of (by simp only [jent_r, jent_i, jent_l, jent_a, jent_0]; exact Nat.le_of_ble_eq_true rfl) ?_
  have hls : jents [.ref this] (jm_nL M_Ref_thrown) = [some (.ref this)] := by simp only [jents, jent_r, jent_i, jent_l, jent_a, jent_0]; rfl
  rw [hls]
  clear hls
  unfold f_Ref_thrown at H
  refine J_aload_n d_Ref_thrown_0 rfl ?_
  have g1 : Γ this = .inr 12 := by
    apply Classical.byContradiction
    intro q9
    rw [if_neg q9] at H
    cases H
  rw [if_pos g1] at H
  refine F_getI (ci := 12) (k := 0) hG (cf_Ref hw) (fl_Ref_303 hw) (by decide) (by decide) rfl d_Ref_thrown_1 g1 ?_
  have H := Option.some.inj H
  subst H
  exact J_iret (st := []) d_Ref_thrown_4 rfl rfl ⟨rfl, rfl, rfl⟩
theorem ln_Ref_in : (parseMethodDescriptor y_Ref_in.desc).map (fun q => q.parameters.length) = some 3 := by decide +kernel
def f_Ref_in_L18 (Γ : gm_T)  (φ : ph_T) (y0 : Int32) : Option (Int32 × ph_T) :=
  @ite _ (y0 = 0 ∨ y0 = 1) _ (
  some (y0, φ)
  ) none
set_option maxRecDepth 100000 in
set_option maxHeartbeats 4000000 in
theorem p_Ref_in_L18 {w : jw_T} (hw : jok w) {Γ : gm_T} {n : Nat} (hG : gd w Γ n)  {x : Bool} {φ : ph_T} {y0 : Int32} {q : Int32 × ph_T} (H : f_Ref_in_L18 Γ  φ y0 = some q) : J w M_Ref_in 18 [none, none, none, none, none, none] [.int y0] (pic Γ φ) n x 0 0 (fq Γ n (.inl (some (.int q.1))) q.2) := by
  unfold f_Ref_in_L18 at H
  have z1 : y0 = 0 ∨ y0 = 1 := by
    apply Classical.byContradiction
    intro q9
    rw [if_neg q9] at H
    cases H
  rw [if_pos z1] at H
  have H := Option.some.inj H
  subst H
  exact J_iret (st := []) d_Ref_in_18 rfl (narrow_z z1).1 ⟨rfl, rfl, rfl⟩
def f_Ref_in_L17 (Γ : gm_T)  (φ : ph_T) : Option (Int32 × ph_T) :=
  f_Ref_in_L18 Γ  φ (0 : Int32)
set_option maxRecDepth 100000 in
set_option maxHeartbeats 4000000 in
theorem p_Ref_in_L17 {w : jw_T} (hw : jok w) {Γ : gm_T} {n : Nat} (hG : gd w Γ n)  {x : Bool} {φ : ph_T} {q : Int32 × ph_T} (H : f_Ref_in_L17 Γ  φ  = some q) : J w M_Ref_in 17 [none, none, none, none, none, none] [] (pic Γ φ) n x 0 0 (fq Γ n (.inl (some (.int q.1))) q.2) := by
  unfold f_Ref_in_L17 at H
  refine J_iconst (v := 0) d_Ref_in_17 (by decide) ?_
  refine J.drop [false, false, false, false, false, false] rfl ?_
  exact p_Ref_in_L18 hw hG  H
def f_Ref_in (Γ : gm_T) (φ : ph_T) (p0 : Int64) (p1 : Int64) (p2 : Int64) : Option (Int32 × ph_T) :=
  if (lg_cmp p0 p1) < 0 then
    f_Ref_in_L17 Γ  φ 
  else
    if 0 < (lg_cmp p0 p2) then
      f_Ref_in_L17 Γ  φ 
    else
      f_Ref_in_L18 Γ  φ (1 : Int32)
set_option maxRecDepth 100000 in
set_option maxHeartbeats 4000000 in
theorem p_Ref_in {w : jw_T} (hw : jok w) {Γ : gm_T} {n : Nat} (hG : gd w Γ n) {x : Bool} {φ : ph_T} {p0 : Int64} {p1 : Int64} {p2 : Int64} {q : Int32 × ph_T} (H : f_Ref_in Γ φ p0 p1 p2 = some q) : jc w M_Ref_in [.long p0, .long p1, .long p2] (pic Γ φ) n x 0 0 (fq Γ n (.inl (some (.int q.1))) q.2) := by
  refine jc.of (by simp only [jent_r, jent_i, jent_l, jent_a, jent_0]; exact Nat.le_of_ble_eq_true rfl) ?_
  have hls : jents [.long p0, .long p1, .long p2] (jm_nL M_Ref_in) = [some (.long p0), none, some (.long p1), none, some (.long p2), none] := by simp only [jents, jent_r, jent_i, jent_l, jent_a, jent_0]; rfl
  rw [hls]
  clear hls
  unfold f_Ref_in at H
  refine J_lload_n d_Ref_in_0 rfl ?_
  refine J_lload_n d_Ref_in_1 rfl ?_
  refine J_lcmp d_Ref_in_2 ?_
  refine J_if_lt (tgt := 17) d_Ref_in_3 (by decide) ?_ ?_
  · intro c3
    rw [if_pos c3] at H
    refine J.drop [false, false, false, false, false, false] rfl ?_
    exact p_Ref_in_L17 hw hG  H
  · intro c3
    rw [if_neg c3] at H
    refine J_lload_n d_Ref_in_6 rfl ?_
    refine J_lload d_Ref_in_7 rfl ?_
    refine J_lcmp d_Ref_in_9 ?_
    refine J_if_gt (tgt := 17) d_Ref_in_10 (by decide) ?_ ?_
    · intro c2
      rw [if_pos c2] at H
      refine J.drop [false, false, false, false, false, false] rfl ?_
      exact p_Ref_in_L17 hw hG  H
    · intro c2
      rw [if_neg c2] at H
      refine J_iconst (v := 1) d_Ref_in_13 (by decide) ?_
      refine J_goto (tgt := 18) d_Ref_in_14 (by decide) ?_
      refine J.drop [false, false, false, false, false, false] rfl ?_
      exact p_Ref_in_L18 hw hG  H
theorem ln_Ref_open : (parseMethodDescriptor y_Ref_open.desc).map (fun q => q.parameters.length) = some 0 := by decide +kernel
def f_Ref_open_L28 (Γ : gm_T) (Kc4 : ph_T → Nat → Int32 → Int32 → Option (Int32 × ph_T)) (φ : ph_T) (x0 : Nat) (x2 : Int32) (y0 : Int32) (y1 : Int32) : Option (Int32 × ph_T) :=
  Kc4 φ x0 (y1 + y0) (x2 + (1 : Int32))
set_option maxRecDepth 100000 in
set_option maxHeartbeats 4000000 in
theorem p_Ref_open_L28 {w : jw_T} (hw : jok w) {Γ : gm_T} {n : Nat} (hG : gd w Γ n) {Kc4 : ph_T → Nat → Int32 → Int32 → Option (Int32 × ph_T)} (hKc4 : ∀ {x : Bool} {φ : ph_T} {x0 : Nat} {x1 : Int32} {x2 : Int32} {q : Int32 × ph_T}, Kc4 φ x0 x1 x2 = some q → J w M_Ref_open 4 [some (.ref x0), some (.int x1), some (.int x2)] [] (pic Γ φ) n x 0 0 (fq Γ n (.inl (some (.int q.1))) q.2)) {x : Bool} {φ : ph_T} {x0 : Nat} {x2 : Int32} {y0 : Int32} {y1 : Int32} {q : Int32 × ph_T} (H : f_Ref_open_L28 Γ Kc4 φ x0 x2 y0 y1 = some q) : J w M_Ref_open 28 [some (.ref x0), none, some (.int x2)] [.int y0, .int y1] (pic Γ φ) n x 0 0 (fq Γ n (.inl (some (.int q.1))) q.2) := by
  unfold f_Ref_open_L28 at H
  refine J_iadd d_Ref_open_28 ?_
  refine J_istore_n d_Ref_open_29 (Nat.le_of_ble_eq_true rfl) ?_
  refine J.ls (ls' := [some (.ref x0), some (.int (y1 + y0)), some (.int x2)]) rfl ?_
  refine J_iinc (v := x2 + 1) d_Ref_open_30 rfl (by rw [show Int32.ofInt 1 = (1 : Int32) from by decide]) ?_
  refine J.ls (ls' := [some (.ref x0), some (.int (y1 + y0)), some (.int (x2 + (1 : Int32)))]) rfl ?_
  refine J_goto (tgt := 4) d_Ref_open_33 (by decide) ?_
  refine J.drop [true, true, true] rfl ?_
  exact hKc4 H
def f_Ref_open_L4 (Γ : gm_T)  : Nat → ph_T → Nat → Int32 → Int32 → Option (Int32 × ph_T)
  | 0, _, _, _, _ => none
  | fu + 1, φ, x0, x1, x2 =>
    @ite _ (Γ x0 = .inr 12) _ (
    if (φ.1 x0 15) ≤ x2 then
      some (x1, φ)
    else
      Option.bind (φ.2.2 x0 29) fun a2 =>
      Option.bind (gA Γ a2 0) fun N3 =>
      Option.bind (ix x2 N3) fun k4 =>
      if (φ.1 a2 k4) = (-1 : Int32) then
        f_Ref_open_L28 Γ (f_Ref_open_L4 Γ  fu) φ x0 x2 (1 : Int32) x1
      else
        f_Ref_open_L28 Γ (f_Ref_open_L4 Γ  fu) φ x0 x2 (0 : Int32) x1
    ) none
set_option maxRecDepth 100000 in
set_option maxHeartbeats 4000000 in
theorem p_Ref_open_L4 {w : jw_T} (hw : jok w) {Γ : gm_T} {n : Nat} (hG : gd w Γ n)  : ∀ (fu : Nat) {x : Bool} {φ : ph_T} {x0 : Nat} {x1 : Int32} {x2 : Int32} {q : Int32 × ph_T}, f_Ref_open_L4 Γ  fu φ x0 x1 x2 = some q → J w M_Ref_open 4 [some (.ref x0), some (.int x1), some (.int x2)] [] (pic Γ φ) n x 0 0 (fq Γ n (.inl (some (.int q.1))) q.2) := by
  intro fu
  induction fu with
  | zero =>
    intro x φ x0 x1 x2 q H
    cases H
  | succ fu ih =>
    intro x φ x0 x1 x2 q H
    unfold f_Ref_open_L4 at H
    refine J_iload_n d_Ref_open_4 rfl ?_
    refine J_aload_n d_Ref_open_5 rfl ?_
    have g1 : Γ x0 = .inr 12 := by
      apply Classical.byContradiction
      intro q9
      rw [if_neg q9] at H
      cases H
    rw [if_pos g1] at H
    refine F_getI (ci := 12) (k := 15) hG (cf_Ref hw) (fl_Ref_337 hw) (by decide) (by decide) rfl d_Ref_open_6 g1 ?_
    refine J_icmp_ge (tgt := 36) d_Ref_open_9 (by decide) ?_ ?_
    · intro c6
      rw [if_pos c6] at H
      refine J_iload_n d_Ref_open_36 rfl ?_
      have H := Option.some.inj H
      subst H
      exact J_iret (st := []) d_Ref_open_37 rfl rfl ⟨rfl, rfl, rfl⟩
    · intro c6
      rw [if_neg c6] at H
      refine J_iload_n d_Ref_open_12 rfl ?_
      refine J_aload_n d_Ref_open_13 rfl ?_
      refine F_getR (ci := 12) (k := 29) hG (cf_Ref hw) (fl_Ref_76 hw) (by decide) (by decide) rfl d_Ref_open_14 g1 ?_
      refine J_iload_n d_Ref_open_17 rfl ?_
      obtain ⟨a2, ha2, H⟩ := Option.bind_eq_some_iff.mp H
      rw [j_rf ha2]
      obtain ⟨N3, hN3, H⟩ := Option.bind_eq_some_iff.mp H
      obtain ⟨k4, hk4, H⟩ := Option.bind_eq_some_iff.mp H
      refine F_iald k4 hw hG d_Ref_open_18 (gA_some hN3) (ix_some hk4) ?_
      refine J_iconst (v := -1) d_Ref_open_19 (by decide) ?_
      refine J_icmp_ne (tgt := 27) d_Ref_open_20 (by decide) ?_ ?_
      · intro c5
        rw [if_neg c5] at H
        refine J_iconst (v := 0) d_Ref_open_27 (by decide) ?_
        refine J.drop [true, false, true] rfl ?_
        exact p_Ref_open_L28 hw hG ih H
      · intro c5
        rw [if_pos c5] at H
        refine J_iconst (v := 1) d_Ref_open_23 (by decide) ?_
        refine J_goto (tgt := 28) d_Ref_open_24 (by decide) ?_
        refine J.drop [true, false, true] rfl ?_
        exact p_Ref_open_L28 hw hG ih H
def f_Ref_open (Γ : gm_T) (φ : ph_T) (this : Nat) : Option (Int32 × ph_T) :=
  f_Ref_open_L4 Γ  jF φ this (0 : Int32) (0 : Int32)
set_option maxRecDepth 100000 in
set_option maxHeartbeats 4000000 in
theorem p_Ref_open {w : jw_T} (hw : jok w) {Γ : gm_T} {n : Nat} (hG : gd w Γ n) {x : Bool} {φ : ph_T} {this : Nat} {q : Int32 × ph_T} (H : f_Ref_open Γ φ this = some q) : jc w M_Ref_open [.ref this] (pic Γ φ) n x 0 0 (fq Γ n (.inl (some (.int q.1))) q.2) := by
  refine jc.of (by simp only [jent_r, jent_i, jent_l, jent_a, jent_0]; exact Nat.le_of_ble_eq_true rfl) ?_
  have hls : jents [.ref this] (jm_nL M_Ref_open) = [some (.ref this), none, none] := by simp only [jents, jent_r, jent_i, jent_l, jent_a, jent_0]; rfl
  rw [hls]
  clear hls
  unfold f_Ref_open at H
  refine J_iconst (v := 0) d_Ref_open_0 (by decide) ?_
  refine J_istore_n d_Ref_open_1 (Nat.le_of_ble_eq_true rfl) ?_
  refine J.ls (ls' := [some (.ref this), some (.int (0 : Int32)), none]) rfl ?_
  refine J_iconst (v := 0) d_Ref_open_2 (by decide) ?_
  refine J_istore_n d_Ref_open_3 (Nat.le_of_ble_eq_true rfl) ?_
  refine J.ls (ls' := [some (.ref this), some (.int (0 : Int32)), some (.int (0 : Int32))]) rfl ?_
  refine J.drop [true, true, true] rfl ?_
  exact p_Ref_open_L4 hw hG  _ H
theorem ln_Ref_map : (parseMethodDescriptor y_Ref_map.desc).map (fun q => q.parameters.length) = some 2 := by decide +kernel
def f_Ref_map_L47 (Γ : gm_T)  (φ : ph_T) (x0 : Nat) (x1 : Int32) (x2 : Int32) (y0 : Int32) (y1 : Nat) : Option (Int32 × ph_T) :=
  @ite _ (Γ y1 = .inr 12) _ (
  @ite _ (Γ x0 = .inr 12) _ (
  if ((uI φ y1 0 y0).1 x0 0) ≤ 0 then
    Option.bind (φ.2.2 x0 7) fun a3 =>
    Option.bind (gA Γ a3 0) fun N4 =>
    Option.bind (ix x1 N4) fun k5 =>
    Option.bind (gA Γ a3 0) fun N6 =>
    Option.bind (ix x1 N6) fun k7 =>
    some (((uI φ y1 0 y0).1 a3 k5), (uI (uI φ y1 0 y0) a3 k7 x2))
  else
    some ((0 : Int32), (uI φ y1 0 y0))
  ) none
  ) none
set_option maxRecDepth 100000 in
set_option maxHeartbeats 4000000 in
theorem p_Ref_map_L47 {w : jw_T} (hw : jok w) {Γ : gm_T} {n : Nat} (hG : gd w Γ n)  {x : Bool} {φ : ph_T} {x0 : Nat} {x1 : Int32} {x2 : Int32} {y0 : Int32} {y1 : Nat} {q : Int32 × ph_T} (H : f_Ref_map_L47 Γ  φ x0 x1 x2 y0 y1 = some q) : J w M_Ref_map 47 [some (.ref x0), some (.int x1), some (.int x2), none] [.int y0, .ref y1] (pic Γ φ) n x 0 0 (fq Γ n (.inl (some (.int q.1))) q.2) := by
  unfold f_Ref_map_L47 at H
  have g1 : Γ y1 = .inr 12 := by
    apply Classical.byContradiction
    intro q9
    rw [if_neg q9] at H
    cases H
  rw [if_pos g1] at H
  refine F_putI (ci := 12) (k := 0) hG (cf_Ref hw) (fl_Ref_303 hw) (by decide) (by decide) rfl d_Ref_map_47 rfl rfl rfl g1 ?_
  refine J_aload_n d_Ref_map_50 rfl ?_
  have g2 : Γ x0 = .inr 12 := by
    apply Classical.byContradiction
    intro q9
    rw [if_neg q9] at H
    cases H
  rw [if_pos g2] at H
  refine F_getI (ci := 12) (k := 0) hG (cf_Ref hw) (fl_Ref_303 hw) (by decide) (by decide) rfl d_Ref_map_51 g2 ?_
  refine J_if_le (tgt := 59) d_Ref_map_54 (by decide) ?_ ?_
  · intro c8
    rw [if_pos c8] at H
    refine J_aload_n d_Ref_map_59 rfl ?_
    refine F_getR (ci := 12) (k := 7) hG (cf_Ref hw) (fl_Ref_7 hw) (by decide) (by decide) rfl d_Ref_map_60 g2 ?_
    show J _ _ _ _ (va_rf (φ.2.2 x0 7) :: _) _ _ _ _ _ _
    refine J_iload_n d_Ref_map_63 rfl ?_
    obtain ⟨a3, ha3, H⟩ := Option.bind_eq_some_iff.mp H
    rw [j_rf ha3]
    obtain ⟨N4, hN4, H⟩ := Option.bind_eq_some_iff.mp H
    obtain ⟨k5, hk5, H⟩ := Option.bind_eq_some_iff.mp H
    refine F_iald k5 hw hG d_Ref_map_64 (gA_some hN4) (ix_some hk5) ?_
    refine J_istore_n d_Ref_map_65 (Nat.le_of_ble_eq_true rfl) ?_
    refine J.ls (ls' := [some (.ref x0), some (.int x1), some (.int x2), some (.int ((uI φ y1 0 y0).1 a3 k5))]) rfl ?_
    refine J_aload_n d_Ref_map_66 rfl ?_
    refine F_getR (ci := 12) (k := 7) hG (cf_Ref hw) (fl_Ref_7 hw) (by decide) (by decide) rfl d_Ref_map_67 g2 ?_
    show J _ _ _ _ (va_rf (φ.2.2 x0 7) :: _) _ _ _ _ _ _
    refine J_iload_n d_Ref_map_70 rfl ?_
    refine J_iload_n d_Ref_map_71 rfl ?_
    try rw [j_rf ha3]
    obtain ⟨N6, hN6, H⟩ := Option.bind_eq_some_iff.mp H
    obtain ⟨k7, hk7, H⟩ := Option.bind_eq_some_iff.mp H
    refine F_iast k7 hw hG d_Ref_map_72 (gA_some hN6) (ix_some hk7) ?_
    refine J_iload_n d_Ref_map_73 rfl ?_
    have H := Option.some.inj H
    subst H
    exact J_iret (st := []) d_Ref_map_74 rfl rfl ⟨rfl, rfl, rfl⟩
  · intro c8
    rw [if_neg c8] at H
    refine J_iconst (v := 0) d_Ref_map_57 (by decide) ?_
    have H := Option.some.inj H
    subst H
    exact J_iret (st := []) d_Ref_map_58 rfl rfl ⟨rfl, rfl, rfl⟩
def f_Ref_map_L31 (Γ : gm_T)  (φ : ph_T) (x0 : Nat) (x1 : Int32) (x2 : Int32) (y0 : Nat) : Option (Int32 × ph_T) :=
  f_Ref_map_L47 Γ  φ x0 x1 x2 (1 : Int32) y0
set_option maxRecDepth 100000 in
set_option maxHeartbeats 4000000 in
theorem p_Ref_map_L31 {w : jw_T} (hw : jok w) {Γ : gm_T} {n : Nat} (hG : gd w Γ n)  {x : Bool} {φ : ph_T} {x0 : Nat} {x1 : Int32} {x2 : Int32} {y0 : Nat} {q : Int32 × ph_T} (H : f_Ref_map_L31 Γ  φ x0 x1 x2 y0 = some q) : J w M_Ref_map 31 [some (.ref x0), some (.int x1), some (.int x2), none] [.ref y0] (pic Γ φ) n x 0 0 (fq Γ n (.inl (some (.int q.1))) q.2) := by
  unfold f_Ref_map_L31 at H
  refine J_iconst (v := 1) d_Ref_map_31 (by decide) ?_
  refine J_goto (tgt := 47) d_Ref_map_32 (by decide) ?_
  refine J.drop [true, true, true, false] rfl ?_
  exact p_Ref_map_L47 hw hG  H
def f_Ref_map (Γ : gm_T) (φ : ph_T) (this : Nat) (p0 : Int32) (p1 : Int32) : Option (Int32 × ph_T) :=
  Option.bind (f_Ref_in Γ φ (Int32.toInt64 p0) (0 : Int64) (15 : Int64)) fun q9 =>
  if q9.1 = 0 then
    f_Ref_map_L31 Γ  q9.2 this p0 p1 this
  else
    @ite _ (Γ this = .inr 12) _ (
    Option.bind (f_Ref_in Γ q9.2 (Int32.toInt64 p1) (-1 : Int64) ((Int32.toInt64 (q9.2.1 this 2)) - (1 : Int64))) fun q11 =>
    if q11.1 = 0 then
      f_Ref_map_L31 Γ  q11.2 this p0 p1 this
    else
      Option.bind (f_Ref_open Γ q11.2 this) fun q12 =>
      if q12.1 ≤ 0 then
        f_Ref_map_L47 Γ  q12.2 this p0 p1 (0 : Int32) this
      else
        f_Ref_map_L47 Γ  q12.2 this p0 p1 (2 : Int32) this
    ) none
set_option maxRecDepth 100000 in
set_option maxHeartbeats 4000000 in
theorem p_Ref_map {w : jw_T} (hw : jok w) {Γ : gm_T} {n : Nat} (hG : gd w Γ n) {x : Bool} {φ : ph_T} {this : Nat} {p0 : Int32} {p1 : Int32} {q : Int32 × ph_T} (H : f_Ref_map Γ φ this p0 p1 = some q) : jc w M_Ref_map [.ref this, .int p0, .int p1] (pic Γ φ) n x 0 0 (fq Γ n (.inl (some (.int q.1))) q.2) := by
  refine jc.of (by simp only [jent_r, jent_i, jent_l, jent_a, jent_0]; exact Nat.le_of_ble_eq_true rfl) ?_
  have hls : jents [.ref this, .int p0, .int p1] (jm_nL M_Ref_map) = [some (.ref this), some (.int p0), some (.int p1), none] := by simp only [jents, jent_r, jent_i, jent_l, jent_a, jent_0]; rfl
  rw [hls]
  clear hls
  unfold f_Ref_map at H
  refine J_aload_n d_Ref_map_0 rfl ?_
  refine J_iload_n d_Ref_map_1 rfl ?_
  refine J_i2l d_Ref_map_2 ?_
  refine J_lconst (v := 0) d_Ref_map_3 (by decide) ?_
  refine J_ldc2 (v := 15) d_Ref_map_4 (kn_Ref_310 hw) ?_
  obtain ⟨q9, hq9, H⟩ := Option.bind_eq_some_iff.mp H
  refine J_callS (kc := 0) (ks := 0) (kc' := 0) (ks' := 0) (as := [.long (Int32.toInt64 p0), .long (0 : Int64), .long (15 : Int64)]) (st := [.ref this]) (mf_Ref_in hw) (ms_Ref_599 hw) d_Ref_map_7 ln_Ref_in (by decide) (by first | exact Nat.le_of_ble_eq_true rfl | (simp only [List.map_cons, List.map_nil, List.sum_cons, List.sum_nil, va_rf_cat]; exact Nat.le_of_ble_eq_true rfl)) rfl (p_Ref_in hw hG hq9) ?_ (fun E h' n' x' e1 => by cases e1.1)
  intro v9 h9 n9 x9 e9
  obtain ⟨e91, e92, e93⟩ := e9
  cases e91
  subst e92
  subst e93
  clear x
  rename Bool => x
  show J _ _ _ _ (_ :: _) _ _ _ _ _ _
  refine J_if_eq (tgt := 31) d_Ref_map_10 (by decide) ?_ ?_
  · intro c15
    rw [if_pos c15] at H
    refine J.drop [true, true, true, false] rfl ?_
    exact p_Ref_map_L31 hw hG  H
  · intro c15
    rw [if_neg c15] at H
    refine J_iload_n d_Ref_map_13 rfl ?_
    refine J_i2l d_Ref_map_14 ?_
    refine J_ldc2 (v := -1) d_Ref_map_15 (kn_Ref_603 hw) ?_
    refine J_aload_n d_Ref_map_18 rfl ?_
    have g10 : Γ this = .inr 12 := by
      apply Classical.byContradiction
      intro q9
      rw [if_neg q9] at H
      cases H
    rw [if_pos g10] at H
    refine F_getI (ci := 12) (k := 2) hG (cf_Ref hw) (fl_Ref_294 hw) (by decide) (by decide) rfl d_Ref_map_19 g10 ?_
    refine J_i2l d_Ref_map_22 ?_
    refine J_lconst (v := 1) d_Ref_map_23 (by decide) ?_
    refine J_lsub d_Ref_map_24 ?_
    obtain ⟨q11, hq11, H⟩ := Option.bind_eq_some_iff.mp H
    refine J_callS (kc := 0) (ks := 0) (kc' := 0) (ks' := 0) (as := [.long (Int32.toInt64 p1), .long (-1 : Int64), .long ((Int32.toInt64 (q9.2.1 this 2)) - (1 : Int64))]) (st := [.ref this]) (mf_Ref_in hw) (ms_Ref_599 hw) d_Ref_map_25 ln_Ref_in (by decide) (by first | exact Nat.le_of_ble_eq_true rfl | (simp only [List.map_cons, List.map_nil, List.sum_cons, List.sum_nil, va_rf_cat]; exact Nat.le_of_ble_eq_true rfl)) rfl (p_Ref_in hw hG hq11) ?_ (fun E h' n' x' e1 => by cases e1.1)
    intro v9 h9 n9 x9 e9
    obtain ⟨e91, e92, e93⟩ := e9
    cases e91
    subst e92
    subst e93
    clear x
    rename Bool => x
    show J _ _ _ _ (_ :: _) _ _ _ _ _ _
    refine J_if_ne (tgt := 35) d_Ref_map_28 (by decide) ?_ ?_
    · intro c14
      rw [if_neg c14] at H
      refine J_aload_n d_Ref_map_35 rfl ?_
      obtain ⟨q12, hq12, H⟩ := Option.bind_eq_some_iff.mp H
      refine J_callV (kc := 0) (ks := 0) (kc' := 0) (ks' := 0) (a := this) (ci := 12) (as := []) (st := [.ref this]) (mf_Ref_open hw) (mv_Ref_605 hw) d_Ref_map_36 ln_Ref_open (by decide) (by first | exact Nat.le_of_ble_eq_true rfl | (simp only [List.map_cons, List.map_nil, List.sum_cons, List.sum_nil, va_rf_cat]; exact Nat.le_of_ble_eq_true rfl)) rfl ((hG _).1 _ g10 (by decide)).1 ((hG _).1 _ g10 (by decide)).2 (by unfold pic; rw [g10]; rfl) (jcl_at hw rfl) rfl (p_Ref_open hw hG hq12) ?_ (fun E h' n' x' e1 => by cases e1.1)
      intro v9 h9 n9 x9 e9
      obtain ⟨e91, e92, e93⟩ := e9
      cases e91
      subst e92
      subst e93
      clear x
      rename Bool => x
      show J _ _ _ _ (_ :: _) _ _ _ _ _ _
      refine J_if_le (tgt := 46) d_Ref_map_39 (by decide) ?_ ?_
      · intro c13
        rw [if_pos c13] at H
        refine J_iconst (v := 0) d_Ref_map_46 (by decide) ?_
        refine J.drop [true, true, true, false] rfl ?_
        exact p_Ref_map_L47 hw hG  H
      · intro c13
        rw [if_neg c13] at H
        refine J_iconst (v := 2) d_Ref_map_42 (by decide) ?_
        refine J_goto (tgt := 47) d_Ref_map_43 (by decide) ?_
        refine J.drop [true, true, true, false] rfl ?_
        exact p_Ref_map_L47 hw hG  H
    · intro c14
      rw [if_pos c14] at H
      refine J.drop [true, true, true, false] rfl ?_
      exact p_Ref_map_L31 hw hG  H
theorem ln_Ref_policy : (parseMethodDescriptor y_Ref_policy.desc).map (fun q => q.parameters.length) = some 2 := by decide +kernel
def f_Ref_policy_L18 (Γ : gm_T)  (φ : ph_T) (x0 : Nat) (x1 : Int32) (x2 : Int32) (y0 : Int32) (y1 : Nat) : Option (Int32 × ph_T) :=
  @ite _ (Γ y1 = .inr 12) _ (
  @ite _ (Γ x0 = .inr 12) _ (
  if ((uI φ y1 0 y0).1 x0 0) ≤ 0 then
    @ite _ (x2 = 0 ∨ x2 = 1) _ (
    some (((uI φ y1 0 y0).1 x0 4), (uI (uI (uI φ y1 0 y0) x0 4 x1) x0 5 x2))
    ) none
  else
    some ((0 : Int32), (uI φ y1 0 y0))
  ) none
  ) none
set_option maxRecDepth 100000 in
set_option maxHeartbeats 4000000 in
theorem p_Ref_policy_L18 {w : jw_T} (hw : jok w) {Γ : gm_T} {n : Nat} (hG : gd w Γ n)  {x : Bool} {φ : ph_T} {x0 : Nat} {x1 : Int32} {x2 : Int32} {y0 : Int32} {y1 : Nat} {q : Int32 × ph_T} (H : f_Ref_policy_L18 Γ  φ x0 x1 x2 y0 y1 = some q) : J w M_Ref_policy 18 [some (.ref x0), some (.int x1), some (.int x2), none] [.int y0, .ref y1] (pic Γ φ) n x 0 0 (fq Γ n (.inl (some (.int q.1))) q.2) := by
  unfold f_Ref_policy_L18 at H
  have g1 : Γ y1 = .inr 12 := by
    apply Classical.byContradiction
    intro q9
    rw [if_neg q9] at H
    cases H
  rw [if_pos g1] at H
  refine F_putI (ci := 12) (k := 0) hG (cf_Ref hw) (fl_Ref_303 hw) (by decide) (by decide) rfl d_Ref_policy_18 rfl rfl rfl g1 ?_
  refine J_aload_n d_Ref_policy_21 rfl ?_
  have g2 : Γ x0 = .inr 12 := by
    apply Classical.byContradiction
    intro q9
    rw [if_neg q9] at H
    cases H
  rw [if_pos g2] at H
  refine F_getI (ci := 12) (k := 0) hG (cf_Ref hw) (fl_Ref_303 hw) (by decide) (by decide) rfl d_Ref_policy_22 g2 ?_
  refine J_if_le (tgt := 30) d_Ref_policy_25 (by decide) ?_ ?_
  · intro c4
    rw [if_pos c4] at H
    refine J_aload_n d_Ref_policy_30 rfl ?_
    refine F_getI (ci := 12) (k := 4) hG (cf_Ref hw) (fl_Ref_532 hw) (by decide) (by decide) rfl d_Ref_policy_31 g2 ?_
    refine J_istore_n d_Ref_policy_34 (Nat.le_of_ble_eq_true rfl) ?_
    refine J.ls (ls' := [some (.ref x0), some (.int x1), some (.int x2), some (.int ((uI φ y1 0 y0).1 x0 4))]) rfl ?_
    refine J_aload_n d_Ref_policy_35 rfl ?_
    refine J_iload_n d_Ref_policy_36 rfl ?_
    refine F_putI (ci := 12) (k := 4) hG (cf_Ref hw) (fl_Ref_532 hw) (by decide) (by decide) rfl d_Ref_policy_37 rfl rfl rfl g2 ?_
    refine J_aload_n d_Ref_policy_40 rfl ?_
    refine J_iload_n d_Ref_policy_41 rfl ?_
    have z3 : x2 = 0 ∨ x2 = 1 := by
      apply Classical.byContradiction
      intro q9
      rw [if_neg q9] at H
      cases H
    rw [if_pos z3] at H
    refine F_putI (ci := 12) (k := 5) hG (cf_Ref hw) (fl_Ref_559 hw) (by decide) (by decide) rfl d_Ref_policy_42 rfl (narrow_z z3).1 (narrow_z z3).2 g2 ?_
    refine J_iload_n d_Ref_policy_45 rfl ?_
    have H := Option.some.inj H
    subst H
    exact J_iret (st := []) d_Ref_policy_46 rfl rfl ⟨rfl, rfl, rfl⟩
  · intro c4
    rw [if_neg c4] at H
    refine J_iconst (v := 0) d_Ref_policy_28 (by decide) ?_
    have H := Option.some.inj H
    subst H
    exact J_iret (st := []) d_Ref_policy_29 rfl rfl ⟨rfl, rfl, rfl⟩
def f_Ref_policy (Γ : gm_T) (φ : ph_T) (this : Nat) (p0 : Int32) (p1 : Int32) : Option (Int32 × ph_T) :=
  Option.bind (f_Ref_in Γ φ (Int32.toInt64 p0) (0 : Int64) (3 : Int64)) fun q5 =>
  if q5.1 = 0 then
    f_Ref_policy_L18 Γ  q5.2 this p0 p1 (1 : Int32) this
  else
    f_Ref_policy_L18 Γ  q5.2 this p0 p1 (0 : Int32) this
set_option maxRecDepth 100000 in
set_option maxHeartbeats 4000000 in
theorem p_Ref_policy {w : jw_T} (hw : jok w) {Γ : gm_T} {n : Nat} (hG : gd w Γ n) {x : Bool} {φ : ph_T} {this : Nat} {p0 : Int32} {p1 : Int32} {q : Int32 × ph_T} (H : f_Ref_policy Γ φ this p0 p1 = some q) : jc w M_Ref_policy [.ref this, .int p0, .int p1] (pic Γ φ) n x 0 0 (fq Γ n (.inl (some (.int q.1))) q.2) := by
  refine jc.of (by simp only [jent_r, jent_i, jent_l, jent_a, jent_0]; exact Nat.le_of_ble_eq_true rfl) ?_
  have hls : jents [.ref this, .int p0, .int p1] (jm_nL M_Ref_policy) = [some (.ref this), some (.int p0), some (.int p1), none] := by simp only [jents, jent_r, jent_i, jent_l, jent_a, jent_0]; rfl
  rw [hls]
  clear hls
  unfold f_Ref_policy at H
  refine J_aload_n d_Ref_policy_0 rfl ?_
  refine J_iload_n d_Ref_policy_1 rfl ?_
  refine J_i2l d_Ref_policy_2 ?_
  refine J_lconst (v := 0) d_Ref_policy_3 (by decide) ?_
  refine J_ldc2 (v := 3) d_Ref_policy_4 (kn_Ref_312 hw) ?_
  obtain ⟨q5, hq5, H⟩ := Option.bind_eq_some_iff.mp H
  refine J_callS (kc := 0) (ks := 0) (kc' := 0) (ks' := 0) (as := [.long (Int32.toInt64 p0), .long (0 : Int64), .long (3 : Int64)]) (st := [.ref this]) (mf_Ref_in hw) (ms_Ref_599 hw) d_Ref_policy_7 ln_Ref_in (by decide) (by first | exact Nat.le_of_ble_eq_true rfl | (simp only [List.map_cons, List.map_nil, List.sum_cons, List.sum_nil, va_rf_cat]; exact Nat.le_of_ble_eq_true rfl)) rfl (p_Ref_in hw hG hq5) ?_ (fun E h' n' x' e1 => by cases e1.1)
  intro v9 h9 n9 x9 e9
  obtain ⟨e91, e92, e93⟩ := e9
  cases e91
  subst e92
  subst e93
  clear x
  rename Bool => x
  show J _ _ _ _ (_ :: _) _ _ _ _ _ _
  refine J_if_eq (tgt := 17) d_Ref_policy_10 (by decide) ?_ ?_
  · intro c6
    rw [if_pos c6] at H
    refine J_iconst (v := 1) d_Ref_policy_17 (by decide) ?_
    refine J.drop [true, true, true, false] rfl ?_
    exact p_Ref_policy_L18 hw hG  H
  · intro c6
    rw [if_neg c6] at H
    refine J_iconst (v := 0) d_Ref_policy_13 (by decide) ?_
    refine J_goto (tgt := 18) d_Ref_policy_14 (by decide) ?_
    refine J.drop [true, true, true, false] rfl ?_
    exact p_Ref_policy_L18 hw hG  H
theorem ln_Ref_master : (parseMethodDescriptor y_Ref_master.desc).map (fun q => q.parameters.length) = some 3 := by decide +kernel
def f_Ref_master_L34 (Γ : gm_T)  (φ : ph_T) (x0 : Nat) (x1 : Int32) (x2 : Int32) (x3 : Int32) (y0 : Int32) (y1 : Nat) : Option (Int32 × ph_T) :=
  @ite _ (Γ y1 = .inr 12) _ (
  @ite _ (Γ x0 = .inr 12) _ (
  if ((uI φ y1 0 y0).1 x0 0) ≤ 0 then
    Option.bind (φ.2.2 x0 8) fun a3 =>
    Option.bind (gA Γ a3 0) fun N4 =>
    Option.bind (ix (((5 : Int32) * x1) + x2) N4) fun k5 =>
    Option.bind (gA Γ a3 0) fun N6 =>
    Option.bind (ix (((5 : Int32) * x1) + x2) N6) fun k7 =>
    some (((uI φ y1 0 y0).1 a3 k5), (uI (uI φ y1 0 y0) a3 k7 (x3 &&& (65535 : Int32))))
  else
    some ((0 : Int32), (uI φ y1 0 y0))
  ) none
  ) none
set_option maxRecDepth 100000 in
set_option maxHeartbeats 4000000 in
theorem p_Ref_master_L34 {w : jw_T} (hw : jok w) {Γ : gm_T} {n : Nat} (hG : gd w Γ n)  {x : Bool} {φ : ph_T} {x0 : Nat} {x1 : Int32} {x2 : Int32} {x3 : Int32} {y0 : Int32} {y1 : Nat} {q : Int32 × ph_T} (H : f_Ref_master_L34 Γ  φ x0 x1 x2 x3 y0 y1 = some q) : J w M_Ref_master 34 [some (.ref x0), some (.int x1), some (.int x2), some (.int x3), none] [.int y0, .ref y1] (pic Γ φ) n x 0 0 (fq Γ n (.inl (some (.int q.1))) q.2) := by
  unfold f_Ref_master_L34 at H
  have g1 : Γ y1 = .inr 12 := by
    apply Classical.byContradiction
    intro q9
    rw [if_neg q9] at H
    cases H
  rw [if_pos g1] at H
  refine F_putI (ci := 12) (k := 0) hG (cf_Ref hw) (fl_Ref_303 hw) (by decide) (by decide) rfl d_Ref_master_34 rfl rfl rfl g1 ?_
  refine J_aload_n d_Ref_master_37 rfl ?_
  have g2 : Γ x0 = .inr 12 := by
    apply Classical.byContradiction
    intro q9
    rw [if_neg q9] at H
    cases H
  rw [if_pos g2] at H
  refine F_getI (ci := 12) (k := 0) hG (cf_Ref hw) (fl_Ref_303 hw) (by decide) (by decide) rfl d_Ref_master_38 g2 ?_
  refine J_if_le (tgt := 46) d_Ref_master_41 (by decide) ?_ ?_
  · intro c8
    rw [if_pos c8] at H
    refine J_aload_n d_Ref_master_46 rfl ?_
    refine F_getR (ci := 12) (k := 8) hG (cf_Ref hw) (fl_Ref_13 hw) (by decide) (by decide) rfl d_Ref_master_47 g2 ?_
    show J _ _ _ _ (va_rf (φ.2.2 x0 8) :: _) _ _ _ _ _ _
    refine J_iconst (v := 5) d_Ref_master_50 (by decide) ?_
    refine J_iload_n d_Ref_master_51 rfl ?_
    refine J_imul d_Ref_master_52 ?_
    refine J_iload_n d_Ref_master_53 rfl ?_
    refine J_iadd d_Ref_master_54 ?_
    obtain ⟨a3, ha3, H⟩ := Option.bind_eq_some_iff.mp H
    rw [j_rf ha3]
    obtain ⟨N4, hN4, H⟩ := Option.bind_eq_some_iff.mp H
    obtain ⟨k5, hk5, H⟩ := Option.bind_eq_some_iff.mp H
    refine F_iald k5 hw hG d_Ref_master_55 (gA_some hN4) (ix_some hk5) ?_
    refine J_istore d_Ref_master_56 (Nat.le_of_ble_eq_true rfl) ?_
    refine J.ls (ls' := [some (.ref x0), some (.int x1), some (.int x2), some (.int x3), some (.int ((uI φ y1 0 y0).1 a3 k5))]) rfl ?_
    refine J_aload_n d_Ref_master_58 rfl ?_
    refine F_getR (ci := 12) (k := 8) hG (cf_Ref hw) (fl_Ref_13 hw) (by decide) (by decide) rfl d_Ref_master_59 g2 ?_
    show J _ _ _ _ (va_rf (φ.2.2 x0 8) :: _) _ _ _ _ _ _
    refine J_iconst (v := 5) d_Ref_master_62 (by decide) ?_
    refine J_iload_n d_Ref_master_63 rfl ?_
    refine J_imul d_Ref_master_64 ?_
    refine J_iload_n d_Ref_master_65 rfl ?_
    refine J_iadd d_Ref_master_66 ?_
    refine J_iload_n d_Ref_master_67 rfl ?_
    refine J_ldcw (v := 65535) d_Ref_master_68 (kn_Ref_611 hw) ?_
    refine J_iand d_Ref_master_71 ?_
    try rw [j_rf ha3]
    obtain ⟨N6, hN6, H⟩ := Option.bind_eq_some_iff.mp H
    obtain ⟨k7, hk7, H⟩ := Option.bind_eq_some_iff.mp H
    refine F_iast k7 hw hG d_Ref_master_72 (gA_some hN6) (ix_some hk7) ?_
    refine J_iload d_Ref_master_73 rfl ?_
    have H := Option.some.inj H
    subst H
    exact J_iret (st := []) d_Ref_master_75 rfl rfl ⟨rfl, rfl, rfl⟩
  · intro c8
    rw [if_neg c8] at H
    refine J_iconst (v := 0) d_Ref_master_44 (by decide) ?_
    have H := Option.some.inj H
    subst H
    exact J_iret (st := []) d_Ref_master_45 rfl rfl ⟨rfl, rfl, rfl⟩
def f_Ref_master_L33 (Γ : gm_T)  (φ : ph_T) (x0 : Nat) (x1 : Int32) (x2 : Int32) (x3 : Int32) (y0 : Nat) : Option (Int32 × ph_T) :=
  f_Ref_master_L34 Γ  φ x0 x1 x2 x3 (1 : Int32) y0
set_option maxRecDepth 100000 in
set_option maxHeartbeats 4000000 in
theorem p_Ref_master_L33 {w : jw_T} (hw : jok w) {Γ : gm_T} {n : Nat} (hG : gd w Γ n)  {x : Bool} {φ : ph_T} {x0 : Nat} {x1 : Int32} {x2 : Int32} {x3 : Int32} {y0 : Nat} {q : Int32 × ph_T} (H : f_Ref_master_L33 Γ  φ x0 x1 x2 x3 y0 = some q) : J w M_Ref_master 33 [some (.ref x0), some (.int x1), some (.int x2), some (.int x3), none] [.ref y0] (pic Γ φ) n x 0 0 (fq Γ n (.inl (some (.int q.1))) q.2) := by
  unfold f_Ref_master_L33 at H
  refine J_iconst (v := 1) d_Ref_master_33 (by decide) ?_
  refine J.drop [true, true, true, true, false] rfl ?_
  exact p_Ref_master_L34 hw hG  H
def f_Ref_master (Γ : gm_T) (φ : ph_T) (this : Nat) (p0 : Int32) (p1 : Int32) (p2 : Int32) : Option (Int32 × ph_T) :=
  @ite _ (Γ this = .inr 12) _ (
  Option.bind (f_Ref_in Γ φ (Int32.toInt64 p0) (0 : Int64) ((Int32.toInt64 (φ.1 this 1)) - (1 : Int64))) fun q10 =>
  if q10.1 = 0 then
    f_Ref_master_L33 Γ  q10.2 this p0 p1 p2 this
  else
    Option.bind (f_Ref_in Γ q10.2 (Int32.toInt64 p1) (0 : Int64) (4 : Int64)) fun q11 =>
    if q11.1 = 0 then
      f_Ref_master_L33 Γ  q11.2 this p0 p1 p2 this
    else
      f_Ref_master_L34 Γ  q11.2 this p0 p1 p2 (0 : Int32) this
  ) none
set_option maxRecDepth 100000 in
set_option maxHeartbeats 4000000 in
theorem p_Ref_master {w : jw_T} (hw : jok w) {Γ : gm_T} {n : Nat} (hG : gd w Γ n) {x : Bool} {φ : ph_T} {this : Nat} {p0 : Int32} {p1 : Int32} {p2 : Int32} {q : Int32 × ph_T} (H : f_Ref_master Γ φ this p0 p1 p2 = some q) : jc w M_Ref_master [.ref this, .int p0, .int p1, .int p2] (pic Γ φ) n x 0 0 (fq Γ n (.inl (some (.int q.1))) q.2) := by
  refine jc.of (by simp only [jent_r, jent_i, jent_l, jent_a, jent_0]; exact Nat.le_of_ble_eq_true rfl) ?_
  have hls : jents [.ref this, .int p0, .int p1, .int p2] (jm_nL M_Ref_master) = [some (.ref this), some (.int p0), some (.int p1), some (.int p2), none] := by simp only [jents, jent_r, jent_i, jent_l, jent_a, jent_0]; rfl
  rw [hls]
  clear hls
  unfold f_Ref_master at H
  refine J_aload_n d_Ref_master_0 rfl ?_
  refine J_iload_n d_Ref_master_1 rfl ?_
  refine J_i2l d_Ref_master_2 ?_
  refine J_lconst (v := 0) d_Ref_master_3 (by decide) ?_
  refine J_aload_n d_Ref_master_4 rfl ?_
  have g9 : Γ this = .inr 12 := by
    apply Classical.byContradiction
    intro q9
    rw [if_neg q9] at H
    cases H
  rw [if_pos g9] at H
  refine F_getI (ci := 12) (k := 1) hG (cf_Ref hw) (fl_Ref_290 hw) (by decide) (by decide) rfl d_Ref_master_5 g9 ?_
  refine J_i2l d_Ref_master_8 ?_
  refine J_lconst (v := 1) d_Ref_master_9 (by decide) ?_
  refine J_lsub d_Ref_master_10 ?_
  obtain ⟨q10, hq10, H⟩ := Option.bind_eq_some_iff.mp H
  refine J_callS (kc := 0) (ks := 0) (kc' := 0) (ks' := 0) (as := [.long (Int32.toInt64 p0), .long (0 : Int64), .long ((Int32.toInt64 (φ.1 this 1)) - (1 : Int64))]) (st := [.ref this]) (mf_Ref_in hw) (ms_Ref_599 hw) d_Ref_master_11 ln_Ref_in (by decide) (by first | exact Nat.le_of_ble_eq_true rfl | (simp only [List.map_cons, List.map_nil, List.sum_cons, List.sum_nil, va_rf_cat]; exact Nat.le_of_ble_eq_true rfl)) rfl (p_Ref_in hw hG hq10) ?_ (fun E h' n' x' e1 => by cases e1.1)
  intro v9 h9 n9 x9 e9
  obtain ⟨e91, e92, e93⟩ := e9
  cases e91
  subst e92
  subst e93
  clear x
  rename Bool => x
  show J _ _ _ _ (_ :: _) _ _ _ _ _ _
  refine J_if_eq (tgt := 33) d_Ref_master_14 (by decide) ?_ ?_
  · intro c13
    rw [if_pos c13] at H
    refine J.drop [true, true, true, true, false] rfl ?_
    exact p_Ref_master_L33 hw hG  H
  · intro c13
    rw [if_neg c13] at H
    refine J_iload_n d_Ref_master_17 rfl ?_
    refine J_i2l d_Ref_master_18 ?_
    refine J_lconst (v := 0) d_Ref_master_19 (by decide) ?_
    refine J_ldc2 (v := 4) d_Ref_master_20 (kn_Ref_609 hw) ?_
    obtain ⟨q11, hq11, H⟩ := Option.bind_eq_some_iff.mp H
    refine J_callS (kc := 0) (ks := 0) (kc' := 0) (ks' := 0) (as := [.long (Int32.toInt64 p1), .long (0 : Int64), .long (4 : Int64)]) (st := [.ref this]) (mf_Ref_in hw) (ms_Ref_599 hw) d_Ref_master_23 ln_Ref_in (by decide) (by first | exact Nat.le_of_ble_eq_true rfl | (simp only [List.map_cons, List.map_nil, List.sum_cons, List.sum_nil, va_rf_cat]; exact Nat.le_of_ble_eq_true rfl)) rfl (p_Ref_in hw hG hq11) ?_ (fun E h' n' x' e1 => by cases e1.1)
    intro v9 h9 n9 x9 e9
    obtain ⟨e91, e92, e93⟩ := e9
    cases e91
    subst e92
    subst e93
    clear x
    rename Bool => x
    show J _ _ _ _ (_ :: _) _ _ _ _ _ _
    refine J_if_eq (tgt := 33) d_Ref_master_26 (by decide) ?_ ?_
    · intro c12
      rw [if_pos c12] at H
      refine J.drop [true, true, true, true, false] rfl ?_
      exact p_Ref_master_L33 hw hG  H
    · intro c12
      rw [if_neg c12] at H
      refine J_iconst (v := 0) d_Ref_master_29 (by decide) ?_
      refine J_goto (tgt := 34) d_Ref_master_30 (by decide) ?_
      refine J.drop [true, true, true, true, false] rfl ?_
      exact p_Ref_master_L34 hw hG  H
