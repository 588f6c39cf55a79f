theorem ln_UnderWay_countTo : (parseMethodDescriptor y_UnderWay_countTo.desc).map (fun q => q.parameters.length) = some 1 := by decide +kernel
def f_UnderWay_countTo_L28 (Γ : gm_T) (Kc4 : ph_T → Nat → Int32 → Int32 → Int32 → Option (Int32 × ph_T)) (φ : ph_T) (x0 : Nat) (x1 : Int32) (x3 : Int32) (y0 : Int32) (y1 : Int32) : Option (Int32 × ph_T) :=
  Kc4 φ x0 x1 (y1 + y0) (x3 + (1 : Int32))
set_option maxRecDepth 100000 in
set_option maxHeartbeats 4000000 in
theorem p_UnderWay_countTo_L28 {w : jw_T} (hw : jok w) {Γ : gm_T} {n : Nat} (hG : gd w Γ n) {Kc4 : ph_T → Nat → Int32 → Int32 → Int32 → Option (Int32 × ph_T)} (hKc4 : ∀ {x : Bool} {φ : ph_T} {x0 : Nat} {x1 : Int32} {x2 : Int32} {x3 : Int32} {q : Int32 × ph_T}, Kc4 φ x0 x1 x2 x3 = some q → J w M_UnderWay_countTo 4 [some (.ref x0), some (.int x1), some (.int x2), some (.int x3)] [] (pic Γ φ) n x 0 0 (fq Γ n (.inl (some (.int q.1))) q.2)) {x : Bool} {φ : ph_T} {x0 : Nat} {x1 : Int32} {x3 : Int32} {y0 : Int32} {y1 : Int32} {q : Int32 × ph_T} (H : f_UnderWay_countTo_L28 Γ Kc4 φ x0 x1 x3 y0 y1 = some q) : J w M_UnderWay_countTo 28 [some (.ref x0), some (.int x1), none, some (.int x3)] [.int y0, .int y1] (pic Γ φ) n x 0 0 (fq Γ n (.inl (some (.int q.1))) q.2) := by
  unfold f_UnderWay_countTo_L28 at H
  refine J_iadd d_UnderWay_countTo_28 ?_
  refine J_istore_n d_UnderWay_countTo_29 (Nat.le_of_ble_eq_true rfl) ?_
  refine J.ls (ls' := [some (.ref x0), some (.int x1), some (.int (y1 + y0)), some (.int x3)]) rfl ?_
  refine J_iinc (v := x3 + 1) d_UnderWay_countTo_30 rfl (by rw [show Int32.ofInt 1 = (1 : Int32) from by decide]) ?_
  refine J.ls (ls' := [some (.ref x0), some (.int x1), some (.int (y1 + y0)), some (.int (x3 + (1 : Int32)))]) rfl ?_
  refine J_goto (tgt := 4) d_UnderWay_countTo_33 (by decide) ?_
  refine J.drop [true, true, true, true] rfl ?_
  exact hKc4 H
def f_UnderWay_countTo_L4 (Γ : gm_T)  : Nat → ph_T → Nat → Int32 → Int32 → Int32 → Option (Int32 × ph_T)
  | 0, _, _, _, _, _ => none
  | fu + 1, φ, x0, x1, x2, x3 =>
    @ite _ (Γ x0 = .inr 9) _ (
    if (φ.1 x0 4) ≤ x3 then
      some (x2, φ)
    else
      Option.bind (φ.2.2 x0 1) fun a2 =>
      Option.bind (gA Γ a2 0) fun N3 =>
      Option.bind (ix x3 N3) fun k4 =>
      if (φ.1 a2 k4) = x1 then
        f_UnderWay_countTo_L28 Γ (f_UnderWay_countTo_L4 Γ  fu) φ x0 x1 x3 (1 : Int32) x2
      else
        f_UnderWay_countTo_L28 Γ (f_UnderWay_countTo_L4 Γ  fu) φ x0 x1 x3 (0 : Int32) x2
    ) none
set_option maxRecDepth 100000 in
set_option maxHeartbeats 4000000 in
theorem p_UnderWay_countTo_L4 {w : jw_T} (hw : jok w) {Γ : gm_T} {n : Nat} (hG : gd w Γ n)  : ∀ (fu : Nat) {x : Bool} {φ : ph_T} {x0 : Nat} {x1 : Int32} {x2 : Int32} {x3 : Int32} {q : Int32 × ph_T}, f_UnderWay_countTo_L4 Γ  fu φ x0 x1 x2 x3 = some q → J w M_UnderWay_countTo 4 [some (.ref x0), some (.int x1), some (.int x2), some (.int x3)] [] (pic Γ φ) n x 0 0 (fq Γ n (.inl (some (.int q.1))) q.2) := by
  intro fu
  induction fu with
  | zero =>
    intro x φ x0 x1 x2 x3 q H
    cases H
  | succ fu ih =>
    intro x φ x0 x1 x2 x3 q H
    unfold f_UnderWay_countTo_L4 at H
    refine J_iload_n d_UnderWay_countTo_4 rfl ?_
    refine J_aload_n d_UnderWay_countTo_5 rfl ?_
    have g1 : Γ x0 = .inr 9 := by
      apply Classical.byContradiction
      intro q9
      rw [if_neg q9] at H
      cases H
    rw [if_pos g1] at H
    refine F_getI (ci := 9) (k := 4) hG (cf_UnderWay hw) (fl_UnderWay_24 hw) (by decide) (by decide) rfl d_UnderWay_countTo_6 g1 ?_
    refine J_icmp_ge (tgt := 36) d_UnderWay_countTo_9 (by decide) ?_ ?_
    · intro c6
      rw [if_pos c6] at H
      refine J_iload_n d_UnderWay_countTo_36 rfl ?_
      have H := Option.some.inj H
      subst H
      exact J_iret (st := []) d_UnderWay_countTo_37 rfl rfl ⟨rfl, rfl, rfl⟩
    · intro c6
      rw [if_neg c6] at H
      refine J_iload_n d_UnderWay_countTo_12 rfl ?_
      refine J_aload_n d_UnderWay_countTo_13 rfl ?_
      refine F_getR (ci := 9) (k := 1) hG (cf_UnderWay hw) (fl_UnderWay_15 hw) (by decide) (by decide) rfl d_UnderWay_countTo_14 g1 ?_
      refine J_iload_n d_UnderWay_countTo_17 rfl ?_
      obtain ⟨a2, ha2, H⟩ := Option.bind_eq_some_iff.mp H
      rw [j_rf ha2]
      obtain ⟨N3, hN3, H⟩ := Option.bind_eq_some_iff.mp H
      obtain ⟨k4, hk4, H⟩ := Option.bind_eq_some_iff.mp H
      refine F_iald k4 hw hG d_UnderWay_countTo_18 (gA_some hN3) (ix_some hk4) ?_
      refine J_iload_n d_UnderWay_countTo_19 rfl ?_
      refine J_icmp_ne (tgt := 27) d_UnderWay_countTo_20 (by decide) ?_ ?_
      · intro c5
        rw [if_neg c5] at H
        refine J_iconst (v := 0) d_UnderWay_countTo_27 (by decide) ?_
        refine J.drop [true, true, false, true] rfl ?_
        exact p_UnderWay_countTo_L28 hw hG ih H
      · intro c5
        rw [if_pos c5] at H
        refine J_iconst (v := 1) d_UnderWay_countTo_23 (by decide) ?_
        refine J_goto (tgt := 28) d_UnderWay_countTo_24 (by decide) ?_
        refine J.drop [true, true, false, true] rfl ?_
        exact p_UnderWay_countTo_L28 hw hG ih H
def f_UnderWay_countTo (Γ : gm_T) (φ : ph_T) (this : Nat) (p0 : Int32) : Option (Int32 × ph_T) :=
  f_UnderWay_countTo_L4 Γ  jF φ this p0 (0 : Int32) (0 : Int32)
set_option maxRecDepth 100000 in
set_option maxHeartbeats 4000000 in
theorem p_UnderWay_countTo {w : jw_T} (hw : jok w) {Γ : gm_T} {n : Nat} (hG : gd w Γ n) {x : Bool} {φ : ph_T} {this : Nat} {p0 : Int32} {q : Int32 × ph_T} (H : f_UnderWay_countTo Γ φ this p0 = some q) : jc w M_UnderWay_countTo [.ref this, .int p0] (pic Γ φ) n x 0 0 (fq Γ n (.inl (some (.int q.1))) q.2) := by
  refine jc.of (by simp only [jent_r, jent_i, jent_l, jent_a, jent_0]; exact Nat.le_of_ble_eq_true rfl) ?_
  have hls : jents [.ref this, .int p0] (jm_nL M_UnderWay_countTo) = [some (.ref this), some (.int p0), none, none] := by simp only [jents, jent_r, jent_i, jent_l, jent_a, jent_0]; rfl
  rw [hls]
  clear hls
  unfold f_UnderWay_countTo at H
  refine J_iconst (v := 0) d_UnderWay_countTo_0 (by decide) ?_
  refine J_istore_n d_UnderWay_countTo_1 (Nat.le_of_ble_eq_true rfl) ?_
  refine J.ls (ls' := [some (.ref this), some (.int p0), some (.int (0 : Int32)), none]) rfl ?_
  refine J_iconst (v := 0) d_UnderWay_countTo_2 (by decide) ?_
  refine J_istore_n d_UnderWay_countTo_3 (Nat.le_of_ble_eq_true rfl) ?_
  refine J.ls (ls' := [some (.ref this), some (.int p0), some (.int (0 : Int32)), some (.int (0 : Int32))]) rfl ?_
  refine J.drop [true, true, true, true] rfl ?_
  exact p_UnderWay_countTo_L4 hw hG  _ H
theorem ln_Switch_underWayTo : (parseMethodDescriptor y_Switch_underWayTo.desc).map (fun q => q.parameters.length) = some 2 := by decide +kernel
def f_Switch_underWayTo_L5 (Γ : gm_T)  : Nat → ph_T → Nat → Int32 → Int32 → Int32 → Int32 → Option (Int32 × ph_T)
  | 0, _, _, _, _, _, _ => none
  | fu + 1, φ, x0, x1, x2, x3, x4 =>
    @ite _ (Γ x0 = .inr 10) _ (
    if (φ.1 x0 0) ≤ x4 then
      some (x3, φ)
    else
      Option.bind (f_Switch_underWay Γ φ x0 x4 x2) fun q2 =>
      Option.bind q2.1 fun a3 =>
      @ite _ (Γ a3 = .inr 9) _ (
      Option.bind (f_UnderWay_countTo Γ q2.2 a3 x1) fun q5 =>
      (f_Switch_underWayTo_L5 Γ  fu) q5.2 x0 x1 x2 (x3 + q5.1) (x4 + (1 : Int32))
      ) none
    ) none
set_option maxRecDepth 100000 in
set_option maxHeartbeats 4000000 in
theorem p_Switch_underWayTo_L5 {w : jw_T} (hw : jok w) {Γ : gm_T} {n : Nat} (hG : gd w Γ n)  : ∀ (fu : Nat) {x : Bool} {φ : ph_T} {x0 : Nat} {x1 : Int32} {x2 : Int32} {x3 : Int32} {x4 : Int32} {q : Int32 × ph_T}, f_Switch_underWayTo_L5 Γ  fu φ x0 x1 x2 x3 x4 = some q → J w M_Switch_underWayTo 5 [some (.ref x0), some (.int x1), some (.int x2), some (.int x3), some (.int x4)] [] (pic Γ φ) n x 0 0 (fq Γ n (.inl (some (.int q.1))) q.2) := by
  intro fu
  induction fu with
  | zero =>
    intro x φ x0 x1 x2 x3 x4 q H
    cases H
  | succ fu ih =>
    intro x φ x0 x1 x2 x3 x4 q H
    unfold f_Switch_underWayTo_L5 at H
    refine J_iload d_Switch_underWayTo_5 rfl ?_
    refine J_aload_n d_Switch_underWayTo_7 rfl ?_
    have g1 : Γ x0 = .inr 10 := by
      apply Classical.byContradiction
      intro q9
      rw [if_neg q9] at H
      cases H
    rw [if_pos g1] at H
    refine F_getI (ci := 10) (k := 0) hG (cf_Switch hw) (fl_Switch_15 hw) (by decide) (by decide) rfl d_Switch_underWayTo_8 g1 ?_
    refine J_icmp_ge (tgt := 34) d_Switch_underWayTo_11 (by decide) ?_ ?_
    · intro c6
      rw [if_pos c6] at H
      refine J_iload_n d_Switch_underWayTo_34 rfl ?_
      have H := Option.some.inj H
      subst H
      exact J_iret (st := []) d_Switch_underWayTo_35 rfl rfl ⟨rfl, rfl, rfl⟩
    · intro c6
      rw [if_neg c6] at H
      refine J_iload_n d_Switch_underWayTo_14 rfl ?_
      refine J_aload_n d_Switch_underWayTo_15 rfl ?_
      refine J_iload d_Switch_underWayTo_16 rfl ?_
      refine J_iload_n d_Switch_underWayTo_18 rfl ?_
      obtain ⟨q2, hq2, H⟩ := Option.bind_eq_some_iff.mp H
      refine J_callV (kc := 0) (ks := 0) (kc' := 0) (ks' := 0) (a := x0) (ci := 10) (as := [.int x4, .int x2]) (st := [.int x3]) (mf_Switch_underWay hw) (mv_Switch_99 hw) d_Switch_underWayTo_19 ln_Switch_underWay (by decide) (by first | exact Nat.le_of_ble_eq_true rfl | (simp only [List.map_cons, List.map_nil, List.sum_cons, List.sum_nil, va_rf_cat]; exact Nat.le_of_ble_eq_true rfl)) rfl ((hG _).1 _ g1 (by decide)).1 ((hG _).1 _ g1 (by decide)).2 (by unfold pic; rw [g1]; rfl) (jcl_at hw rfl) rfl (p_Switch_underWay hw hG hq2) ?_ (fun E h' n' x' e1 => by cases e1.1)
      intro v9 h9 n9 x9 e9
      obtain ⟨e91, e92, e93⟩ := e9
      cases e91
      subst e92
      subst e93
      clear x
      rename Bool => x
      show J _ _ _ _ (_ :: _) _ _ _ _ _ _
      refine J_iload_n d_Switch_underWayTo_22 rfl ?_
      obtain ⟨a3, ha3, H⟩ := Option.bind_eq_some_iff.mp H
      rw [j_rf ha3]
      have g4 : Γ a3 = .inr 9 := by
        apply Classical.byContradiction
        intro q9
        rw [if_neg q9] at H
        cases H
      rw [if_pos g4] at H
      obtain ⟨q5, hq5, H⟩ := Option.bind_eq_some_iff.mp H
      refine J_callV (kc := 0) (ks := 0) (kc' := 0) (ks' := 0) (a := a3) (ci := 9) (as := [.int x1]) (st := [.int x3]) (mf_UnderWay_countTo hw) (mv_Switch_103 hw) d_Switch_underWayTo_23 ln_UnderWay_countTo (by decide) (by first | exact Nat.le_of_ble_eq_true rfl | (simp only [List.map_cons, List.map_nil, List.sum_cons, List.sum_nil, va_rf_cat]; exact Nat.le_of_ble_eq_true rfl)) rfl ((hG _).1 _ g4 (by decide)).1 ((hG _).1 _ g4 (by decide)).2 (by unfold pic; rw [g4]; rfl) (jcl_at hw rfl) rfl (p_UnderWay_countTo hw hG hq5) ?_ (fun E h' n' x' e1 => by cases e1.1)
      intro v9 h9 n9 x9 e9
      obtain ⟨e91, e92, e93⟩ := e9
      cases e91
      subst e92
      subst e93
      clear x
      rename Bool => x
      show J _ _ _ _ (_ :: _) _ _ _ _ _ _
      refine J_iadd d_Switch_underWayTo_26 ?_
      refine J_istore_n d_Switch_underWayTo_27 (Nat.le_of_ble_eq_true rfl) ?_
      refine J.ls (ls' := [some (.ref x0), some (.int x1), some (.int x2), some (.int (x3 + q5.1)), some (.int x4)]) rfl ?_
      refine J_iinc (v := x4 + 1) d_Switch_underWayTo_28 rfl (by rw [show Int32.ofInt 1 = (1 : Int32) from by decide]) ?_
      refine J.ls (ls' := [some (.ref x0), some (.int x1), some (.int x2), some (.int (x3 + q5.1)), some (.int (x4 + (1 : Int32)))]) rfl ?_
      refine J_goto (tgt := 5) d_Switch_underWayTo_31 (by decide) ?_
      refine J.drop [true, true, true, true, true] rfl ?_
      exact ih H
def f_Switch_underWayTo (Γ : gm_T) (φ : ph_T) (this : Nat) (p0 : Int32) (p1 : Int32) : Option (Int32 × ph_T) :=
  f_Switch_underWayTo_L5 Γ  jF φ this p0 p1 (0 : Int32) (0 : Int32)
set_option maxRecDepth 100000 in
set_option maxHeartbeats 4000000 in
theorem p_Switch_underWayTo {w : jw_T} (hw : jok w) {Γ : gm_T} {n : Nat} (hG : gd w Γ n) {x : Bool} {φ : ph_T} {this : Nat} {p0 : Int32} {p1 : Int32} {q : Int32 × ph_T} (H : f_Switch_underWayTo Γ φ this p0 p1 = some q) : jc w M_Switch_underWayTo [.ref this, .int p0, .int p1] (pic Γ φ) n x 0 0 (fq Γ n (.inl (some (.int q.1))) q.2) := by
  refine jc.of (by simp only [jent_r, jent_i, jent_l, jent_a, jent_0]; exact Nat.le_of_ble_eq_true rfl) ?_
  have hls : jents [.ref this, .int p0, .int p1] (jm_nL M_Switch_underWayTo) = [some (.ref this), some (.int p0), some (.int p1), none, none] := by simp only [jents, jent_r, jent_i, jent_l, jent_a, jent_0]; rfl
  rw [hls]
  clear hls
  unfold f_Switch_underWayTo at H
  refine J_iconst (v := 0) d_Switch_underWayTo_0 (by decide) ?_
  refine J_istore_n d_Switch_underWayTo_1 (Nat.le_of_ble_eq_true rfl) ?_
  refine J.ls (ls' := [some (.ref this), some (.int p0), some (.int p1), some (.int (0 : Int32)), none]) rfl ?_
  refine J_iconst (v := 0) d_Switch_underWayTo_2 (by decide) ?_
  refine J_istore d_Switch_underWayTo_3 (Nat.le_of_ble_eq_true rfl) ?_
  refine J.ls (ls' := [some (.ref this), some (.int p0), some (.int p1), some (.int (0 : Int32)), some (.int (0 : Int32))]) rfl ?_
  refine J.drop [true, true, true, true, true] rfl ?_
  exact p_Switch_underWayTo_L5 hw hG  _ H
