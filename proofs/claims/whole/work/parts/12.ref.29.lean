theorem ln_Ref_move : (parseMethodDescriptor y_Ref_move.desc).map (fun q => q.parameters.length) = some 0 := by decide +kernel
def f_Ref_move_L92 (Γ : gm_T)  : Nat → ph_T → Nat → Int32 → Option (Unit × ph_T)
  | 0, _, _, _ => none
  | fu + 1, φ, x0, x1 =>
    @ite _ (Γ x0 = .inr 12) _ (
    if (φ.1 x0 1) ≤ x1 then
      some ((), φ)
    else
      Option.bind (f_Ref_moveBeat Γ φ x0 x1) fun q2 =>
      (f_Ref_move_L92 Γ  fu) q2.2 x0 (x1 + (1 : Int32))
    ) none
set_option maxRecDepth 100000 in
set_option maxHeartbeats 4000000 in
theorem p_Ref_move_L92 {w : jw_T} (hw : jok w) {Γ : gm_T} {n : Nat} (hG : gd w Γ n)  : ∀ (fu : Nat) {x : Bool} {φ : ph_T} {x0 : Nat} {x1 : Int32} {q : Unit × ph_T}, f_Ref_move_L92 Γ  fu φ x0 x1 = some q → J w M_Ref_move 92 [some (.ref x0), some (.int x1)] [] (pic Γ φ) n x 0 0 (fq Γ n (.inl none) q.2) := by
  intro fu
  induction fu with
  | zero =>
    intro x φ x0 x1 q H
    cases H
  | succ fu ih =>
    intro x φ x0 x1 q H
    unfold f_Ref_move_L92 at H
    refine J_iload_n d_Ref_move_92 rfl ?_
    refine J_aload_n d_Ref_move_93 rfl ?_
    have g1 : Γ x0 = .inr 12 := by
      apply Classical.byContradiction
      intro q9
      rw [if_neg q9] at H
      cases H
    rw [if_pos g1] at H
    refine F_getI (ci := 12) (k := 1) hG (cf_Ref hw) (fl_Ref_290 hw) (by decide) (by decide) rfl d_Ref_move_94 g1 ?_
    refine J_icmp_ge (tgt := 111) d_Ref_move_97 (by decide) ?_ ?_
    · intro c3
      rw [if_pos c3] at H
      have H := Option.some.inj H
      subst H
      exact J_vret (st := []) d_Ref_move_111 rfl ⟨rfl, rfl, rfl⟩
    · intro c3
      rw [if_neg c3] at H
      refine J_aload_n d_Ref_move_100 rfl ?_
      refine J_iload_n d_Ref_move_101 rfl ?_
      obtain ⟨q2, hq2, H⟩ := Option.bind_eq_some_iff.mp H
      refine J_callV (kc := 0) (ks := 0) (kc' := 0) (ks' := 0) (a := x0) (ci := 12) (as := [.int x1]) (st := []) (mf_Ref_moveBeat hw) (mv_Ref_575 hw) d_Ref_move_102 ln_Ref_moveBeat (by decide) (by first | exact Nat.le_of_ble_eq_true rfl | (simp only [List.map_cons, List.map_nil, List.sum_cons, List.sum_nil, va_rf_cat]; exact Nat.le_of_ble_eq_true rfl)) rfl ((hG _).1 _ g1 (by decide)).1 ((hG _).1 _ g1 (by decide)).2 (by unfold pic; rw [g1]; rfl) (jcl_at hw rfl) rfl (p_Ref_moveBeat hw hG hq2) ?_ (fun E h' n' x' e1 => by cases e1.1)
      intro v9 h9 n9 x9 e9
      obtain ⟨e91, e92, e93⟩ := e9
      cases e91
      subst e92
      subst e93
      clear x
      rename Bool => x
      show J _ _ _ _ [] _ _ _ _ _ _
      refine J_iinc (v := x1 + 1) d_Ref_move_105 rfl (by rw [show Int32.ofInt 1 = (1 : Int32) from by decide]) ?_
      refine J.ls (ls' := [some (.ref x0), some (.int (x1 + (1 : Int32)))]) rfl ?_
      refine J_goto (tgt := 92) d_Ref_move_108 (by decide) ?_
      refine J.drop [true, true] rfl ?_
      exact ih H
def f_Ref_move_L71 (Γ : gm_T)  : Nat → ph_T → Nat → Int32 → Option (Unit × ph_T)
  | 0, _, _, _ => none
  | fu + 1, φ, x0, x1 =>
    @ite _ (Γ x0 = .inr 12) _ (
    if (φ.1 x0 1) ≤ x1 then
      f_Ref_move_L92 Γ  jF φ x0 (0 : Int32)
    else
      Option.bind (f_Ref_moveAnswer Γ φ x0 x1) fun q5 =>
      (f_Ref_move_L71 Γ  fu) q5.2 x0 (x1 + (1 : Int32))
    ) none
set_option maxRecDepth 100000 in
set_option maxHeartbeats 4000000 in
theorem p_Ref_move_L71 {w : jw_T} (hw : jok w) {Γ : gm_T} {n : Nat} (hG : gd w Γ n)  : ∀ (fu : Nat) {x : Bool} {φ : ph_T} {x0 : Nat} {x1 : Int32} {q : Unit × ph_T}, f_Ref_move_L71 Γ  fu φ x0 x1 = some q → J w M_Ref_move 71 [some (.ref x0), some (.int x1)] [] (pic Γ φ) n x 0 0 (fq Γ n (.inl none) q.2) := by
  intro fu
  induction fu with
  | zero =>
    intro x φ x0 x1 q H
    cases H
  | succ fu ih =>
    intro x φ x0 x1 q H
    unfold f_Ref_move_L71 at H
    refine J_iload_n d_Ref_move_71 rfl ?_
    refine J_aload_n d_Ref_move_72 rfl ?_
    have g4 : Γ x0 = .inr 12 := by
      apply Classical.byContradiction
      intro q9
      rw [if_neg q9] at H
      cases H
    rw [if_pos g4] at H
    refine F_getI (ci := 12) (k := 1) hG (cf_Ref hw) (fl_Ref_290 hw) (by decide) (by decide) rfl d_Ref_move_73 g4 ?_
    refine J_icmp_ge (tgt := 90) d_Ref_move_76 (by decide) ?_ ?_
    · intro c6
      rw [if_pos c6] at H
      refine J_iconst (v := 0) d_Ref_move_90 (by decide) ?_
      refine J_istore_n d_Ref_move_91 (Nat.le_of_ble_eq_true rfl) ?_
      refine J.ls (ls' := [some (.ref x0), some (.int (0 : Int32))]) rfl ?_
      refine J.drop [true, true] rfl ?_
      exact p_Ref_move_L92 hw hG  _ H
    · intro c6
      rw [if_neg c6] at H
      refine J_aload_n d_Ref_move_79 rfl ?_
      refine J_iload_n d_Ref_move_80 rfl ?_
      obtain ⟨q5, hq5, H⟩ := Option.bind_eq_some_iff.mp H
      refine J_callV (kc := 0) (ks := 0) (kc' := 0) (ks' := 0) (a := x0) (ci := 12) (as := [.int x1]) (st := []) (mf_Ref_moveAnswer hw) (mv_Ref_572 hw) d_Ref_move_81 ln_Ref_moveAnswer (by decide) (by first | exact Nat.le_of_ble_eq_true rfl | (simp only [List.map_cons, List.map_nil, List.sum_cons, List.sum_nil, va_rf_cat]; exact Nat.le_of_ble_eq_true rfl)) rfl ((hG _).1 _ g4 (by decide)).1 ((hG _).1 _ g4 (by decide)).2 (by unfold pic; rw [g4]; rfl) (jcl_at hw rfl) rfl (p_Ref_moveAnswer hw hG hq5) ?_ (fun E h' n' x' e1 => by cases e1.1)
      intro v9 h9 n9 x9 e9
      obtain ⟨e91, e92, e93⟩ := e9
      cases e91
      subst e92
      subst e93
      clear x
      rename Bool => x
      show J _ _ _ _ [] _ _ _ _ _ _
      refine J_iinc (v := x1 + 1) d_Ref_move_84 rfl (by rw [show Int32.ofInt 1 = (1 : Int32) from by decide]) ?_
      refine J.ls (ls' := [some (.ref x0), some (.int (x1 + (1 : Int32)))]) rfl ?_
      refine J_goto (tgt := 71) d_Ref_move_87 (by decide) ?_
      refine J.drop [true, true] rfl ?_
      exact ih H
def f_Ref_move_L46 (Γ : gm_T)  : Nat → ph_T → Nat → Int32 → Option (Unit × ph_T)
  | 0, _, _, _ => none
  | fu + 1, φ, x0, x1 =>
    @ite _ (Γ x0 = .inr 12) _ (
    if (φ.1 x0 1) ≤ x1 then
      Option.bind (f_Ref_workDefault Γ φ x0) fun q8 =>
      f_Ref_move_L71 Γ  jF q8.2 x0 (0 : Int32)
    else
      Option.bind (f_Ref_moveData Γ φ x0 x1) fun q9 =>
      (f_Ref_move_L46 Γ  fu) q9.2 x0 (x1 + (1 : Int32))
    ) none
set_option maxRecDepth 100000 in
set_option maxHeartbeats 4000000 in
theorem p_Ref_move_L46 {w : jw_T} (hw : jok w) {Γ : gm_T} {n : Nat} (hG : gd w Γ n)  : ∀ (fu : Nat) {x : Bool} {φ : ph_T} {x0 : Nat} {x1 : Int32} {q : Unit × ph_T}, f_Ref_move_L46 Γ  fu φ x0 x1 = some q → J w M_Ref_move 46 [some (.ref x0), some (.int x1)] [] (pic Γ φ) n x 0 0 (fq Γ n (.inl none) q.2) := by
  intro fu
  induction fu with
  | zero =>
    intro x φ x0 x1 q H
    cases H
  | succ fu ih =>
    intro x φ x0 x1 q H
    unfold f_Ref_move_L46 at H
    refine J_iload_n d_Ref_move_46 rfl ?_
    refine J_aload_n d_Ref_move_47 rfl ?_
    have g7 : Γ x0 = .inr 12 := by
      apply Classical.byContradiction
      intro q9
      rw [if_neg q9] at H
      cases H
    rw [if_pos g7] at H
    refine F_getI (ci := 12) (k := 1) hG (cf_Ref hw) (fl_Ref_290 hw) (by decide) (by decide) rfl d_Ref_move_48 g7 ?_
    refine J_icmp_ge (tgt := 65) d_Ref_move_51 (by decide) ?_ ?_
    · intro c10
      rw [if_pos c10] at H
      refine J_aload_n d_Ref_move_65 rfl ?_
      obtain ⟨q8, hq8, H⟩ := Option.bind_eq_some_iff.mp H
      refine J_callV (kc := 0) (ks := 0) (kc' := 0) (ks' := 0) (a := x0) (ci := 12) (as := []) (st := []) (mf_Ref_workDefault hw) (mv_Ref_569 hw) d_Ref_move_66 ln_Ref_workDefault (by decide) (by first | exact Nat.le_of_ble_eq_true rfl | (simp only [List.map_cons, List.map_nil, List.sum_cons, List.sum_nil, va_rf_cat]; exact Nat.le_of_ble_eq_true rfl)) rfl ((hG _).1 _ g7 (by decide)).1 ((hG _).1 _ g7 (by decide)).2 (by unfold pic; rw [g7]; rfl) (jcl_at hw rfl) rfl (p_Ref_workDefault hw hG hq8) ?_ (fun E h' n' x' e1 => by cases e1.1)
      intro v9 h9 n9 x9 e9
      obtain ⟨e91, e92, e93⟩ := e9
      cases e91
      subst e92
      subst e93
      clear x
      rename Bool => x
      show J _ _ _ _ [] _ _ _ _ _ _
      refine J_iconst (v := 0) d_Ref_move_69 (by decide) ?_
      refine J_istore_n d_Ref_move_70 (Nat.le_of_ble_eq_true rfl) ?_
      refine J.ls (ls' := [some (.ref x0), some (.int (0 : Int32))]) rfl ?_
      refine J.drop [true, true] rfl ?_
      exact p_Ref_move_L71 hw hG  _ H
    · intro c10
      rw [if_neg c10] at H
      refine J_aload_n d_Ref_move_54 rfl ?_
      refine J_iload_n d_Ref_move_55 rfl ?_
      obtain ⟨q9, hq9, H⟩ := Option.bind_eq_some_iff.mp H
      refine J_callV (kc := 0) (ks := 0) (kc' := 0) (ks' := 0) (a := x0) (ci := 12) (as := [.int x1]) (st := []) (mf_Ref_moveData hw) (mv_Ref_566 hw) d_Ref_move_56 ln_Ref_moveData (by decide) (by first | exact Nat.le_of_ble_eq_true rfl | (simp only [List.map_cons, List.map_nil, List.sum_cons, List.sum_nil, va_rf_cat]; exact Nat.le_of_ble_eq_true rfl)) rfl ((hG _).1 _ g7 (by decide)).1 ((hG _).1 _ g7 (by decide)).2 (by unfold pic; rw [g7]; rfl) (jcl_at hw rfl) rfl (p_Ref_moveData hw hG hq9) ?_ (fun E h' n' x' e1 => by cases e1.1)
      intro v9 h9 n9 x9 e9
      obtain ⟨e91, e92, e93⟩ := e9
      cases e91
      subst e92
      subst e93
      clear x
      rename Bool => x
      show J _ _ _ _ [] _ _ _ _ _ _
      refine J_iinc (v := x1 + 1) d_Ref_move_59 rfl (by rw [show Int32.ofInt 1 = (1 : Int32) from by decide]) ?_
      refine J.ls (ls' := [some (.ref x0), some (.int (x1 + (1 : Int32)))]) rfl ?_
      refine J_goto (tgt := 46) d_Ref_move_62 (by decide) ?_
      refine J.drop [true, true] rfl ?_
      exact ih H
def f_Ref_move_L24 (Γ : gm_T)  : Nat → ph_T → Nat → Int32 → Option (Unit × ph_T)
  | 0, _, _, _ => none
  | fu + 1, φ, x0, x1 =>
    @ite _ (Γ x0 = .inr 12) _ (
    if (φ.1 x0 2) < x1 then
      f_Ref_move_L46 Γ  jF φ x0 (0 : Int32)
    else
      Option.bind (f_Ref_moveAddress Γ φ x0 x1 (3 : Int32)) fun q12 =>
      (f_Ref_move_L24 Γ  fu) q12.2 x0 (x1 + (1 : Int32))
    ) none
set_option maxRecDepth 100000 in
set_option maxHeartbeats 4000000 in
theorem p_Ref_move_L24 {w : jw_T} (hw : jok w) {Γ : gm_T} {n : Nat} (hG : gd w Γ n)  : ∀ (fu : Nat) {x : Bool} {φ : ph_T} {x0 : Nat} {x1 : Int32} {q : Unit × ph_T}, f_Ref_move_L24 Γ  fu φ x0 x1 = some q → J w M_Ref_move 24 [some (.ref x0), some (.int x1)] [] (pic Γ φ) n x 0 0 (fq Γ n (.inl none) q.2) := by
  intro fu
  induction fu with
  | zero =>
    intro x φ x0 x1 q H
    cases H
  | succ fu ih =>
    intro x φ x0 x1 q H
    unfold f_Ref_move_L24 at H
    refine J_iload_n d_Ref_move_24 rfl ?_
    refine J_aload_n d_Ref_move_25 rfl ?_
    have g11 : Γ x0 = .inr 12 := by
      apply Classical.byContradiction
      intro q9
      rw [if_neg q9] at H
      cases H
    rw [if_pos g11] at H
    refine F_getI (ci := 12) (k := 2) hG (cf_Ref hw) (fl_Ref_294 hw) (by decide) (by decide) rfl d_Ref_move_26 g11 ?_
    refine J_icmp_gt (tgt := 44) d_Ref_move_29 (by decide) ?_ ?_
    · intro c13
      rw [if_pos c13] at H
      refine J_iconst (v := 0) d_Ref_move_44 (by decide) ?_
      refine J_istore_n d_Ref_move_45 (Nat.le_of_ble_eq_true rfl) ?_
      refine J.ls (ls' := [some (.ref x0), some (.int (0 : Int32))]) rfl ?_
      refine J.drop [true, true] rfl ?_
      exact p_Ref_move_L46 hw hG  _ H
    · intro c13
      rw [if_neg c13] at H
      refine J_aload_n d_Ref_move_32 rfl ?_
      refine J_iload_n d_Ref_move_33 rfl ?_
      refine J_iconst (v := 3) d_Ref_move_34 (by decide) ?_
      obtain ⟨q12, hq12, H⟩ := Option.bind_eq_some_iff.mp H
      refine J_callV (kc := 0) (ks := 0) (kc' := 0) (ks' := 0) (a := x0) (ci := 12) (as := [.int x1, .int (3 : Int32)]) (st := []) (mf_Ref_moveAddress hw) (mv_Ref_563 hw) d_Ref_move_35 ln_Ref_moveAddress (by decide) (by first | exact Nat.le_of_ble_eq_true rfl | (simp only [List.map_cons, List.map_nil, List.sum_cons, List.sum_nil, va_rf_cat]; exact Nat.le_of_ble_eq_true rfl)) rfl ((hG _).1 _ g11 (by decide)).1 ((hG _).1 _ g11 (by decide)).2 (by unfold pic; rw [g11]; rfl) (jcl_at hw rfl) rfl (p_Ref_moveAddress hw hG hq12) ?_ (fun E h' n' x' e1 => by cases e1.1)
      intro v9 h9 n9 x9 e9
      obtain ⟨e91, e92, e93⟩ := e9
      cases e91
      subst e92
      subst e93
      clear x
      rename Bool => x
      show J _ _ _ _ [] _ _ _ _ _ _
      refine J_iinc (v := x1 + 1) d_Ref_move_38 rfl (by rw [show Int32.ofInt 1 = (1 : Int32) from by decide]) ?_
      refine J.ls (ls' := [some (.ref x0), some (.int (x1 + (1 : Int32)))]) rfl ?_
      refine J_goto (tgt := 24) d_Ref_move_41 (by decide) ?_
      refine J.drop [true, true] rfl ?_
      exact ih H
def f_Ref_move_L2 (Γ : gm_T)  : Nat → ph_T → Nat → Int32 → Option (Unit × ph_T)
  | 0, _, _, _ => none
  | fu + 1, φ, x0, x1 =>
    @ite _ (Γ x0 = .inr 12) _ (
    if (φ.1 x0 2) < x1 then
      f_Ref_move_L24 Γ  jF φ x0 (0 : Int32)
    else
      Option.bind (f_Ref_moveAddress Γ φ x0 x1 (0 : Int32)) fun q15 =>
      (f_Ref_move_L2 Γ  fu) q15.2 x0 (x1 + (1 : Int32))
    ) none
set_option maxRecDepth 100000 in
set_option maxHeartbeats 4000000 in
theorem p_Ref_move_L2 {w : jw_T} (hw : jok w) {Γ : gm_T} {n : Nat} (hG : gd w Γ n)  : ∀ (fu : Nat) {x : Bool} {φ : ph_T} {x0 : Nat} {x1 : Int32} {q : Unit × ph_T}, f_Ref_move_L2 Γ  fu φ x0 x1 = some q → J w M_Ref_move 2 [some (.ref x0), some (.int x1)] [] (pic Γ φ) n x 0 0 (fq Γ n (.inl none) q.2) := by
  intro fu
  induction fu with
  | zero =>
    intro x φ x0 x1 q H
    cases H
  | succ fu ih =>
    intro x φ x0 x1 q H
    unfold f_Ref_move_L2 at H
    refine J_iload_n d_Ref_move_2 rfl ?_
    refine J_aload_n d_Ref_move_3 rfl ?_
    have g14 : Γ x0 = .inr 12 := by
      apply Classical.byContradiction
      intro q9
      rw [if_neg q9] at H
      cases H
    rw [if_pos g14] at H
    refine F_getI (ci := 12) (k := 2) hG (cf_Ref hw) (fl_Ref_294 hw) (by decide) (by decide) rfl d_Ref_move_4 g14 ?_
    refine J_icmp_gt (tgt := 22) d_Ref_move_7 (by decide) ?_ ?_
    · intro c16
      rw [if_pos c16] at H
      refine J_iconst (v := 0) d_Ref_move_22 (by decide) ?_
      refine J_istore_n d_Ref_move_23 (Nat.le_of_ble_eq_true rfl) ?_
      refine J.ls (ls' := [some (.ref x0), some (.int (0 : Int32))]) rfl ?_
      refine J.drop [true, true] rfl ?_
      exact p_Ref_move_L24 hw hG  _ H
    · intro c16
      rw [if_neg c16] at H
      refine J_aload_n d_Ref_move_10 rfl ?_
      refine J_iload_n d_Ref_move_11 rfl ?_
      refine J_iconst (v := 0) d_Ref_move_12 (by decide) ?_
      obtain ⟨q15, hq15, H⟩ := Option.bind_eq_some_iff.mp H
      refine J_callV (kc := 0) (ks := 0) (kc' := 0) (ks' := 0) (a := x0) (ci := 12) (as := [.int x1, .int (0 : Int32)]) (st := []) (mf_Ref_moveAddress hw) (mv_Ref_563 hw) d_Ref_move_13 ln_Ref_moveAddress (by decide) (by first | exact Nat.le_of_ble_eq_true rfl | (simp only [List.map_cons, List.map_nil, List.sum_cons, List.sum_nil, va_rf_cat]; exact Nat.le_of_ble_eq_true rfl)) rfl ((hG _).1 _ g14 (by decide)).1 ((hG _).1 _ g14 (by decide)).2 (by unfold pic; rw [g14]; rfl) (jcl_at hw rfl) rfl (p_Ref_moveAddress hw hG hq15) ?_ (fun E h' n' x' e1 => by cases e1.1)
      intro v9 h9 n9 x9 e9
      obtain ⟨e91, e92, e93⟩ := e9
      cases e91
      subst e92
      subst e93
      clear x
      rename Bool => x
      show J _ _ _ _ [] _ _ _ _ _ _
      refine J_iinc (v := x1 + 1) d_Ref_move_16 rfl (by rw [show Int32.ofInt 1 = (1 : Int32) from by decide]) ?_
      refine J.ls (ls' := [some (.ref x0), some (.int (x1 + (1 : Int32)))]) rfl ?_
      refine J_goto (tgt := 2) d_Ref_move_19 (by decide) ?_
      refine J.drop [true, true] rfl ?_
      exact ih H
def f_Ref_move (Γ : gm_T) (φ : ph_T) (this : Nat) : Option (Unit × ph_T) :=
  f_Ref_move_L2 Γ  jF φ this (0 : Int32)
set_option maxRecDepth 100000 in
set_option maxHeartbeats 4000000 in
theorem p_Ref_move {w : jw_T} (hw : jok w) {Γ : gm_T} {n : Nat} (hG : gd w Γ n) {x : Bool} {φ : ph_T} {this : Nat} {q : Unit × ph_T} (H : f_Ref_move Γ φ this = some q) : jc w M_Ref_move [.ref this] (pic Γ φ) n x 0 0 (fq Γ n (.inl none) q.2) := by
  refine jc.of (by simp only [jent_r, jent_i, jent_l, jent_a, jent_0]; exact Nat.le_of_ble_eq_true rfl) ?_
  have hls : jents [.ref this] (jm_nL M_Ref_move) = [some (.ref this), none] := by simp only [jents, jent_r, jent_i, jent_l, jent_a, jent_0]; rfl
  rw [hls]
  clear hls
  unfold f_Ref_move at H
  refine J_iconst (v := 0) d_Ref_move_0 (by decide) ?_
  refine J_istore_n d_Ref_move_1 (Nat.le_of_ble_eq_true rfl) ?_
  refine J.ls (ls' := [some (.ref this), some (.int (0 : Int32))]) rfl ?_
  refine J.drop [true, true] rfl ?_
  exact p_Ref_move_L2 hw hG  _ H
theorem ln_Ref_step : (parseMethodDescriptor y_Ref_step.desc).map (fun q => q.parameters.length) = some 0 := by decide +kernel
def f_Ref_step_L204 (Γ : gm_T) (Kc77 : ph_T → Nat → Int32 → Int32 → Option (Int32 × ph_T)) (φ : ph_T) (x0 : Nat) (x1 : Int32) (x2 : Int32) : Option (Int32 × ph_T) :=
  Kc77 φ x0 x1 (x2 + (1 : Int32))
set_option maxRecDepth 100000 in
set_option maxHeartbeats 4000000 in
theorem p_Ref_step_L204 {w : jw_T} (hw : jok w) {Γ : gm_T} {n : Nat} (hG : gd w Γ n) {Kc77 : ph_T → Nat → Int32 → Int32 → Option (Int32 × ph_T)} (hKc77 : ∀ {x : Bool} {φ : ph_T} {x0 : Nat} {x1 : Int32} {x2 : Int32} {q : Int32 × ph_T}, Kc77 φ x0 x1 x2 = some q → J w M_Ref_step 77 [some (.ref x0), some (.int x1), some (.int x2), none] [] (pic Γ φ) n x 0 0 (fq Γ n (.inl (some (.int q.1))) q.2)) {x : Bool} {φ : ph_T} {x0 : Nat} {x1 : Int32} {x2 : Int32} {q : Int32 × ph_T} (H : f_Ref_step_L204 Γ Kc77 φ x0 x1 x2 = some q) : J w M_Ref_step 204 [some (.ref x0), some (.int x1), some (.int x2), none] [] (pic Γ φ) n x 0 0 (fq Γ n (.inl (some (.int q.1))) q.2) := by
  unfold f_Ref_step_L204 at H
  refine J_iinc (v := x2 + 1) d_Ref_step_204 rfl (by rw [show Int32.ofInt 1 = (1 : Int32) from by decide]) ?_
  refine J.ls (ls' := [some (.ref x0), some (.int x1), some (.int (x2 + (1 : Int32))), none]) rfl ?_
  refine J_goto (tgt := 77) d_Ref_step_207 (by decide) ?_
  refine J.drop [true, true, true, false] rfl ?_
  exact hKc77 H
def f_Ref_step_L155 (Γ : gm_T) (Kc77 : ph_T → Nat → Int32 → Int32 → Option (Int32 × ph_T)) (φ : ph_T) (x0 : Nat) (x1 : Int32) (x2 : Int32) (x3 : Int32) (y0 : Int32) (y1 : Int32) (y2 : Option Nat) : Option (Int32 × ph_T) :=
  Option.bind y2 fun a7 =>
  Option.bind (gA Γ a7 2) fun N8 =>
  Option.bind (ix y1 N8) fun k9 =>
  @ite _ (y0 = 0 ∨ y0 = 1) _ (
  if x3 = 0 then
    f_Ref_step_L204 Γ Kc77 (uI φ a7 k9 y0) x0 x1 x2
  else
    @ite _ (Γ x0 = .inr 12) _ (
    Option.bind (φ.2.2 x0 38) fun a12 =>
    Option.bind (gA Γ a12 0) fun N13 =>
    Option.bind (ix x2 N13) fun k14 =>
    Option.bind (gA Γ a12 0) fun N15 =>
    Option.bind (ix x2 N15) fun k16 =>
    if (20 : Int32) ≤ x2 then
      @ite _ ((5 : Int32) = 0) _ none (
      @ite _ ((5 : Int32) = 0) _ none (
      Option.bind (f_Ref_goSlave Γ (uI (uI φ a7 k9 y0) a12 k16 (((uI φ a7 k9 y0).1 a12 k14) + (1 : Int32))) x0 ((x2 / (5 : Int32)) - (4 : Int32)) (x2 - x2 / (5 : Int32) * (5 : Int32))) fun q19 =>
      f_Ref_step_L204 Γ Kc77 q19.2 x0 (x1 + (1 : Int32)) x2
      )
      )
    else
      @ite _ ((5 : Int32) = 0) _ none (
      @ite _ ((5 : Int32) = 0) _ none (
      Option.bind (f_Ref_goMaster Γ (uI (uI φ a7 k9 y0) a12 k16 (((uI φ a7 k9 y0).1 a12 k14) + (1 : Int32))) x0 (x2 / (5 : Int32)) (x2 - x2 / (5 : Int32) * (5 : Int32))) fun q22 =>
      f_Ref_step_L204 Γ Kc77 q22.2 x0 (x1 + (1 : Int32)) x2
      )
      )
    ) none
  ) none
set_option maxRecDepth 100000 in
set_option maxHeartbeats 4000000 in
theorem p_Ref_step_L155 {w : jw_T} (hw : jok w) {Γ : gm_T} {n : Nat} (hG : gd w Γ n) {Kc77 : ph_T → Nat → Int32 → Int32 → Option (Int32 × ph_T)} (hKc77 : ∀ {x : Bool} {φ : ph_T} {x0 : Nat} {x1 : Int32} {x2 : Int32} {q : Int32 × ph_T}, Kc77 φ x0 x1 x2 = some q → J w M_Ref_step 77 [some (.ref x0), some (.int x1), some (.int x2), none] [] (pic Γ φ) n x 0 0 (fq Γ n (.inl (some (.int q.1))) q.2)) {x : Bool} {φ : ph_T} {x0 : Nat} {x1 : Int32} {x2 : Int32} {x3 : Int32} {y0 : Int32} {y1 : Int32} {y2 : Option Nat} {q : Int32 × ph_T} (H : f_Ref_step_L155 Γ Kc77 φ x0 x1 x2 x3 y0 y1 y2 = some q) : J w M_Ref_step 155 [some (.ref x0), some (.int x1), some (.int x2), some (.int x3)] [.int y0, .int y1, va_rf y2] (pic Γ φ) n x 0 0 (fq Γ n (.inl (some (.int q.1))) q.2) := by
  unfold f_Ref_step_L155 at H
  obtain ⟨a7, ha7, H⟩ := Option.bind_eq_some_iff.mp H
  rw [j_rf ha7]
  obtain ⟨N8, hN8, H⟩ := Option.bind_eq_some_iff.mp H
  obtain ⟨k9, hk9, H⟩ := Option.bind_eq_some_iff.mp H
  have z10 : y0 = 0 ∨ y0 = 1 := by
    apply Classical.byContradiction
    intro q9
    rw [if_neg q9] at H
    cases H
  rw [if_pos z10] at H
  refine F_zast k9 hw hG d_Ref_step_155 (gA_some hN8) (ix_some hk9) z10 ?_
  refine J_iload_n d_Ref_step_156 rfl ?_
  refine J_if_eq (tgt := 204) d_Ref_step_157 (by decide) ?_ ?_
  · intro c24
    rw [if_pos c24] at H
    refine J.drop [true, true, true, false] rfl ?_
    exact p_Ref_step_L204 hw hG hKc77 H
  · intro c24
    rw [if_neg c24] at H
    refine J_iinc (v := x1 + 1) d_Ref_step_160 rfl (by rw [show Int32.ofInt 1 = (1 : Int32) from by decide]) ?_
    refine J.ls (ls' := [some (.ref x0), some (.int (x1 + (1 : Int32))), some (.int x2), some (.int x3)]) rfl ?_
    refine J_aload_n d_Ref_step_163 rfl ?_
    have g11 : Γ x0 = .inr 12 := by
      apply Classical.byContradiction
      intro q9
      rw [if_neg q9] at H
      cases H
    rw [if_pos g11] at H
    refine F_getR (ci := 12) (k := 38) hG (cf_Ref hw) (fl_Ref_103 hw) (by decide) (by decide) rfl d_Ref_step_164 g11 ?_
    show J _ _ _ _ (va_rf (φ.2.2 x0 38) :: _) _ _ _ _ _ _
    refine J_iload_n d_Ref_step_167 rfl ?_
    refine J_dup2 d_Ref_step_168 rfl (va_rf_cat _) ?_
    obtain ⟨a12, ha12, H⟩ := Option.bind_eq_some_iff.mp H
    rw [j_rf ha12]
    obtain ⟨N13, hN13, H⟩ := Option.bind_eq_some_iff.mp H
    obtain ⟨k14, hk14, H⟩ := Option.bind_eq_some_iff.mp H
    refine F_iald k14 hw hG d_Ref_step_169 (gA_some hN13) (ix_some hk14) ?_
    refine J_iconst (v := 1) d_Ref_step_170 (by decide) ?_
    refine J_iadd d_Ref_step_171 ?_
    obtain ⟨N15, hN15, H⟩ := Option.bind_eq_some_iff.mp H
    obtain ⟨k16, hk16, H⟩ := Option.bind_eq_some_iff.mp H
    refine F_iast k16 hw hG d_Ref_step_172 (gA_some hN15) (ix_some hk16) ?_
    refine J_iload_n d_Ref_step_173 rfl ?_
    refine J_bipush (v := 20) d_Ref_step_174 (by decide) ?_
    refine J_icmp_ge (tgt := 192) d_Ref_step_176 (by decide) ?_ ?_
    · intro c23
      rw [if_pos c23] at H
      refine J_aload_n d_Ref_step_192 rfl ?_
      refine J_iload_n d_Ref_step_193 rfl ?_
      refine J_iconst (v := 5) d_Ref_step_194 (by decide) ?_
      have h17 : ¬ (5 : Int32) = 0 := by
        intro q9
        rw [if_pos q9] at H
        cases H
      rw [if_neg h17] at H
      refine J_idiv d_Ref_step_195 h17 ?_
      refine J_iconst (v := 4) d_Ref_step_196 (by decide) ?_
      refine J_isub d_Ref_step_197 ?_
      refine J_iload_n d_Ref_step_198 rfl ?_
      refine J_iconst (v := 5) d_Ref_step_199 (by decide) ?_
      have h18 : ¬ (5 : Int32) = 0 := by
        intro q9
        rw [if_pos q9] at H
        cases H
      rw [if_neg h18] at H
      refine J_irem d_Ref_step_200 h18 ?_
      obtain ⟨q19, hq19, H⟩ := Option.bind_eq_some_iff.mp H
      refine J_callV (kc := 0) (ks := 0) (kc' := 0) (ks' := 0) (a := x0) (ci := 12) (as := [.int ((x2 / (5 : Int32)) - (4 : Int32)), .int (x2 - x2 / (5 : Int32) * (5 : Int32))]) (st := []) (mf_Ref_goSlave hw) (mv_Ref_593 hw) d_Ref_step_201 ln_Ref_goSlave (by decide) (by first | exact Nat.le_of_ble_eq_true rfl | (simp only [List.map_cons, List.map_nil, List.sum_cons, List.sum_nil, va_rf_cat]; exact Nat.le_of_ble_eq_true rfl)) rfl ((hG _).1 _ g11 (by decide)).1 ((hG _).1 _ g11 (by decide)).2 (by unfold pic; rw [g11]; rfl) (jcl_at hw rfl) rfl (p_Ref_goSlave hw hG hq19) ?_ (fun E h' n' x' e1 => by cases e1.1)
      intro v9 h9 n9 x9 e9
      obtain ⟨e91, e92, e93⟩ := e9
      cases e91
      subst e92
      subst e93
      clear x
      rename Bool => x
      show J _ _ _ _ [] _ _ _ _ _ _
      refine J.drop [true, true, true, false] rfl ?_
      exact p_Ref_step_L204 hw hG hKc77 H
    · intro c23
      rw [if_neg c23] at H
      refine J_aload_n d_Ref_step_179 rfl ?_
      refine J_iload_n d_Ref_step_180 rfl ?_
      refine J_iconst (v := 5) d_Ref_step_181 (by decide) ?_
      have h20 : ¬ (5 : Int32) = 0 := by
        intro q9
        rw [if_pos q9] at H
        cases H
      rw [if_neg h20] at H
      refine J_idiv d_Ref_step_182 h20 ?_
      refine J_iload_n d_Ref_step_183 rfl ?_
      refine J_iconst (v := 5) d_Ref_step_184 (by decide) ?_
      have h21 : ¬ (5 : Int32) = 0 := by
        intro q9
        rw [if_pos q9] at H
        cases H
      rw [if_neg h21] at H
      refine J_irem d_Ref_step_185 h21 ?_
      obtain ⟨q22, hq22, H⟩ := Option.bind_eq_some_iff.mp H
      refine J_callV (kc := 0) (ks := 0) (kc' := 0) (ks' := 0) (a := x0) (ci := 12) (as := [.int (x2 / (5 : Int32)), .int (x2 - x2 / (5 : Int32) * (5 : Int32))]) (st := []) (mf_Ref_goMaster hw) (mv_Ref_590 hw) d_Ref_step_186 ln_Ref_goMaster (by decide) (by first | exact Nat.le_of_ble_eq_true rfl | (simp only [List.map_cons, List.map_nil, List.sum_cons, List.sum_nil, va_rf_cat]; exact Nat.le_of_ble_eq_true rfl)) rfl ((hG _).1 _ g11 (by decide)).1 ((hG _).1 _ g11 (by decide)).2 (by unfold pic; rw [g11]; rfl) (jcl_at hw rfl) rfl (p_Ref_goMaster hw hG hq22) ?_ (fun E h' n' x' e1 => by cases e1.1)
      intro v9 h9 n9 x9 e9
      obtain ⟨e91, e92, e93⟩ := e9
      cases e91
      subst e92
      subst e93
      clear x
      rename Bool => x
      show J _ _ _ _ [] _ _ _ _ _ _
      refine J_goto (tgt := 204) d_Ref_step_189 (by decide) ?_
      refine J.drop [true, true, true, false] rfl ?_
      exact p_Ref_step_L204 hw hG hKc77 H
def f_Ref_step_L154 (Γ : gm_T) (Kc77 : ph_T → Nat → Int32 → Int32 → Option (Int32 × ph_T)) (φ : ph_T) (x0 : Nat) (x1 : Int32) (x2 : Int32) (x3 : Int32) (y0 : Int32) (y1 : Option Nat) : Option (Int32 × ph_T) :=
  f_Ref_step_L155 Γ Kc77 φ x0 x1 x2 x3 (0 : Int32) y0 y1
set_option maxRecDepth 100000 in
set_option maxHeartbeats 4000000 in
theorem p_Ref_step_L154 {w : jw_T} (hw : jok w) {Γ : gm_T} {n : Nat} (hG : gd w Γ n) {Kc77 : ph_T → Nat → Int32 → Int32 → Option (Int32 × ph_T)} (hKc77 : ∀ {x : Bool} {φ : ph_T} {x0 : Nat} {x1 : Int32} {x2 : Int32} {q : Int32 × ph_T}, Kc77 φ x0 x1 x2 = some q → J w M_Ref_step 77 [some (.ref x0), some (.int x1), some (.int x2), none] [] (pic Γ φ) n x 0 0 (fq Γ n (.inl (some (.int q.1))) q.2)) {x : Bool} {φ : ph_T} {x0 : Nat} {x1 : Int32} {x2 : Int32} {x3 : Int32} {y0 : Int32} {y1 : Option Nat} {q : Int32 × ph_T} (H : f_Ref_step_L154 Γ Kc77 φ x0 x1 x2 x3 y0 y1 = some q) : J w M_Ref_step 154 [some (.ref x0), some (.int x1), some (.int x2), some (.int x3)] [.int y0, va_rf y1] (pic Γ φ) n x 0 0 (fq Γ n (.inl (some (.int q.1))) q.2) := by
  unfold f_Ref_step_L154 at H
  refine J_iconst (v := 0) d_Ref_step_154 (by decide) ?_
  refine J.drop [true, true, true, true] rfl ?_
  exact p_Ref_step_L155 hw hG hKc77 H
def f_Ref_step_L116 (Γ : gm_T) (Kc77 : ph_T → Nat → Int32 → Int32 → Option (Int32 × ph_T)) (φ : ph_T) (x0 : Nat) (x1 : Int32) (x2 : Int32) (y0 : Int32) : Option (Int32 × ph_T) :=
  @ite _ (Γ x0 = .inr 12) _ (
  @ite _ ((5 : Int32) = 0) _ none (
  Option.bind (f_Ref_isPort Γ φ x0 (x2 / (5 : Int32))) fun q27 =>
  if q27.1 = 0 then
    f_Ref_step_L154 Γ Kc77 q27.2 x0 x1 x2 y0 x2 (φ.2.2 x0 37)
  else
    Option.bind (q27.2.2.2 x0 33) fun a28 =>
    Option.bind (gA Γ a28 2) fun N29 =>
    Option.bind (ix x2 N29) fun k30 =>
    if (q27.2.1 a28 k30) = 0 then
      f_Ref_step_L154 Γ Kc77 q27.2 x0 x1 x2 y0 x2 (φ.2.2 x0 37)
    else
      Option.bind (q27.2.2.2 x0 34) fun a31 =>
      Option.bind (gA Γ a31 2) fun N32 =>
      Option.bind (ix x2 N32) fun k33 =>
      if (q27.2.1 a31 k33) = 0 then
        f_Ref_step_L155 Γ Kc77 q27.2 x0 x1 x2 y0 (1 : Int32) x2 (φ.2.2 x0 37)
      else
        f_Ref_step_L154 Γ Kc77 q27.2 x0 x1 x2 y0 x2 (φ.2.2 x0 37)
  )
  ) none
set_option maxRecDepth 100000 in
set_option maxHeartbeats 4000000 in
theorem p_Ref_step_L116 {w : jw_T} (hw : jok w) {Γ : gm_T} {n : Nat} (hG : gd w Γ n) {Kc77 : ph_T → Nat → Int32 → Int32 → Option (Int32 × ph_T)} (hKc77 : ∀ {x : Bool} {φ : ph_T} {x0 : Nat} {x1 : Int32} {x2 : Int32} {q : Int32 × ph_T}, Kc77 φ x0 x1 x2 = some q → J w M_Ref_step 77 [some (.ref x0), some (.int x1), some (.int x2), none] [] (pic Γ φ) n x 0 0 (fq Γ n (.inl (some (.int q.1))) q.2)) {x : Bool} {φ : ph_T} {x0 : Nat} {x1 : Int32} {x2 : Int32} {y0 : Int32} {q : Int32 × ph_T} (H : f_Ref_step_L116 Γ Kc77 φ x0 x1 x2 y0 = some q) : J w M_Ref_step 116 [some (.ref x0), some (.int x1), some (.int x2), none] [.int y0] (pic Γ φ) n x 0 0 (fq Γ n (.inl (some (.int q.1))) q.2) := by
  unfold f_Ref_step_L116 at H
  refine J_istore_n d_Ref_step_116 (Nat.le_of_ble_eq_true rfl) ?_
  refine J.ls (ls' := [some (.ref x0), some (.int x1), some (.int x2), some (.int y0)]) rfl ?_
  refine J_aload_n d_Ref_step_117 rfl ?_
  have g25 : Γ x0 = .inr 12 := by
    apply Classical.byContradiction
    intro q9
    rw [if_neg q9] at H
    cases H
  rw [if_pos g25] at H
  refine F_getR (ci := 12) (k := 37) hG (cf_Ref hw) (fl_Ref_100 hw) (by decide) (by decide) rfl d_Ref_step_118 g25 ?_
  refine J_iload_n d_Ref_step_121 rfl ?_
  refine J_aload_n d_Ref_step_122 rfl ?_
  refine J_iload_n d_Ref_step_123 rfl ?_
  refine J_iconst (v := 5) d_Ref_step_124 (by decide) ?_
  have h26 : ¬ (5 : Int32) = 0 := by
    intro q9
    rw [if_pos q9] at H
    cases H
  rw [if_neg h26] at H
  refine J_idiv d_Ref_step_125 h26 ?_
  obtain ⟨q27, hq27, H⟩ := Option.bind_eq_some_iff.mp H
  refine J_callV (kc := 0) (ks := 0) (kc' := 0) (ks' := 0) (a := x0) (ci := 12) (as := [.int (x2 / (5 : Int32))]) (st := [.int x2, va_rf (φ.2.2 x0 37)]) (mf_Ref_isPort hw) (mv_Ref_584 hw) d_Ref_step_126 ln_Ref_isPort (by decide) (by first | exact Nat.le_of_ble_eq_true rfl | (simp only [List.map_cons, List.map_nil, List.sum_cons, List.sum_nil, va_rf_cat]; exact Nat.le_of_ble_eq_true rfl)) rfl ((hG _).1 _ g25 (by decide)).1 ((hG _).1 _ g25 (by decide)).2 (by unfold pic; rw [g25]; rfl) (jcl_at hw rfl) rfl (p_Ref_isPort hw hG hq27) ?_ (fun E h' n' x' e1 => by cases e1.1)
  intro v9 h9 n9 x9 e9
  obtain ⟨e91, e92, e93⟩ := e9
  cases e91
  subst e92
  subst e93
  clear x
  rename Bool => x
  show J _ _ _ _ (_ :: _) _ _ _ _ _ _
  refine J_if_eq (tgt := 154) d_Ref_step_129 (by decide) ?_ ?_
  · intro c36
    rw [if_pos c36] at H
    refine J.drop [true, true, true, true] rfl ?_
    exact p_Ref_step_L154 hw hG hKc77 H
  · intro c36
    rw [if_neg c36] at H
    refine J_aload_n d_Ref_step_132 rfl ?_
    refine F_getR (ci := 12) (k := 33) hG (cf_Ref hw) (fl_Ref_88 hw) (by decide) (by decide) rfl d_Ref_step_133 g25 ?_
    refine J_iload_n d_Ref_step_136 rfl ?_
    obtain ⟨a28, ha28, H⟩ := Option.bind_eq_some_iff.mp H
    rw [j_rf ha28]
    obtain ⟨N29, hN29, H⟩ := Option.bind_eq_some_iff.mp H
    obtain ⟨k30, hk30, H⟩ := Option.bind_eq_some_iff.mp H
    refine F_zald k30 hw hG d_Ref_step_137 (gA_some hN29) (ix_some hk30) ?_
    refine J_if_eq (tgt := 154) d_Ref_step_138 (by decide) ?_ ?_
    · intro c35
      rw [if_pos c35] at H
      refine J.drop [true, true, true, true] rfl ?_
      exact p_Ref_step_L154 hw hG hKc77 H
    · intro c35
      rw [if_neg c35] at H
      refine J_aload_n d_Ref_step_141 rfl ?_
      refine F_getR (ci := 12) (k := 34) hG (cf_Ref hw) (fl_Ref_91 hw) (by decide) (by decide) rfl d_Ref_step_142 g25 ?_
      refine J_iload_n d_Ref_step_145 rfl ?_
      obtain ⟨a31, ha31, H⟩ := Option.bind_eq_some_iff.mp H
      rw [j_rf ha31]
      obtain ⟨N32, hN32, H⟩ := Option.bind_eq_some_iff.mp H
      obtain ⟨k33, hk33, H⟩ := Option.bind_eq_some_iff.mp H
      refine F_zald k33 hw hG d_Ref_step_146 (gA_some hN32) (ix_some hk33) ?_
      refine J_if_ne (tgt := 154) d_Ref_step_147 (by decide) ?_ ?_
      · intro c34
        rw [if_neg c34] at H
        refine J.drop [true, true, true, true] rfl ?_
        exact p_Ref_step_L154 hw hG hKc77 H
      · intro c34
        rw [if_pos c34] at H
        refine J_iconst (v := 1) d_Ref_step_150 (by decide) ?_
        refine J_goto (tgt := 155) d_Ref_step_151 (by decide) ?_
        refine J.drop [true, true, true, true] rfl ?_
        exact p_Ref_step_L155 hw hG hKc77 H
def f_Ref_step_L115 (Γ : gm_T) (Kc77 : ph_T → Nat → Int32 → Int32 → Option (Int32 × ph_T)) (φ : ph_T) (x0 : Nat) (x1 : Int32) (x2 : Int32) : Option (Int32 × ph_T) :=
  f_Ref_step_L116 Γ Kc77 φ x0 x1 x2 (0 : Int32)
set_option maxRecDepth 100000 in
set_option maxHeartbeats 4000000 in
theorem p_Ref_step_L115 {w : jw_T} (hw : jok w) {Γ : gm_T} {n : Nat} (hG : gd w Γ n) {Kc77 : ph_T → Nat → Int32 → Int32 → Option (Int32 × ph_T)} (hKc77 : ∀ {x : Bool} {φ : ph_T} {x0 : Nat} {x1 : Int32} {x2 : Int32} {q : Int32 × ph_T}, Kc77 φ x0 x1 x2 = some q → J w M_Ref_step 77 [some (.ref x0), some (.int x1), some (.int x2), none] [] (pic Γ φ) n x 0 0 (fq Γ n (.inl (some (.int q.1))) q.2)) {x : Bool} {φ : ph_T} {x0 : Nat} {x1 : Int32} {x2 : Int32} {q : Int32 × ph_T} (H : f_Ref_step_L115 Γ Kc77 φ x0 x1 x2 = some q) : J w M_Ref_step 115 [some (.ref x0), some (.int x1), some (.int x2), none] [] (pic Γ φ) n x 0 0 (fq Γ n (.inl (some (.int q.1))) q.2) := by
  unfold f_Ref_step_L115 at H
  refine J_iconst (v := 0) d_Ref_step_115 (by decide) ?_
  refine J.drop [true, true, true, false] rfl ?_
  exact p_Ref_step_L116 hw hG hKc77 H
def f_Ref_step_L77 (Γ : gm_T)  : Nat → ph_T → Nat → Int32 → Int32 → Option (Int32 × ph_T)
  | 0, _, _, _, _ => none
  | fu + 1, φ, x0, x1, x2 =>
    if (40 : Int32) ≤ x2 then
      @ite _ (Γ x0 = .inr 12) _ (
      Option.bind (f_Ref_move Γ φ x0) fun q38 =>
      some (x1, (uI q38.2 x0 6 ((q38.2.1 x0 6) + (1 : Int32))))
      ) none
    else
      @ite _ ((5 : Int32) = 0) _ none (
      @ite _ (Γ x0 = .inr 12) _ (
      Option.bind (f_Ref_isPort Γ φ x0 (x2 / (5 : Int32))) fun q41 =>
      if q41.1 = 0 then
        f_Ref_step_L115 Γ (f_Ref_step_L77 Γ  fu) q41.2 x0 x1 x2
      else
        Option.bind (q41.2.2.2 x0 33) fun a42 =>
        Option.bind (gA Γ a42 2) fun N43 =>
        Option.bind (ix x2 N43) fun k44 =>
        if (q41.2.1 a42 k44) = 0 then
          f_Ref_step_L115 Γ (f_Ref_step_L77 Γ  fu) q41.2 x0 x1 x2
        else
          Option.bind (q41.2.2.2 x0 34) fun a45 =>
          Option.bind (gA Γ a45 2) fun N46 =>
          Option.bind (ix x2 N46) fun k47 =>
          if (q41.2.1 a45 k47) = 0 then
            f_Ref_step_L115 Γ (f_Ref_step_L77 Γ  fu) q41.2 x0 x1 x2
          else
            f_Ref_step_L116 Γ (f_Ref_step_L77 Γ  fu) q41.2 x0 x1 x2 (1 : Int32)
      ) none
      )
set_option maxRecDepth 100000 in
set_option maxHeartbeats 4000000 in
theorem p_Ref_step_L77 {w : jw_T} (hw : jok w) {Γ : gm_T} {n : Nat} (hG : gd w Γ n)  : ∀ (fu : Nat) {x : Bool} {φ : ph_T} {x0 : Nat} {x1 : Int32} {x2 : Int32} {q : Int32 × ph_T}, f_Ref_step_L77 Γ  fu φ x0 x1 x2 = some q → J w M_Ref_step 77 [some (.ref x0), some (.int x1), some (.int x2), none] [] (pic Γ φ) n x 0 0 (fq Γ n (.inl (some (.int q.1))) q.2) := by
  intro fu
  induction fu with
  | zero =>
    intro x φ x0 x1 x2 q H
    cases H
  | succ fu ih =>
    intro x φ x0 x1 x2 q H
    unfold f_Ref_step_L77 at H
    refine J_iload_n d_Ref_step_77 rfl ?_
    refine J_bipush (v := 40) d_Ref_step_78 (by decide) ?_
    refine J_icmp_ge (tgt := 210) d_Ref_step_80 (by decide) ?_ ?_
    · intro c51
      rw [if_pos c51] at H
      refine J_aload_n d_Ref_step_210 rfl ?_
      have g37 : Γ x0 = .inr 12 := by
        apply Classical.byContradiction
        intro q9
        rw [if_neg q9] at H
        cases H
      rw [if_pos g37] at H
      obtain ⟨q38, hq38, H⟩ := Option.bind_eq_some_iff.mp H
      refine J_callV (kc := 0) (ks := 0) (kc' := 0) (ks' := 0) (a := x0) (ci := 12) (as := []) (st := []) (mf_Ref_move hw) (mv_Ref_596 hw) d_Ref_step_211 ln_Ref_move (by decide) (by first | exact Nat.le_of_ble_eq_true rfl | (simp only [List.map_cons, List.map_nil, List.sum_cons, List.sum_nil, va_rf_cat]; exact Nat.le_of_ble_eq_true rfl)) rfl ((hG _).1 _ g37 (by decide)).1 ((hG _).1 _ g37 (by decide)).2 (by unfold pic; rw [g37]; rfl) (jcl_at hw rfl) rfl (p_Ref_move hw hG hq38) ?_ (fun E h' n' x' e1 => by cases e1.1)
      intro v9 h9 n9 x9 e9
      obtain ⟨e91, e92, e93⟩ := e9
      cases e91
      subst e92
      subst e93
      clear x
      rename Bool => x
      show J _ _ _ _ [] _ _ _ _ _ _
      refine J_aload_n d_Ref_step_214 rfl ?_
      refine J_dup d_Ref_step_215 rfl ?_
      refine F_getI (ci := 12) (k := 6) hG (cf_Ref hw) (fl_Ref_348 hw) (by decide) (by decide) rfl d_Ref_step_216 g37 ?_
      refine J_iconst (v := 1) d_Ref_step_219 (by decide) ?_
      refine J_iadd d_Ref_step_220 ?_
      refine F_putI (ci := 12) (k := 6) hG (cf_Ref hw) (fl_Ref_348 hw) (by decide) (by decide) rfl d_Ref_step_221 rfl rfl rfl g37 ?_
      refine J_iload_n d_Ref_step_224 rfl ?_
      have H := Option.some.inj H
      subst H
      exact J_iret (st := []) d_Ref_step_225 rfl rfl ⟨rfl, rfl, rfl⟩
    · intro c51
      rw [if_neg c51] at H
      refine J_aload_n d_Ref_step_83 rfl ?_
      refine J_iload_n d_Ref_step_84 rfl ?_
      refine J_iconst (v := 5) d_Ref_step_85 (by decide) ?_
      have h39 : ¬ (5 : Int32) = 0 := by
        intro q9
        rw [if_pos q9] at H
        cases H
      rw [if_neg h39] at H
      refine J_idiv d_Ref_step_86 h39 ?_
      have g40 : Γ x0 = .inr 12 := by
        apply Classical.byContradiction
        intro q9
        rw [if_neg q9] at H
        cases H
      rw [if_pos g40] at H
      obtain ⟨q41, hq41, H⟩ := Option.bind_eq_some_iff.mp H
      refine J_callV (kc := 0) (ks := 0) (kc' := 0) (ks' := 0) (a := x0) (ci := 12) (as := [.int (x2 / (5 : Int32))]) (st := []) (mf_Ref_isPort hw) (mv_Ref_584 hw) d_Ref_step_87 ln_Ref_isPort (by decide) (by first | exact Nat.le_of_ble_eq_true rfl | (simp only [List.map_cons, List.map_nil, List.sum_cons, List.sum_nil, va_rf_cat]; exact Nat.le_of_ble_eq_true rfl)) rfl ((hG _).1 _ g40 (by decide)).1 ((hG _).1 _ g40 (by decide)).2 (by unfold pic; rw [g40]; rfl) (jcl_at hw rfl) rfl (p_Ref_isPort hw hG hq41) ?_ (fun E h' n' x' e1 => by cases e1.1)
      intro v9 h9 n9 x9 e9
      obtain ⟨e91, e92, e93⟩ := e9
      cases e91
      subst e92
      subst e93
      clear x
      rename Bool => x
      show J _ _ _ _ (_ :: _) _ _ _ _ _ _
      refine J_if_eq (tgt := 115) d_Ref_step_90 (by decide) ?_ ?_
      · intro c50
        rw [if_pos c50] at H
        refine J.drop [true, true, true, false] rfl ?_
        exact p_Ref_step_L115 hw hG ih H
      · intro c50
        rw [if_neg c50] at H
        refine J_aload_n d_Ref_step_93 rfl ?_
        refine F_getR (ci := 12) (k := 33) hG (cf_Ref hw) (fl_Ref_88 hw) (by decide) (by decide) rfl d_Ref_step_94 g40 ?_
        refine J_iload_n d_Ref_step_97 rfl ?_
        obtain ⟨a42, ha42, H⟩ := Option.bind_eq_some_iff.mp H
        rw [j_rf ha42]
        obtain ⟨N43, hN43, H⟩ := Option.bind_eq_some_iff.mp H
        obtain ⟨k44, hk44, H⟩ := Option.bind_eq_some_iff.mp H
        refine F_zald k44 hw hG d_Ref_step_98 (gA_some hN43) (ix_some hk44) ?_
        refine J_if_eq (tgt := 115) d_Ref_step_99 (by decide) ?_ ?_
        · intro c49
          rw [if_pos c49] at H
          refine J.drop [true, true, true, false] rfl ?_
          exact p_Ref_step_L115 hw hG ih H
        · intro c49
          rw [if_neg c49] at H
          refine J_aload_n d_Ref_step_102 rfl ?_
          refine F_getR (ci := 12) (k := 34) hG (cf_Ref hw) (fl_Ref_91 hw) (by decide) (by decide) rfl d_Ref_step_103 g40 ?_
          refine J_iload_n d_Ref_step_106 rfl ?_
          obtain ⟨a45, ha45, H⟩ := Option.bind_eq_some_iff.mp H
          rw [j_rf ha45]
          obtain ⟨N46, hN46, H⟩ := Option.bind_eq_some_iff.mp H
          obtain ⟨k47, hk47, H⟩ := Option.bind_eq_some_iff.mp H
          refine F_zald k47 hw hG d_Ref_step_107 (gA_some hN46) (ix_some hk47) ?_
          refine J_if_eq (tgt := 115) d_Ref_step_108 (by decide) ?_ ?_
          · intro c48
            rw [if_pos c48] at H
            refine J.drop [true, true, true, false] rfl ?_
            exact p_Ref_step_L115 hw hG ih H
          · intro c48
            rw [if_neg c48] at H
            refine J_iconst (v := 1) d_Ref_step_111 (by decide) ?_
            refine J_goto (tgt := 116) d_Ref_step_112 (by decide) ?_
            refine J.drop [true, true, true, false] rfl ?_
            exact p_Ref_step_L116 hw hG ih H
def f_Ref_step_L67 (Γ : gm_T) (Kc44 : ph_T → Nat → Int32 → Option (Int32 × ph_T)) (φ : ph_T) (x0 : Nat) (x1 : Int32) : Option (Int32 × ph_T) :=
  Kc44 φ x0 (x1 + (1 : Int32))
set_option maxRecDepth 100000 in
set_option maxHeartbeats 4000000 in
theorem p_Ref_step_L67 {w : jw_T} (hw : jok w) {Γ : gm_T} {n : Nat} (hG : gd w Γ n) {Kc44 : ph_T → Nat → Int32 → Option (Int32 × ph_T)} (hKc44 : ∀ {x : Bool} {φ : ph_T} {x0 : Nat} {x1 : Int32} {q : Int32 × ph_T}, Kc44 φ x0 x1 = some q → J w M_Ref_step 44 [some (.ref x0), some (.int x1), none, none] [] (pic Γ φ) n x 0 0 (fq Γ n (.inl (some (.int q.1))) q.2)) {x : Bool} {φ : ph_T} {x0 : Nat} {x1 : Int32} {q : Int32 × ph_T} (H : f_Ref_step_L67 Γ Kc44 φ x0 x1 = some q) : J w M_Ref_step 67 [some (.ref x0), some (.int x1), none, none] [] (pic Γ φ) n x 0 0 (fq Γ n (.inl (some (.int q.1))) q.2) := by
  unfold f_Ref_step_L67 at H
  refine J_iinc (v := x1 + 1) d_Ref_step_67 rfl (by rw [show Int32.ofInt 1 = (1 : Int32) from by decide]) ?_
  refine J.ls (ls' := [some (.ref x0), some (.int (x1 + (1 : Int32))), none, none]) rfl ?_
  refine J_goto (tgt := 44) d_Ref_step_70 (by decide) ?_
  refine J.drop [true, true, false, false] rfl ?_
  exact hKc44 H
def f_Ref_step_L44 (Γ : gm_T)  : Nat → ph_T → Nat → Int32 → Option (Int32 × ph_T)
  | 0, _, _, _ => none
  | fu + 1, φ, x0, x1 =>
    if (8 : Int32) ≤ x1 then
      f_Ref_step_L77 Γ  jF φ x0 (0 : Int32) (0 : Int32)
    else
      @ite _ (Γ x0 = .inr 12) _ (
      Option.bind (f_Ref_isPort Γ φ x0 x1) fun q53 =>
      if q53.1 = 0 then
        f_Ref_step_L67 Γ (f_Ref_step_L44 Γ  fu) q53.2 x0 x1
      else
        Option.bind (f_Ref_watch Γ q53.2 x0 x1 ((5 : Int32) * x1) (0 : Int32)) fun q54 =>
        f_Ref_step_L67 Γ (f_Ref_step_L44 Γ  fu) q54.2 x0 x1
      ) none
set_option maxRecDepth 100000 in
set_option maxHeartbeats 4000000 in
theorem p_Ref_step_L44 {w : jw_T} (hw : jok w) {Γ : gm_T} {n : Nat} (hG : gd w Γ n)  : ∀ (fu : Nat) {x : Bool} {φ : ph_T} {x0 : Nat} {x1 : Int32} {q : Int32 × ph_T}, f_Ref_step_L44 Γ  fu φ x0 x1 = some q → J w M_Ref_step 44 [some (.ref x0), some (.int x1), none, none] [] (pic Γ φ) n x 0 0 (fq Γ n (.inl (some (.int q.1))) q.2) := by
  intro fu
  induction fu with
  | zero =>
    intro x φ x0 x1 q H
    cases H
  | succ fu ih =>
    intro x φ x0 x1 q H
    unfold f_Ref_step_L44 at H
    refine J_iload_n d_Ref_step_44 rfl ?_
    refine J_bipush (v := 8) d_Ref_step_45 (by decide) ?_
    refine J_icmp_ge (tgt := 73) d_Ref_step_47 (by decide) ?_ ?_
    · intro c56
      rw [if_pos c56] at H
      refine J_iconst (v := 0) d_Ref_step_73 (by decide) ?_
      refine J_istore_n d_Ref_step_74 (Nat.le_of_ble_eq_true rfl) ?_
      refine J.ls (ls' := [some (.ref x0), some (.int (0 : Int32)), none, none]) rfl ?_
      refine J_iconst (v := 0) d_Ref_step_75 (by decide) ?_
      refine J_istore_n d_Ref_step_76 (Nat.le_of_ble_eq_true rfl) ?_
      refine J.ls (ls' := [some (.ref x0), some (.int (0 : Int32)), some (.int (0 : Int32)), none]) rfl ?_
      refine J.drop [true, true, true, false] rfl ?_
      exact p_Ref_step_L77 hw hG  _ H
    · intro c56
      rw [if_neg c56] at H
      refine J_aload_n d_Ref_step_50 rfl ?_
      refine J_iload_n d_Ref_step_51 rfl ?_
      have g52 : Γ x0 = .inr 12 := by
        apply Classical.byContradiction
        intro q9
        rw [if_neg q9] at H
        cases H
      rw [if_pos g52] at H
      obtain ⟨q53, hq53, H⟩ := Option.bind_eq_some_iff.mp H
      refine J_callV (kc := 0) (ks := 0) (kc' := 0) (ks' := 0) (a := x0) (ci := 12) (as := [.int x1]) (st := []) (mf_Ref_isPort hw) (mv_Ref_584 hw) d_Ref_step_52 ln_Ref_isPort (by decide) (by first | exact Nat.le_of_ble_eq_true rfl | (simp only [List.map_cons, List.map_nil, List.sum_cons, List.sum_nil, va_rf_cat]; exact Nat.le_of_ble_eq_true rfl)) rfl ((hG _).1 _ g52 (by decide)).1 ((hG _).1 _ g52 (by decide)).2 (by unfold pic; rw [g52]; rfl) (jcl_at hw rfl) rfl (p_Ref_isPort hw hG hq53) ?_ (fun E h' n' x' e1 => by cases e1.1)
      intro v9 h9 n9 x9 e9
      obtain ⟨e91, e92, e93⟩ := e9
      cases e91
      subst e92
      subst e93
      clear x
      rename Bool => x
      show J _ _ _ _ (_ :: _) _ _ _ _ _ _
      refine J_if_eq (tgt := 67) d_Ref_step_55 (by decide) ?_ ?_
      · intro c55
        rw [if_pos c55] at H
        refine J.drop [true, true, false, false] rfl ?_
        exact p_Ref_step_L67 hw hG ih H
      · intro c55
        rw [if_neg c55] at H
        refine J_aload_n d_Ref_step_58 rfl ?_
        refine J_iload_n d_Ref_step_59 rfl ?_
        refine J_iconst (v := 5) d_Ref_step_60 (by decide) ?_
        refine J_iload_n d_Ref_step_61 rfl ?_
        refine J_imul d_Ref_step_62 ?_
        refine J_iconst (v := 0) d_Ref_step_63 (by decide) ?_
        obtain ⟨q54, hq54, H⟩ := Option.bind_eq_some_iff.mp H
        refine J_callV (kc := 0) (ks := 0) (kc' := 0) (ks' := 0) (a := x0) (ci := 12) (as := [.int x1, .int ((5 : Int32) * x1), .int (0 : Int32)]) (st := []) (mf_Ref_watch hw) (mv_Ref_587 hw) d_Ref_step_64 ln_Ref_watch (by decide) (by first | exact Nat.le_of_ble_eq_true rfl | (simp only [List.map_cons, List.map_nil, List.sum_cons, List.sum_nil, va_rf_cat]; exact Nat.le_of_ble_eq_true rfl)) rfl ((hG _).1 _ g52 (by decide)).1 ((hG _).1 _ g52 (by decide)).2 (by unfold pic; rw [g52]; rfl) (jcl_at hw rfl) rfl (p_Ref_watch hw hG hq54) ?_ (fun E h' n' x' e1 => by cases e1.1)
        intro v9 h9 n9 x9 e9
        obtain ⟨e91, e92, e93⟩ := e9
        cases e91
        subst e92
        subst e93
        clear x
        rename Bool => x
        show J _ _ _ _ [] _ _ _ _ _ _
        refine J.drop [true, true, false, false] rfl ?_
        exact p_Ref_step_L67 hw hG ih H
def f_Ref_step_L23 (Γ : gm_T)  : Nat → ph_T → Nat → Int32 → Option (Int32 × ph_T)
  | 0, _, _, _ => none
  | fu + 1, φ, x0, x1 =>
    @ite _ (Γ x0 = .inr 12) _ (
    if (φ.1 x0 2) ≤ x1 then
      f_Ref_step_L44 Γ  jF φ x0 (0 : Int32)
    else
      Option.bind (f_Ref_showSlave Γ φ x0 x1) fun q58 =>
      (f_Ref_step_L23 Γ  fu) q58.2 x0 (x1 + (1 : Int32))
    ) none
set_option maxRecDepth 100000 in
set_option maxHeartbeats 4000000 in
theorem p_Ref_step_L23 {w : jw_T} (hw : jok w) {Γ : gm_T} {n : Nat} (hG : gd w Γ n)  : ∀ (fu : Nat) {x : Bool} {φ : ph_T} {x0 : Nat} {x1 : Int32} {q : Int32 × ph_T}, f_Ref_step_L23 Γ  fu φ x0 x1 = some q → J w M_Ref_step 23 [some (.ref x0), some (.int x1), none, none] [] (pic Γ φ) n x 0 0 (fq Γ n (.inl (some (.int q.1))) q.2) := by
  intro fu
  induction fu with
  | zero =>
    intro x φ x0 x1 q H
    cases H
  | succ fu ih =>
    intro x φ x0 x1 q H
    unfold f_Ref_step_L23 at H
    refine J_iload_n d_Ref_step_23 rfl ?_
    refine J_aload_n d_Ref_step_24 rfl ?_
    have g57 : Γ x0 = .inr 12 := by
      apply Classical.byContradiction
      intro q9
      rw [if_neg q9] at H
      cases H
    rw [if_pos g57] at H
    refine F_getI (ci := 12) (k := 2) hG (cf_Ref hw) (fl_Ref_294 hw) (by decide) (by decide) rfl d_Ref_step_25 g57 ?_
    refine J_icmp_ge (tgt := 42) d_Ref_step_28 (by decide) ?_ ?_
    · intro c59
      rw [if_pos c59] at H
      refine J_iconst (v := 0) d_Ref_step_42 (by decide) ?_
      refine J_istore_n d_Ref_step_43 (Nat.le_of_ble_eq_true rfl) ?_
      refine J.ls (ls' := [some (.ref x0), some (.int (0 : Int32)), none, none]) rfl ?_
      refine J.drop [true, true, false, false] rfl ?_
      exact p_Ref_step_L44 hw hG  _ H
    · intro c59
      rw [if_neg c59] at H
      refine J_aload_n d_Ref_step_31 rfl ?_
      refine J_iload_n d_Ref_step_32 rfl ?_
      obtain ⟨q58, hq58, H⟩ := Option.bind_eq_some_iff.mp H
      refine J_callV (kc := 0) (ks := 0) (kc' := 0) (ks' := 0) (a := x0) (ci := 12) (as := [.int x1]) (st := []) (mf_Ref_showSlave hw) (mv_Ref_581 hw) d_Ref_step_33 ln_Ref_showSlave (by decide) (by first | exact Nat.le_of_ble_eq_true rfl | (simp only [List.map_cons, List.map_nil, List.sum_cons, List.sum_nil, va_rf_cat]; exact Nat.le_of_ble_eq_true rfl)) rfl ((hG _).1 _ g57 (by decide)).1 ((hG _).1 _ g57 (by decide)).2 (by unfold pic; rw [g57]; rfl) (jcl_at hw rfl) rfl (p_Ref_showSlave hw hG hq58) ?_ (fun E h' n' x' e1 => by cases e1.1)
      intro v9 h9 n9 x9 e9
      obtain ⟨e91, e92, e93⟩ := e9
      cases e91
      subst e92
      subst e93
      clear x
      rename Bool => x
      show J _ _ _ _ [] _ _ _ _ _ _
      refine J_iinc (v := x1 + 1) d_Ref_step_36 rfl (by rw [show Int32.ofInt 1 = (1 : Int32) from by decide]) ?_
      refine J.ls (ls' := [some (.ref x0), some (.int (x1 + (1 : Int32))), none, none]) rfl ?_
      refine J_goto (tgt := 23) d_Ref_step_39 (by decide) ?_
      refine J.drop [true, true, false, false] rfl ?_
      exact ih H
def f_Ref_step_L2 (Γ : gm_T)  : Nat → ph_T → Nat → Int32 → Option (Int32 × ph_T)
  | 0, _, _, _ => none
  | fu + 1, φ, x0, x1 =>
    @ite _ (Γ x0 = .inr 12) _ (
    if (φ.1 x0 1) ≤ x1 then
      f_Ref_step_L23 Γ  jF φ x0 (0 : Int32)
    else
      Option.bind (f_Ref_showMaster Γ φ x0 x1) fun q61 =>
      (f_Ref_step_L2 Γ  fu) q61.2 x0 (x1 + (1 : Int32))
    ) none
set_option maxRecDepth 100000 in
set_option maxHeartbeats 4000000 in
theorem p_Ref_step_L2 {w : jw_T} (hw : jok w) {Γ : gm_T} {n : Nat} (hG : gd w Γ n)  : ∀ (fu : Nat) {x : Bool} {φ : ph_T} {x0 : Nat} {x1 : Int32} {q : Int32 × ph_T}, f_Ref_step_L2 Γ  fu φ x0 x1 = some q → J w M_Ref_step 2 [some (.ref x0), some (.int x1), none, none] [] (pic Γ φ) n x 0 0 (fq Γ n (.inl (some (.int q.1))) q.2) := by
  intro fu
  induction fu with
  | zero =>
    intro x φ x0 x1 q H
    cases H
  | succ fu ih =>
    intro x φ x0 x1 q H
    unfold f_Ref_step_L2 at H
    refine J_iload_n d_Ref_step_2 rfl ?_
    refine J_aload_n d_Ref_step_3 rfl ?_
    have g60 : Γ x0 = .inr 12 := by
      apply Classical.byContradiction
      intro q9
      rw [if_neg q9] at H
      cases H
    rw [if_pos g60] at H
    refine F_getI (ci := 12) (k := 1) hG (cf_Ref hw) (fl_Ref_290 hw) (by decide) (by decide) rfl d_Ref_step_4 g60 ?_
    refine J_icmp_ge (tgt := 21) d_Ref_step_7 (by decide) ?_ ?_
    · intro c62
      rw [if_pos c62] at H
      refine J_iconst (v := 0) d_Ref_step_21 (by decide) ?_
      refine J_istore_n d_Ref_step_22 (Nat.le_of_ble_eq_true rfl) ?_
      refine J.ls (ls' := [some (.ref x0), some (.int (0 : Int32)), none, none]) rfl ?_
      refine J.drop [true, true, false, false] rfl ?_
      exact p_Ref_step_L23 hw hG  _ H
    · intro c62
      rw [if_neg c62] at H
      refine J_aload_n d_Ref_step_10 rfl ?_
      refine J_iload_n d_Ref_step_11 rfl ?_
      obtain ⟨q61, hq61, H⟩ := Option.bind_eq_some_iff.mp H
      refine J_callV (kc := 0) (ks := 0) (kc' := 0) (ks' := 0) (a := x0) (ci := 12) (as := [.int x1]) (st := []) (mf_Ref_showMaster hw) (mv_Ref_578 hw) d_Ref_step_12 ln_Ref_showMaster (by decide) (by first | exact Nat.le_of_ble_eq_true rfl | (simp only [List.map_cons, List.map_nil, List.sum_cons, List.sum_nil, va_rf_cat]; exact Nat.le_of_ble_eq_true rfl)) rfl ((hG _).1 _ g60 (by decide)).1 ((hG _).1 _ g60 (by decide)).2 (by unfold pic; rw [g60]; rfl) (jcl_at hw rfl) rfl (p_Ref_showMaster hw hG hq61) ?_ (fun E h' n' x' e1 => by cases e1.1)
      intro v9 h9 n9 x9 e9
      obtain ⟨e91, e92, e93⟩ := e9
      cases e91
      subst e92
      subst e93
      clear x
      rename Bool => x
      show J _ _ _ _ [] _ _ _ _ _ _
      refine J_iinc (v := x1 + 1) d_Ref_step_15 rfl (by rw [show Int32.ofInt 1 = (1 : Int32) from by decide]) ?_
      refine J.ls (ls' := [some (.ref x0), some (.int (x1 + (1 : Int32))), none, none]) rfl ?_
      refine J_goto (tgt := 2) d_Ref_step_18 (by decide) ?_
      refine J.drop [true, true, false, false] rfl ?_
      exact ih H
def f_Ref_step (Γ : gm_T) (φ : ph_T) (this : Nat) : Option (Int32 × ph_T) :=
  f_Ref_step_L2 Γ  jF φ this (0 : Int32)
set_option maxRecDepth 100000 in
set_option maxHeartbeats 4000000 in
theorem p_Ref_step {w : jw_T} (hw : jok w) {Γ : gm_T} {n : Nat} (hG : gd w Γ n) {x : Bool} {φ : ph_T} {this : Nat} {q : Int32 × ph_T} (H : f_Ref_step Γ φ this = some q) : jc w M_Ref_step [.ref this] (pic Γ φ) n x 0 0 (fq Γ n (.inl (some (.int q.1))) q.2) := by
  refine jc.of (by simp only [jent_r, jent_i, jent_l, jent_a, jent_0]; exact Nat.le_of_ble_eq_true rfl) ?_
  have hls : jents [.ref this] (jm_nL M_Ref_step) = [some (.ref this), none, none, none] := by simp only [jents, jent_r, jent_i, jent_l, jent_a, jent_0]; rfl
  rw [hls]
  clear hls
  unfold f_Ref_step at H
  refine J_iconst (v := 0) d_Ref_step_0 (by decide) ?_
  refine J_istore_n d_Ref_step_1 (Nat.le_of_ble_eq_true rfl) ?_
  refine J.ls (ls' := [some (.ref this), some (.int (0 : Int32)), none, none]) rfl ?_
  refine J.drop [true, true, false, false] rfl ?_
  exact p_Ref_step_L2 hw hG  _ H
