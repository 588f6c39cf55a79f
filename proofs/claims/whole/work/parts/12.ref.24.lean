theorem ln_Ref_choose : (parseMethodDescriptor y_Ref_choose.desc).map (fun q => q.parameters.length) = some 2 := by decide +kernel
def f_Ref_choose_L99 (Γ : gm_T) (Kc26 : ph_T → Nat → Int32 → Int32 → Int32 → Int32 → Int32 → Option (Int32 × ph_T)) (φ : ph_T) (x0 : Nat) (x1 : Int32) (x2 : Int32) (x3 : Int32) (x5 : Int32) (y0 : Int32) : Option (Int32 × ph_T) :=
  Kc26 φ x0 x1 x2 x3 y0 (x5 + (1 : Int32))
set_option maxRecDepth 100000 in
set_option maxHeartbeats 4000000 in
theorem p_Ref_choose_L99 {w : jw_T} (hw : jok w) {Γ : gm_T} {n : Nat} (hG : gd w Γ n) {Kc26 : ph_T → Nat → Int32 → Int32 → Int32 → Int32 → Int32 → Option (Int32 × ph_T)} (hKc26 : ∀ {x : Bool} {φ : ph_T} {x0 : Nat} {x1 : Int32} {x2 : Int32} {x3 : Int32} {x4 : Int32} {x5 : Int32} {q : Int32 × ph_T}, Kc26 φ x0 x1 x2 x3 x4 x5 = some q → J w M_Ref_choose 26 [some (.ref x0), some (.int x1), some (.int x2), some (.int x3), some (.int x4), some (.int x5), none, none] [] (pic Γ φ) n x 0 0 (fq Γ n (.inl (some (.int q.1))) q.2)) {x : Bool} {φ : ph_T} {x0 : Nat} {x1 : Int32} {x2 : Int32} {x3 : Int32} {x5 : Int32} {y0 : Int32} {q : Int32 × ph_T} (H : f_Ref_choose_L99 Γ Kc26 φ x0 x1 x2 x3 x5 y0 = some q) : J w M_Ref_choose 99 [some (.ref x0), some (.int x1), some (.int x2), some (.int x3), none, some (.int x5), none, none] [.int y0] (pic Γ φ) n x 0 0 (fq Γ n (.inl (some (.int q.1))) q.2) := by
  unfold f_Ref_choose_L99 at H
  refine J_istore d_Ref_choose_99 (Nat.le_of_ble_eq_true rfl) ?_
  refine J.ls (ls' := [some (.ref x0), some (.int x1), some (.int x2), some (.int x3), some (.int y0), some (.int x5), none, none]) rfl ?_
  refine J_iinc (v := x5 + 1) d_Ref_choose_101 rfl (by rw [show Int32.ofInt 1 = (1 : Int32) from by decide]) ?_
  refine J.ls (ls' := [some (.ref x0), some (.int x1), some (.int x2), some (.int x3), some (.int y0), some (.int (x5 + (1 : Int32))), none, none]) rfl ?_
  refine J_goto (tgt := 26) d_Ref_choose_104 (by decide) ?_
  refine J.drop [true, true, true, true, true, true, false, false] rfl ?_
  exact hKc26 H
def f_Ref_choose_L97 (Γ : gm_T) (Kc26 : ph_T → Nat → Int32 → Int32 → Int32 → Int32 → Int32 → Option (Int32 × ph_T)) (φ : ph_T) (x0 : Nat) (x1 : Int32) (x2 : Int32) (x3 : Int32) (x4 : Int32) (x5 : Int32) : Option (Int32 × ph_T) :=
  f_Ref_choose_L99 Γ Kc26 φ x0 x1 x2 x3 x5 x4
set_option maxRecDepth 100000 in
set_option maxHeartbeats 4000000 in
theorem p_Ref_choose_L97 {w : jw_T} (hw : jok w) {Γ : gm_T} {n : Nat} (hG : gd w Γ n) {Kc26 : ph_T → Nat → Int32 → Int32 → Int32 → Int32 → Int32 → Option (Int32 × ph_T)} (hKc26 : ∀ {x : Bool} {φ : ph_T} {x0 : Nat} {x1 : Int32} {x2 : Int32} {x3 : Int32} {x4 : Int32} {x5 : Int32} {q : Int32 × ph_T}, Kc26 φ x0 x1 x2 x3 x4 x5 = some q → J w M_Ref_choose 26 [some (.ref x0), some (.int x1), some (.int x2), some (.int x3), some (.int x4), some (.int x5), none, none] [] (pic Γ φ) n x 0 0 (fq Γ n (.inl (some (.int q.1))) q.2)) {x : Bool} {φ : ph_T} {x0 : Nat} {x1 : Int32} {x2 : Int32} {x3 : Int32} {x4 : Int32} {x5 : Int32} {q : Int32 × ph_T} (H : f_Ref_choose_L97 Γ Kc26 φ x0 x1 x2 x3 x4 x5 = some q) : J w M_Ref_choose 97 [some (.ref x0), some (.int x1), some (.int x2), some (.int x3), some (.int x4), some (.int x5), none, none] [] (pic Γ φ) n x 0 0 (fq Γ n (.inl (some (.int q.1))) q.2) := by
  unfold f_Ref_choose_L97 at H
  refine J_iload d_Ref_choose_97 rfl ?_
  refine J.drop [true, true, true, true, false, true, false, false] rfl ?_
  exact p_Ref_choose_L99 hw hG hKc26 H
def f_Ref_choose_L92 (Γ : gm_T) (Kc26 : ph_T → Nat → Int32 → Int32 → Int32 → Int32 → Int32 → Option (Int32 × ph_T)) (φ : ph_T) (x0 : Nat) (x1 : Int32) (x2 : Int32) (x3 : Int32) (x5 : Int32) (x6 : Int32) : Option (Int32 × ph_T) :=
  f_Ref_choose_L99 Γ Kc26 φ x0 x1 x2 x3 x5 x6
set_option maxRecDepth 100000 in
set_option maxHeartbeats 4000000 in
theorem p_Ref_choose_L92 {w : jw_T} (hw : jok w) {Γ : gm_T} {n : Nat} (hG : gd w Γ n) {Kc26 : ph_T → Nat → Int32 → Int32 → Int32 → Int32 → Int32 → Option (Int32 × ph_T)} (hKc26 : ∀ {x : Bool} {φ : ph_T} {x0 : Nat} {x1 : Int32} {x2 : Int32} {x3 : Int32} {x4 : Int32} {x5 : Int32} {q : Int32 × ph_T}, Kc26 φ x0 x1 x2 x3 x4 x5 = some q → J w M_Ref_choose 26 [some (.ref x0), some (.int x1), some (.int x2), some (.int x3), some (.int x4), some (.int x5), none, none] [] (pic Γ φ) n x 0 0 (fq Γ n (.inl (some (.int q.1))) q.2)) {x : Bool} {φ : ph_T} {x0 : Nat} {x1 : Int32} {x2 : Int32} {x3 : Int32} {x5 : Int32} {x6 : Int32} {q : Int32 × ph_T} (H : f_Ref_choose_L92 Γ Kc26 φ x0 x1 x2 x3 x5 x6 = some q) : J w M_Ref_choose 92 [some (.ref x0), some (.int x1), some (.int x2), some (.int x3), none, some (.int x5), some (.int x6), none] [] (pic Γ φ) n x 0 0 (fq Γ n (.inl (some (.int q.1))) q.2) := by
  unfold f_Ref_choose_L92 at H
  refine J_iload d_Ref_choose_92 rfl ?_
  refine J_goto (tgt := 99) d_Ref_choose_94 (by decide) ?_
  refine J.drop [true, true, true, true, false, true, false, false] rfl ?_
  exact p_Ref_choose_L99 hw hG hKc26 H
def f_Ref_choose_L67 (Γ : gm_T) (Kc26 : ph_T → Nat → Int32 → Int32 → Int32 → Int32 → Int32 → Option (Int32 × ph_T)) (φ : ph_T) (x0 : Nat) (x1 : Int32) (x2 : Int32) (x3 : Int32) (x4 : Int32) (x5 : Int32) (x6 : Int32) (y0 : Int32) : Option (Int32 × ph_T) :=
  if y0 = 0 then
    f_Ref_choose_L97 Γ Kc26 φ x0 x1 x2 x3 x4 x5
  else
    if x4 = (-1 : Int32) then
      f_Ref_choose_L92 Γ Kc26 φ x0 x1 x2 x3 x5 x6
    else
      @ite _ (Γ x0 = .inr 12) _ (
      Option.bind (f_Ref_isBetter Γ φ x0 x6 x4 x2) fun q3 =>
      if q3.1 = 0 then
        f_Ref_choose_L97 Γ Kc26 q3.2 x0 x1 x2 x3 x4 x5
      else
        f_Ref_choose_L92 Γ Kc26 q3.2 x0 x1 x2 x3 x5 x6
      ) none
set_option maxRecDepth 100000 in
set_option maxHeartbeats 4000000 in
theorem p_Ref_choose_L67 {w : jw_T} (hw : jok w) {Γ : gm_T} {n : Nat} (hG : gd w Γ n) {Kc26 : ph_T → Nat → Int32 → Int32 → Int32 → Int32 → Int32 → Option (Int32 × ph_T)} (hKc26 : ∀ {x : Bool} {φ : ph_T} {x0 : Nat} {x1 : Int32} {x2 : Int32} {x3 : Int32} {x4 : Int32} {x5 : Int32} {q : Int32 × ph_T}, Kc26 φ x0 x1 x2 x3 x4 x5 = some q → J w M_Ref_choose 26 [some (.ref x0), some (.int x1), some (.int x2), some (.int x3), some (.int x4), some (.int x5), none, none] [] (pic Γ φ) n x 0 0 (fq Γ n (.inl (some (.int q.1))) q.2)) {x : Bool} {φ : ph_T} {x0 : Nat} {x1 : Int32} {x2 : Int32} {x3 : Int32} {x4 : Int32} {x5 : Int32} {x6 : Int32} {y0 : Int32} {q : Int32 × ph_T} (H : f_Ref_choose_L67 Γ Kc26 φ x0 x1 x2 x3 x4 x5 x6 y0 = some q) : J w M_Ref_choose 67 [some (.ref x0), some (.int x1), some (.int x2), some (.int x3), some (.int x4), some (.int x5), some (.int x6), none] [.int y0] (pic Γ φ) n x 0 0 (fq Γ n (.inl (some (.int q.1))) q.2) := by
  unfold f_Ref_choose_L67 at H
  refine J_istore d_Ref_choose_67 (Nat.le_of_ble_eq_true rfl) ?_
  refine J.ls (ls' := [some (.ref x0), some (.int x1), some (.int x2), some (.int x3), some (.int x4), some (.int x5), some (.int x6), some (.int y0)]) rfl ?_
  refine J_iload d_Ref_choose_69 rfl ?_
  refine J_if_eq (tgt := 97) d_Ref_choose_71 (by decide) ?_ ?_
  · intro c6
    rw [if_pos c6] at H
    refine J.drop [true, true, true, true, true, true, false, false] rfl ?_
    exact p_Ref_choose_L97 hw hG hKc26 H
  · intro c6
    rw [if_neg c6] at H
    refine J_iload d_Ref_choose_74 rfl ?_
    refine J_iconst (v := -1) d_Ref_choose_76 (by decide) ?_
    refine J_icmp_eq (tgt := 92) d_Ref_choose_77 (by decide) ?_ ?_
    · intro c5
      rw [if_pos c5] at H
      refine J.drop [true, true, true, true, false, true, true, false] rfl ?_
      exact p_Ref_choose_L92 hw hG hKc26 H
    · intro c5
      rw [if_neg c5] at H
      refine J_aload_n d_Ref_choose_80 rfl ?_
      refine J_iload d_Ref_choose_81 rfl ?_
      refine J_iload d_Ref_choose_83 rfl ?_
      refine J_iload_n d_Ref_choose_85 rfl ?_
      have g2 : Γ x0 = .inr 12 := by
        apply Classical.byContradiction
        intro q9
        rw [if_neg q9] at H
        cases H
      rw [if_pos g2] at H
      obtain ⟨q3, hq3, H⟩ := Option.bind_eq_some_iff.mp H
      refine J_callV (kc := 0) (ks := 0) (kc' := 0) (ks' := 0) (a := x0) (ci := 12) (as := [.int x6, .int x4, .int x2]) (st := []) (mf_Ref_isBetter hw) (mv_Ref_544 hw) d_Ref_choose_86 ln_Ref_isBetter (by decide) (by first | exact Nat.le_of_ble_eq_true rfl | (simp only [List.map_cons, List.map_nil, List.sum_cons, List.sum_nil, va_rf_cat]; exact Nat.le_of_ble_eq_true rfl)) rfl ((hG _).1 _ g2 (by decide)).1 ((hG _).1 _ g2 (by decide)).2 (by unfold pic; rw [g2]; rfl) (jcl_at hw rfl) rfl (p_Ref_isBetter hw hG hq3) ?_ (fun E h' n' x' e1 => by cases e1.1)
      intro v9 h9 n9 x9 e9
      obtain ⟨e91, e92, e93⟩ := e9
      cases e91
      subst e92
      subst e93
      clear x
      rename Bool => x
      show J _ _ _ _ (_ :: _) _ _ _ _ _ _
      refine J_if_eq (tgt := 97) d_Ref_choose_89 (by decide) ?_ ?_
      · intro c4
        rw [if_pos c4] at H
        refine J.drop [true, true, true, true, true, true, false, false] rfl ?_
        exact p_Ref_choose_L97 hw hG hKc26 H
      · intro c4
        rw [if_neg c4] at H
        refine J.drop [true, true, true, true, false, true, true, false] rfl ?_
        exact p_Ref_choose_L92 hw hG hKc26 H
def f_Ref_choose_L26 (Γ : gm_T)  : Nat → ph_T → Nat → Int32 → Int32 → Int32 → Int32 → Int32 → Option (Int32 × ph_T)
  | 0, _, _, _, _, _, _, _ => none
  | fu + 1, φ, x0, x1, x2, x3, x4, x5 =>
    @ite _ (Γ x0 = .inr 12) _ (
    if (φ.1 x0 1) < x5 then
      some (x4, φ)
    else
      @ite _ ((φ.1 x0 1) = 0) _ none (
      if x2 = 0 then
        Option.bind (f_Ref_mayWrite Γ φ x0 ((x3 + x5) - (x3 + x5) / (φ.1 x0 1) * (φ.1 x0 1)) x1) fun q10 =>
        f_Ref_choose_L67 Γ (f_Ref_choose_L26 Γ  fu) q10.2 x0 x1 x2 x3 x4 x5 ((x3 + x5) - (x3 + x5) / (φ.1 x0 1) * (φ.1 x0 1)) q10.1
      else
        Option.bind (f_Ref_mayRead Γ φ x0 ((x3 + x5) - (x3 + x5) / (φ.1 x0 1) * (φ.1 x0 1)) x1) fun q9 =>
        f_Ref_choose_L67 Γ (f_Ref_choose_L26 Γ  fu) q9.2 x0 x1 x2 x3 x4 x5 ((x3 + x5) - (x3 + x5) / (φ.1 x0 1) * (φ.1 x0 1)) q9.1
      )
    ) none
set_option maxRecDepth 100000 in
set_option maxHeartbeats 4000000 in
theorem p_Ref_choose_L26 {w : jw_T} (hw : jok w) {Γ : gm_T} {n : Nat} (hG : gd w Γ n)  : ∀ (fu : Nat) {x : Bool} {φ : ph_T} {x0 : Nat} {x1 : Int32} {x2 : Int32} {x3 : Int32} {x4 : Int32} {x5 : Int32} {q : Int32 × ph_T}, f_Ref_choose_L26 Γ  fu φ x0 x1 x2 x3 x4 x5 = some q → J w M_Ref_choose 26 [some (.ref x0), some (.int x1), some (.int x2), some (.int x3), some (.int x4), some (.int x5), none, none] [] (pic Γ φ) n x 0 0 (fq Γ n (.inl (some (.int q.1))) q.2) := by
  intro fu
  induction fu with
  | zero =>
    intro x φ x0 x1 x2 x3 x4 x5 q H
    cases H
  | succ fu ih =>
    intro x φ x0 x1 x2 x3 x4 x5 q H
    unfold f_Ref_choose_L26 at H
    refine J_iload d_Ref_choose_26 rfl ?_
    refine J_aload_n d_Ref_choose_28 rfl ?_
    have g7 : Γ x0 = .inr 12 := by
      apply Classical.byContradiction
      intro q9
      rw [if_neg q9] at H
      cases H
    rw [if_pos g7] at H
    refine F_getI (ci := 12) (k := 1) hG (cf_Ref hw) (fl_Ref_290 hw) (by decide) (by decide) rfl d_Ref_choose_29 g7 ?_
    refine J_icmp_gt (tgt := 107) d_Ref_choose_32 (by decide) ?_ ?_
    · intro c12
      rw [if_pos c12] at H
      refine J_iload d_Ref_choose_107 rfl ?_
      have H := Option.some.inj H
      subst H
      exact J_iret (st := []) d_Ref_choose_109 rfl rfl ⟨rfl, rfl, rfl⟩
    · intro c12
      rw [if_neg c12] at H
      refine J_iload_n d_Ref_choose_35 rfl ?_
      refine J_iload d_Ref_choose_36 rfl ?_
      refine J_iadd d_Ref_choose_38 ?_
      refine J_aload_n d_Ref_choose_39 rfl ?_
      refine F_getI (ci := 12) (k := 1) hG (cf_Ref hw) (fl_Ref_290 hw) (by decide) (by decide) rfl d_Ref_choose_40 g7 ?_
      have h8 : ¬ (φ.1 x0 1) = 0 := by
        intro q9
        rw [if_pos q9] at H
        cases H
      rw [if_neg h8] at H
      refine J_irem d_Ref_choose_43 h8 ?_
      refine J_istore d_Ref_choose_44 (Nat.le_of_ble_eq_true rfl) ?_
      refine J.ls (ls' := [some (.ref x0), some (.int x1), some (.int x2), some (.int x3), some (.int x4), some (.int x5), some (.int ((x3 + x5) - (x3 + x5) / (φ.1 x0 1) * (φ.1 x0 1))), none]) rfl ?_
      refine J_iload_n d_Ref_choose_46 rfl ?_
      refine J_if_ne (tgt := 60) d_Ref_choose_47 (by decide) ?_ ?_
      · intro c11
        rw [if_neg c11] at H
        refine J_aload_n d_Ref_choose_60 rfl ?_
        refine J_iload d_Ref_choose_61 rfl ?_
        refine J_iload_n d_Ref_choose_63 rfl ?_
        obtain ⟨q9, hq9, H⟩ := Option.bind_eq_some_iff.mp H
        refine J_callV (kc := 0) (ks := 0) (kc' := 0) (ks' := 0) (a := x0) (ci := 12) (as := [.int ((x3 + x5) - (x3 + x5) / (φ.1 x0 1) * (φ.1 x0 1)), .int x1]) (st := []) (mf_Ref_mayRead hw) (mv_Ref_541 hw) d_Ref_choose_64 ln_Ref_mayRead (by decide) (by first | exact Nat.le_of_ble_eq_true rfl | (simp only [List.map_cons, List.map_nil, List.sum_cons, List.sum_nil, va_rf_cat]; exact Nat.le_of_ble_eq_true rfl)) rfl ((hG _).1 _ g7 (by decide)).1 ((hG _).1 _ g7 (by decide)).2 (by unfold pic; rw [g7]; rfl) (jcl_at hw rfl) rfl (p_Ref_mayRead hw hG hq9) ?_ (fun E h' n' x' e1 => by cases e1.1)
        intro v9 h9 n9 x9 e9
        obtain ⟨e91, e92, e93⟩ := e9
        cases e91
        subst e92
        subst e93
        clear x
        rename Bool => x
        show J _ _ _ _ (_ :: _) _ _ _ _ _ _
        refine J.drop [true, true, true, true, true, true, true, false] rfl ?_
        exact p_Ref_choose_L67 hw hG ih H
      · intro c11
        rw [if_pos c11] at H
        refine J_aload_n d_Ref_choose_50 rfl ?_
        refine J_iload d_Ref_choose_51 rfl ?_
        refine J_iload_n d_Ref_choose_53 rfl ?_
        obtain ⟨q10, hq10, H⟩ := Option.bind_eq_some_iff.mp H
        refine J_callV (kc := 0) (ks := 0) (kc' := 0) (ks' := 0) (a := x0) (ci := 12) (as := [.int ((x3 + x5) - (x3 + x5) / (φ.1 x0 1) * (φ.1 x0 1)), .int x1]) (st := []) (mf_Ref_mayWrite hw) (mv_Ref_538 hw) d_Ref_choose_54 ln_Ref_mayWrite (by decide) (by first | exact Nat.le_of_ble_eq_true rfl | (simp only [List.map_cons, List.map_nil, List.sum_cons, List.sum_nil, va_rf_cat]; exact Nat.le_of_ble_eq_true rfl)) rfl ((hG _).1 _ g7 (by decide)).1 ((hG _).1 _ g7 (by decide)).2 (by unfold pic; rw [g7]; rfl) (jcl_at hw rfl) rfl (p_Ref_mayWrite hw hG hq10) ?_ (fun E h' n' x' e1 => by cases e1.1)
        intro v9 h9 n9 x9 e9
        obtain ⟨e91, e92, e93⟩ := e9
        cases e91
        subst e92
        subst e93
        clear x
        rename Bool => x
        show J _ _ _ _ (_ :: _) _ _ _ _ _ _
        refine J_goto (tgt := 67) d_Ref_choose_57 (by decide) ?_
        refine J.drop [true, true, true, true, true, true, true, false] rfl ?_
        exact p_Ref_choose_L67 hw hG ih H
def f_Ref_choose_L19 (Γ : gm_T)  (φ : ph_T) (x0 : Nat) (x1 : Int32) (x2 : Int32) (y0 : Int32) : Option (Int32 × ph_T) :=
  f_Ref_choose_L26 Γ  jF φ x0 x1 x2 y0 (-1 : Int32) (1 : Int32)
set_option maxRecDepth 100000 in
set_option maxHeartbeats 4000000 in
theorem p_Ref_choose_L19 {w : jw_T} (hw : jok w) {Γ : gm_T} {n : Nat} (hG : gd w Γ n)  {x : Bool} {φ : ph_T} {x0 : Nat} {x1 : Int32} {x2 : Int32} {y0 : Int32} {q : Int32 × ph_T} (H : f_Ref_choose_L19 Γ  φ x0 x1 x2 y0 = some q) : J w M_Ref_choose 19 [some (.ref x0), some (.int x1), some (.int x2), none, none, none, none, none] [.int y0] (pic Γ φ) n x 0 0 (fq Γ n (.inl (some (.int q.1))) q.2) := by
  unfold f_Ref_choose_L19 at H
  refine J_istore_n d_Ref_choose_19 (Nat.le_of_ble_eq_true rfl) ?_
  refine J.ls (ls' := [some (.ref x0), some (.int x1), some (.int x2), some (.int y0), none, none, none, none]) rfl ?_
  refine J_iconst (v := -1) d_Ref_choose_20 (by decide) ?_
  refine J_istore d_Ref_choose_21 (Nat.le_of_ble_eq_true rfl) ?_
  refine J.ls (ls' := [some (.ref x0), some (.int x1), some (.int x2), some (.int y0), some (.int (-1 : Int32)), none, none, none]) rfl ?_
  refine J_iconst (v := 1) d_Ref_choose_23 (by decide) ?_
  refine J_istore d_Ref_choose_24 (Nat.le_of_ble_eq_true rfl) ?_
  refine J.ls (ls' := [some (.ref x0), some (.int x1), some (.int x2), some (.int y0), some (.int (-1 : Int32)), some (.int (1 : Int32)), none, none]) rfl ?_
  refine J.drop [true, true, true, true, true, true, false, false] rfl ?_
  exact p_Ref_choose_L26 hw hG  _ H
def f_Ref_choose (Γ : gm_T) (φ : ph_T) (this : Nat) (p0 : Int32) (p1 : Int32) : Option (Int32 × ph_T) :=
  if p1 = 0 then
    @ite _ (Γ this = .inr 12) _ (
    Option.bind (φ.2.2 this 52) fun a18 =>
    Option.bind (gA Γ a18 0) fun N19 =>
    Option.bind (ix p0 N19) fun k20 =>
    f_Ref_choose_L19 Γ  φ this p0 p1 (φ.1 a18 k20)
    ) none
  else
    @ite _ (Γ this = .inr 12) _ (
    Option.bind (φ.2.2 this 53) fun a14 =>
    Option.bind (gA Γ a14 0) fun N15 =>
    Option.bind (ix p0 N15) fun k16 =>
    f_Ref_choose_L19 Γ  φ this p0 p1 (φ.1 a14 k16)
    ) none
set_option maxRecDepth 100000 in
set_option maxHeartbeats 4000000 in
theorem p_Ref_choose {w : jw_T} (hw : jok w) {Γ : gm_T} {n : Nat} (hG : gd w Γ n) {x : Bool} {φ : ph_T} {this : Nat} {p0 : Int32} {p1 : Int32} {q : Int32 × ph_T} (H : f_Ref_choose Γ φ this p0 p1 = some q) : jc w M_Ref_choose [.ref this, .int p0, .int p1] (pic Γ φ) n x 0 0 (fq Γ n (.inl (some (.int q.1))) q.2) := by
  refine jc.of (by simp only [jent_r, jent_i, jent_l, jent_a, jent_0]; exact Nat.le_of_ble_eq_true rfl) ?_
  have hls : jents [.ref this, .int p0, .int p1] (jm_nL M_Ref_choose) = [some (.ref this), some (.int p0), some (.int p1), none, none, none, none, none] := by simp only [jents, jent_r, jent_i, jent_l, jent_a, jent_0]; rfl
  rw [hls]
  clear hls
  unfold f_Ref_choose at H
  refine J_iload_n d_Ref_choose_0 rfl ?_
  refine J_if_ne (tgt := 13) d_Ref_choose_1 (by decide) ?_ ?_
  · intro c21
    rw [if_neg c21] at H
    refine J_aload_n d_Ref_choose_13 rfl ?_
    have g13 : Γ this = .inr 12 := by
      apply Classical.byContradiction
      intro q9
      rw [if_neg q9] at H
      cases H
    rw [if_pos g13] at H
    refine F_getR (ci := 12) (k := 53) hG (cf_Ref hw) (fl_Ref_142 hw) (by decide) (by decide) rfl d_Ref_choose_14 g13 ?_
    refine J_iload_n d_Ref_choose_17 rfl ?_
    obtain ⟨a14, ha14, H⟩ := Option.bind_eq_some_iff.mp H
    rw [j_rf ha14]
    obtain ⟨N15, hN15, H⟩ := Option.bind_eq_some_iff.mp H
    obtain ⟨k16, hk16, H⟩ := Option.bind_eq_some_iff.mp H
    refine F_iald k16 hw hG d_Ref_choose_18 (gA_some hN15) (ix_some hk16) ?_
    refine J.drop [true, true, true, false, false, false, false, false] rfl ?_
    exact p_Ref_choose_L19 hw hG  H
  · intro c21
    rw [if_pos c21] at H
    refine J_aload_n d_Ref_choose_4 rfl ?_
    have g17 : Γ this = .inr 12 := by
      apply Classical.byContradiction
      intro q9
      rw [if_neg q9] at H
      cases H
    rw [if_pos g17] at H
    refine F_getR (ci := 12) (k := 52) hG (cf_Ref hw) (fl_Ref_139 hw) (by decide) (by decide) rfl d_Ref_choose_5 g17 ?_
    refine J_iload_n d_Ref_choose_8 rfl ?_
    obtain ⟨a18, ha18, H⟩ := Option.bind_eq_some_iff.mp H
    rw [j_rf ha18]
    obtain ⟨N19, hN19, H⟩ := Option.bind_eq_some_iff.mp H
    obtain ⟨k20, hk20, H⟩ := Option.bind_eq_some_iff.mp H
    refine F_iald k20 hw hG d_Ref_choose_9 (gA_some hN19) (ix_some hk20) ?_
    refine J_goto (tgt := 19) d_Ref_choose_10 (by decide) ?_
    refine J.drop [true, true, true, false, false, false, false, false] rfl ?_
    exact p_Ref_choose_L19 hw hG  H
theorem ln_Ref_moveAddress : (parseMethodDescriptor y_Ref_moveAddress.desc).map (fun q => q.parameters.length) = some 2 := by decide +kernel
def f_Ref_moveAddress_L187 (Γ : gm_T)  (φ : ph_T) : Option (Unit × ph_T) :=
  some ((), φ)
set_option maxRecDepth 100000 in
set_option maxHeartbeats 4000000 in
theorem p_Ref_moveAddress_L187 {w : jw_T} (hw : jok w) {Γ : gm_T} {n : Nat} (hG : gd w Γ n)  {x : Bool} {φ : ph_T} {q : Unit × ph_T} (H : f_Ref_moveAddress_L187 Γ  φ  = some q) : J w M_Ref_moveAddress 187 [none, none, none, none, none, none, none] [] (pic Γ φ) n x 0 0 (fq Γ n (.inl none) q.2) := by
  unfold f_Ref_moveAddress_L187 at H
  have H := Option.some.inj H
  subst H
  exact J_vret (st := []) d_Ref_moveAddress_187 rfl ⟨rfl, rfl, rfl⟩
def f_Ref_moveAddress (Γ : gm_T) (φ : ph_T) (this : Nat) (p0 : Int32) (p1 : Int32) : Option (Unit × ph_T) :=
  @ite _ (Γ this = .inr 12) _ (
  Option.bind (f_Ref_choose Γ φ this p0 p1) fun q2 =>
  if q2.1 = (-1 : Int32) then
    some ((), q2.2)
  else
    Option.bind (f_Ref_rowOf Γ q2.2 this (0 : Int32) q2.1 p1) fun q3 =>
    Option.bind (q3.2.2.2 this 39) fun a4 =>
    Option.bind (gA Γ a4 1) fun N5 =>
    Option.bind (ix ((4 : Int32) * q3.1) N5) fun k6 =>
    Option.bind (f_Ref_take Γ q3.2 this q3.1) fun q7 =>
    Option.bind (f_Ref_rowOf Γ q7.2 this (1 : Int32) p0 p1) fun q8 =>
    Option.bind (f_Ref_put Γ q8.2 this q8.1 ((q3.2.2.1 a4 k6) + ((16 : Int64) * (Int32.toInt64 q2.1))) (0 : Int32) (q8.2.1 this 6)) fun q9 =>
    if p1 = 0 then
      Option.bind (q9.2.2.2 this 52) fun a23 =>
      Option.bind (gA Γ a23 0) fun N24 =>
      Option.bind (ix p0 N24) fun k25 =>
      Option.bind (q9.2.2.2 this 43) fun a26 =>
      Option.bind (gA Γ a26 0) fun N27 =>
      Option.bind (ix ((uI q9.2 a23 k25 q2.1).1 this 47) N27) fun k28 =>
      Option.bind (f_Ref_idOf Γ (uI (uI q9.2 a23 k25 q2.1) a26 k28 q2.1) (q3.2.2.1 a4 k6)) fun q29 =>
      Option.bind (q9.2.2.2 this 44) fun a30 =>
      Option.bind (gA Γ a30 0) fun N31 =>
      Option.bind (ix ((uI (uI q9.2 a23 k25 q2.1) a26 k28 q2.1).1 this 47) N31) fun k32 =>
      Option.bind (q29.2.2.2 this 45) fun a33 =>
      Option.bind (gA Γ a33 0) fun N34 =>
      Option.bind (ix ((uI q29.2 a30 k32 q29.1).1 this 47) N34) fun k35 =>
      Option.bind (f_Ref_lengthOf Γ (uI (uI q29.2 a30 k32 q29.1) a33 k35 p0) (q3.2.2.1 a4 k6)) fun q36 =>
      Option.bind (q29.2.2.2 this 46) fun a37 =>
      Option.bind (gA Γ a37 0) fun N38 =>
      Option.bind (ix ((uI (uI q29.2 a30 k32 q29.1) a33 k35 p0).1 this 47) N38) fun k39 =>
      f_Ref_moveAddress_L187 Γ  (uI (uI q36.2 a37 k39 q36.1) this 47 (((uI q36.2 a37 k39 q36.1).1 this 47) + (1 : Int32))) 
    else
      Option.bind (q9.2.2.2 this 53) fun a10 =>
      Option.bind (gA Γ a10 0) fun N11 =>
      Option.bind (ix p0 N11) fun k12 =>
      Option.bind (q9.2.2.2 this 48) fun a13 =>
      Option.bind (gA Γ a13 0) fun N14 =>
      Option.bind (ix ((uI q9.2 a10 k12 q2.1).1 this 51) N14) fun k15 =>
      Option.bind (f_Ref_idOf Γ (uI (uI q9.2 a10 k12 q2.1) a13 k15 q2.1) (q3.2.2.1 a4 k6)) fun q16 =>
      Option.bind (q9.2.2.2 this 49) fun a17 =>
      Option.bind (gA Γ a17 0) fun N18 =>
      Option.bind (ix ((uI (uI q9.2 a10 k12 q2.1) a13 k15 q2.1).1 this 51) N18) fun k19 =>
      Option.bind (q16.2.2.2 this 50) fun a20 =>
      Option.bind (gA Γ a20 0) fun N21 =>
      Option.bind (ix ((uI q16.2 a17 k19 q16.1).1 this 51) N21) fun k22 =>
      f_Ref_moveAddress_L187 Γ  (uI (uI (uI q16.2 a17 k19 q16.1) a20 k22 p0) this 51 (((uI (uI q16.2 a17 k19 q16.1) a20 k22 p0).1 this 51) + (1 : Int32))) 
  ) none
set_option maxRecDepth 100000 in
set_option maxHeartbeats 4000000 in
theorem p_Ref_moveAddress {w : jw_T} (hw : jok w) {Γ : gm_T} {n : Nat} (hG : gd w Γ n) {x : Bool} {φ : ph_T} {this : Nat} {p0 : Int32} {p1 : Int32} {q : Unit × ph_T} (H : f_Ref_moveAddress Γ φ this p0 p1 = some q) : jc w M_Ref_moveAddress [.ref this, .int p0, .int p1] (pic Γ φ) n x 0 0 (fq Γ n (.inl none) q.2) := by
  refine jc.of (by simp only [jent_r, jent_i, jent_l, jent_a, jent_0]; exact Nat.le_of_ble_eq_true rfl) ?_
  have hls : jents [.ref this, .int p0, .int p1] (jm_nL M_Ref_moveAddress) = [some (.ref this), some (.int p0), some (.int p1), none, none, none, none] := by simp only [jents, jent_r, jent_i, jent_l, jent_a, jent_0]; rfl
  rw [hls]
  clear hls
  unfold f_Ref_moveAddress at H
  refine J_aload_n d_Ref_moveAddress_0 rfl ?_
  refine J_iload_n d_Ref_moveAddress_1 rfl ?_
  refine J_iload_n d_Ref_moveAddress_2 rfl ?_
  have g1 : Γ this = .inr 12 := by
    apply Classical.byContradiction
    intro q9
    rw [if_neg q9] at H
    cases H
  rw [if_pos g1] at H
  obtain ⟨q2, hq2, H⟩ := Option.bind_eq_some_iff.mp H
  refine J_callV (kc := 0) (ks := 0) (kc' := 0) (ks' := 0) (a := this) (ci := 12) (as := [.int p0, .int p1]) (st := []) (mf_Ref_choose hw) (mv_Ref_548 hw) d_Ref_moveAddress_3 ln_Ref_choose (by decide) (by first | exact Nat.le_of_ble_eq_true rfl | (simp only [List.map_cons, List.map_nil, List.sum_cons, List.sum_nil, va_rf_cat]; exact Nat.le_of_ble_eq_true rfl)) rfl ((hG _).1 _ g1 (by decide)).1 ((hG _).1 _ g1 (by decide)).2 (by unfold pic; rw [g1]; rfl) (jcl_at hw rfl) rfl (p_Ref_choose hw hG hq2) ?_ (fun E h' n' x' e1 => by cases e1.1)
  intro v9 h9 n9 x9 e9
  obtain ⟨e91, e92, e93⟩ := e9
  cases e91
  subst e92
  subst e93
  clear x
  rename Bool => x
  show J _ _ _ _ (_ :: _) _ _ _ _ _ _
  refine J_istore_n d_Ref_moveAddress_6 (Nat.le_of_ble_eq_true rfl) ?_
  refine J.ls (ls' := [some (.ref this), some (.int p0), some (.int p1), some (.int q2.1), none, none, none]) rfl ?_
  refine J_iload_n d_Ref_moveAddress_7 rfl ?_
  refine J_iconst (v := -1) d_Ref_moveAddress_8 (by decide) ?_
  refine J_icmp_ne (tgt := 13) d_Ref_moveAddress_9 (by decide) ?_ ?_
  · intro c41
    rw [if_neg c41] at H
    refine J_aload_n d_Ref_moveAddress_13 rfl ?_
    refine J_iconst (v := 0) d_Ref_moveAddress_14 (by decide) ?_
    refine J_iload_n d_Ref_moveAddress_15 rfl ?_
    refine J_iload_n d_Ref_moveAddress_16 rfl ?_
    obtain ⟨q3, hq3, H⟩ := Option.bind_eq_some_iff.mp H
    refine J_callV (kc := 0) (ks := 0) (kc' := 0) (ks' := 0) (a := this) (ci := 12) (as := [.int (0 : Int32), .int q2.1, .int p1]) (st := []) (mf_Ref_rowOf hw) (mv_Ref_388 hw) d_Ref_moveAddress_17 ln_Ref_rowOf (by decide) (by first | exact Nat.le_of_ble_eq_true rfl | (simp only [List.map_cons, List.map_nil, List.sum_cons, List.sum_nil, va_rf_cat]; exact Nat.le_of_ble_eq_true rfl)) rfl ((hG _).1 _ g1 (by decide)).1 ((hG _).1 _ g1 (by decide)).2 (by unfold pic; rw [g1]; rfl) (jcl_at hw rfl) rfl (p_Ref_rowOf hw hG hq3) ?_ (fun E h' n' x' e1 => by cases e1.1)
    intro v9 h9 n9 x9 e9
    obtain ⟨e91, e92, e93⟩ := e9
    cases e91
    subst e92
    subst e93
    clear x
    rename Bool => x
    show J _ _ _ _ (_ :: _) _ _ _ _ _ _
    refine J_istore d_Ref_moveAddress_20 (Nat.le_of_ble_eq_true rfl) ?_
    refine J.ls (ls' := [some (.ref this), some (.int p0), some (.int p1), some (.int q2.1), some (.int q3.1), none, none]) rfl ?_
    refine J_aload_n d_Ref_moveAddress_22 rfl ?_
    refine F_getR (ci := 12) (k := 39) hG (cf_Ref hw) (fl_Ref_106 hw) (by decide) (by decide) rfl d_Ref_moveAddress_23 g1 ?_
    refine J_iconst (v := 4) d_Ref_moveAddress_26 (by decide) ?_
    refine J_iload d_Ref_moveAddress_27 rfl ?_
    refine J_imul d_Ref_moveAddress_29 ?_
    obtain ⟨a4, ha4, H⟩ := Option.bind_eq_some_iff.mp H
    rw [j_rf ha4]
    obtain ⟨N5, hN5, H⟩ := Option.bind_eq_some_iff.mp H
    obtain ⟨k6, hk6, H⟩ := Option.bind_eq_some_iff.mp H
    refine F_lald k6 hw hG d_Ref_moveAddress_30 (gA_some hN5) (ix_some hk6) ?_
    refine J_lstore d_Ref_moveAddress_31 (Nat.le_of_ble_eq_true rfl) ?_
    refine J.ls (ls' := [some (.ref this), some (.int p0), some (.int p1), some (.int q2.1), some (.int q3.1), some (.long (q3.2.2.1 a4 k6)), none]) rfl ?_
    refine J_aload_n d_Ref_moveAddress_33 rfl ?_
    refine J_iload d_Ref_moveAddress_34 rfl ?_
    obtain ⟨q7, hq7, H⟩ := Option.bind_eq_some_iff.mp H
    refine J_callV (kc := 0) (ks := 0) (kc' := 0) (ks' := 0) (a := this) (ci := 12) (as := [.int q3.1]) (st := []) (mf_Ref_take hw) (mv_Ref_473 hw) d_Ref_moveAddress_36 ln_Ref_take (by decide) (by first | exact Nat.le_of_ble_eq_true rfl | (simp only [List.map_cons, List.map_nil, List.sum_cons, List.sum_nil, va_rf_cat]; exact Nat.le_of_ble_eq_true rfl)) rfl ((hG _).1 _ g1 (by decide)).1 ((hG _).1 _ g1 (by decide)).2 (by unfold pic; rw [g1]; rfl) (jcl_at hw rfl) rfl (p_Ref_take hw hG hq7) ?_ (fun E h' n' x' e1 => by cases e1.1)
    intro v9 h9 n9 x9 e9
    obtain ⟨e91, e92, e93⟩ := e9
    cases e91
    subst e92
    subst e93
    clear x
    rename Bool => x
    show J _ _ _ _ [] _ _ _ _ _ _
    refine J_aload_n d_Ref_moveAddress_39 rfl ?_
    refine J_aload_n d_Ref_moveAddress_40 rfl ?_
    refine J_iconst (v := 1) d_Ref_moveAddress_41 (by decide) ?_
    refine J_iload_n d_Ref_moveAddress_42 rfl ?_
    refine J_iload_n d_Ref_moveAddress_43 rfl ?_
    obtain ⟨q8, hq8, H⟩ := Option.bind_eq_some_iff.mp H
    refine J_callV (kc := 0) (ks := 0) (kc' := 0) (ks' := 0) (a := this) (ci := 12) (as := [.int (1 : Int32), .int p0, .int p1]) (st := [.ref this]) (mf_Ref_rowOf hw) (mv_Ref_388 hw) d_Ref_moveAddress_44 ln_Ref_rowOf (by decide) (by first | exact Nat.le_of_ble_eq_true rfl | (simp only [List.map_cons, List.map_nil, List.sum_cons, List.sum_nil, va_rf_cat]; exact Nat.le_of_ble_eq_true rfl)) rfl ((hG _).1 _ g1 (by decide)).1 ((hG _).1 _ g1 (by decide)).2 (by unfold pic; rw [g1]; rfl) (jcl_at hw rfl) rfl (p_Ref_rowOf hw hG hq8) ?_ (fun E h' n' x' e1 => by cases e1.1)
    intro v9 h9 n9 x9 e9
    obtain ⟨e91, e92, e93⟩ := e9
    cases e91
    subst e92
    subst e93
    clear x
    rename Bool => x
    show J _ _ _ _ (_ :: _) _ _ _ _ _ _
    refine J_lload d_Ref_moveAddress_47 rfl ?_
    refine J_ldc2 (v := 16) d_Ref_moveAddress_49 (kn_Ref_551 hw) ?_
    refine J_iload_n d_Ref_moveAddress_52 rfl ?_
    refine J_i2l d_Ref_moveAddress_53 ?_
    refine J_lmul d_Ref_moveAddress_54 ?_
    refine J_ladd d_Ref_moveAddress_55 ?_
    refine J_iconst (v := 0) d_Ref_moveAddress_56 (by decide) ?_
    refine J_aload_n d_Ref_moveAddress_57 rfl ?_
    refine F_getI (ci := 12) (k := 6) hG (cf_Ref hw) (fl_Ref_348 hw) (by decide) (by decide) rfl d_Ref_moveAddress_58 g1 ?_
    obtain ⟨q9, hq9, H⟩ := Option.bind_eq_some_iff.mp H
    refine J_callV (kc := 0) (ks := 0) (kc' := 0) (ks' := 0) (a := this) (ci := 12) (as := [.int q8.1, .long ((q3.2.2.1 a4 k6) + ((16 : Int64) * (Int32.toInt64 q2.1))), .int (0 : Int32), .int (q8.2.1 this 6)]) (st := []) (mf_Ref_put hw) (mv_Ref_469 hw) d_Ref_moveAddress_61 ln_Ref_put (by decide) (by first | exact Nat.le_of_ble_eq_true rfl | (simp only [List.map_cons, List.map_nil, List.sum_cons, List.sum_nil, va_rf_cat]; exact Nat.le_of_ble_eq_true rfl)) rfl ((hG _).1 _ g1 (by decide)).1 ((hG _).1 _ g1 (by decide)).2 (by unfold pic; rw [g1]; rfl) (jcl_at hw rfl) rfl (p_Ref_put hw hG hq9) ?_ (fun E h' n' x' e1 => by cases e1.1)
    intro v9 h9 n9 x9 e9
    obtain ⟨e91, e92, e93⟩ := e9
    cases e91
    subst e92
    subst e93
    clear x
    rename Bool => x
    show J _ _ _ _ [] _ _ _ _ _ _
    refine J_iload_n d_Ref_moveAddress_64 rfl ?_
    refine J_if_ne (tgt := 136) d_Ref_moveAddress_65 (by decide) ?_ ?_
    · intro c40
      rw [if_neg c40] at H
      refine J_aload_n d_Ref_moveAddress_136 rfl ?_
      refine F_getR (ci := 12) (k := 53) hG (cf_Ref hw) (fl_Ref_142 hw) (by decide) (by decide) rfl d_Ref_moveAddress_137 g1 ?_
      refine J_iload_n d_Ref_moveAddress_140 rfl ?_
      refine J_iload_n d_Ref_moveAddress_141 rfl ?_
      obtain ⟨a10, ha10, H⟩ := Option.bind_eq_some_iff.mp H
      rw [j_rf ha10]
      obtain ⟨N11, hN11, H⟩ := Option.bind_eq_some_iff.mp H
      obtain ⟨k12, hk12, H⟩ := Option.bind_eq_some_iff.mp H
      refine F_iast k12 hw hG d_Ref_moveAddress_142 (gA_some hN11) (ix_some hk12) ?_
      refine J_aload_n d_Ref_moveAddress_143 rfl ?_
      refine F_getR (ci := 12) (k := 48) hG (cf_Ref hw) (fl_Ref_130 hw) (by decide) (by decide) rfl d_Ref_moveAddress_144 g1 ?_
      show J _ _ _ _ (va_rf (q9.2.2.2 this 48) :: _) _ _ _ _ _ _
      refine J_aload_n d_Ref_moveAddress_147 rfl ?_
      refine F_getI (ci := 12) (k := 51) hG (cf_Ref hw) (fl_Ref_529 hw) (by decide) (by decide) rfl d_Ref_moveAddress_148 g1 ?_
      refine J_iload_n d_Ref_moveAddress_151 rfl ?_
      obtain ⟨a13, ha13, H⟩ := Option.bind_eq_some_iff.mp H
      rw [j_rf ha13]
      obtain ⟨N14, hN14, H⟩ := Option.bind_eq_some_iff.mp H
      obtain ⟨k15, hk15, H⟩ := Option.bind_eq_some_iff.mp H
      refine F_iast k15 hw hG d_Ref_moveAddress_152 (gA_some hN14) (ix_some hk15) ?_
      refine J_aload_n d_Ref_moveAddress_153 rfl ?_
      refine F_getR (ci := 12) (k := 49) hG (cf_Ref hw) (fl_Ref_133 hw) (by decide) (by decide) rfl d_Ref_moveAddress_154 g1 ?_
      show J _ _ _ _ (va_rf (q9.2.2.2 this 49) :: _) _ _ _ _ _ _
      refine J_aload_n d_Ref_moveAddress_157 rfl ?_
      refine F_getI (ci := 12) (k := 51) hG (cf_Ref hw) (fl_Ref_529 hw) (by decide) (by decide) rfl d_Ref_moveAddress_158 g1 ?_
      refine J_lload d_Ref_moveAddress_161 rfl ?_
      obtain ⟨q16, hq16, H⟩ := Option.bind_eq_some_iff.mp H
      refine J_callS (kc := 0) (ks := 0) (kc' := 0) (ks' := 0) (as := [.long (q3.2.2.1 a4 k6)]) (st := [.int ((uI (uI q9.2 a10 k12 q2.1) a13 k15 q2.1).1 this 51), va_rf (q9.2.2.2 this 49)]) (mf_Ref_idOf hw) (ms_Ref_396 hw) d_Ref_moveAddress_163 ln_Ref_idOf (by decide) (by first | exact Nat.le_of_ble_eq_true rfl | (simp only [List.map_cons, List.map_nil, List.sum_cons, List.sum_nil, va_rf_cat]; exact Nat.le_of_ble_eq_true rfl)) rfl (p_Ref_idOf hw hG hq16) ?_ (fun E h' n' x' e1 => by cases e1.1)
      intro v9 h9 n9 x9 e9
      obtain ⟨e91, e92, e93⟩ := e9
      cases e91
      subst e92
      subst e93
      clear x
      rename Bool => x
      show J _ _ _ _ (_ :: _) _ _ _ _ _ _
      obtain ⟨a17, ha17, H⟩ := Option.bind_eq_some_iff.mp H
      rw [j_rf ha17]
      obtain ⟨N18, hN18, H⟩ := Option.bind_eq_some_iff.mp H
      obtain ⟨k19, hk19, H⟩ := Option.bind_eq_some_iff.mp H
      refine F_iast k19 hw hG d_Ref_moveAddress_166 (gA_some hN18) (ix_some hk19) ?_
      refine J_aload_n d_Ref_moveAddress_167 rfl ?_
      refine F_getR (ci := 12) (k := 50) hG (cf_Ref hw) (fl_Ref_136 hw) (by decide) (by decide) rfl d_Ref_moveAddress_168 g1 ?_
      show J _ _ _ _ (va_rf (q16.2.2.2 this 50) :: _) _ _ _ _ _ _
      refine J_aload_n d_Ref_moveAddress_171 rfl ?_
      refine F_getI (ci := 12) (k := 51) hG (cf_Ref hw) (fl_Ref_529 hw) (by decide) (by decide) rfl d_Ref_moveAddress_172 g1 ?_
      refine J_iload_n d_Ref_moveAddress_175 rfl ?_
      obtain ⟨a20, ha20, H⟩ := Option.bind_eq_some_iff.mp H
      rw [j_rf ha20]
      obtain ⟨N21, hN21, H⟩ := Option.bind_eq_some_iff.mp H
      obtain ⟨k22, hk22, H⟩ := Option.bind_eq_some_iff.mp H
      refine F_iast k22 hw hG d_Ref_moveAddress_176 (gA_some hN21) (ix_some hk22) ?_
      refine J_aload_n d_Ref_moveAddress_177 rfl ?_
      refine J_dup d_Ref_moveAddress_178 rfl ?_
      refine F_getI (ci := 12) (k := 51) hG (cf_Ref hw) (fl_Ref_529 hw) (by decide) (by decide) rfl d_Ref_moveAddress_179 g1 ?_
      refine J_iconst (v := 1) d_Ref_moveAddress_182 (by decide) ?_
      refine J_iadd d_Ref_moveAddress_183 ?_
      refine F_putI (ci := 12) (k := 51) hG (cf_Ref hw) (fl_Ref_529 hw) (by decide) (by decide) rfl d_Ref_moveAddress_184 rfl rfl rfl g1 ?_
      refine J.drop [false, false, false, false, false, false, false] rfl ?_
      exact p_Ref_moveAddress_L187 hw hG  H
    · intro c40
      rw [if_pos c40] at H
      refine J_aload_n d_Ref_moveAddress_68 rfl ?_
      refine F_getR (ci := 12) (k := 52) hG (cf_Ref hw) (fl_Ref_139 hw) (by decide) (by decide) rfl d_Ref_moveAddress_69 g1 ?_
      refine J_iload_n d_Ref_moveAddress_72 rfl ?_
      refine J_iload_n d_Ref_moveAddress_73 rfl ?_
      obtain ⟨a23, ha23, H⟩ := Option.bind_eq_some_iff.mp H
      rw [j_rf ha23]
      obtain ⟨N24, hN24, H⟩ := Option.bind_eq_some_iff.mp H
      obtain ⟨k25, hk25, H⟩ := Option.bind_eq_some_iff.mp H
      refine F_iast k25 hw hG d_Ref_moveAddress_74 (gA_some hN24) (ix_some hk25) ?_
      refine J_aload_n d_Ref_moveAddress_75 rfl ?_
      refine F_getR (ci := 12) (k := 43) hG (cf_Ref hw) (fl_Ref_118 hw) (by decide) (by decide) rfl d_Ref_moveAddress_76 g1 ?_
      show J _ _ _ _ (va_rf (q9.2.2.2 this 43) :: _) _ _ _ _ _ _
      refine J_aload_n d_Ref_moveAddress_79 rfl ?_
      refine F_getI (ci := 12) (k := 47) hG (cf_Ref hw) (fl_Ref_526 hw) (by decide) (by decide) rfl d_Ref_moveAddress_80 g1 ?_
      refine J_iload_n d_Ref_moveAddress_83 rfl ?_
      obtain ⟨a26, ha26, H⟩ := Option.bind_eq_some_iff.mp H
      rw [j_rf ha26]
      obtain ⟨N27, hN27, H⟩ := Option.bind_eq_some_iff.mp H
      obtain ⟨k28, hk28, H⟩ := Option.bind_eq_some_iff.mp H
      refine F_iast k28 hw hG d_Ref_moveAddress_84 (gA_some hN27) (ix_some hk28) ?_
      refine J_aload_n d_Ref_moveAddress_85 rfl ?_
      refine F_getR (ci := 12) (k := 44) hG (cf_Ref hw) (fl_Ref_121 hw) (by decide) (by decide) rfl d_Ref_moveAddress_86 g1 ?_
      show J _ _ _ _ (va_rf (q9.2.2.2 this 44) :: _) _ _ _ _ _ _
      refine J_aload_n d_Ref_moveAddress_89 rfl ?_
      refine F_getI (ci := 12) (k := 47) hG (cf_Ref hw) (fl_Ref_526 hw) (by decide) (by decide) rfl d_Ref_moveAddress_90 g1 ?_
      refine J_lload d_Ref_moveAddress_93 rfl ?_
      obtain ⟨q29, hq29, H⟩ := Option.bind_eq_some_iff.mp H
      refine J_callS (kc := 0) (ks := 0) (kc' := 0) (ks' := 0) (as := [.long (q3.2.2.1 a4 k6)]) (st := [.int ((uI (uI q9.2 a23 k25 q2.1) a26 k28 q2.1).1 this 47), va_rf (q9.2.2.2 this 44)]) (mf_Ref_idOf hw) (ms_Ref_396 hw) d_Ref_moveAddress_95 ln_Ref_idOf (by decide) (by first | exact Nat.le_of_ble_eq_true rfl | (simp only [List.map_cons, List.map_nil, List.sum_cons, List.sum_nil, va_rf_cat]; exact Nat.le_of_ble_eq_true rfl)) rfl (p_Ref_idOf hw hG hq29) ?_ (fun E h' n' x' e1 => by cases e1.1)
      intro v9 h9 n9 x9 e9
      obtain ⟨e91, e92, e93⟩ := e9
      cases e91
      subst e92
      subst e93
      clear x
      rename Bool => x
      show J _ _ _ _ (_ :: _) _ _ _ _ _ _
      obtain ⟨a30, ha30, H⟩ := Option.bind_eq_some_iff.mp H
      rw [j_rf ha30]
      obtain ⟨N31, hN31, H⟩ := Option.bind_eq_some_iff.mp H
      obtain ⟨k32, hk32, H⟩ := Option.bind_eq_some_iff.mp H
      refine F_iast k32 hw hG d_Ref_moveAddress_98 (gA_some hN31) (ix_some hk32) ?_
      refine J_aload_n d_Ref_moveAddress_99 rfl ?_
      refine F_getR (ci := 12) (k := 45) hG (cf_Ref hw) (fl_Ref_124 hw) (by decide) (by decide) rfl d_Ref_moveAddress_100 g1 ?_
      show J _ _ _ _ (va_rf (q29.2.2.2 this 45) :: _) _ _ _ _ _ _
      refine J_aload_n d_Ref_moveAddress_103 rfl ?_
      refine F_getI (ci := 12) (k := 47) hG (cf_Ref hw) (fl_Ref_526 hw) (by decide) (by decide) rfl d_Ref_moveAddress_104 g1 ?_
      refine J_iload_n d_Ref_moveAddress_107 rfl ?_
      obtain ⟨a33, ha33, H⟩ := Option.bind_eq_some_iff.mp H
      rw [j_rf ha33]
      obtain ⟨N34, hN34, H⟩ := Option.bind_eq_some_iff.mp H
      obtain ⟨k35, hk35, H⟩ := Option.bind_eq_some_iff.mp H
      refine F_iast k35 hw hG d_Ref_moveAddress_108 (gA_some hN34) (ix_some hk35) ?_
      refine J_aload_n d_Ref_moveAddress_109 rfl ?_
      refine F_getR (ci := 12) (k := 46) hG (cf_Ref hw) (fl_Ref_127 hw) (by decide) (by decide) rfl d_Ref_moveAddress_110 g1 ?_
      show J _ _ _ _ (va_rf (q29.2.2.2 this 46) :: _) _ _ _ _ _ _
      refine J_aload_n d_Ref_moveAddress_113 rfl ?_
      refine F_getI (ci := 12) (k := 47) hG (cf_Ref hw) (fl_Ref_526 hw) (by decide) (by decide) rfl d_Ref_moveAddress_114 g1 ?_
      refine J_lload d_Ref_moveAddress_117 rfl ?_
      obtain ⟨q36, hq36, H⟩ := Option.bind_eq_some_iff.mp H
      refine J_callS (kc := 0) (ks := 0) (kc' := 0) (ks' := 0) (as := [.long (q3.2.2.1 a4 k6)]) (st := [.int ((uI (uI q29.2 a30 k32 q29.1) a33 k35 p0).1 this 47), va_rf (q29.2.2.2 this 46)]) (mf_Ref_lengthOf hw) (ms_Ref_321 hw) d_Ref_moveAddress_119 ln_Ref_lengthOf (by decide) (by first | exact Nat.le_of_ble_eq_true rfl | (simp only [List.map_cons, List.map_nil, List.sum_cons, List.sum_nil, va_rf_cat]; exact Nat.le_of_ble_eq_true rfl)) rfl (p_Ref_lengthOf hw hG hq36) ?_ (fun E h' n' x' e1 => by cases e1.1)
      intro v9 h9 n9 x9 e9
      obtain ⟨e91, e92, e93⟩ := e9
      cases e91
      subst e92
      subst e93
      clear x
      rename Bool => x
      show J _ _ _ _ (_ :: _) _ _ _ _ _ _
      obtain ⟨a37, ha37, H⟩ := Option.bind_eq_some_iff.mp H
      rw [j_rf ha37]
      obtain ⟨N38, hN38, H⟩ := Option.bind_eq_some_iff.mp H
      obtain ⟨k39, hk39, H⟩ := Option.bind_eq_some_iff.mp H
      refine F_iast k39 hw hG d_Ref_moveAddress_122 (gA_some hN38) (ix_some hk39) ?_
      refine J_aload_n d_Ref_moveAddress_123 rfl ?_
      refine J_dup d_Ref_moveAddress_124 rfl ?_
      refine F_getI (ci := 12) (k := 47) hG (cf_Ref hw) (fl_Ref_526 hw) (by decide) (by decide) rfl d_Ref_moveAddress_125 g1 ?_
      refine J_iconst (v := 1) d_Ref_moveAddress_128 (by decide) ?_
      refine J_iadd d_Ref_moveAddress_129 ?_
      refine F_putI (ci := 12) (k := 47) hG (cf_Ref hw) (fl_Ref_526 hw) (by decide) (by decide) rfl d_Ref_moveAddress_130 rfl rfl rfl g1 ?_
      refine J_goto (tgt := 187) d_Ref_moveAddress_133 (by decide) ?_
      refine J.drop [false, false, false, false, false, false, false] rfl ?_
      exact p_Ref_moveAddress_L187 hw hG  H
  · intro c41
    rw [if_pos c41] at H
    have H := Option.some.inj H
    subst H
    exact J_vret (st := []) d_Ref_moveAddress_12 rfl ⟨rfl, rfl, rfl⟩
