theorem ln_Ref_goAw : (parseMethodDescriptor y_Ref_goAw.desc).map (fun q => q.parameters.length) = some 2 := by decide +kernel
def f_Ref_goAw_L139 (Γ : gm_T)  (φ : ph_T) : Option (Unit × ph_T) :=
  some ((), φ)
set_option maxRecDepth 100000 in
set_option maxHeartbeats 4000000 in
theorem p_Ref_goAw_L139 {w : jw_T} (hw : jok w) {Γ : gm_T} {n : Nat} (hG : gd w Γ n)  {x : Bool} {φ : ph_T} {q : Unit × ph_T} (H : f_Ref_goAw_L139 Γ  φ  = some q) : J w M_Ref_goAw 139 [none, none, none, none, none, none] [] (pic Γ φ) n x 0 0 (fq Γ n (.inl none) q.2) := by
  unfold f_Ref_goAw_L139 at H
  have H := Option.some.inj H
  subst H
  exact J_vret (st := []) d_Ref_goAw_139 rfl ⟨rfl, rfl, rfl⟩
def f_Ref_goAw_L102 (Γ : gm_T)  : Nat → ph_T → Nat → Int32 → Int32 → Int32 → Option (Unit × ph_T)
  | 0, _, _, _, _, _ => none
  | fu + 1, φ, x0, x1, x4, x5 =>
    @ite _ (Γ x0 = .inr 12) _ (
    Option.bind (φ.2.2 x0 93) fun a2 =>
    Option.bind (gA Γ a2 0) fun N3 =>
    Option.bind (ix x4 N3) fun k4 =>
    if (φ.1 a2 k4) ≤ x5 then
      f_Ref_goAw_L139 Γ  φ 
    else
      Option.bind (φ.2.2 x0 86) fun a5 =>
      Option.bind (gA Γ a5 0) fun N6 =>
      Option.bind (ix x1 N6) fun k7 =>
      if (φ.1 a5 k7) = 0 then
        Option.bind (f_Ref_checkBeat Γ φ x0 x1 x4 x5 (0 : Int32)) fun q8 =>
        (f_Ref_goAw_L102 Γ  fu) q8.2 x0 x1 x4 (x5 + (1 : Int32))
      else
        f_Ref_goAw_L139 Γ  φ 
    ) none
set_option maxRecDepth 100000 in
set_option maxHeartbeats 4000000 in
theorem p_Ref_goAw_L102 {w : jw_T} (hw : jok w) {Γ : gm_T} {n : Nat} (hG : gd w Γ n)  : ∀ (fu : Nat) {x : Bool} {φ : ph_T} {x0 : Nat} {x1 : Int32} {x4 : Int32} {x5 : Int32} {q : Unit × ph_T}, f_Ref_goAw_L102 Γ  fu φ x0 x1 x4 x5 = some q → J w M_Ref_goAw 102 [some (.ref x0), some (.int x1), none, none, some (.int x4), some (.int x5)] [] (pic Γ φ) n x 0 0 (fq Γ n (.inl none) q.2) := by
  intro fu
  induction fu with
  | zero =>
    intro x φ x0 x1 x4 x5 q H
    cases H
  | succ fu ih =>
    intro x φ x0 x1 x4 x5 q H
    unfold f_Ref_goAw_L102 at H
    refine J_iload d_Ref_goAw_102 rfl ?_
    refine J_aload_n d_Ref_goAw_104 rfl ?_
    have g1 : Γ x0 = .inr 12 := by
      apply Classical.byContradiction
      intro q9
      rw [if_neg q9] at H
      cases H
    rw [if_pos g1] at H
    refine F_getR (ci := 12) (k := 93) hG (cf_Ref hw) (fl_Ref_259 hw) (by decide) (by decide) rfl d_Ref_goAw_105 g1 ?_
    refine J_iload d_Ref_goAw_108 rfl ?_
    obtain ⟨a2, ha2, H⟩ := Option.bind_eq_some_iff.mp H
    rw [j_rf ha2]
    obtain ⟨N3, hN3, H⟩ := Option.bind_eq_some_iff.mp H
    obtain ⟨k4, hk4, H⟩ := Option.bind_eq_some_iff.mp H
    refine F_iald k4 hw hG d_Ref_goAw_110 (gA_some hN3) (ix_some hk4) ?_
    refine J_icmp_ge (tgt := 139) d_Ref_goAw_111 (by decide) ?_ ?_
    · intro c10
      rw [if_pos c10] at H
      refine J.drop [false, false, false, false, false, false] rfl ?_
      exact p_Ref_goAw_L139 hw hG  H
    · intro c10
      rw [if_neg c10] at H
      refine J_aload_n d_Ref_goAw_114 rfl ?_
      refine F_getR (ci := 12) (k := 86) hG (cf_Ref hw) (fl_Ref_238 hw) (by decide) (by decide) rfl d_Ref_goAw_115 g1 ?_
      refine J_iload_n d_Ref_goAw_118 rfl ?_
      obtain ⟨a5, ha5, H⟩ := Option.bind_eq_some_iff.mp H
      rw [j_rf ha5]
      obtain ⟨N6, hN6, H⟩ := Option.bind_eq_some_iff.mp H
      obtain ⟨k7, hk7, H⟩ := Option.bind_eq_some_iff.mp H
      refine F_iald k7 hw hG d_Ref_goAw_119 (gA_some hN6) (ix_some hk7) ?_
      refine J_if_ne (tgt := 139) d_Ref_goAw_120 (by decide) ?_ ?_
      · intro c9
        rw [if_neg c9] at H
        refine J.drop [false, false, false, false, false, false] rfl ?_
        exact p_Ref_goAw_L139 hw hG  H
      · intro c9
        rw [if_pos c9] at H
        refine J_aload_n d_Ref_goAw_123 rfl ?_
        refine J_iload_n d_Ref_goAw_124 rfl ?_
        refine J_iload d_Ref_goAw_125 rfl ?_
        refine J_iload d_Ref_goAw_127 rfl ?_
        refine J_iconst (v := 0) d_Ref_goAw_129 (by decide) ?_
        obtain ⟨q8, hq8, H⟩ := Option.bind_eq_some_iff.mp H
        refine J_callV (kc := 0) (ks := 0) (kc' := 0) (ks' := 0) (a := x0) (ci := 12) (as := [.int x1, .int x4, .int x5, .int (0 : Int32)]) (st := []) (mf_Ref_checkBeat hw) (mv_Ref_437 hw) d_Ref_goAw_130 ln_Ref_checkBeat (by decide) (by first | exact Nat.le_of_ble_eq_true rfl | (simp only [List.map_cons, List.map_nil, List.sum_cons, List.sum_nil, va_rf_cat]; exact Nat.le_of_ble_eq_true rfl)) rfl ((hG _).1 _ g1 (by decide)).1 ((hG _).1 _ g1 (by decide)).2 (by unfold pic; rw [g1]; rfl) (jcl_at hw rfl) rfl (p_Ref_checkBeat hw hG hq8) ?_ (fun E h' n' x' e1 => by cases e1.1)
        intro v9 h9 n9 x9 e9
        obtain ⟨e91, e92, e93⟩ := e9
        cases e91
        subst e92
        subst e93
        clear x
        rename Bool => x
        show J _ _ _ _ [] _ _ _ _ _ _
        refine J_iinc (v := x5 + 1) d_Ref_goAw_133 rfl (by rw [show Int32.ofInt 1 = (1 : Int32) from by decide]) ?_
        refine J.ls (ls' := [some (.ref x0), some (.int x1), none, none, some (.int x4), some (.int (x5 + (1 : Int32)))]) rfl ?_
        refine J_goto (tgt := 102) d_Ref_goAw_136 (by decide) ?_
        refine J.drop [true, true, false, false, true, true] rfl ?_
        exact ih H
def f_Ref_goAw_L74 (Γ : gm_T)  (φ : ph_T) (x0 : Nat) (x1 : Int32) (x2 : Int64) (y0 : Int32) : Option (Unit × ph_T) :=
  if y0 = (-1 : Int32) then
    some ((), φ)
  else
    @ite _ (Γ x0 = .inr 12) _ (
    Option.bind (φ.2.2 x0 91) fun a12 =>
    Option.bind (gA Γ a12 2) fun N13 =>
    Option.bind (ix y0 N13) fun k14 =>
    @ite _ ((1 : Int32) = 0 ∨ (1 : Int32) = 1) _ (
    Option.bind (φ.2.2 x0 92) fun a16 =>
    Option.bind (gA Γ a16 1) fun N17 =>
    Option.bind (ix y0 N17) fun k18 =>
    f_Ref_goAw_L102 Γ  jF (uL (uI φ a12 k14 (1 : Int32)) a16 k18 x2) x0 x1 y0 (0 : Int32)
    ) none
    ) none
set_option maxRecDepth 100000 in
set_option maxHeartbeats 4000000 in
theorem p_Ref_goAw_L74 {w : jw_T} (hw : jok w) {Γ : gm_T} {n : Nat} (hG : gd w Γ n)  {x : Bool} {φ : ph_T} {x0 : Nat} {x1 : Int32} {x2 : Int64} {y0 : Int32} {q : Unit × ph_T} (H : f_Ref_goAw_L74 Γ  φ x0 x1 x2 y0 = some q) : J w M_Ref_goAw 74 [some (.ref x0), some (.int x1), some (.long x2), none, none, none] [.int y0] (pic Γ φ) n x 0 0 (fq Γ n (.inl none) q.2) := by
  unfold f_Ref_goAw_L74 at H
  refine J_istore d_Ref_goAw_74 (Nat.le_of_ble_eq_true rfl) ?_
  refine J.ls (ls' := [some (.ref x0), some (.int x1), some (.long x2), none, some (.int y0), none]) rfl ?_
  refine J_iload d_Ref_goAw_76 rfl ?_
  refine J_iconst (v := -1) d_Ref_goAw_78 (by decide) ?_
  refine J_icmp_ne (tgt := 83) d_Ref_goAw_79 (by decide) ?_ ?_
  · intro c19
    rw [if_neg c19] at H
    refine J_aload_n d_Ref_goAw_83 rfl ?_
    have g11 : Γ x0 = .inr 12 := by
      apply Classical.byContradiction
      intro q9
      rw [if_neg q9] at H
      cases H
    rw [if_pos g11] at H
    refine F_getR (ci := 12) (k := 91) hG (cf_Ref hw) (fl_Ref_253 hw) (by decide) (by decide) rfl d_Ref_goAw_84 g11 ?_
    refine J_iload d_Ref_goAw_87 rfl ?_
    refine J_iconst (v := 1) d_Ref_goAw_89 (by decide) ?_
    obtain ⟨a12, ha12, H⟩ := Option.bind_eq_some_iff.mp H
    rw [j_rf ha12]
    obtain ⟨N13, hN13, H⟩ := Option.bind_eq_some_iff.mp H
    obtain ⟨k14, hk14, H⟩ := Option.bind_eq_some_iff.mp H
    have z15 : (1 : Int32) = 0 ∨ (1 : Int32) = 1 := by
      apply Classical.byContradiction
      intro q9
      rw [if_neg q9] at H
      cases H
    rw [if_pos z15] at H
    refine F_zast k14 hw hG d_Ref_goAw_90 (gA_some hN13) (ix_some hk14) z15 ?_
    refine J_aload_n d_Ref_goAw_91 rfl ?_
    refine F_getR (ci := 12) (k := 92) hG (cf_Ref hw) (fl_Ref_256 hw) (by decide) (by decide) rfl d_Ref_goAw_92 g11 ?_
    show J _ _ _ _ (va_rf (φ.2.2 x0 92) :: _) _ _ _ _ _ _
    refine J_iload d_Ref_goAw_95 rfl ?_
    refine J_lload_n d_Ref_goAw_97 rfl ?_
    obtain ⟨a16, ha16, H⟩ := Option.bind_eq_some_iff.mp H
    rw [j_rf ha16]
    obtain ⟨N17, hN17, H⟩ := Option.bind_eq_some_iff.mp H
    obtain ⟨k18, hk18, H⟩ := Option.bind_eq_some_iff.mp H
    refine F_last k18 hw hG d_Ref_goAw_98 (gA_some hN17) (ix_some hk18) ?_
    refine J_iconst (v := 0) d_Ref_goAw_99 (by decide) ?_
    refine J_istore d_Ref_goAw_100 (Nat.le_of_ble_eq_true rfl) ?_
    refine J.ls (ls' := [some (.ref x0), some (.int x1), some (.long x2), none, some (.int y0), some (.int (0 : Int32))]) rfl ?_
    refine J.drop [true, true, false, false, true, true] rfl ?_
    exact p_Ref_goAw_L102 hw hG  _ H
  · intro c19
    rw [if_pos c19] at H
    have H := Option.some.inj H
    subst H
    exact J_vret (st := []) d_Ref_goAw_82 rfl ⟨rfl, rfl, rfl⟩
def f_Ref_goAw_L57 (Γ : gm_T)  (φ : ph_T) (x0 : Nat) (x1 : Int32) (x2 : Int64) (x4 : Int32) : Option (Unit × ph_T) :=
  if x4 = (-1 : Int32) then
    @ite _ (Γ x0 = .inr 12) _ (
    Option.bind (f_Ref_newWrite Γ φ x0 x1 (0 : Int32)) fun q21 =>
    f_Ref_goAw_L74 Γ  q21.2 x0 x1 x2 q21.1
    ) none
  else
    f_Ref_goAw_L74 Γ  φ x0 x1 x2 x4
set_option maxRecDepth 100000 in
set_option maxHeartbeats 4000000 in
theorem p_Ref_goAw_L57 {w : jw_T} (hw : jok w) {Γ : gm_T} {n : Nat} (hG : gd w Γ n)  {x : Bool} {φ : ph_T} {x0 : Nat} {x1 : Int32} {x2 : Int64} {x4 : Int32} {q : Unit × ph_T} (H : f_Ref_goAw_L57 Γ  φ x0 x1 x2 x4 = some q) : J w M_Ref_goAw 57 [some (.ref x0), some (.int x1), some (.long x2), none, some (.int x4), none] [] (pic Γ φ) n x 0 0 (fq Γ n (.inl none) q.2) := by
  unfold f_Ref_goAw_L57 at H
  refine J_iload d_Ref_goAw_57 rfl ?_
  refine J_iconst (v := -1) d_Ref_goAw_59 (by decide) ?_
  refine J_icmp_ne (tgt := 72) d_Ref_goAw_60 (by decide) ?_ ?_
  · intro c22
    rw [if_neg c22] at H
    refine J_iload d_Ref_goAw_72 rfl ?_
    refine J.drop [true, true, true, false, false, false] rfl ?_
    exact p_Ref_goAw_L74 hw hG  H
  · intro c22
    rw [if_pos c22] at H
    refine J_aload_n d_Ref_goAw_63 rfl ?_
    refine J_iload_n d_Ref_goAw_64 rfl ?_
    refine J_iconst (v := 0) d_Ref_goAw_65 (by decide) ?_
    have g20 : Γ x0 = .inr 12 := by
      apply Classical.byContradiction
      intro q9
      rw [if_neg q9] at H
      cases H
    rw [if_pos g20] at H
    obtain ⟨q21, hq21, H⟩ := Option.bind_eq_some_iff.mp H
    refine J_callV (kc := 0) (ks := 0) (kc' := 0) (ks' := 0) (a := x0) (ci := 12) (as := [.int x1, .int (0 : Int32)]) (st := []) (mf_Ref_newWrite hw) (mv_Ref_434 hw) d_Ref_goAw_66 ln_Ref_newWrite (by decide) (by first | exact Nat.le_of_ble_eq_true rfl | (simp only [List.map_cons, List.map_nil, List.sum_cons, List.sum_nil, va_rf_cat]; exact Nat.le_of_ble_eq_true rfl)) rfl ((hG _).1 _ g20 (by decide)).1 ((hG _).1 _ g20 (by decide)).2 (by unfold pic; rw [g20]; rfl) (jcl_at hw rfl) rfl (p_Ref_newWrite hw hG hq21) ?_ (fun E h' n' x' e1 => by cases e1.1)
    intro v9 h9 n9 x9 e9
    obtain ⟨e91, e92, e93⟩ := e9
    cases e91
    subst e92
    subst e93
    clear x
    rename Bool => x
    show J _ _ _ _ (_ :: _) _ _ _ _ _ _
    refine J_goto (tgt := 74) d_Ref_goAw_69 (by decide) ?_
    refine J.drop [true, true, true, false, false, false] rfl ?_
    exact p_Ref_goAw_L74 hw hG  H
def f_Ref_goAw_L49 (Γ : gm_T) (Kc6 : ph_T → Nat → Int32 → Int64 → Int32 → Int32 → Option (Unit × ph_T)) (φ : ph_T) (x0 : Nat) (x1 : Int32) (x2 : Int64) (x5 : Int32) (y0 : Int32) : Option (Unit × ph_T) :=
  Kc6 φ x0 x1 x2 y0 (x5 + (1 : Int32))
set_option maxRecDepth 100000 in
set_option maxHeartbeats 4000000 in
theorem p_Ref_goAw_L49 {w : jw_T} (hw : jok w) {Γ : gm_T} {n : Nat} (hG : gd w Γ n) {Kc6 : ph_T → Nat → Int32 → Int64 → Int32 → Int32 → Option (Unit × ph_T)} (hKc6 : ∀ {x : Bool} {φ : ph_T} {x0 : Nat} {x1 : Int32} {x2 : Int64} {x4 : Int32} {x5 : Int32} {q : Unit × ph_T}, Kc6 φ x0 x1 x2 x4 x5 = some q → J w M_Ref_goAw 6 [some (.ref x0), some (.int x1), some (.long x2), none, some (.int x4), some (.int x5)] [] (pic Γ φ) n x 0 0 (fq Γ n (.inl none) q.2)) {x : Bool} {φ : ph_T} {x0 : Nat} {x1 : Int32} {x2 : Int64} {x5 : Int32} {y0 : Int32} {q : Unit × ph_T} (H : f_Ref_goAw_L49 Γ Kc6 φ x0 x1 x2 x5 y0 = some q) : J w M_Ref_goAw 49 [some (.ref x0), some (.int x1), some (.long x2), none, none, some (.int x5)] [.int y0] (pic Γ φ) n x 0 0 (fq Γ n (.inl none) q.2) := by
  unfold f_Ref_goAw_L49 at H
  refine J_istore d_Ref_goAw_49 (Nat.le_of_ble_eq_true rfl) ?_
  refine J.ls (ls' := [some (.ref x0), some (.int x1), some (.long x2), none, some (.int y0), some (.int x5)]) rfl ?_
  refine J_iinc (v := x5 + 1) d_Ref_goAw_51 rfl (by rw [show Int32.ofInt 1 = (1 : Int32) from by decide]) ?_
  refine J.ls (ls' := [some (.ref x0), some (.int x1), some (.long x2), none, some (.int y0), some (.int (x5 + (1 : Int32)))]) rfl ?_
  refine J_goto (tgt := 6) d_Ref_goAw_54 (by decide) ?_
  refine J.drop [true, true, true, false, true, true] rfl ?_
  exact hKc6 H
def f_Ref_goAw_L6 (Γ : gm_T)  : Nat → ph_T → Nat → Int32 → Int64 → Int32 → Int32 → Option (Unit × ph_T)
  | 0, _, _, _, _, _, _ => none
  | fu + 1, φ, x0, x1, x2, x4, x5 =>
    @ite _ (Γ x0 = .inr 12) _ (
    Option.bind (φ.2.2 x0 89) fun a24 =>
    Option.bind (gA Γ a24 0) fun N25 =>
    Option.bind (ix x1 N25) fun k26 =>
    if (φ.1 a24 k26) ≤ x5 then
      f_Ref_goAw_L57 Γ  φ x0 x1 x2 x4
    else
      if x4 = (-1 : Int32) then
        Option.bind (φ.2.2 x0 91) fun a27 =>
        Option.bind (gA Γ a27 2) fun N28 =>
        Option.bind (ix (((16 : Int32) * x1) + x5) N28) fun k29 =>
        if (φ.1 a27 k29) = 0 then
          f_Ref_goAw_L49 Γ (f_Ref_goAw_L6 Γ  fu) φ x0 x1 x2 x5 (((16 : Int32) * x1) + x5)
        else
          f_Ref_goAw_L49 Γ (f_Ref_goAw_L6 Γ  fu) φ x0 x1 x2 x5 (-1 : Int32)
      else
        f_Ref_goAw_L57 Γ  φ x0 x1 x2 x4
    ) none
set_option maxRecDepth 100000 in
set_option maxHeartbeats 4000000 in
theorem p_Ref_goAw_L6 {w : jw_T} (hw : jok w) {Γ : gm_T} {n : Nat} (hG : gd w Γ n)  : ∀ (fu : Nat) {x : Bool} {φ : ph_T} {x0 : Nat} {x1 : Int32} {x2 : Int64} {x4 : Int32} {x5 : Int32} {q : Unit × ph_T}, f_Ref_goAw_L6 Γ  fu φ x0 x1 x2 x4 x5 = some q → J w M_Ref_goAw 6 [some (.ref x0), some (.int x1), some (.long x2), none, some (.int x4), some (.int x5)] [] (pic Γ φ) n x 0 0 (fq Γ n (.inl none) q.2) := by
  intro fu
  induction fu with
  | zero =>
    intro x φ x0 x1 x2 x4 x5 q H
    cases H
  | succ fu ih =>
    intro x φ x0 x1 x2 x4 x5 q H
    unfold f_Ref_goAw_L6 at H
    refine J_iload d_Ref_goAw_6 rfl ?_
    refine J_aload_n d_Ref_goAw_8 rfl ?_
    have g23 : Γ x0 = .inr 12 := by
      apply Classical.byContradiction
      intro q9
      rw [if_neg q9] at H
      cases H
    rw [if_pos g23] at H
    refine F_getR (ci := 12) (k := 89) hG (cf_Ref hw) (fl_Ref_247 hw) (by decide) (by decide) rfl d_Ref_goAw_9 g23 ?_
    refine J_iload_n d_Ref_goAw_12 rfl ?_
    obtain ⟨a24, ha24, H⟩ := Option.bind_eq_some_iff.mp H
    rw [j_rf ha24]
    obtain ⟨N25, hN25, H⟩ := Option.bind_eq_some_iff.mp H
    obtain ⟨k26, hk26, H⟩ := Option.bind_eq_some_iff.mp H
    refine F_iald k26 hw hG d_Ref_goAw_13 (gA_some hN25) (ix_some hk26) ?_
    refine J_icmp_ge (tgt := 57) d_Ref_goAw_14 (by decide) ?_ ?_
    · intro c32
      rw [if_pos c32] at H
      refine J.drop [true, true, true, false, true, false] rfl ?_
      exact p_Ref_goAw_L57 hw hG  H
    · intro c32
      rw [if_neg c32] at H
      refine J_iload d_Ref_goAw_17 rfl ?_
      refine J_iconst (v := -1) d_Ref_goAw_19 (by decide) ?_
      refine J_icmp_ne (tgt := 57) d_Ref_goAw_20 (by decide) ?_ ?_
      · intro c31
        rw [if_neg c31] at H
        refine J.drop [true, true, true, false, true, false] rfl ?_
        exact p_Ref_goAw_L57 hw hG  H
      · intro c31
        rw [if_pos c31] at H
        refine J_aload_n d_Ref_goAw_23 rfl ?_
        refine F_getR (ci := 12) (k := 91) hG (cf_Ref hw) (fl_Ref_253 hw) (by decide) (by decide) rfl d_Ref_goAw_24 g23 ?_
        refine J_bipush (v := 16) d_Ref_goAw_27 (by decide) ?_
        refine J_iload_n d_Ref_goAw_29 rfl ?_
        refine J_imul d_Ref_goAw_30 ?_
        refine J_iload d_Ref_goAw_31 rfl ?_
        refine J_iadd d_Ref_goAw_33 ?_
        obtain ⟨a27, ha27, H⟩ := Option.bind_eq_some_iff.mp H
        rw [j_rf ha27]
        obtain ⟨N28, hN28, H⟩ := Option.bind_eq_some_iff.mp H
        obtain ⟨k29, hk29, H⟩ := Option.bind_eq_some_iff.mp H
        refine F_zald k29 hw hG d_Ref_goAw_34 (gA_some hN28) (ix_some hk29) ?_
        refine J_if_eq (tgt := 42) d_Ref_goAw_35 (by decide) ?_ ?_
        · intro c30
          rw [if_pos c30] at H
          refine J_bipush (v := 16) d_Ref_goAw_42 (by decide) ?_
          refine J_iload_n d_Ref_goAw_44 rfl ?_
          refine J_imul d_Ref_goAw_45 ?_
          refine J_iload d_Ref_goAw_46 rfl ?_
          refine J_iadd d_Ref_goAw_48 ?_
          refine J.drop [true, true, true, false, false, true] rfl ?_
          exact p_Ref_goAw_L49 hw hG ih H
        · intro c30
          rw [if_neg c30] at H
          refine J_iconst (v := -1) d_Ref_goAw_38 (by decide) ?_
          refine J_goto (tgt := 49) d_Ref_goAw_39 (by decide) ?_
          refine J.drop [true, true, true, false, false, true] rfl ?_
          exact p_Ref_goAw_L49 hw hG ih H
def f_Ref_goAw (Γ : gm_T) (φ : ph_T) (this : Nat) (p0 : Int32) (p1 : Int64) : Option (Unit × ph_T) :=
  f_Ref_goAw_L6 Γ  jF φ this p0 p1 (-1 : Int32) (0 : Int32)
set_option maxRecDepth 100000 in
set_option maxHeartbeats 4000000 in
theorem p_Ref_goAw {w : jw_T} (hw : jok w) {Γ : gm_T} {n : Nat} (hG : gd w Γ n) {x : Bool} {φ : ph_T} {this : Nat} {p0 : Int32} {p1 : Int64} {q : Unit × ph_T} (H : f_Ref_goAw Γ φ this p0 p1 = some q) : jc w M_Ref_goAw [.ref this, .int p0, .long p1] (pic Γ φ) n x 0 0 (fq Γ n (.inl none) q.2) := by
  refine jc.of (by simp only [jent_r, jent_i, jent_l, jent_a, jent_0]; exact Nat.le_of_ble_eq_true rfl) ?_
  have hls : jents [.ref this, .int p0, .long p1] (jm_nL M_Ref_goAw) = [some (.ref this), some (.int p0), some (.long p1), none, none, none] := by simp only [jents, jent_r, jent_i, jent_l, jent_a, jent_0]; rfl
  rw [hls]
  clear hls
  unfold f_Ref_goAw at H
  refine J_iconst (v := -1) d_Ref_goAw_0 (by decide) ?_
  refine J_istore d_Ref_goAw_1 (Nat.le_of_ble_eq_true rfl) ?_
  refine J.ls (ls' := [some (.ref this), some (.int p0), some (.long p1), none, some (.int (-1 : Int32)), none]) rfl ?_
  refine J_iconst (v := 0) d_Ref_goAw_3 (by decide) ?_
  refine J_istore d_Ref_goAw_4 (Nat.le_of_ble_eq_true rfl) ?_
  refine J.ls (ls' := [some (.ref this), some (.int p0), some (.long p1), none, some (.int (-1 : Int32)), some (.int (0 : Int32))]) rfl ?_
  refine J.drop [true, true, true, false, true, true] rfl ?_
  exact p_Ref_goAw_L6 hw hG  _ H
theorem ln_Ref_goW : (parseMethodDescriptor y_Ref_goW.desc).map (fun q => q.parameters.length) = some 2 := by decide +kernel
def f_Ref_goW_L166 (Γ : gm_T)  (φ : ph_T) : Option (Unit × ph_T) :=
  some ((), φ)
set_option maxRecDepth 100000 in
set_option maxHeartbeats 4000000 in
theorem p_Ref_goW_L166 {w : jw_T} (hw : jok w) {Γ : gm_T} {n : Nat} (hG : gd w Γ n)  {x : Bool} {φ : ph_T} {q : Unit × ph_T} (H : f_Ref_goW_L166 Γ  φ  = some q) : J w M_Ref_goW 166 [none, none, none, none, none] [] (pic Γ φ) n x 0 0 (fq Γ n (.inl none) q.2) := by
  unfold f_Ref_goW_L166 at H
  have H := Option.some.inj H
  subst H
  exact J_vret (st := []) d_Ref_goW_166 rfl ⟨rfl, rfl, rfl⟩
def f_Ref_goW_L141 (Γ : gm_T)  (φ : ph_T) (x0 : Nat) (x1 : Int32) (x3 : Int32) (y0 : Int32) (y1 : Int32) (y2 : Option Nat) : Option (Unit × ph_T) :=
  Option.bind y2 fun a1 =>
  Option.bind (gA Γ a1 2) fun N2 =>
  Option.bind (ix y1 N2) fun k3 =>
  @ite _ (y0 = 0 ∨ y0 = 1) _ (
  @ite _ (Γ x0 = .inr 12) _ (
  Option.bind (φ.2.2 x0 91) fun a6 =>
  Option.bind (gA Γ a6 2) fun N7 =>
  Option.bind (ix x3 N7) fun k8 =>
  if ((uI φ a1 k3 y0).1 a6 k8) = 0 then
    f_Ref_goW_L166 Γ  (uI φ a1 k3 y0) 
  else
    Option.bind (φ.2.2 x0 93) fun a9 =>
    Option.bind (gA Γ a9 0) fun N10 =>
    Option.bind (ix x3 N10) fun k11 =>
    Option.bind (f_Ref_checkBeat Γ (uI φ a1 k3 y0) x0 x1 x3 (((uI φ a1 k3 y0).1 a9 k11) - (1 : Int32)) (1 : Int32)) fun q12 =>
    f_Ref_goW_L166 Γ  q12.2 
  ) none
  ) none
set_option maxRecDepth 100000 in
set_option maxHeartbeats 4000000 in
theorem p_Ref_goW_L141 {w : jw_T} (hw : jok w) {Γ : gm_T} {n : Nat} (hG : gd w Γ n)  {x : Bool} {φ : ph_T} {x0 : Nat} {x1 : Int32} {x3 : Int32} {y0 : Int32} {y1 : Int32} {y2 : Option Nat} {q : Unit × ph_T} (H : f_Ref_goW_L141 Γ  φ x0 x1 x3 y0 y1 y2 = some q) : J w M_Ref_goW 141 [some (.ref x0), some (.int x1), none, some (.int x3), none] [.int y0, .int y1, va_rf y2] (pic Γ φ) n x 0 0 (fq Γ n (.inl none) q.2) := by
  unfold f_Ref_goW_L141 at H
  obtain ⟨a1, ha1, H⟩ := Option.bind_eq_some_iff.mp H
  rw [j_rf ha1]
  obtain ⟨N2, hN2, H⟩ := Option.bind_eq_some_iff.mp H
  obtain ⟨k3, hk3, H⟩ := Option.bind_eq_some_iff.mp H
  have z4 : y0 = 0 ∨ y0 = 1 := by
    apply Classical.byContradiction
    intro q9
    rw [if_neg q9] at H
    cases H
  rw [if_pos z4] at H
  refine F_zast k3 hw hG d_Ref_goW_141 (gA_some hN2) (ix_some hk3) z4 ?_
  refine J_aload_n d_Ref_goW_142 rfl ?_
  have g5 : Γ x0 = .inr 12 := by
    apply Classical.byContradiction
    intro q9
    rw [if_neg q9] at H
    cases H
  rw [if_pos g5] at H
  refine F_getR (ci := 12) (k := 91) hG (cf_Ref hw) (fl_Ref_253 hw) (by decide) (by decide) rfl d_Ref_goW_143 g5 ?_
  show J _ _ _ _ (va_rf (φ.2.2 x0 91) :: _) _ _ _ _ _ _
  refine J_iload_n d_Ref_goW_146 rfl ?_
  obtain ⟨a6, ha6, H⟩ := Option.bind_eq_some_iff.mp H
  rw [j_rf ha6]
  obtain ⟨N7, hN7, H⟩ := Option.bind_eq_some_iff.mp H
  obtain ⟨k8, hk8, H⟩ := Option.bind_eq_some_iff.mp H
  refine F_zald k8 hw hG d_Ref_goW_147 (gA_some hN7) (ix_some hk8) ?_
  refine J_if_eq (tgt := 166) d_Ref_goW_148 (by decide) ?_ ?_
  · intro c13
    rw [if_pos c13] at H
    refine J.drop [false, false, false, false, false] rfl ?_
    exact p_Ref_goW_L166 hw hG  H
  · intro c13
    rw [if_neg c13] at H
    refine J_aload_n d_Ref_goW_151 rfl ?_
    refine J_iload_n d_Ref_goW_152 rfl ?_
    refine J_iload_n d_Ref_goW_153 rfl ?_
    refine J_aload_n d_Ref_goW_154 rfl ?_
    refine F_getR (ci := 12) (k := 93) hG (cf_Ref hw) (fl_Ref_259 hw) (by decide) (by decide) rfl d_Ref_goW_155 g5 ?_
    show J _ _ _ _ (va_rf (φ.2.2 x0 93) :: _) _ _ _ _ _ _
    refine J_iload_n d_Ref_goW_158 rfl ?_
    obtain ⟨a9, ha9, H⟩ := Option.bind_eq_some_iff.mp H
    rw [j_rf ha9]
    obtain ⟨N10, hN10, H⟩ := Option.bind_eq_some_iff.mp H
    obtain ⟨k11, hk11, H⟩ := Option.bind_eq_some_iff.mp H
    refine F_iald k11 hw hG d_Ref_goW_159 (gA_some hN10) (ix_some hk11) ?_
    refine J_iconst (v := 1) d_Ref_goW_160 (by decide) ?_
    refine J_isub d_Ref_goW_161 ?_
    refine J_iconst (v := 1) d_Ref_goW_162 (by decide) ?_
    obtain ⟨q12, hq12, H⟩ := Option.bind_eq_some_iff.mp H
    refine J_callV (kc := 0) (ks := 0) (kc' := 0) (ks' := 0) (a := x0) (ci := 12) (as := [.int x1, .int x3, .int (((uI φ a1 k3 y0).1 a9 k11) - (1 : Int32)), .int (1 : Int32)]) (st := []) (mf_Ref_checkBeat hw) (mv_Ref_437 hw) d_Ref_goW_163 ln_Ref_checkBeat (by decide) (by first | exact Nat.le_of_ble_eq_true rfl | (simp only [List.map_cons, List.map_nil, List.sum_cons, List.sum_nil, va_rf_cat]; exact Nat.le_of_ble_eq_true rfl)) rfl ((hG _).1 _ g5 (by decide)).1 ((hG _).1 _ g5 (by decide)).2 (by unfold pic; rw [g5]; rfl) (jcl_at hw rfl) rfl (p_Ref_checkBeat hw hG hq12) ?_ (fun E h' n' x' e1 => by cases e1.1)
    intro v9 h9 n9 x9 e9
    obtain ⟨e91, e92, e93⟩ := e9
    cases e91
    subst e92
    subst e93
    clear x
    rename Bool => x
    show J _ _ _ _ [] _ _ _ _ _ _
    refine J.drop [false, false, false, false, false] rfl ?_
    exact p_Ref_goW_L166 hw hG  H
def f_Ref_goW_L69 (Γ : gm_T)  (φ : ph_T) (x0 : Nat) (x1 : Int32) (x2 : Int32) (y0 : Int32) : Option (Unit × ph_T) :=
  if y0 = (-1 : Int32) then
    some ((), φ)
  else
    @ite _ (Γ x0 = .inr 12) _ (
    Option.bind (φ.2.2 x0 93) fun a15 =>
    Option.bind (gA Γ a15 0) fun N16 =>
    Option.bind (ix y0 N16) fun k17 =>
    if (φ.1 a15 k17) = (16 : Int32) then
      Option.bind (f_Ref_breakAt Γ φ x0 x1 (7 : Int32) (1 : Int32)) fun q28 =>
      some ((), q28.2)
    else
      Option.bind (gA Γ a15 0) fun N18 =>
      Option.bind (ix y0 N18) fun k19 =>
      Option.bind (φ.2.2 x0 95) fun a20 =>
      Option.bind (gA Γ a20 0) fun N21 =>
      Option.bind (ix (((16 : Int32) * y0) + (φ.1 a15 k19)) N21) fun k22 =>
      Option.bind (gA Γ a15 0) fun N23 =>
      Option.bind (ix y0 N23) fun k24 =>
      Option.bind (gA Γ a15 0) fun N25 =>
      Option.bind (ix y0 N25) fun k26 =>
      if (x2 &&& (256 : Int32)) = 0 then
        f_Ref_goW_L141 Γ  (uI (uI φ a20 k22 x2) a15 k26 (((uI φ a20 k22 x2).1 a15 k24) + (1 : Int32))) x0 x1 y0 (0 : Int32) y0 (φ.2.2 x0 94)
      else
        f_Ref_goW_L141 Γ  (uI (uI φ a20 k22 x2) a15 k26 (((uI φ a20 k22 x2).1 a15 k24) + (1 : Int32))) x0 x1 y0 (1 : Int32) y0 (φ.2.2 x0 94)
    ) none
set_option maxRecDepth 100000 in
set_option maxHeartbeats 4000000 in
theorem p_Ref_goW_L69 {w : jw_T} (hw : jok w) {Γ : gm_T} {n : Nat} (hG : gd w Γ n)  {x : Bool} {φ : ph_T} {x0 : Nat} {x1 : Int32} {x2 : Int32} {y0 : Int32} {q : Unit × ph_T} (H : f_Ref_goW_L69 Γ  φ x0 x1 x2 y0 = some q) : J w M_Ref_goW 69 [some (.ref x0), some (.int x1), some (.int x2), none, none] [.int y0] (pic Γ φ) n x 0 0 (fq Γ n (.inl none) q.2) := by
  unfold f_Ref_goW_L69 at H
  refine J_istore_n d_Ref_goW_69 (Nat.le_of_ble_eq_true rfl) ?_
  refine J.ls (ls' := [some (.ref x0), some (.int x1), some (.int x2), some (.int y0), none]) rfl ?_
  refine J_iload_n d_Ref_goW_70 rfl ?_
  refine J_iconst (v := -1) d_Ref_goW_71 (by decide) ?_
  refine J_icmp_ne (tgt := 76) d_Ref_goW_72 (by decide) ?_ ?_
  · intro c30
    rw [if_neg c30] at H
    refine J_aload_n d_Ref_goW_76 rfl ?_
    have g14 : Γ x0 = .inr 12 := by
      apply Classical.byContradiction
      intro q9
      rw [if_neg q9] at H
      cases H
    rw [if_pos g14] at H
    refine F_getR (ci := 12) (k := 93) hG (cf_Ref hw) (fl_Ref_259 hw) (by decide) (by decide) rfl d_Ref_goW_77 g14 ?_
    refine J_iload_n d_Ref_goW_80 rfl ?_
    obtain ⟨a15, ha15, H⟩ := Option.bind_eq_some_iff.mp H
    rw [j_rf ha15]
    obtain ⟨N16, hN16, H⟩ := Option.bind_eq_some_iff.mp H
    obtain ⟨k17, hk17, H⟩ := Option.bind_eq_some_iff.mp H
    refine F_iald k17 hw hG d_Ref_goW_81 (gA_some hN16) (ix_some hk17) ?_
    refine J_bipush (v := 16) d_Ref_goW_82 (by decide) ?_
    refine J_icmp_ne (tgt := 96) d_Ref_goW_84 (by decide) ?_ ?_
    · intro c29
      rw [if_neg c29] at H
      refine J_aload_n d_Ref_goW_96 rfl ?_
      refine F_getR (ci := 12) (k := 95) hG (cf_Ref hw) (fl_Ref_265 hw) (by decide) (by decide) rfl d_Ref_goW_97 g14 ?_
      refine J_bipush (v := 16) d_Ref_goW_100 (by decide) ?_
      refine J_iload_n d_Ref_goW_102 rfl ?_
      refine J_imul d_Ref_goW_103 ?_
      refine J_aload_n d_Ref_goW_104 rfl ?_
      refine F_getR (ci := 12) (k := 93) hG (cf_Ref hw) (fl_Ref_259 hw) (by decide) (by decide) rfl d_Ref_goW_105 g14 ?_
      refine J_iload_n d_Ref_goW_108 rfl ?_
      try rw [j_rf ha15]
      obtain ⟨N18, hN18, H⟩ := Option.bind_eq_some_iff.mp H
      obtain ⟨k19, hk19, H⟩ := Option.bind_eq_some_iff.mp H
      refine F_iald k19 hw hG d_Ref_goW_109 (gA_some hN18) (ix_some hk19) ?_
      refine J_iadd d_Ref_goW_110 ?_
      refine J_iload_n d_Ref_goW_111 rfl ?_
      obtain ⟨a20, ha20, H⟩ := Option.bind_eq_some_iff.mp H
      rw [j_rf ha20]
      obtain ⟨N21, hN21, H⟩ := Option.bind_eq_some_iff.mp H
      obtain ⟨k22, hk22, H⟩ := Option.bind_eq_some_iff.mp H
      refine F_iast k22 hw hG d_Ref_goW_112 (gA_some hN21) (ix_some hk22) ?_
      refine J_aload_n d_Ref_goW_113 rfl ?_
      refine F_getR (ci := 12) (k := 93) hG (cf_Ref hw) (fl_Ref_259 hw) (by decide) (by decide) rfl d_Ref_goW_114 g14 ?_
      show J _ _ _ _ (va_rf (φ.2.2 x0 93) :: _) _ _ _ _ _ _
      refine J_iload_n d_Ref_goW_117 rfl ?_
      refine J_dup2 d_Ref_goW_118 rfl (va_rf_cat _) ?_
      try rw [j_rf ha15]
      obtain ⟨N23, hN23, H⟩ := Option.bind_eq_some_iff.mp H
      obtain ⟨k24, hk24, H⟩ := Option.bind_eq_some_iff.mp H
      refine F_iald k24 hw hG d_Ref_goW_119 (gA_some hN23) (ix_some hk24) ?_
      refine J_iconst (v := 1) d_Ref_goW_120 (by decide) ?_
      refine J_iadd d_Ref_goW_121 ?_
      obtain ⟨N25, hN25, H⟩ := Option.bind_eq_some_iff.mp H
      obtain ⟨k26, hk26, H⟩ := Option.bind_eq_some_iff.mp H
      refine F_iast k26 hw hG d_Ref_goW_122 (gA_some hN25) (ix_some hk26) ?_
      refine J_aload_n d_Ref_goW_123 rfl ?_
      refine F_getR (ci := 12) (k := 94) hG (cf_Ref hw) (fl_Ref_262 hw) (by decide) (by decide) rfl d_Ref_goW_124 g14 ?_
      show J _ _ _ _ (va_rf (φ.2.2 x0 94) :: _) _ _ _ _ _ _
      refine J_iload_n d_Ref_goW_127 rfl ?_
      refine J_iload_n d_Ref_goW_128 rfl ?_
      refine J_sipush (v := 256) d_Ref_goW_129 (by decide) ?_
      refine J_iand d_Ref_goW_132 ?_
      refine J_if_eq (tgt := 140) d_Ref_goW_133 (by decide) ?_ ?_
      · intro c27
        rw [if_pos c27] at H
        refine J_iconst (v := 0) d_Ref_goW_140 (by decide) ?_
        refine J.drop [true, true, false, true, false] rfl ?_
        exact p_Ref_goW_L141 hw hG  H
      · intro c27
        rw [if_neg c27] at H
        refine J_iconst (v := 1) d_Ref_goW_136 (by decide) ?_
        refine J_goto (tgt := 141) d_Ref_goW_137 (by decide) ?_
        refine J.drop [true, true, false, true, false] rfl ?_
        exact p_Ref_goW_L141 hw hG  H
    · intro c29
      rw [if_pos c29] at H
      refine J_aload_n d_Ref_goW_87 rfl ?_
      refine J_iload_n d_Ref_goW_88 rfl ?_
      refine J_bipush (v := 7) d_Ref_goW_89 (by decide) ?_
      refine J_iconst (v := 1) d_Ref_goW_91 (by decide) ?_
      obtain ⟨q28, hq28, H⟩ := Option.bind_eq_some_iff.mp H
      refine J_callV (kc := 0) (ks := 0) (kc' := 0) (ks' := 0) (a := x0) (ci := 12) (as := [.int x1, .int (7 : Int32), .int (1 : Int32)]) (st := []) (mf_Ref_breakAt hw) (mv_Ref_415 hw) d_Ref_goW_92 ln_Ref_breakAt (by decide) (by first | exact Nat.le_of_ble_eq_true rfl | (simp only [List.map_cons, List.map_nil, List.sum_cons, List.sum_nil, va_rf_cat]; exact Nat.le_of_ble_eq_true rfl)) rfl ((hG _).1 _ g14 (by decide)).1 ((hG _).1 _ g14 (by decide)).2 (by unfold pic; rw [g14]; rfl) (jcl_at hw rfl) rfl (p_Ref_breakAt hw hG hq28) ?_ (fun E h' n' x' e1 => by cases e1.1)
      intro v9 h9 n9 x9 e9
      obtain ⟨e91, e92, e93⟩ := e9
      cases e91
      subst e92
      subst e93
      clear x
      rename Bool => x
      show J _ _ _ _ [] _ _ _ _ _ _
      have H := Option.some.inj H
      subst H
      exact J_vret (st := []) d_Ref_goW_95 rfl ⟨rfl, rfl, rfl⟩
  · intro c30
    rw [if_pos c30] at H
    have H := Option.some.inj H
    subst H
    exact J_vret (st := []) d_Ref_goW_75 rfl ⟨rfl, rfl, rfl⟩
def f_Ref_goW_L54 (Γ : gm_T)  (φ : ph_T) (x0 : Nat) (x1 : Int32) (x2 : Int32) (x3 : Int32) : Option (Unit × ph_T) :=
  if x3 = (-1 : Int32) then
    @ite _ (Γ x0 = .inr 12) _ (
    Option.bind (f_Ref_newWrite Γ φ x0 x1 (1 : Int32)) fun q32 =>
    f_Ref_goW_L69 Γ  q32.2 x0 x1 x2 q32.1
    ) none
  else
    f_Ref_goW_L69 Γ  φ x0 x1 x2 x3
set_option maxRecDepth 100000 in
set_option maxHeartbeats 4000000 in
theorem p_Ref_goW_L54 {w : jw_T} (hw : jok w) {Γ : gm_T} {n : Nat} (hG : gd w Γ n)  {x : Bool} {φ : ph_T} {x0 : Nat} {x1 : Int32} {x2 : Int32} {x3 : Int32} {q : Unit × ph_T} (H : f_Ref_goW_L54 Γ  φ x0 x1 x2 x3 = some q) : J w M_Ref_goW 54 [some (.ref x0), some (.int x1), some (.int x2), some (.int x3), none] [] (pic Γ φ) n x 0 0 (fq Γ n (.inl none) q.2) := by
  unfold f_Ref_goW_L54 at H
  refine J_iload_n d_Ref_goW_54 rfl ?_
  refine J_iconst (v := -1) d_Ref_goW_55 (by decide) ?_
  refine J_icmp_ne (tgt := 68) d_Ref_goW_56 (by decide) ?_ ?_
  · intro c33
    rw [if_neg c33] at H
    refine J_iload_n d_Ref_goW_68 rfl ?_
    refine J.drop [true, true, true, false, false] rfl ?_
    exact p_Ref_goW_L69 hw hG  H
  · intro c33
    rw [if_pos c33] at H
    refine J_aload_n d_Ref_goW_59 rfl ?_
    refine J_iload_n d_Ref_goW_60 rfl ?_
    refine J_iconst (v := 1) d_Ref_goW_61 (by decide) ?_
    have g31 : Γ x0 = .inr 12 := by
      apply Classical.byContradiction
      intro q9
      rw [if_neg q9] at H
      cases H
    rw [if_pos g31] at H
    obtain ⟨q32, hq32, H⟩ := Option.bind_eq_some_iff.mp H
    refine J_callV (kc := 0) (ks := 0) (kc' := 0) (ks' := 0) (a := x0) (ci := 12) (as := [.int x1, .int (1 : Int32)]) (st := []) (mf_Ref_newWrite hw) (mv_Ref_434 hw) d_Ref_goW_62 ln_Ref_newWrite (by decide) (by first | exact Nat.le_of_ble_eq_true rfl | (simp only [List.map_cons, List.map_nil, List.sum_cons, List.sum_nil, va_rf_cat]; exact Nat.le_of_ble_eq_true rfl)) rfl ((hG _).1 _ g31 (by decide)).1 ((hG _).1 _ g31 (by decide)).2 (by unfold pic; rw [g31]; rfl) (jcl_at hw rfl) rfl (p_Ref_newWrite hw hG hq32) ?_ (fun E h' n' x' e1 => by cases e1.1)
    intro v9 h9 n9 x9 e9
    obtain ⟨e91, e92, e93⟩ := e9
    cases e91
    subst e92
    subst e93
    clear x
    rename Bool => x
    show J _ _ _ _ (_ :: _) _ _ _ _ _ _
    refine J_goto (tgt := 69) d_Ref_goW_65 (by decide) ?_
    refine J.drop [true, true, true, false, false] rfl ?_
    exact p_Ref_goW_L69 hw hG  H
def f_Ref_goW_L47 (Γ : gm_T) (Kc5 : ph_T → Nat → Int32 → Int32 → Int32 → Int32 → Option (Unit × ph_T)) (φ : ph_T) (x0 : Nat) (x1 : Int32) (x2 : Int32) (x4 : Int32) (y0 : Int32) : Option (Unit × ph_T) :=
  Kc5 φ x0 x1 x2 y0 (x4 + (1 : Int32))
set_option maxRecDepth 100000 in
set_option maxHeartbeats 4000000 in
theorem p_Ref_goW_L47 {w : jw_T} (hw : jok w) {Γ : gm_T} {n : Nat} (hG : gd w Γ n) {Kc5 : ph_T → Nat → Int32 → Int32 → Int32 → Int32 → Option (Unit × ph_T)} (hKc5 : ∀ {x : Bool} {φ : ph_T} {x0 : Nat} {x1 : Int32} {x2 : Int32} {x3 : Int32} {x4 : Int32} {q : Unit × ph_T}, Kc5 φ x0 x1 x2 x3 x4 = some q → J w M_Ref_goW 5 [some (.ref x0), some (.int x1), some (.int x2), some (.int x3), some (.int x4)] [] (pic Γ φ) n x 0 0 (fq Γ n (.inl none) q.2)) {x : Bool} {φ : ph_T} {x0 : Nat} {x1 : Int32} {x2 : Int32} {x4 : Int32} {y0 : Int32} {q : Unit × ph_T} (H : f_Ref_goW_L47 Γ Kc5 φ x0 x1 x2 x4 y0 = some q) : J w M_Ref_goW 47 [some (.ref x0), some (.int x1), some (.int x2), none, some (.int x4)] [.int y0] (pic Γ φ) n x 0 0 (fq Γ n (.inl none) q.2) := by
  unfold f_Ref_goW_L47 at H
  refine J_istore_n d_Ref_goW_47 (Nat.le_of_ble_eq_true rfl) ?_
  refine J.ls (ls' := [some (.ref x0), some (.int x1), some (.int x2), some (.int y0), some (.int x4)]) rfl ?_
  refine J_iinc (v := x4 + 1) d_Ref_goW_48 rfl (by rw [show Int32.ofInt 1 = (1 : Int32) from by decide]) ?_
  refine J.ls (ls' := [some (.ref x0), some (.int x1), some (.int x2), some (.int y0), some (.int (x4 + (1 : Int32)))]) rfl ?_
  refine J_goto (tgt := 5) d_Ref_goW_51 (by decide) ?_
  refine J.drop [true, true, true, true, true] rfl ?_
  exact hKc5 H
def f_Ref_goW_L5 (Γ : gm_T)  : Nat → ph_T → Nat → Int32 → Int32 → Int32 → Int32 → Option (Unit × ph_T)
  | 0, _, _, _, _, _, _ => none
  | fu + 1, φ, x0, x1, x2, x3, x4 =>
    @ite _ (Γ x0 = .inr 12) _ (
    Option.bind (φ.2.2 x0 89) fun a35 =>
    Option.bind (gA Γ a35 0) fun N36 =>
    Option.bind (ix x1 N36) fun k37 =>
    if (φ.1 a35 k37) ≤ x4 then
      f_Ref_goW_L54 Γ  φ x0 x1 x2 x3
    else
      if x3 = (-1 : Int32) then
        Option.bind (φ.2.2 x0 94) fun a38 =>
        Option.bind (gA Γ a38 2) fun N39 =>
        Option.bind (ix (((16 : Int32) * x1) + x4) N39) fun k40 =>
        if (φ.1 a38 k40) = 0 then
          f_Ref_goW_L47 Γ (f_Ref_goW_L5 Γ  fu) φ x0 x1 x2 x4 (((16 : Int32) * x1) + x4)
        else
          f_Ref_goW_L47 Γ (f_Ref_goW_L5 Γ  fu) φ x0 x1 x2 x4 (-1 : Int32)
      else
        f_Ref_goW_L54 Γ  φ x0 x1 x2 x3
    ) none
set_option maxRecDepth 100000 in
set_option maxHeartbeats 4000000 in
theorem p_Ref_goW_L5 {w : jw_T} (hw : jok w) {Γ : gm_T} {n : Nat} (hG : gd w Γ n)  : ∀ (fu : Nat) {x : Bool} {φ : ph_T} {x0 : Nat} {x1 : Int32} {x2 : Int32} {x3 : Int32} {x4 : Int32} {q : Unit × ph_T}, f_Ref_goW_L5 Γ  fu φ x0 x1 x2 x3 x4 = some q → J w M_Ref_goW 5 [some (.ref x0), some (.int x1), some (.int x2), some (.int x3), some (.int x4)] [] (pic Γ φ) n x 0 0 (fq Γ n (.inl none) q.2) := by
  intro fu
  induction fu with
  | zero =>
    intro x φ x0 x1 x2 x3 x4 q H
    cases H
  | succ fu ih =>
    intro x φ x0 x1 x2 x3 x4 q H
    unfold f_Ref_goW_L5 at H
    refine J_iload d_Ref_goW_5 rfl ?_
    refine J_aload_n d_Ref_goW_7 rfl ?_
    have g34 : Γ x0 = .inr 12 := by
      apply Classical.byContradiction
      intro q9
      rw [if_neg q9] at H
      cases H
    rw [if_pos g34] at H
    refine F_getR (ci := 12) (k := 89) hG (cf_Ref hw) (fl_Ref_247 hw) (by decide) (by decide) rfl d_Ref_goW_8 g34 ?_
    refine J_iload_n d_Ref_goW_11 rfl ?_
    obtain ⟨a35, ha35, H⟩ := Option.bind_eq_some_iff.mp H
    rw [j_rf ha35]
    obtain ⟨N36, hN36, H⟩ := Option.bind_eq_some_iff.mp H
    obtain ⟨k37, hk37, H⟩ := Option.bind_eq_some_iff.mp H
    refine F_iald k37 hw hG d_Ref_goW_12 (gA_some hN36) (ix_some hk37) ?_
    refine J_icmp_ge (tgt := 54) d_Ref_goW_13 (by decide) ?_ ?_
    · intro c43
      rw [if_pos c43] at H
      refine J.drop [true, true, true, true, false] rfl ?_
      exact p_Ref_goW_L54 hw hG  H
    · intro c43
      rw [if_neg c43] at H
      refine J_iload_n d_Ref_goW_16 rfl ?_
      refine J_iconst (v := -1) d_Ref_goW_17 (by decide) ?_
      refine J_icmp_ne (tgt := 54) d_Ref_goW_18 (by decide) ?_ ?_
      · intro c42
        rw [if_neg c42] at H
        refine J.drop [true, true, true, true, false] rfl ?_
        exact p_Ref_goW_L54 hw hG  H
      · intro c42
        rw [if_pos c42] at H
        refine J_aload_n d_Ref_goW_21 rfl ?_
        refine F_getR (ci := 12) (k := 94) hG (cf_Ref hw) (fl_Ref_262 hw) (by decide) (by decide) rfl d_Ref_goW_22 g34 ?_
        refine J_bipush (v := 16) d_Ref_goW_25 (by decide) ?_
        refine J_iload_n d_Ref_goW_27 rfl ?_
        refine J_imul d_Ref_goW_28 ?_
        refine J_iload d_Ref_goW_29 rfl ?_
        refine J_iadd d_Ref_goW_31 ?_
        obtain ⟨a38, ha38, H⟩ := Option.bind_eq_some_iff.mp H
        rw [j_rf ha38]
        obtain ⟨N39, hN39, H⟩ := Option.bind_eq_some_iff.mp H
        obtain ⟨k40, hk40, H⟩ := Option.bind_eq_some_iff.mp H
        refine F_zald k40 hw hG d_Ref_goW_32 (gA_some hN39) (ix_some hk40) ?_
        refine J_if_eq (tgt := 40) d_Ref_goW_33 (by decide) ?_ ?_
        · intro c41
          rw [if_pos c41] at H
          refine J_bipush (v := 16) d_Ref_goW_40 (by decide) ?_
          refine J_iload_n d_Ref_goW_42 rfl ?_
          refine J_imul d_Ref_goW_43 ?_
          refine J_iload d_Ref_goW_44 rfl ?_
          refine J_iadd d_Ref_goW_46 ?_
          refine J.drop [true, true, true, false, true] rfl ?_
          exact p_Ref_goW_L47 hw hG ih H
        · intro c41
          rw [if_neg c41] at H
          refine J_iconst (v := -1) d_Ref_goW_36 (by decide) ?_
          refine J_goto (tgt := 47) d_Ref_goW_37 (by decide) ?_
          refine J.drop [true, true, true, false, true] rfl ?_
          exact p_Ref_goW_L47 hw hG ih H
def f_Ref_goW (Γ : gm_T) (φ : ph_T) (this : Nat) (p0 : Int32) (p1 : Int32) : Option (Unit × ph_T) :=
  f_Ref_goW_L5 Γ  jF φ this p0 p1 (-1 : Int32) (0 : Int32)
set_option maxRecDepth 100000 in
set_option maxHeartbeats 4000000 in
theorem p_Ref_goW {w : jw_T} (hw : jok w) {Γ : gm_T} {n : Nat} (hG : gd w Γ n) {x : Bool} {φ : ph_T} {this : Nat} {p0 : Int32} {p1 : Int32} {q : Unit × ph_T} (H : f_Ref_goW Γ φ this p0 p1 = some q) : jc w M_Ref_goW [.ref this, .int p0, .int p1] (pic Γ φ) n x 0 0 (fq Γ n (.inl none) q.2) := by
  refine jc.of (by simp only [jent_r, jent_i, jent_l, jent_a, jent_0]; exact Nat.le_of_ble_eq_true rfl) ?_
  have hls : jents [.ref this, .int p0, .int p1] (jm_nL M_Ref_goW) = [some (.ref this), some (.int p0), some (.int p1), none, none] := by simp only [jents, jent_r, jent_i, jent_l, jent_a, jent_0]; rfl
  rw [hls]
  clear hls
  unfold f_Ref_goW at H
  refine J_iconst (v := -1) d_Ref_goW_0 (by decide) ?_
  refine J_istore_n d_Ref_goW_1 (Nat.le_of_ble_eq_true rfl) ?_
  refine J.ls (ls' := [some (.ref this), some (.int p0), some (.int p1), some (.int (-1 : Int32)), none]) rfl ?_
  refine J_iconst (v := 0) d_Ref_goW_2 (by decide) ?_
  refine J_istore d_Ref_goW_3 (Nat.le_of_ble_eq_true rfl) ?_
  refine J.ls (ls' := [some (.ref this), some (.int p0), some (.int p1), some (.int (-1 : Int32)), some (.int (0 : Int32))]) rfl ?_
  refine J.drop [true, true, true, true, true] rfl ?_
  exact p_Ref_goW_L5 hw hG  _ H
