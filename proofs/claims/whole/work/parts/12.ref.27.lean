theorem ln_Ref_isFor : (parseMethodDescriptor y_Ref_isFor.desc).map (fun q => q.parameters.length) = some 3 := by decide +kernel
def f_Ref_isFor_L43 (Γ : gm_T)  (φ : ph_T) (y0 : Int32) : Option (Int32 × ph_T) :=
  @ite _ (y0 = 0 ∨ y0 = 1) _ (
  some (y0, φ)
  ) none
set_option maxRecDepth 100000 in
set_option maxHeartbeats 4000000 in
theorem p_Ref_isFor_L43 {w : jw_T} (hw : jok w) {Γ : gm_T} {n : Nat} (hG : gd w Γ n)  {x : Bool} {φ : ph_T} {y0 : Int32} {q : Int32 × ph_T} (H : f_Ref_isFor_L43 Γ  φ y0 = some q) : J w M_Ref_isFor 43 [none, none, none, none, none] [.int y0] (pic Γ φ) n x 0 0 (fq Γ n (.inl (some (.int q.1))) q.2) := by
  unfold f_Ref_isFor_L43 at H
  have z2 : y0 = 0 ∨ y0 = 1 := by
    apply Classical.byContradiction
    intro q9
    rw [if_neg q9] at H
    cases H
  rw [if_pos z2] at H
  have H := Option.some.inj H
  subst H
  exact J_iret (st := []) d_Ref_isFor_43 rfl (narrow_z z2).1 ⟨rfl, rfl, rfl⟩
def f_Ref_isFor_L42 (Γ : gm_T)  (φ : ph_T) : Option (Int32 × ph_T) :=
  f_Ref_isFor_L43 Γ  φ (0 : Int32)
set_option maxRecDepth 100000 in
set_option maxHeartbeats 4000000 in
theorem p_Ref_isFor_L42 {w : jw_T} (hw : jok w) {Γ : gm_T} {n : Nat} (hG : gd w Γ n)  {x : Bool} {φ : ph_T} {q : Int32 × ph_T} (H : f_Ref_isFor_L42 Γ  φ  = some q) : J w M_Ref_isFor 42 [none, none, none, none, none] [] (pic Γ φ) n x 0 0 (fq Γ n (.inl (some (.int q.1))) q.2) := by
  unfold f_Ref_isFor_L42 at H
  refine J_iconst (v := 0) d_Ref_isFor_42 (by decide) ?_
  refine J.drop [false, false, false, false, false] rfl ?_
  exact p_Ref_isFor_L43 hw hG  H
def f_Ref_isFor (Γ : gm_T) (φ : ph_T) (this : Nat) (p0 : Int32) (p1 : Int32) (p2 : Int32) : Option (Int32 × ph_T) :=
  @ite _ (Γ this = .inr 12) _ (
  Option.bind (f_Ref_rowOf Γ φ this (1 : Int32) p0 p1) fun q4 =>
  Option.bind (q4.2.2.2 this 42) fun a5 =>
  Option.bind (gA Γ a5 0) fun N6 =>
  Option.bind (ix q4.1 N6) fun k7 =>
  if (q4.2.1 a5 k7) ≤ 0 then
    f_Ref_isFor_L42 Γ  q4.2 
  else
    Option.bind (q4.2.2.2 this 40) fun a8 =>
    Option.bind (gA Γ a8 0) fun N9 =>
    Option.bind (ix ((4 : Int32) * q4.1) N9) fun k10 =>
    @ite _ ((16 : Int32) = 0) _ none (
    if (((q4.2.1 a8 k10) &&& (63 : Int32)) / (16 : Int32)) = p2 then
      f_Ref_isFor_L43 Γ  q4.2 (1 : Int32)
    else
      f_Ref_isFor_L42 Γ  q4.2 
    )
  ) none
set_option maxRecDepth 100000 in
set_option maxHeartbeats 4000000 in
theorem p_Ref_isFor {w : jw_T} (hw : jok w) {Γ : gm_T} {n : Nat} (hG : gd w Γ n) {x : Bool} {φ : ph_T} {this : Nat} {p0 : Int32} {p1 : Int32} {p2 : Int32} {q : Int32 × ph_T} (H : f_Ref_isFor Γ φ this p0 p1 p2 = some q) : jc w M_Ref_isFor [.ref this, .int p0, .int p1, .int p2] (pic Γ φ) n x 0 0 (fq Γ n (.inl (some (.int q.1))) q.2) := by
  refine jc.of (by simp only [jent_r, jent_i, jent_l, jent_a, jent_0]; exact Nat.le_of_ble_eq_true rfl) ?_
  have hls : jents [.ref this, .int p0, .int p1, .int p2] (jm_nL M_Ref_isFor) = [some (.ref this), some (.int p0), some (.int p1), some (.int p2), none] := by simp only [jents, jent_r, jent_i, jent_l, jent_a, jent_0]; rfl
  rw [hls]
  clear hls
  unfold f_Ref_isFor at H
  refine J_aload_n d_Ref_isFor_0 rfl ?_
  refine J_iconst (v := 1) d_Ref_isFor_1 (by decide) ?_
  refine J_iload_n d_Ref_isFor_2 rfl ?_
  refine J_iload_n d_Ref_isFor_3 rfl ?_
  have g3 : Γ this = .inr 12 := by
    apply Classical.byContradiction
    intro q9
    rw [if_neg q9] at H
    cases H
  rw [if_pos g3] at H
  obtain ⟨q4, hq4, H⟩ := Option.bind_eq_some_iff.mp H
  refine J_callV (kc := 0) (ks := 0) (kc' := 0) (ks' := 0) (a := this) (ci := 12) (as := [.int (1 : Int32), .int p0, .int p1]) (st := []) (mf_Ref_rowOf hw) (mv_Ref_388 hw) d_Ref_isFor_4 ln_Ref_rowOf (by decide) (by first | exact Nat.le_of_ble_eq_true rfl | (simp only [List.map_cons, List.map_nil, List.sum_cons, List.sum_nil, va_rf_cat]; exact Nat.le_of_ble_eq_true rfl)) rfl ((hG _).1 _ g3 (by decide)).1 ((hG _).1 _ g3 (by decide)).2 (by unfold pic; rw [g3]; rfl) (jcl_at hw rfl) rfl (p_Ref_rowOf hw hG hq4) ?_ (fun E h' n' x' e1 => by cases e1.1)
  intro v9 h9 n9 x9 e9
  obtain ⟨e91, e92, e93⟩ := e9
  cases e91
  subst e92
  subst e93
  clear x
  rename Bool => x
  show J _ _ _ _ (_ :: _) _ _ _ _ _ _
  refine J_istore d_Ref_isFor_7 (Nat.le_of_ble_eq_true rfl) ?_
  refine J.ls (ls' := [some (.ref this), some (.int p0), some (.int p1), some (.int p2), some (.int q4.1)]) rfl ?_
  refine J_aload_n d_Ref_isFor_9 rfl ?_
  refine F_getR (ci := 12) (k := 42) hG (cf_Ref hw) (fl_Ref_115 hw) (by decide) (by decide) rfl d_Ref_isFor_10 g3 ?_
  refine J_iload d_Ref_isFor_13 rfl ?_
  obtain ⟨a5, ha5, H⟩ := Option.bind_eq_some_iff.mp H
  rw [j_rf ha5]
  obtain ⟨N6, hN6, H⟩ := Option.bind_eq_some_iff.mp H
  obtain ⟨k7, hk7, H⟩ := Option.bind_eq_some_iff.mp H
  refine F_iald k7 hw hG d_Ref_isFor_15 (gA_some hN6) (ix_some hk7) ?_
  refine J_if_le (tgt := 42) d_Ref_isFor_16 (by decide) ?_ ?_
  · intro c13
    rw [if_pos c13] at H
    refine J.drop [false, false, false, false, false] rfl ?_
    exact p_Ref_isFor_L42 hw hG  H
  · intro c13
    rw [if_neg c13] at H
    refine J_aload_n d_Ref_isFor_19 rfl ?_
    refine F_getR (ci := 12) (k := 40) hG (cf_Ref hw) (fl_Ref_109 hw) (by decide) (by decide) rfl d_Ref_isFor_20 g3 ?_
    refine J_iconst (v := 4) d_Ref_isFor_23 (by decide) ?_
    refine J_iload d_Ref_isFor_24 rfl ?_
    refine J_imul d_Ref_isFor_26 ?_
    obtain ⟨a8, ha8, H⟩ := Option.bind_eq_some_iff.mp H
    rw [j_rf ha8]
    obtain ⟨N9, hN9, H⟩ := Option.bind_eq_some_iff.mp H
    obtain ⟨k10, hk10, H⟩ := Option.bind_eq_some_iff.mp H
    refine F_iald k10 hw hG d_Ref_isFor_27 (gA_some hN9) (ix_some hk10) ?_
    refine J_bipush (v := 63) d_Ref_isFor_28 (by decide) ?_
    refine J_iand d_Ref_isFor_30 ?_
    refine J_bipush (v := 16) d_Ref_isFor_31 (by decide) ?_
    have h11 : ¬ (16 : Int32) = 0 := by
      intro q9
      rw [if_pos q9] at H
      cases H
    rw [if_neg h11] at H
    refine J_idiv d_Ref_isFor_33 h11 ?_
    refine J_iload_n d_Ref_isFor_34 rfl ?_
    refine J_icmp_ne (tgt := 42) d_Ref_isFor_35 (by decide) ?_ ?_
    · intro c12
      rw [if_neg c12] at H
      refine J.drop [false, false, false, false, false] rfl ?_
      exact p_Ref_isFor_L42 hw hG  H
    · intro c12
      rw [if_pos c12] at H
      refine J_iconst (v := 1) d_Ref_isFor_38 (by decide) ?_
      refine J_goto (tgt := 43) d_Ref_isFor_39 (by decide) ?_
      refine J.drop [false, false, false, false, false] rfl ?_
      exact p_Ref_isFor_L43 hw hG  H
theorem ln_Ref_moveAnswer : (parseMethodDescriptor y_Ref_moveAnswer.desc).map (fun q => q.parameters.length) = some 1 := by decide +kernel
def f_Ref_moveAnswer_L187 (Γ : gm_T)  : Nat → ph_T → Nat → Int32 → Option (Unit × ph_T)
  | 0, _, _, _ => none
  | fu + 1, φ, x0, x8 =>
    @ite _ (Γ x0 = .inr 12) _ (
    if (φ.1 x0 47) ≤ x8 then
      some ((), φ)
    else
      Option.bind (φ.2.2 x0 43) fun a3 =>
      Option.bind (gA Γ a3 0) fun N4 =>
      Option.bind (ix (x8 + (1 : Int32)) N4) fun k5 =>
      Option.bind (gA Γ a3 0) fun N6 =>
      Option.bind (ix x8 N6) fun k7 =>
      Option.bind (φ.2.2 x0 44) fun a8 =>
      Option.bind (gA Γ a8 0) fun N9 =>
      Option.bind (ix (x8 + (1 : Int32)) N9) fun k10 =>
      Option.bind (gA Γ a8 0) fun N11 =>
      Option.bind (ix x8 N11) fun k12 =>
      Option.bind (φ.2.2 x0 45) fun a13 =>
      Option.bind (gA Γ a13 0) fun N14 =>
      Option.bind (ix (x8 + (1 : Int32)) N14) fun k15 =>
      Option.bind (gA Γ a13 0) fun N16 =>
      Option.bind (ix x8 N16) fun k17 =>
      Option.bind (φ.2.2 x0 46) fun a18 =>
      Option.bind (gA Γ a18 0) fun N19 =>
      Option.bind (ix (x8 + (1 : Int32)) N19) fun k20 =>
      Option.bind (gA Γ a18 0) fun N21 =>
      Option.bind (ix x8 N21) fun k22 =>
      (f_Ref_moveAnswer_L187 Γ  fu) (uI (uI (uI (uI φ a3 k7 (φ.1 a3 k5)) a8 k12 ((uI φ a3 k7 (φ.1 a3 k5)).1 a8 k10)) a13 k17 ((uI (uI φ a3 k7 (φ.1 a3 k5)) a8 k12 ((uI φ a3 k7 (φ.1 a3 k5)).1 a8 k10)).1 a13 k15)) a18 k22 ((uI (uI (uI φ a3 k7 (φ.1 a3 k5)) a8 k12 ((uI φ a3 k7 (φ.1 a3 k5)).1 a8 k10)) a13 k17 ((uI (uI φ a3 k7 (φ.1 a3 k5)) a8 k12 ((uI φ a3 k7 (φ.1 a3 k5)).1 a8 k10)).1 a13 k15)).1 a18 k20)) x0 (x8 + (1 : Int32))
    ) none
set_option maxRecDepth 100000 in
set_option maxHeartbeats 4000000 in
theorem p_Ref_moveAnswer_L187 {w : jw_T} (hw : jok w) {Γ : gm_T} {n : Nat} (hG : gd w Γ n)  : ∀ (fu : Nat) {x : Bool} {φ : ph_T} {x0 : Nat} {x8 : Int32} {q : Unit × ph_T}, f_Ref_moveAnswer_L187 Γ  fu φ x0 x8 = some q → J w M_Ref_moveAnswer 187 [some (.ref x0), none, none, none, none, none, none, none, some (.int x8)] [] (pic Γ φ) n x 0 0 (fq Γ n (.inl none) q.2) := by
  intro fu
  induction fu with
  | zero =>
    intro x φ x0 x8 q H
    cases H
  | succ fu ih =>
    intro x φ x0 x8 q H
    unfold f_Ref_moveAnswer_L187 at H
    refine J_iload d_Ref_moveAnswer_187 rfl ?_
    refine J_aload_n d_Ref_moveAnswer_189 rfl ?_
    have g2 : Γ x0 = .inr 12 := by
      apply Classical.byContradiction
      intro q9
      rw [if_neg q9] at H
      cases H
    rw [if_pos g2] at H
    refine F_getI (ci := 12) (k := 47) hG (cf_Ref hw) (fl_Ref_526 hw) (by decide) (by decide) rfl d_Ref_moveAnswer_190 g2 ?_
    refine J_icmp_ge (tgt := 266) d_Ref_moveAnswer_193 (by decide) ?_ ?_
    · intro c23
      rw [if_pos c23] at H
      have H := Option.some.inj H
      subst H
      exact J_vret (st := []) d_Ref_moveAnswer_266 rfl ⟨rfl, rfl, rfl⟩
    · intro c23
      rw [if_neg c23] at H
      refine J_aload_n d_Ref_moveAnswer_196 rfl ?_
      refine F_getR (ci := 12) (k := 43) hG (cf_Ref hw) (fl_Ref_118 hw) (by decide) (by decide) rfl d_Ref_moveAnswer_197 g2 ?_
      refine J_iload d_Ref_moveAnswer_200 rfl ?_
      refine J_aload_n d_Ref_moveAnswer_202 rfl ?_
      refine F_getR (ci := 12) (k := 43) hG (cf_Ref hw) (fl_Ref_118 hw) (by decide) (by decide) rfl d_Ref_moveAnswer_203 g2 ?_
      refine J_iload d_Ref_moveAnswer_206 rfl ?_
      refine J_iconst (v := 1) d_Ref_moveAnswer_208 (by decide) ?_
      refine J_iadd d_Ref_moveAnswer_209 ?_
      obtain ⟨a3, ha3, H⟩ := Option.bind_eq_some_iff.mp H
      rw [j_rf ha3]
      obtain ⟨N4, hN4, H⟩ := Option.bind_eq_some_iff.mp H
      obtain ⟨k5, hk5, H⟩ := Option.bind_eq_some_iff.mp H
      refine F_iald k5 hw hG d_Ref_moveAnswer_210 (gA_some hN4) (ix_some hk5) ?_
      obtain ⟨N6, hN6, H⟩ := Option.bind_eq_some_iff.mp H
      obtain ⟨k7, hk7, H⟩ := Option.bind_eq_some_iff.mp H
      refine F_iast k7 hw hG d_Ref_moveAnswer_211 (gA_some hN6) (ix_some hk7) ?_
      refine J_aload_n d_Ref_moveAnswer_212 rfl ?_
      refine F_getR (ci := 12) (k := 44) hG (cf_Ref hw) (fl_Ref_121 hw) (by decide) (by decide) rfl d_Ref_moveAnswer_213 g2 ?_
      show J _ _ _ _ (va_rf (φ.2.2 x0 44) :: _) _ _ _ _ _ _
      refine J_iload d_Ref_moveAnswer_216 rfl ?_
      refine J_aload_n d_Ref_moveAnswer_218 rfl ?_
      refine F_getR (ci := 12) (k := 44) hG (cf_Ref hw) (fl_Ref_121 hw) (by decide) (by decide) rfl d_Ref_moveAnswer_219 g2 ?_
      show J _ _ _ _ (va_rf (φ.2.2 x0 44) :: _) _ _ _ _ _ _
      refine J_iload d_Ref_moveAnswer_222 rfl ?_
      refine J_iconst (v := 1) d_Ref_moveAnswer_224 (by decide) ?_
      refine J_iadd d_Ref_moveAnswer_225 ?_
      obtain ⟨a8, ha8, H⟩ := Option.bind_eq_some_iff.mp H
      rw [j_rf ha8]
      obtain ⟨N9, hN9, H⟩ := Option.bind_eq_some_iff.mp H
      obtain ⟨k10, hk10, H⟩ := Option.bind_eq_some_iff.mp H
      refine F_iald k10 hw hG d_Ref_moveAnswer_226 (gA_some hN9) (ix_some hk10) ?_
      obtain ⟨N11, hN11, H⟩ := Option.bind_eq_some_iff.mp H
      obtain ⟨k12, hk12, H⟩ := Option.bind_eq_some_iff.mp H
      refine F_iast k12 hw hG d_Ref_moveAnswer_227 (gA_some hN11) (ix_some hk12) ?_
      refine J_aload_n d_Ref_moveAnswer_228 rfl ?_
      refine F_getR (ci := 12) (k := 45) hG (cf_Ref hw) (fl_Ref_124 hw) (by decide) (by decide) rfl d_Ref_moveAnswer_229 g2 ?_
      show J _ _ _ _ (va_rf (φ.2.2 x0 45) :: _) _ _ _ _ _ _
      refine J_iload d_Ref_moveAnswer_232 rfl ?_
      refine J_aload_n d_Ref_moveAnswer_234 rfl ?_
      refine F_getR (ci := 12) (k := 45) hG (cf_Ref hw) (fl_Ref_124 hw) (by decide) (by decide) rfl d_Ref_moveAnswer_235 g2 ?_
      show J _ _ _ _ (va_rf (φ.2.2 x0 45) :: _) _ _ _ _ _ _
      refine J_iload d_Ref_moveAnswer_238 rfl ?_
      refine J_iconst (v := 1) d_Ref_moveAnswer_240 (by decide) ?_
      refine J_iadd d_Ref_moveAnswer_241 ?_
      obtain ⟨a13, ha13, H⟩ := Option.bind_eq_some_iff.mp H
      rw [j_rf ha13]
      obtain ⟨N14, hN14, H⟩ := Option.bind_eq_some_iff.mp H
      obtain ⟨k15, hk15, H⟩ := Option.bind_eq_some_iff.mp H
      refine F_iald k15 hw hG d_Ref_moveAnswer_242 (gA_some hN14) (ix_some hk15) ?_
      obtain ⟨N16, hN16, H⟩ := Option.bind_eq_some_iff.mp H
      obtain ⟨k17, hk17, H⟩ := Option.bind_eq_some_iff.mp H
      refine F_iast k17 hw hG d_Ref_moveAnswer_243 (gA_some hN16) (ix_some hk17) ?_
      refine J_aload_n d_Ref_moveAnswer_244 rfl ?_
      refine F_getR (ci := 12) (k := 46) hG (cf_Ref hw) (fl_Ref_127 hw) (by decide) (by decide) rfl d_Ref_moveAnswer_245 g2 ?_
      show J _ _ _ _ (va_rf (φ.2.2 x0 46) :: _) _ _ _ _ _ _
      refine J_iload d_Ref_moveAnswer_248 rfl ?_
      refine J_aload_n d_Ref_moveAnswer_250 rfl ?_
      refine F_getR (ci := 12) (k := 46) hG (cf_Ref hw) (fl_Ref_127 hw) (by decide) (by decide) rfl d_Ref_moveAnswer_251 g2 ?_
      show J _ _ _ _ (va_rf (φ.2.2 x0 46) :: _) _ _ _ _ _ _
      refine J_iload d_Ref_moveAnswer_254 rfl ?_
      refine J_iconst (v := 1) d_Ref_moveAnswer_256 (by decide) ?_
      refine J_iadd d_Ref_moveAnswer_257 ?_
      obtain ⟨a18, ha18, H⟩ := Option.bind_eq_some_iff.mp H
      rw [j_rf ha18]
      obtain ⟨N19, hN19, H⟩ := Option.bind_eq_some_iff.mp H
      obtain ⟨k20, hk20, H⟩ := Option.bind_eq_some_iff.mp H
      refine F_iald k20 hw hG d_Ref_moveAnswer_258 (gA_some hN19) (ix_some hk20) ?_
      obtain ⟨N21, hN21, H⟩ := Option.bind_eq_some_iff.mp H
      obtain ⟨k22, hk22, H⟩ := Option.bind_eq_some_iff.mp H
      refine F_iast k22 hw hG d_Ref_moveAnswer_259 (gA_some hN21) (ix_some hk22) ?_
      refine J_iinc (v := x8 + 1) d_Ref_moveAnswer_260 rfl (by rw [show Int32.ofInt 1 = (1 : Int32) from by decide]) ?_
      refine J.ls (ls' := [some (.ref x0), none, none, none, none, none, none, none, some (.int (x8 + (1 : Int32)))]) rfl ?_
      refine J_goto (tgt := 187) d_Ref_moveAnswer_263 (by decide) ?_
      refine J.drop [true, false, false, false, false, false, false, false, true] rfl ?_
      exact ih H
def f_Ref_moveAnswer_L167 (Γ : gm_T) (Kc141 : ph_T → Nat → Int32 → Int32 → Int32 → Option (Unit × ph_T)) (φ : ph_T) (x0 : Nat) (x1 : Int32) (x6 : Int32) (x7 : Int32) : Option (Unit × ph_T) :=
  Kc141 φ x0 x1 x6 (x7 + (1 : Int32))
set_option maxRecDepth 100000 in
set_option maxHeartbeats 4000000 in
theorem p_Ref_moveAnswer_L167 {w : jw_T} (hw : jok w) {Γ : gm_T} {n : Nat} (hG : gd w Γ n) {Kc141 : ph_T → Nat → Int32 → Int32 → Int32 → Option (Unit × ph_T)} (hKc141 : ∀ {x : Bool} {φ : ph_T} {x0 : Nat} {x1 : Int32} {x6 : Int32} {x7 : Int32} {q : Unit × ph_T}, Kc141 φ x0 x1 x6 x7 = some q → J w M_Ref_moveAnswer 141 [some (.ref x0), some (.int x1), none, none, none, none, some (.int x6), some (.int x7), none] [] (pic Γ φ) n x 0 0 (fq Γ n (.inl none) q.2)) {x : Bool} {φ : ph_T} {x0 : Nat} {x1 : Int32} {x6 : Int32} {x7 : Int32} {q : Unit × ph_T} (H : f_Ref_moveAnswer_L167 Γ Kc141 φ x0 x1 x6 x7 = some q) : J w M_Ref_moveAnswer 167 [some (.ref x0), some (.int x1), none, none, none, none, some (.int x6), some (.int x7), none] [] (pic Γ φ) n x 0 0 (fq Γ n (.inl none) q.2) := by
  unfold f_Ref_moveAnswer_L167 at H
  refine J_iinc (v := x7 + 1) d_Ref_moveAnswer_167 rfl (by rw [show Int32.ofInt 1 = (1 : Int32) from by decide]) ?_
  refine J.ls (ls' := [some (.ref x0), some (.int x1), none, none, none, none, some (.int x6), some (.int (x7 + (1 : Int32))), none]) rfl ?_
  refine J_goto (tgt := 141) d_Ref_moveAnswer_170 (by decide) ?_
  refine J.drop [true, true, false, false, false, false, true, true, false] rfl ?_
  exact hKc141 H
def f_Ref_moveAnswer_L141 (Γ : gm_T)  : Nat → ph_T → Nat → Int32 → Int32 → Int32 → Option (Unit × ph_T)
  | 0, _, _, _, _, _ => none
  | fu + 1, φ, x0, x1, x6, x7 =>
    @ite _ (Γ x0 = .inr 12) _ (
    Option.bind (φ.2.2 x0 43) fun a25 =>
    Option.bind (gA Γ a25 0) fun N26 =>
    Option.bind (ix x7 N26) fun k27 =>
    if (φ.1 a25 k27) = x1 then
      Option.bind (φ.2.2 x0 44) fun a28 =>
      Option.bind (gA Γ a28 0) fun N29 =>
      Option.bind (ix x7 N29) fun k30 =>
      if (φ.1 a28 k30) = (x6 &&& (15 : Int32)) then
        f_Ref_moveAnswer_L187 Γ  jF (uI φ x0 47 ((φ.1 x0 47) - (1 : Int32))) x0 x7
      else
        f_Ref_moveAnswer_L167 Γ (f_Ref_moveAnswer_L141 Γ  fu) φ x0 x1 x6 x7
    else
      f_Ref_moveAnswer_L167 Γ (f_Ref_moveAnswer_L141 Γ  fu) φ x0 x1 x6 x7
    ) none
set_option maxRecDepth 100000 in
set_option maxHeartbeats 4000000 in
theorem p_Ref_moveAnswer_L141 {w : jw_T} (hw : jok w) {Γ : gm_T} {n : Nat} (hG : gd w Γ n)  : ∀ (fu : Nat) {x : Bool} {φ : ph_T} {x0 : Nat} {x1 : Int32} {x6 : Int32} {x7 : Int32} {q : Unit × ph_T}, f_Ref_moveAnswer_L141 Γ  fu φ x0 x1 x6 x7 = some q → J w M_Ref_moveAnswer 141 [some (.ref x0), some (.int x1), none, none, none, none, some (.int x6), some (.int x7), none] [] (pic Γ φ) n x 0 0 (fq Γ n (.inl none) q.2) := by
  intro fu
  induction fu with
  | zero =>
    intro x φ x0 x1 x6 x7 q H
    cases H
  | succ fu ih =>
    intro x φ x0 x1 x6 x7 q H
    unfold f_Ref_moveAnswer_L141 at H
    refine J_aload_n d_Ref_moveAnswer_141 rfl ?_
    have g24 : Γ x0 = .inr 12 := by
      apply Classical.byContradiction
      intro q9
      rw [if_neg q9] at H
      cases H
    rw [if_pos g24] at H
    refine F_getR (ci := 12) (k := 43) hG (cf_Ref hw) (fl_Ref_118 hw) (by decide) (by decide) rfl d_Ref_moveAnswer_142 g24 ?_
    refine J_iload d_Ref_moveAnswer_145 rfl ?_
    obtain ⟨a25, ha25, H⟩ := Option.bind_eq_some_iff.mp H
    rw [j_rf ha25]
    obtain ⟨N26, hN26, H⟩ := Option.bind_eq_some_iff.mp H
    obtain ⟨k27, hk27, H⟩ := Option.bind_eq_some_iff.mp H
    refine F_iald k27 hw hG d_Ref_moveAnswer_147 (gA_some hN26) (ix_some hk27) ?_
    refine J_iload_n d_Ref_moveAnswer_148 rfl ?_
    refine J_icmp_ne (tgt := 167) d_Ref_moveAnswer_149 (by decide) ?_ ?_
    · intro c32
      rw [if_neg c32] at H
      refine J.drop [true, true, false, false, false, false, true, true, false] rfl ?_
      exact p_Ref_moveAnswer_L167 hw hG ih H
    · intro c32
      rw [if_pos c32] at H
      refine J_aload_n d_Ref_moveAnswer_152 rfl ?_
      refine F_getR (ci := 12) (k := 44) hG (cf_Ref hw) (fl_Ref_121 hw) (by decide) (by decide) rfl d_Ref_moveAnswer_153 g24 ?_
      refine J_iload d_Ref_moveAnswer_156 rfl ?_
      obtain ⟨a28, ha28, H⟩ := Option.bind_eq_some_iff.mp H
      rw [j_rf ha28]
      obtain ⟨N29, hN29, H⟩ := Option.bind_eq_some_iff.mp H
      obtain ⟨k30, hk30, H⟩ := Option.bind_eq_some_iff.mp H
      refine F_iald k30 hw hG d_Ref_moveAnswer_158 (gA_some hN29) (ix_some hk30) ?_
      refine J_iload d_Ref_moveAnswer_159 rfl ?_
      refine J_bipush (v := 15) d_Ref_moveAnswer_161 (by decide) ?_
      refine J_iand d_Ref_moveAnswer_163 ?_
      refine J_icmp_eq (tgt := 173) d_Ref_moveAnswer_164 (by decide) ?_ ?_
      · intro c31
        rw [if_pos c31] at H
        refine J_aload_n d_Ref_moveAnswer_173 rfl ?_
        refine J_dup d_Ref_moveAnswer_174 rfl ?_
        refine F_getI (ci := 12) (k := 47) hG (cf_Ref hw) (fl_Ref_526 hw) (by decide) (by decide) rfl d_Ref_moveAnswer_175 g24 ?_
        refine J_iconst (v := 1) d_Ref_moveAnswer_178 (by decide) ?_
        refine J_isub d_Ref_moveAnswer_179 ?_
        refine F_putI (ci := 12) (k := 47) hG (cf_Ref hw) (fl_Ref_526 hw) (by decide) (by decide) rfl d_Ref_moveAnswer_180 rfl rfl rfl g24 ?_
        refine J_iload d_Ref_moveAnswer_183 rfl ?_
        refine J_istore d_Ref_moveAnswer_185 (Nat.le_of_ble_eq_true rfl) ?_
        refine J.ls (ls' := [some (.ref x0), some (.int x1), none, none, none, none, some (.int x6), some (.int x7), some (.int x7)]) rfl ?_
        refine J.drop [true, false, false, false, false, false, false, false, true] rfl ?_
        exact p_Ref_moveAnswer_L187 hw hG  _ H
      · intro c31
        rw [if_neg c31] at H
        refine J.drop [true, true, false, false, false, false, true, true, false] rfl ?_
        exact p_Ref_moveAnswer_L167 hw hG ih H
def f_Ref_moveAnswer_L85 (Γ : gm_T)  (φ : ph_T) : Option (Unit × ph_T) :=
  some ((), φ)
set_option maxRecDepth 100000 in
set_option maxHeartbeats 4000000 in
theorem p_Ref_moveAnswer_L85 {w : jw_T} (hw : jok w) {Γ : gm_T} {n : Nat} (hG : gd w Γ n)  {x : Bool} {φ : ph_T} {q : Unit × ph_T} (H : f_Ref_moveAnswer_L85 Γ  φ  = some q) : J w M_Ref_moveAnswer 85 [none, none, none, none, none, none, none, none, none] [] (pic Γ φ) n x 0 0 (fq Γ n (.inl none) q.2) := by
  unfold f_Ref_moveAnswer_L85 at H
  have H := Option.some.inj H
  subst H
  exact J_vret (st := []) d_Ref_moveAnswer_85 rfl ⟨rfl, rfl, rfl⟩
def f_Ref_moveAnswer_L71 (Γ : gm_T)  (φ : ph_T) (x0 : Nat) (x1 : Int32) (x2 : Int32) (x4 : Int32) : Option (Unit × ph_T) :=
  if x4 = (-1 : Int32) then
    f_Ref_moveAnswer_L85 Γ  φ 
  else
    @ite _ (Γ x0 = .inr 12) _ (
    Option.bind (f_Ref_hasRoom Γ φ x0 x2) fun q34 =>
    if q34.1 = 0 then
      f_Ref_moveAnswer_L85 Γ  q34.2 
    else
      Option.bind (f_Ref_rowOf Γ q34.2 x0 (1 : Int32) x4 (2 : Int32)) fun q35 =>
      Option.bind (q35.2.2.2 x0 40) fun a36 =>
      Option.bind (gA Γ a36 0) fun N37 =>
      Option.bind (ix ((4 : Int32) * q35.1) N37) fun k38 =>
      Option.bind (f_Ref_take Γ q35.2 x0 q35.1) fun q39 =>
      Option.bind (f_Ref_put Γ q39.2 x0 x2 (0 : Int64) ((q35.2.1 a36 k38) - ((16 : Int32) * x1)) (q39.2.1 x0 6)) fun q40 =>
      Option.bind (q40.2.2.2 x0 54) fun a41 =>
      Option.bind (gA Γ a41 0) fun N42 =>
      Option.bind (ix x1 N42) fun k43 =>
      f_Ref_moveAnswer_L141 Γ  jF (uI q40.2 a41 k43 x4) x0 x1 ((q35.2.1 a36 k38) - ((16 : Int32) * x1)) (0 : Int32)
    ) none
set_option maxRecDepth 100000 in
set_option maxHeartbeats 4000000 in
theorem p_Ref_moveAnswer_L71 {w : jw_T} (hw : jok w) {Γ : gm_T} {n : Nat} (hG : gd w Γ n)  {x : Bool} {φ : ph_T} {x0 : Nat} {x1 : Int32} {x2 : Int32} {x4 : Int32} {q : Unit × ph_T} (H : f_Ref_moveAnswer_L71 Γ  φ x0 x1 x2 x4 = some q) : J w M_Ref_moveAnswer 71 [some (.ref x0), some (.int x1), some (.int x2), none, some (.int x4), none, none, none, none] [] (pic Γ φ) n x 0 0 (fq Γ n (.inl none) q.2) := by
  unfold f_Ref_moveAnswer_L71 at H
  refine J_iload d_Ref_moveAnswer_71 rfl ?_
  refine J_iconst (v := -1) d_Ref_moveAnswer_73 (by decide) ?_
  refine J_icmp_eq (tgt := 85) d_Ref_moveAnswer_74 (by decide) ?_ ?_
  · intro c45
    rw [if_pos c45] at H
    refine J.drop [false, false, false, false, false, false, false, false, false] rfl ?_
    exact p_Ref_moveAnswer_L85 hw hG  H
  · intro c45
    rw [if_neg c45] at H
    refine J_aload_n d_Ref_moveAnswer_77 rfl ?_
    refine J_iload_n d_Ref_moveAnswer_78 rfl ?_
    have g33 : Γ x0 = .inr 12 := by
      apply Classical.byContradiction
      intro q9
      rw [if_neg q9] at H
      cases H
    rw [if_pos g33] at H
    obtain ⟨q34, hq34, H⟩ := Option.bind_eq_some_iff.mp H
    refine J_callV (kc := 0) (ks := 0) (kc' := 0) (ks' := 0) (a := x0) (ci := 12) (as := [.int x2]) (st := []) (mf_Ref_hasRoom hw) (mv_Ref_392 hw) d_Ref_moveAnswer_79 ln_Ref_hasRoom (by decide) (by first | exact Nat.le_of_ble_eq_true rfl | (simp only [List.map_cons, List.map_nil, List.sum_cons, List.sum_nil, va_rf_cat]; exact Nat.le_of_ble_eq_true rfl)) rfl ((hG _).1 _ g33 (by decide)).1 ((hG _).1 _ g33 (by decide)).2 (by unfold pic; rw [g33]; rfl) (jcl_at hw rfl) rfl (p_Ref_hasRoom hw hG hq34) ?_ (fun E h' n' x' e1 => by cases e1.1)
    intro v9 h9 n9 x9 e9
    obtain ⟨e91, e92, e93⟩ := e9
    cases e91
    subst e92
    subst e93
    clear x
    rename Bool => x
    show J _ _ _ _ (_ :: _) _ _ _ _ _ _
    refine J_if_ne (tgt := 86) d_Ref_moveAnswer_82 (by decide) ?_ ?_
    · intro c44
      rw [if_neg c44] at H
      refine J_aload_n d_Ref_moveAnswer_86 rfl ?_
      refine J_iconst (v := 1) d_Ref_moveAnswer_87 (by decide) ?_
      refine J_iload d_Ref_moveAnswer_88 rfl ?_
      refine J_iconst (v := 2) d_Ref_moveAnswer_90 (by decide) ?_
      obtain ⟨q35, hq35, H⟩ := Option.bind_eq_some_iff.mp H
      refine J_callV (kc := 0) (ks := 0) (kc' := 0) (ks' := 0) (a := x0) (ci := 12) (as := [.int (1 : Int32), .int x4, .int (2 : Int32)]) (st := []) (mf_Ref_rowOf hw) (mv_Ref_388 hw) d_Ref_moveAnswer_91 ln_Ref_rowOf (by decide) (by first | exact Nat.le_of_ble_eq_true rfl | (simp only [List.map_cons, List.map_nil, List.sum_cons, List.sum_nil, va_rf_cat]; exact Nat.le_of_ble_eq_true rfl)) rfl ((hG _).1 _ g33 (by decide)).1 ((hG _).1 _ g33 (by decide)).2 (by unfold pic; rw [g33]; rfl) (jcl_at hw rfl) rfl (p_Ref_rowOf hw hG hq35) ?_ (fun E h' n' x' e1 => by cases e1.1)
      intro v9 h9 n9 x9 e9
      obtain ⟨e91, e92, e93⟩ := e9
      cases e91
      subst e92
      subst e93
      clear x
      rename Bool => x
      show J _ _ _ _ (_ :: _) _ _ _ _ _ _
      refine J_istore d_Ref_moveAnswer_94 (Nat.le_of_ble_eq_true rfl) ?_
      refine J.ls (ls' := [some (.ref x0), some (.int x1), some (.int x2), none, some (.int x4), some (.int q35.1), none, none, none]) rfl ?_
      refine J_aload_n d_Ref_moveAnswer_96 rfl ?_
      refine F_getR (ci := 12) (k := 40) hG (cf_Ref hw) (fl_Ref_109 hw) (by decide) (by decide) rfl d_Ref_moveAnswer_97 g33 ?_
      refine J_iconst (v := 4) d_Ref_moveAnswer_100 (by decide) ?_
      refine J_iload d_Ref_moveAnswer_101 rfl ?_
      refine J_imul d_Ref_moveAnswer_103 ?_
      obtain ⟨a36, ha36, H⟩ := Option.bind_eq_some_iff.mp H
      rw [j_rf ha36]
      obtain ⟨N37, hN37, H⟩ := Option.bind_eq_some_iff.mp H
      obtain ⟨k38, hk38, H⟩ := Option.bind_eq_some_iff.mp H
      refine F_iald k38 hw hG d_Ref_moveAnswer_104 (gA_some hN37) (ix_some hk38) ?_
      refine J_bipush (v := 16) d_Ref_moveAnswer_105 (by decide) ?_
      refine J_iload_n d_Ref_moveAnswer_107 rfl ?_
      refine J_imul d_Ref_moveAnswer_108 ?_
      refine J_isub d_Ref_moveAnswer_109 ?_
      refine J_istore d_Ref_moveAnswer_110 (Nat.le_of_ble_eq_true rfl) ?_
      refine J.ls (ls' := [some (.ref x0), some (.int x1), some (.int x2), none, some (.int x4), some (.int q35.1), some (.int ((q35.2.1 a36 k38) - ((16 : Int32) * x1))), none, none]) rfl ?_
      refine J_aload_n d_Ref_moveAnswer_112 rfl ?_
      refine J_iload d_Ref_moveAnswer_113 rfl ?_
      obtain ⟨q39, hq39, H⟩ := Option.bind_eq_some_iff.mp H
      refine J_callV (kc := 0) (ks := 0) (kc' := 0) (ks' := 0) (a := x0) (ci := 12) (as := [.int q35.1]) (st := []) (mf_Ref_take hw) (mv_Ref_473 hw) d_Ref_moveAnswer_115 ln_Ref_take (by decide) (by first | exact Nat.le_of_ble_eq_true rfl | (simp only [List.map_cons, List.map_nil, List.sum_cons, List.sum_nil, va_rf_cat]; exact Nat.le_of_ble_eq_true rfl)) rfl ((hG _).1 _ g33 (by decide)).1 ((hG _).1 _ g33 (by decide)).2 (by unfold pic; rw [g33]; rfl) (jcl_at hw rfl) rfl (p_Ref_take hw hG hq39) ?_ (fun E h' n' x' e1 => by cases e1.1)
      intro v9 h9 n9 x9 e9
      obtain ⟨e91, e92, e93⟩ := e9
      cases e91
      subst e92
      subst e93
      clear x
      rename Bool => x
      show J _ _ _ _ [] _ _ _ _ _ _
      refine J_aload_n d_Ref_moveAnswer_118 rfl ?_
      refine J_iload_n d_Ref_moveAnswer_119 rfl ?_
      refine J_lconst (v := 0) d_Ref_moveAnswer_120 (by decide) ?_
      refine J_iload d_Ref_moveAnswer_121 rfl ?_
      refine J_aload_n d_Ref_moveAnswer_123 rfl ?_
      refine F_getI (ci := 12) (k := 6) hG (cf_Ref hw) (fl_Ref_348 hw) (by decide) (by decide) rfl d_Ref_moveAnswer_124 g33 ?_
      obtain ⟨q40, hq40, H⟩ := Option.bind_eq_some_iff.mp H
      refine J_callV (kc := 0) (ks := 0) (kc' := 0) (ks' := 0) (a := x0) (ci := 12) (as := [.int x2, .long (0 : Int64), .int ((q35.2.1 a36 k38) - ((16 : Int32) * x1)), .int (q39.2.1 x0 6)]) (st := []) (mf_Ref_put hw) (mv_Ref_469 hw) d_Ref_moveAnswer_127 ln_Ref_put (by decide) (by first | exact Nat.le_of_ble_eq_true rfl | (simp only [List.map_cons, List.map_nil, List.sum_cons, List.sum_nil, va_rf_cat]; exact Nat.le_of_ble_eq_true rfl)) rfl ((hG _).1 _ g33 (by decide)).1 ((hG _).1 _ g33 (by decide)).2 (by unfold pic; rw [g33]; rfl) (jcl_at hw rfl) rfl (p_Ref_put hw hG hq40) ?_ (fun E h' n' x' e1 => by cases e1.1)
      intro v9 h9 n9 x9 e9
      obtain ⟨e91, e92, e93⟩ := e9
      cases e91
      subst e92
      subst e93
      clear x
      rename Bool => x
      show J _ _ _ _ [] _ _ _ _ _ _
      refine J_aload_n d_Ref_moveAnswer_130 rfl ?_
      refine F_getR (ci := 12) (k := 54) hG (cf_Ref hw) (fl_Ref_145 hw) (by decide) (by decide) rfl d_Ref_moveAnswer_131 g33 ?_
      refine J_iload_n d_Ref_moveAnswer_134 rfl ?_
      refine J_iload d_Ref_moveAnswer_135 rfl ?_
      obtain ⟨a41, ha41, H⟩ := Option.bind_eq_some_iff.mp H
      rw [j_rf ha41]
      obtain ⟨N42, hN42, H⟩ := Option.bind_eq_some_iff.mp H
      obtain ⟨k43, hk43, H⟩ := Option.bind_eq_some_iff.mp H
      refine F_iast k43 hw hG d_Ref_moveAnswer_137 (gA_some hN42) (ix_some hk43) ?_
      refine J_iconst (v := 0) d_Ref_moveAnswer_138 (by decide) ?_
      refine J_istore d_Ref_moveAnswer_139 (Nat.le_of_ble_eq_true rfl) ?_
      refine J.ls (ls' := [some (.ref x0), some (.int x1), some (.int x2), none, some (.int x4), some (.int q35.1), some (.int ((q35.2.1 a36 k38) - ((16 : Int32) * x1))), some (.int (0 : Int32)), none]) rfl ?_
      refine J.drop [true, true, false, false, false, false, true, true, false] rfl ?_
      exact p_Ref_moveAnswer_L141 hw hG  _ H
    · intro c44
      rw [if_pos c44] at H
      refine J.drop [false, false, false, false, false, false, false, false, false] rfl ?_
      exact p_Ref_moveAnswer_L85 hw hG  H
def f_Ref_moveAnswer_L63 (Γ : gm_T) (Kc21 : ph_T → Nat → Int32 → Int32 → Int32 → Int32 → Int32 → Option (Unit × ph_T)) (φ : ph_T) (x0 : Nat) (x1 : Int32) (x2 : Int32) (x3 : Int32) (x5 : Int32) (y0 : Int32) : Option (Unit × ph_T) :=
  Kc21 φ x0 x1 x2 x3 y0 (x5 + (1 : Int32))
set_option maxRecDepth 100000 in
set_option maxHeartbeats 4000000 in
theorem p_Ref_moveAnswer_L63 {w : jw_T} (hw : jok w) {Γ : gm_T} {n : Nat} (hG : gd w Γ n) {Kc21 : ph_T → Nat → Int32 → Int32 → Int32 → Int32 → Int32 → Option (Unit × ph_T)} (hKc21 : ∀ {x : Bool} {φ : ph_T} {x0 : Nat} {x1 : Int32} {x2 : Int32} {x3 : Int32} {x4 : Int32} {x5 : Int32} {q : Unit × ph_T}, Kc21 φ x0 x1 x2 x3 x4 x5 = some q → J w M_Ref_moveAnswer 21 [some (.ref x0), some (.int x1), some (.int x2), some (.int x3), some (.int x4), some (.int x5), none, none, none] [] (pic Γ φ) n x 0 0 (fq Γ n (.inl none) q.2)) {x : Bool} {φ : ph_T} {x0 : Nat} {x1 : Int32} {x2 : Int32} {x3 : Int32} {x5 : Int32} {y0 : Int32} {q : Unit × ph_T} (H : f_Ref_moveAnswer_L63 Γ Kc21 φ x0 x1 x2 x3 x5 y0 = some q) : J w M_Ref_moveAnswer 63 [some (.ref x0), some (.int x1), some (.int x2), some (.int x3), none, some (.int x5), none, none, none] [.int y0] (pic Γ φ) n x 0 0 (fq Γ n (.inl none) q.2) := by
  unfold f_Ref_moveAnswer_L63 at H
  refine J_istore d_Ref_moveAnswer_63 (Nat.le_of_ble_eq_true rfl) ?_
  refine J.ls (ls' := [some (.ref x0), some (.int x1), some (.int x2), some (.int x3), some (.int y0), some (.int x5), none, none, none]) rfl ?_
  refine J_iinc (v := x5 + 1) d_Ref_moveAnswer_65 rfl (by rw [show Int32.ofInt 1 = (1 : Int32) from by decide]) ?_
  refine J.ls (ls' := [some (.ref x0), some (.int x1), some (.int x2), some (.int x3), some (.int y0), some (.int (x5 + (1 : Int32))), none, none, none]) rfl ?_
  refine J_goto (tgt := 21) d_Ref_moveAnswer_68 (by decide) ?_
  refine J.drop [true, true, true, true, true, true, false, false, false] rfl ?_
  exact hKc21 H
def f_Ref_moveAnswer_L21 (Γ : gm_T)  : Nat → ph_T → Nat → Int32 → Int32 → Int32 → Int32 → Int32 → Option (Unit × ph_T)
  | 0, _, _, _, _, _, _, _ => none
  | fu + 1, φ, x0, x1, x2, x3, x4, x5 =>
    if x3 < x5 then
      f_Ref_moveAnswer_L71 Γ  φ x0 x1 x2 x4
    else
      if x4 = (-1 : Int32) then
        @ite _ (Γ x0 = .inr 12) _ (
        Option.bind (φ.2.2 x0 54) fun a47 =>
        Option.bind (gA Γ a47 0) fun N48 =>
        Option.bind (ix x1 N48) fun k49 =>
        @ite _ (x3 = 0) _ none (
        Option.bind (f_Ref_isFor Γ φ x0 (((φ.1 a47 k49) + x5) - ((φ.1 a47 k49) + x5) / x3 * x3) (2 : Int32) x1) fun q51 =>
        if q51.1 = 0 then
          f_Ref_moveAnswer_L63 Γ (f_Ref_moveAnswer_L21 Γ  fu) q51.2 x0 x1 x2 x3 x5 (-1 : Int32)
        else
          f_Ref_moveAnswer_L63 Γ (f_Ref_moveAnswer_L21 Γ  fu) q51.2 x0 x1 x2 x3 x5 (((φ.1 a47 k49) + x5) - ((φ.1 a47 k49) + x5) / x3 * x3)
        )
        ) none
      else
        f_Ref_moveAnswer_L71 Γ  φ x0 x1 x2 x4
set_option maxRecDepth 100000 in
set_option maxHeartbeats 4000000 in
theorem p_Ref_moveAnswer_L21 {w : jw_T} (hw : jok w) {Γ : gm_T} {n : Nat} (hG : gd w Γ n)  : ∀ (fu : Nat) {x : Bool} {φ : ph_T} {x0 : Nat} {x1 : Int32} {x2 : Int32} {x3 : Int32} {x4 : Int32} {x5 : Int32} {q : Unit × ph_T}, f_Ref_moveAnswer_L21 Γ  fu φ x0 x1 x2 x3 x4 x5 = some q → J w M_Ref_moveAnswer 21 [some (.ref x0), some (.int x1), some (.int x2), some (.int x3), some (.int x4), some (.int x5), none, none, none] [] (pic Γ φ) n x 0 0 (fq Γ n (.inl none) q.2) := by
  intro fu
  induction fu with
  | zero =>
    intro x φ x0 x1 x2 x3 x4 x5 q H
    cases H
  | succ fu ih =>
    intro x φ x0 x1 x2 x3 x4 x5 q H
    unfold f_Ref_moveAnswer_L21 at H
    refine J_iload d_Ref_moveAnswer_21 rfl ?_
    refine J_iload_n d_Ref_moveAnswer_23 rfl ?_
    refine J_icmp_gt (tgt := 71) d_Ref_moveAnswer_24 (by decide) ?_ ?_
    · intro c54
      rw [if_pos c54] at H
      refine J.drop [true, true, true, false, true, false, false, false, false] rfl ?_
      exact p_Ref_moveAnswer_L71 hw hG  H
    · intro c54
      rw [if_neg c54] at H
      refine J_iload d_Ref_moveAnswer_27 rfl ?_
      refine J_iconst (v := -1) d_Ref_moveAnswer_29 (by decide) ?_
      refine J_icmp_ne (tgt := 71) d_Ref_moveAnswer_30 (by decide) ?_ ?_
      · intro c53
        rw [if_neg c53] at H
        refine J.drop [true, true, true, false, true, false, false, false, false] rfl ?_
        exact p_Ref_moveAnswer_L71 hw hG  H
      · intro c53
        rw [if_pos c53] at H
        refine J_aload_n d_Ref_moveAnswer_33 rfl ?_
        have g46 : Γ x0 = .inr 12 := by
          apply Classical.byContradiction
          intro q9
          rw [if_neg q9] at H
          cases H
        rw [if_pos g46] at H
        refine F_getR (ci := 12) (k := 54) hG (cf_Ref hw) (fl_Ref_145 hw) (by decide) (by decide) rfl d_Ref_moveAnswer_34 g46 ?_
        refine J_iload_n d_Ref_moveAnswer_37 rfl ?_
        obtain ⟨a47, ha47, H⟩ := Option.bind_eq_some_iff.mp H
        rw [j_rf ha47]
        obtain ⟨N48, hN48, H⟩ := Option.bind_eq_some_iff.mp H
        obtain ⟨k49, hk49, H⟩ := Option.bind_eq_some_iff.mp H
        refine F_iald k49 hw hG d_Ref_moveAnswer_38 (gA_some hN48) (ix_some hk49) ?_
        refine J_iload d_Ref_moveAnswer_39 rfl ?_
        refine J_iadd d_Ref_moveAnswer_41 ?_
        refine J_iload_n d_Ref_moveAnswer_42 rfl ?_
        have h50 : ¬ x3 = 0 := by
          intro q9
          rw [if_pos q9] at H
          cases H
        rw [if_neg h50] at H
        refine J_irem d_Ref_moveAnswer_43 h50 ?_
        refine J_istore d_Ref_moveAnswer_44 (Nat.le_of_ble_eq_true rfl) ?_
        refine J.ls (ls' := [some (.ref x0), some (.int x1), some (.int x2), some (.int x3), some (.int x4), some (.int x5), some (.int (((φ.1 a47 k49) + x5) - ((φ.1 a47 k49) + x5) / x3 * x3)), none, none]) rfl ?_
        refine J_aload_n d_Ref_moveAnswer_46 rfl ?_
        refine J_iload d_Ref_moveAnswer_47 rfl ?_
        refine J_iconst (v := 2) d_Ref_moveAnswer_49 (by decide) ?_
        refine J_iload_n d_Ref_moveAnswer_50 rfl ?_
        obtain ⟨q51, hq51, H⟩ := Option.bind_eq_some_iff.mp H
        refine J_callV (kc := 0) (ks := 0) (kc' := 0) (ks' := 0) (a := x0) (ci := 12) (as := [.int (((φ.1 a47 k49) + x5) - ((φ.1 a47 k49) + x5) / x3 * x3), .int (2 : Int32), .int x1]) (st := []) (mf_Ref_isFor hw) (mv_Ref_556 hw) d_Ref_moveAnswer_51 ln_Ref_isFor (by decide) (by first | exact Nat.le_of_ble_eq_true rfl | (simp only [List.map_cons, List.map_nil, List.sum_cons, List.sum_nil, va_rf_cat]; exact Nat.le_of_ble_eq_true rfl)) rfl ((hG _).1 _ g46 (by decide)).1 ((hG _).1 _ g46 (by decide)).2 (by unfold pic; rw [g46]; rfl) (jcl_at hw rfl) rfl (p_Ref_isFor hw hG hq51) ?_ (fun E h' n' x' e1 => by cases e1.1)
        intro v9 h9 n9 x9 e9
        obtain ⟨e91, e92, e93⟩ := e9
        cases e91
        subst e92
        subst e93
        clear x
        rename Bool => x
        show J _ _ _ _ (_ :: _) _ _ _ _ _ _
        refine J_if_eq (tgt := 62) d_Ref_moveAnswer_54 (by decide) ?_ ?_
        · intro c52
          rw [if_pos c52] at H
          refine J_iconst (v := -1) d_Ref_moveAnswer_62 (by decide) ?_
          refine J.drop [true, true, true, true, false, true, false, false, false] rfl ?_
          exact p_Ref_moveAnswer_L63 hw hG ih H
        · intro c52
          rw [if_neg c52] at H
          refine J_iload d_Ref_moveAnswer_57 rfl ?_
          refine J_goto (tgt := 63) d_Ref_moveAnswer_59 (by decide) ?_
          refine J.drop [true, true, true, true, false, true, false, false, false] rfl ?_
          exact p_Ref_moveAnswer_L63 hw hG ih H
def f_Ref_moveAnswer (Γ : gm_T) (φ : ph_T) (this : Nat) (p0 : Int32) : Option (Unit × ph_T) :=
  @ite _ (Γ this = .inr 12) _ (
  Option.bind (f_Ref_rowOf Γ φ this (0 : Int32) p0 (2 : Int32)) fun q56 =>
  f_Ref_moveAnswer_L21 Γ  jF q56.2 this p0 q56.1 ((q56.2.1 this 2) + (1 : Int32)) (-1 : Int32) (1 : Int32)
  ) none
set_option maxRecDepth 100000 in
set_option maxHeartbeats 4000000 in
theorem p_Ref_moveAnswer {w : jw_T} (hw : jok w) {Γ : gm_T} {n : Nat} (hG : gd w Γ n) {x : Bool} {φ : ph_T} {this : Nat} {p0 : Int32} {q : Unit × ph_T} (H : f_Ref_moveAnswer Γ φ this p0 = some q) : jc w M_Ref_moveAnswer [.ref this, .int p0] (pic Γ φ) n x 0 0 (fq Γ n (.inl none) q.2) := by
  refine jc.of (by simp only [jent_r, jent_i, jent_l, jent_a, jent_0]; exact Nat.le_of_ble_eq_true rfl) ?_
  have hls : jents [.ref this, .int p0] (jm_nL M_Ref_moveAnswer) = [some (.ref this), some (.int p0), none, none, none, none, none, none, none] := by simp only [jents, jent_r, jent_i, jent_l, jent_a, jent_0]; rfl
  rw [hls]
  clear hls
  unfold f_Ref_moveAnswer at H
  refine J_aload_n d_Ref_moveAnswer_0 rfl ?_
  refine J_iconst (v := 0) d_Ref_moveAnswer_1 (by decide) ?_
  refine J_iload_n d_Ref_moveAnswer_2 rfl ?_
  refine J_iconst (v := 2) d_Ref_moveAnswer_3 (by decide) ?_
  have g55 : Γ this = .inr 12 := by
    apply Classical.byContradiction
    intro q9
    rw [if_neg q9] at H
    cases H
  rw [if_pos g55] at H
  obtain ⟨q56, hq56, H⟩ := Option.bind_eq_some_iff.mp H
  refine J_callV (kc := 0) (ks := 0) (kc' := 0) (ks' := 0) (a := this) (ci := 12) (as := [.int (0 : Int32), .int p0, .int (2 : Int32)]) (st := []) (mf_Ref_rowOf hw) (mv_Ref_388 hw) d_Ref_moveAnswer_4 ln_Ref_rowOf (by decide) (by first | exact Nat.le_of_ble_eq_true rfl | (simp only [List.map_cons, List.map_nil, List.sum_cons, List.sum_nil, va_rf_cat]; exact Nat.le_of_ble_eq_true rfl)) rfl ((hG _).1 _ g55 (by decide)).1 ((hG _).1 _ g55 (by decide)).2 (by unfold pic; rw [g55]; rfl) (jcl_at hw rfl) rfl (p_Ref_rowOf hw hG hq56) ?_ (fun E h' n' x' e1 => by cases e1.1)
  intro v9 h9 n9 x9 e9
  obtain ⟨e91, e92, e93⟩ := e9
  cases e91
  subst e92
  subst e93
  clear x
  rename Bool => x
  show J _ _ _ _ (_ :: _) _ _ _ _ _ _
  refine J_istore_n d_Ref_moveAnswer_7 (Nat.le_of_ble_eq_true rfl) ?_
  refine J.ls (ls' := [some (.ref this), some (.int p0), some (.int q56.1), none, none, none, none, none, none]) rfl ?_
  refine J_aload_n d_Ref_moveAnswer_8 rfl ?_
  refine F_getI (ci := 12) (k := 2) hG (cf_Ref hw) (fl_Ref_294 hw) (by decide) (by decide) rfl d_Ref_moveAnswer_9 g55 ?_
  refine J_iconst (v := 1) d_Ref_moveAnswer_12 (by decide) ?_
  refine J_iadd d_Ref_moveAnswer_13 ?_
  refine J_istore_n d_Ref_moveAnswer_14 (Nat.le_of_ble_eq_true rfl) ?_
  refine J.ls (ls' := [some (.ref this), some (.int p0), some (.int q56.1), some (.int ((q56.2.1 this 2) + (1 : Int32))), none, none, none, none, none]) rfl ?_
  refine J_iconst (v := -1) d_Ref_moveAnswer_15 (by decide) ?_
  refine J_istore d_Ref_moveAnswer_16 (Nat.le_of_ble_eq_true rfl) ?_
  refine J.ls (ls' := [some (.ref this), some (.int p0), some (.int q56.1), some (.int ((q56.2.1 this 2) + (1 : Int32))), some (.int (-1 : Int32)), none, none, none, none]) rfl ?_
  refine J_iconst (v := 1) d_Ref_moveAnswer_18 (by decide) ?_
  refine J_istore d_Ref_moveAnswer_19 (Nat.le_of_ble_eq_true rfl) ?_
  refine J.ls (ls' := [some (.ref this), some (.int p0), some (.int q56.1), some (.int ((q56.2.1 this 2) + (1 : Int32))), some (.int (-1 : Int32)), some (.int (1 : Int32)), none, none, none]) rfl ?_
  refine J.drop [true, true, true, true, true, true, false, false, false] rfl ?_
  exact p_Ref_moveAnswer_L21 hw hG  _ H
