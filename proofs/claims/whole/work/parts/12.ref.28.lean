theorem ln_Ref_moveBeat : (parseMethodDescriptor y_Ref_moveBeat.desc).map (fun q => q.parameters.length) = some 1 := by decide +kernel
def f_Ref_moveBeat_L268 (Γ : gm_T)  : Nat → ph_T → Nat → Int32 → Option (Unit × ph_T)
  | 0, _, _, _ => none
  | fu + 1, φ, x0, x8 =>
    @ite _ (Γ x0 = .inr 12) _ (
    if (φ.1 x0 51) ≤ x8 then
      some ((), φ)
    else
      Option.bind (φ.2.2 x0 48) fun a3 =>
      Option.bind (gA Γ a3 0) fun N4 =>
      Option.bind (ix (x8 + (1 : Int32)) N4) fun k5 =>
      Option.bind (gA Γ a3 0) fun N6 =>
      Option.bind (ix x8 N6) fun k7 =>
      Option.bind (φ.2.2 x0 49) fun a8 =>
      Option.bind (gA Γ a8 0) fun N9 =>
      Option.bind (ix (x8 + (1 : Int32)) N9) fun k10 =>
      Option.bind (gA Γ a8 0) fun N11 =>
      Option.bind (ix x8 N11) fun k12 =>
      Option.bind (φ.2.2 x0 50) fun a13 =>
      Option.bind (gA Γ a13 0) fun N14 =>
      Option.bind (ix (x8 + (1 : Int32)) N14) fun k15 =>
      Option.bind (gA Γ a13 0) fun N16 =>
      Option.bind (ix x8 N16) fun k17 =>
      (f_Ref_moveBeat_L268 Γ  fu) (uI (uI (uI φ a3 k7 (φ.1 a3 k5)) a8 k12 ((uI φ a3 k7 (φ.1 a3 k5)).1 a8 k10)) a13 k17 ((uI (uI φ a3 k7 (φ.1 a3 k5)) a8 k12 ((uI φ a3 k7 (φ.1 a3 k5)).1 a8 k10)).1 a13 k15)) x0 (x8 + (1 : Int32))
    ) none
set_option maxRecDepth 100000 in
set_option maxHeartbeats 4000000 in
theorem p_Ref_moveBeat_L268 {w : jw_T} (hw : jok w) {Γ : gm_T} {n : Nat} (hG : gd w Γ n)  : ∀ (fu : Nat) {x : Bool} {φ : ph_T} {x0 : Nat} {x8 : Int32} {q : Unit × ph_T}, f_Ref_moveBeat_L268 Γ  fu φ x0 x8 = some q → J w M_Ref_moveBeat 268 [some (.ref x0), none, none, none, none, none, none, none, some (.int x8)] [] (pic Γ φ) n x 0 0 (fq Γ n (.inl none) q.2) := by
  intro fu
  induction fu with
  | zero =>
    intro x φ x0 x8 q H
    cases H
  | succ fu ih =>
    intro x φ x0 x8 q H
    unfold f_Ref_moveBeat_L268 at H
    refine J_iload d_Ref_moveBeat_268 rfl ?_
    refine J_aload_n d_Ref_moveBeat_270 rfl ?_
    have g2 : Γ x0 = .inr 12 := by
      apply Classical.byContradiction
      intro q9
      rw [if_neg q9] at H
      cases H
    rw [if_pos g2] at H
    refine F_getI (ci := 12) (k := 51) hG (cf_Ref hw) (fl_Ref_529 hw) (by decide) (by decide) rfl d_Ref_moveBeat_271 g2 ?_
    refine J_icmp_ge (tgt := 331) d_Ref_moveBeat_274 (by decide) ?_ ?_
    · intro c18
      rw [if_pos c18] at H
      have H := Option.some.inj H
      subst H
      exact J_vret (st := []) d_Ref_moveBeat_331 rfl ⟨rfl, rfl, rfl⟩
    · intro c18
      rw [if_neg c18] at H
      refine J_aload_n d_Ref_moveBeat_277 rfl ?_
      refine F_getR (ci := 12) (k := 48) hG (cf_Ref hw) (fl_Ref_130 hw) (by decide) (by decide) rfl d_Ref_moveBeat_278 g2 ?_
      refine J_iload d_Ref_moveBeat_281 rfl ?_
      refine J_aload_n d_Ref_moveBeat_283 rfl ?_
      refine F_getR (ci := 12) (k := 48) hG (cf_Ref hw) (fl_Ref_130 hw) (by decide) (by decide) rfl d_Ref_moveBeat_284 g2 ?_
      refine J_iload d_Ref_moveBeat_287 rfl ?_
      refine J_iconst (v := 1) d_Ref_moveBeat_289 (by decide) ?_
      refine J_iadd d_Ref_moveBeat_290 ?_
      obtain ⟨a3, ha3, H⟩ := Option.bind_eq_some_iff.mp H
      rw [j_rf ha3]
      obtain ⟨N4, hN4, H⟩ := Option.bind_eq_some_iff.mp H
      obtain ⟨k5, hk5, H⟩ := Option.bind_eq_some_iff.mp H
      refine F_iald k5 hw hG d_Ref_moveBeat_291 (gA_some hN4) (ix_some hk5) ?_
      obtain ⟨N6, hN6, H⟩ := Option.bind_eq_some_iff.mp H
      obtain ⟨k7, hk7, H⟩ := Option.bind_eq_some_iff.mp H
      refine F_iast k7 hw hG d_Ref_moveBeat_292 (gA_some hN6) (ix_some hk7) ?_
      refine J_aload_n d_Ref_moveBeat_293 rfl ?_
      refine F_getR (ci := 12) (k := 49) hG (cf_Ref hw) (fl_Ref_133 hw) (by decide) (by decide) rfl d_Ref_moveBeat_294 g2 ?_
      show J _ _ _ _ (va_rf (φ.2.2 x0 49) :: _) _ _ _ _ _ _
      refine J_iload d_Ref_moveBeat_297 rfl ?_
      refine J_aload_n d_Ref_moveBeat_299 rfl ?_
      refine F_getR (ci := 12) (k := 49) hG (cf_Ref hw) (fl_Ref_133 hw) (by decide) (by decide) rfl d_Ref_moveBeat_300 g2 ?_
      show J _ _ _ _ (va_rf (φ.2.2 x0 49) :: _) _ _ _ _ _ _
      refine J_iload d_Ref_moveBeat_303 rfl ?_
      refine J_iconst (v := 1) d_Ref_moveBeat_305 (by decide) ?_
      refine J_iadd d_Ref_moveBeat_306 ?_
      obtain ⟨a8, ha8, H⟩ := Option.bind_eq_some_iff.mp H
      rw [j_rf ha8]
      obtain ⟨N9, hN9, H⟩ := Option.bind_eq_some_iff.mp H
      obtain ⟨k10, hk10, H⟩ := Option.bind_eq_some_iff.mp H
      refine F_iald k10 hw hG d_Ref_moveBeat_307 (gA_some hN9) (ix_some hk10) ?_
      obtain ⟨N11, hN11, H⟩ := Option.bind_eq_some_iff.mp H
      obtain ⟨k12, hk12, H⟩ := Option.bind_eq_some_iff.mp H
      refine F_iast k12 hw hG d_Ref_moveBeat_308 (gA_some hN11) (ix_some hk12) ?_
      refine J_aload_n d_Ref_moveBeat_309 rfl ?_
      refine F_getR (ci := 12) (k := 50) hG (cf_Ref hw) (fl_Ref_136 hw) (by decide) (by decide) rfl d_Ref_moveBeat_310 g2 ?_
      show J _ _ _ _ (va_rf (φ.2.2 x0 50) :: _) _ _ _ _ _ _
      refine J_iload d_Ref_moveBeat_313 rfl ?_
      refine J_aload_n d_Ref_moveBeat_315 rfl ?_
      refine F_getR (ci := 12) (k := 50) hG (cf_Ref hw) (fl_Ref_136 hw) (by decide) (by decide) rfl d_Ref_moveBeat_316 g2 ?_
      show J _ _ _ _ (va_rf (φ.2.2 x0 50) :: _) _ _ _ _ _ _
      refine J_iload d_Ref_moveBeat_319 rfl ?_
      refine J_iconst (v := 1) d_Ref_moveBeat_321 (by decide) ?_
      refine J_iadd d_Ref_moveBeat_322 ?_
      obtain ⟨a13, ha13, H⟩ := Option.bind_eq_some_iff.mp H
      rw [j_rf ha13]
      obtain ⟨N14, hN14, H⟩ := Option.bind_eq_some_iff.mp H
      obtain ⟨k15, hk15, H⟩ := Option.bind_eq_some_iff.mp H
      refine F_iald k15 hw hG d_Ref_moveBeat_323 (gA_some hN14) (ix_some hk15) ?_
      obtain ⟨N16, hN16, H⟩ := Option.bind_eq_some_iff.mp H
      obtain ⟨k17, hk17, H⟩ := Option.bind_eq_some_iff.mp H
      refine F_iast k17 hw hG d_Ref_moveBeat_324 (gA_some hN16) (ix_some hk17) ?_
      refine J_iinc (v := x8 + 1) d_Ref_moveBeat_325 rfl (by rw [show Int32.ofInt 1 = (1 : Int32) from by decide]) ?_
      refine J.ls (ls' := [some (.ref x0), none, none, none, none, none, none, none, some (.int (x8 + (1 : Int32)))]) rfl ?_
      refine J_goto (tgt := 268) d_Ref_moveBeat_328 (by decide) ?_
      refine J.drop [true, false, false, false, false, false, false, false, true] rfl ?_
      exact ih H
def f_Ref_moveBeat_L248 (Γ : gm_T) (Kc222 : ph_T → Nat → Int32 → Int32 → Int32 → Option (Unit × ph_T)) (φ : ph_T) (x0 : Nat) (x1 : Int32) (x6 : Int32) (x7 : Int32) : Option (Unit × ph_T) :=
  Kc222 φ x0 x1 x6 (x7 + (1 : Int32))
set_option maxRecDepth 100000 in
set_option maxHeartbeats 4000000 in
theorem p_Ref_moveBeat_L248 {w : jw_T} (hw : jok w) {Γ : gm_T} {n : Nat} (hG : gd w Γ n) {Kc222 : ph_T → Nat → Int32 → Int32 → Int32 → Option (Unit × ph_T)} (hKc222 : ∀ {x : Bool} {φ : ph_T} {x0 : Nat} {x1 : Int32} {x6 : Int32} {x7 : Int32} {q : Unit × ph_T}, Kc222 φ x0 x1 x6 x7 = some q → J w M_Ref_moveBeat 222 [some (.ref x0), some (.int x1), none, none, none, none, some (.int x6), some (.int x7), none] [] (pic Γ φ) n x 0 0 (fq Γ n (.inl none) q.2)) {x : Bool} {φ : ph_T} {x0 : Nat} {x1 : Int32} {x6 : Int32} {x7 : Int32} {q : Unit × ph_T} (H : f_Ref_moveBeat_L248 Γ Kc222 φ x0 x1 x6 x7 = some q) : J w M_Ref_moveBeat 248 [some (.ref x0), some (.int x1), none, none, none, none, some (.int x6), some (.int x7), none] [] (pic Γ φ) n x 0 0 (fq Γ n (.inl none) q.2) := by
  unfold f_Ref_moveBeat_L248 at H
  refine J_iinc (v := x7 + 1) d_Ref_moveBeat_248 rfl (by rw [show Int32.ofInt 1 = (1 : Int32) from by decide]) ?_
  refine J.ls (ls' := [some (.ref x0), some (.int x1), none, none, none, none, some (.int x6), some (.int (x7 + (1 : Int32))), none]) rfl ?_
  refine J_goto (tgt := 222) d_Ref_moveBeat_251 (by decide) ?_
  refine J.drop [true, true, false, false, false, false, true, true, false] rfl ?_
  exact hKc222 H
def f_Ref_moveBeat_L222 (Γ : gm_T)  : Nat → ph_T → Nat → Int32 → Int32 → Int32 → Option (Unit × ph_T)
  | 0, _, _, _, _, _ => none
  | fu + 1, φ, x0, x1, x6, x7 =>
    @ite _ (Γ x0 = .inr 12) _ (
    Option.bind (φ.2.2 x0 48) fun a20 =>
    Option.bind (gA Γ a20 0) fun N21 =>
    Option.bind (ix x7 N21) fun k22 =>
    if (φ.1 a20 k22) = x1 then
      Option.bind (φ.2.2 x0 49) fun a23 =>
      Option.bind (gA Γ a23 0) fun N24 =>
      Option.bind (ix x7 N24) fun k25 =>
      if (φ.1 a23 k25) = (x6 &&& (15 : Int32)) then
        f_Ref_moveBeat_L268 Γ  jF (uI φ x0 51 ((φ.1 x0 51) - (1 : Int32))) x0 x7
      else
        f_Ref_moveBeat_L248 Γ (f_Ref_moveBeat_L222 Γ  fu) φ x0 x1 x6 x7
    else
      f_Ref_moveBeat_L248 Γ (f_Ref_moveBeat_L222 Γ  fu) φ x0 x1 x6 x7
    ) none
set_option maxRecDepth 100000 in
set_option maxHeartbeats 4000000 in
theorem p_Ref_moveBeat_L222 {w : jw_T} (hw : jok w) {Γ : gm_T} {n : Nat} (hG : gd w Γ n)  : ∀ (fu : Nat) {x : Bool} {φ : ph_T} {x0 : Nat} {x1 : Int32} {x6 : Int32} {x7 : Int32} {q : Unit × ph_T}, f_Ref_moveBeat_L222 Γ  fu φ x0 x1 x6 x7 = some q → J w M_Ref_moveBeat 222 [some (.ref x0), some (.int x1), none, none, none, none, some (.int x6), some (.int x7), none] [] (pic Γ φ) n x 0 0 (fq Γ n (.inl none) q.2) := by
  intro fu
  induction fu with
  | zero =>
    intro x φ x0 x1 x6 x7 q H
    cases H
  | succ fu ih =>
    intro x φ x0 x1 x6 x7 q H
    unfold f_Ref_moveBeat_L222 at H
    refine J_aload_n d_Ref_moveBeat_222 rfl ?_
    have g19 : Γ x0 = .inr 12 := by
      apply Classical.byContradiction
      intro q9
      rw [if_neg q9] at H
      cases H
    rw [if_pos g19] at H
    refine F_getR (ci := 12) (k := 48) hG (cf_Ref hw) (fl_Ref_130 hw) (by decide) (by decide) rfl d_Ref_moveBeat_223 g19 ?_
    refine J_iload d_Ref_moveBeat_226 rfl ?_
    obtain ⟨a20, ha20, H⟩ := Option.bind_eq_some_iff.mp H
    rw [j_rf ha20]
    obtain ⟨N21, hN21, H⟩ := Option.bind_eq_some_iff.mp H
    obtain ⟨k22, hk22, H⟩ := Option.bind_eq_some_iff.mp H
    refine F_iald k22 hw hG d_Ref_moveBeat_228 (gA_some hN21) (ix_some hk22) ?_
    refine J_iload_n d_Ref_moveBeat_229 rfl ?_
    refine J_icmp_ne (tgt := 248) d_Ref_moveBeat_230 (by decide) ?_ ?_
    · intro c27
      rw [if_neg c27] at H
      refine J.drop [true, true, false, false, false, false, true, true, false] rfl ?_
      exact p_Ref_moveBeat_L248 hw hG ih H
    · intro c27
      rw [if_pos c27] at H
      refine J_aload_n d_Ref_moveBeat_233 rfl ?_
      refine F_getR (ci := 12) (k := 49) hG (cf_Ref hw) (fl_Ref_133 hw) (by decide) (by decide) rfl d_Ref_moveBeat_234 g19 ?_
      refine J_iload d_Ref_moveBeat_237 rfl ?_
      obtain ⟨a23, ha23, H⟩ := Option.bind_eq_some_iff.mp H
      rw [j_rf ha23]
      obtain ⟨N24, hN24, H⟩ := Option.bind_eq_some_iff.mp H
      obtain ⟨k25, hk25, H⟩ := Option.bind_eq_some_iff.mp H
      refine F_iald k25 hw hG d_Ref_moveBeat_239 (gA_some hN24) (ix_some hk25) ?_
      refine J_iload d_Ref_moveBeat_240 rfl ?_
      refine J_bipush (v := 15) d_Ref_moveBeat_242 (by decide) ?_
      refine J_iand d_Ref_moveBeat_244 ?_
      refine J_icmp_eq (tgt := 254) d_Ref_moveBeat_245 (by decide) ?_ ?_
      · intro c26
        rw [if_pos c26] at H
        refine J_aload_n d_Ref_moveBeat_254 rfl ?_
        refine J_dup d_Ref_moveBeat_255 rfl ?_
        refine F_getI (ci := 12) (k := 51) hG (cf_Ref hw) (fl_Ref_529 hw) (by decide) (by decide) rfl d_Ref_moveBeat_256 g19 ?_
        refine J_iconst (v := 1) d_Ref_moveBeat_259 (by decide) ?_
        refine J_isub d_Ref_moveBeat_260 ?_
        refine F_putI (ci := 12) (k := 51) hG (cf_Ref hw) (fl_Ref_529 hw) (by decide) (by decide) rfl d_Ref_moveBeat_261 rfl rfl rfl g19 ?_
        refine J_iload d_Ref_moveBeat_264 rfl ?_
        refine J_istore d_Ref_moveBeat_266 (Nat.le_of_ble_eq_true rfl) ?_
        refine J.ls (ls' := [some (.ref x0), some (.int x1), none, none, none, none, some (.int x6), some (.int x7), some (.int x7)]) rfl ?_
        refine J.drop [true, false, false, false, false, false, false, false, true] rfl ?_
        exact p_Ref_moveBeat_L268 hw hG  _ H
      · intro c26
        rw [if_neg c26] at H
        refine J.drop [true, true, false, false, false, false, true, true, false] rfl ?_
        exact p_Ref_moveBeat_L248 hw hG ih H
def f_Ref_moveBeat_L208 (Γ : gm_T)  (φ : ph_T) (x0 : Nat) (x1 : Int32) (x6 : Int32) (y0 : Int32) (y1 : Int32) (y2 : Option Nat) : Option (Unit × ph_T) :=
  Option.bind y2 fun a28 =>
  Option.bind (gA Γ a28 2) fun N29 =>
  Option.bind (ix y1 N29) fun k30 =>
  @ite _ (y0 = 0 ∨ y0 = 1) _ (
  @ite _ (Γ x0 = .inr 12) _ (
  Option.bind (φ.2.2 x0 56) fun a33 =>
  Option.bind (gA Γ a33 2) fun N34 =>
  Option.bind (ix x1 N34) fun k35 =>
  if ((uI φ a28 k30 y0).1 a33 k35) = 0 then
    f_Ref_moveBeat_L222 Γ  jF (uI φ a28 k30 y0) x0 x1 x6 (0 : Int32)
  else
    some ((), (uI φ a28 k30 y0))
  ) none
  ) none
set_option maxRecDepth 100000 in
set_option maxHeartbeats 4000000 in
theorem p_Ref_moveBeat_L208 {w : jw_T} (hw : jok w) {Γ : gm_T} {n : Nat} (hG : gd w Γ n)  {x : Bool} {φ : ph_T} {x0 : Nat} {x1 : Int32} {x6 : Int32} {y0 : Int32} {y1 : Int32} {y2 : Option Nat} {q : Unit × ph_T} (H : f_Ref_moveBeat_L208 Γ  φ x0 x1 x6 y0 y1 y2 = some q) : J w M_Ref_moveBeat 208 [some (.ref x0), some (.int x1), none, none, none, none, some (.int x6), none, none] [.int y0, .int y1, va_rf y2] (pic Γ φ) n x 0 0 (fq Γ n (.inl none) q.2) := by
  unfold f_Ref_moveBeat_L208 at H
  obtain ⟨a28, ha28, H⟩ := Option.bind_eq_some_iff.mp H
  rw [j_rf ha28]
  obtain ⟨N29, hN29, H⟩ := Option.bind_eq_some_iff.mp H
  obtain ⟨k30, hk30, H⟩ := Option.bind_eq_some_iff.mp H
  have z31 : y0 = 0 ∨ y0 = 1 := by
    apply Classical.byContradiction
    intro q9
    rw [if_neg q9] at H
    cases H
  rw [if_pos z31] at H
  refine F_zast k30 hw hG d_Ref_moveBeat_208 (gA_some hN29) (ix_some hk30) z31 ?_
  refine J_aload_n d_Ref_moveBeat_209 rfl ?_
  have g32 : Γ x0 = .inr 12 := by
    apply Classical.byContradiction
    intro q9
    rw [if_neg q9] at H
    cases H
  rw [if_pos g32] at H
  refine F_getR (ci := 12) (k := 56) hG (cf_Ref hw) (fl_Ref_151 hw) (by decide) (by decide) rfl d_Ref_moveBeat_210 g32 ?_
  show J _ _ _ _ (va_rf (φ.2.2 x0 56) :: _) _ _ _ _ _ _
  refine J_iload_n d_Ref_moveBeat_213 rfl ?_
  obtain ⟨a33, ha33, H⟩ := Option.bind_eq_some_iff.mp H
  rw [j_rf ha33]
  obtain ⟨N34, hN34, H⟩ := Option.bind_eq_some_iff.mp H
  obtain ⟨k35, hk35, H⟩ := Option.bind_eq_some_iff.mp H
  refine F_zald k35 hw hG d_Ref_moveBeat_214 (gA_some hN34) (ix_some hk35) ?_
  refine J_if_eq (tgt := 219) d_Ref_moveBeat_215 (by decide) ?_ ?_
  · intro c36
    rw [if_pos c36] at H
    refine J_iconst (v := 0) d_Ref_moveBeat_219 (by decide) ?_
    refine J_istore d_Ref_moveBeat_220 (Nat.le_of_ble_eq_true rfl) ?_
    refine J.ls (ls' := [some (.ref x0), some (.int x1), none, none, none, none, some (.int x6), some (.int (0 : Int32)), none]) rfl ?_
    refine J.drop [true, true, false, false, false, false, true, true, false] rfl ?_
    exact p_Ref_moveBeat_L222 hw hG  _ H
  · intro c36
    rw [if_neg c36] at H
    have H := Option.some.inj H
    subst H
    exact J_vret (st := []) d_Ref_moveBeat_218 rfl ⟨rfl, rfl, rfl⟩
def f_Ref_moveBeat_L128 (Γ : gm_T)  (φ : ph_T) : Option (Unit × ph_T) :=
  some ((), φ)
set_option maxRecDepth 100000 in
set_option maxHeartbeats 4000000 in
theorem p_Ref_moveBeat_L128 {w : jw_T} (hw : jok w) {Γ : gm_T} {n : Nat} (hG : gd w Γ n)  {x : Bool} {φ : ph_T} {q : Unit × ph_T} (H : f_Ref_moveBeat_L128 Γ  φ  = some q) : J w M_Ref_moveBeat 128 [none, none, none, none, none, none, none, none, none] [] (pic Γ φ) n x 0 0 (fq Γ n (.inl none) q.2) := by
  unfold f_Ref_moveBeat_L128 at H
  have H := Option.some.inj H
  subst H
  exact J_vret (st := []) d_Ref_moveBeat_128 rfl ⟨rfl, rfl, rfl⟩
def f_Ref_moveBeat_L114 (Γ : gm_T)  (φ : ph_T) (x0 : Nat) (x1 : Int32) (x2 : Int32) (x4 : Int32) : Option (Unit × ph_T) :=
  if x4 = (-1 : Int32) then
    f_Ref_moveBeat_L128 Γ  φ 
  else
    @ite _ (Γ x0 = .inr 12) _ (
    Option.bind (f_Ref_hasRoom Γ φ x0 x2) fun q38 =>
    if q38.1 = 0 then
      f_Ref_moveBeat_L128 Γ  q38.2 
    else
      Option.bind (f_Ref_rowOf Γ q38.2 x0 (1 : Int32) x4 (4 : Int32)) fun q39 =>
      Option.bind (q39.2.2.2 x0 40) fun a40 =>
      Option.bind (gA Γ a40 0) fun N41 =>
      Option.bind (ix ((4 : Int32) * q39.1) N41) fun k42 =>
      Option.bind (q39.2.2.2 x0 39) fun a43 =>
      Option.bind (gA Γ a43 1) fun N44 =>
      Option.bind (ix ((4 : Int32) * q39.1) N44) fun k45 =>
      Option.bind (f_Ref_put Γ q39.2 x0 x2 (q39.2.2.1 a43 k45) ((q39.2.1 a40 k42) - ((16 : Int32) * x1)) (q39.2.1 x0 6)) fun q46 =>
      Option.bind (f_Ref_take Γ q46.2 x0 q39.1) fun q47 =>
      Option.bind (q47.2.2.2 x0 55) fun a48 =>
      Option.bind (gA Γ a48 0) fun N49 =>
      Option.bind (ix x1 N49) fun k50 =>
      if (((q39.2.1 a40 k42) - ((16 : Int32) * x1)) &&& (256 : Int32)) = 0 then
        f_Ref_moveBeat_L208 Γ  (uI q47.2 a48 k50 x4) x0 x1 ((q39.2.1 a40 k42) - ((16 : Int32) * x1)) (1 : Int32) x1 (q47.2.2.2 x0 56)
      else
        f_Ref_moveBeat_L208 Γ  (uI q47.2 a48 k50 x4) x0 x1 ((q39.2.1 a40 k42) - ((16 : Int32) * x1)) (0 : Int32) x1 (q47.2.2.2 x0 56)
    ) none
set_option maxRecDepth 100000 in
set_option maxHeartbeats 4000000 in
theorem p_Ref_moveBeat_L114 {w : jw_T} (hw : jok w) {Γ : gm_T} {n : Nat} (hG : gd w Γ n)  {x : Bool} {φ : ph_T} {x0 : Nat} {x1 : Int32} {x2 : Int32} {x4 : Int32} {q : Unit × ph_T} (H : f_Ref_moveBeat_L114 Γ  φ x0 x1 x2 x4 = some q) : J w M_Ref_moveBeat 114 [some (.ref x0), some (.int x1), some (.int x2), none, some (.int x4), none, none, none, none] [] (pic Γ φ) n x 0 0 (fq Γ n (.inl none) q.2) := by
  unfold f_Ref_moveBeat_L114 at H
  refine J_iload d_Ref_moveBeat_114 rfl ?_
  refine J_iconst (v := -1) d_Ref_moveBeat_116 (by decide) ?_
  refine J_icmp_eq (tgt := 128) d_Ref_moveBeat_117 (by decide) ?_ ?_
  · intro c53
    rw [if_pos c53] at H
    refine J.drop [false, false, false, false, false, false, false, false, false] rfl ?_
    exact p_Ref_moveBeat_L128 hw hG  H
  · intro c53
    rw [if_neg c53] at H
    refine J_aload_n d_Ref_moveBeat_120 rfl ?_
    refine J_iload_n d_Ref_moveBeat_121 rfl ?_
    have g37 : Γ x0 = .inr 12 := by
      apply Classical.byContradiction
      intro q9
      rw [if_neg q9] at H
      cases H
    rw [if_pos g37] at H
    obtain ⟨q38, hq38, H⟩ := Option.bind_eq_some_iff.mp H
    refine J_callV (kc := 0) (ks := 0) (kc' := 0) (ks' := 0) (a := x0) (ci := 12) (as := [.int x2]) (st := []) (mf_Ref_hasRoom hw) (mv_Ref_392 hw) d_Ref_moveBeat_122 ln_Ref_hasRoom (by decide) (by first | exact Nat.le_of_ble_eq_true rfl | (simp only [List.map_cons, List.map_nil, List.sum_cons, List.sum_nil, va_rf_cat]; exact Nat.le_of_ble_eq_true rfl)) rfl ((hG _).1 _ g37 (by decide)).1 ((hG _).1 _ g37 (by decide)).2 (by unfold pic; rw [g37]; rfl) (jcl_at hw rfl) rfl (p_Ref_hasRoom hw hG hq38) ?_ (fun E h' n' x' e1 => by cases e1.1)
    intro v9 h9 n9 x9 e9
    obtain ⟨e91, e92, e93⟩ := e9
    cases e91
    subst e92
    subst e93
    clear x
    rename Bool => x
    show J _ _ _ _ (_ :: _) _ _ _ _ _ _
    refine J_if_ne (tgt := 129) d_Ref_moveBeat_125 (by decide) ?_ ?_
    · intro c52
      rw [if_neg c52] at H
      refine J_aload_n d_Ref_moveBeat_129 rfl ?_
      refine J_iconst (v := 1) d_Ref_moveBeat_130 (by decide) ?_
      refine J_iload d_Ref_moveBeat_131 rfl ?_
      refine J_iconst (v := 4) d_Ref_moveBeat_133 (by decide) ?_
      obtain ⟨q39, hq39, H⟩ := Option.bind_eq_some_iff.mp H
      refine J_callV (kc := 0) (ks := 0) (kc' := 0) (ks' := 0) (a := x0) (ci := 12) (as := [.int (1 : Int32), .int x4, .int (4 : Int32)]) (st := []) (mf_Ref_rowOf hw) (mv_Ref_388 hw) d_Ref_moveBeat_134 ln_Ref_rowOf (by decide) (by first | exact Nat.le_of_ble_eq_true rfl | (simp only [List.map_cons, List.map_nil, List.sum_cons, List.sum_nil, va_rf_cat]; exact Nat.le_of_ble_eq_true rfl)) rfl ((hG _).1 _ g37 (by decide)).1 ((hG _).1 _ g37 (by decide)).2 (by unfold pic; rw [g37]; rfl) (jcl_at hw rfl) rfl (p_Ref_rowOf hw hG hq39) ?_ (fun E h' n' x' e1 => by cases e1.1)
      intro v9 h9 n9 x9 e9
      obtain ⟨e91, e92, e93⟩ := e9
      cases e91
      subst e92
      subst e93
      clear x
      rename Bool => x
      show J _ _ _ _ (_ :: _) _ _ _ _ _ _
      refine J_istore d_Ref_moveBeat_137 (Nat.le_of_ble_eq_true rfl) ?_
      refine J.ls (ls' := [some (.ref x0), some (.int x1), some (.int x2), none, some (.int x4), some (.int q39.1), none, none, none]) rfl ?_
      refine J_aload_n d_Ref_moveBeat_139 rfl ?_
      refine F_getR (ci := 12) (k := 40) hG (cf_Ref hw) (fl_Ref_109 hw) (by decide) (by decide) rfl d_Ref_moveBeat_140 g37 ?_
      refine J_iconst (v := 4) d_Ref_moveBeat_143 (by decide) ?_
      refine J_iload d_Ref_moveBeat_144 rfl ?_
      refine J_imul d_Ref_moveBeat_146 ?_
      obtain ⟨a40, ha40, H⟩ := Option.bind_eq_some_iff.mp H
      rw [j_rf ha40]
      obtain ⟨N41, hN41, H⟩ := Option.bind_eq_some_iff.mp H
      obtain ⟨k42, hk42, H⟩ := Option.bind_eq_some_iff.mp H
      refine F_iald k42 hw hG d_Ref_moveBeat_147 (gA_some hN41) (ix_some hk42) ?_
      refine J_bipush (v := 16) d_Ref_moveBeat_148 (by decide) ?_
      refine J_iload_n d_Ref_moveBeat_150 rfl ?_
      refine J_imul d_Ref_moveBeat_151 ?_
      refine J_isub d_Ref_moveBeat_152 ?_
      refine J_istore d_Ref_moveBeat_153 (Nat.le_of_ble_eq_true rfl) ?_
      refine J.ls (ls' := [some (.ref x0), some (.int x1), some (.int x2), none, some (.int x4), some (.int q39.1), some (.int ((q39.2.1 a40 k42) - ((16 : Int32) * x1))), none, none]) rfl ?_
      refine J_aload_n d_Ref_moveBeat_155 rfl ?_
      refine J_iload_n d_Ref_moveBeat_156 rfl ?_
      refine J_aload_n d_Ref_moveBeat_157 rfl ?_
      refine F_getR (ci := 12) (k := 39) hG (cf_Ref hw) (fl_Ref_106 hw) (by decide) (by decide) rfl d_Ref_moveBeat_158 g37 ?_
      refine J_iconst (v := 4) d_Ref_moveBeat_161 (by decide) ?_
      refine J_iload d_Ref_moveBeat_162 rfl ?_
      refine J_imul d_Ref_moveBeat_164 ?_
      obtain ⟨a43, ha43, H⟩ := Option.bind_eq_some_iff.mp H
      rw [j_rf ha43]
      obtain ⟨N44, hN44, H⟩ := Option.bind_eq_some_iff.mp H
      obtain ⟨k45, hk45, H⟩ := Option.bind_eq_some_iff.mp H
      refine F_lald k45 hw hG d_Ref_moveBeat_165 (gA_some hN44) (ix_some hk45) ?_
      refine J_iload d_Ref_moveBeat_166 rfl ?_
      refine J_aload_n d_Ref_moveBeat_168 rfl ?_
      refine F_getI (ci := 12) (k := 6) hG (cf_Ref hw) (fl_Ref_348 hw) (by decide) (by decide) rfl d_Ref_moveBeat_169 g37 ?_
      obtain ⟨q46, hq46, H⟩ := Option.bind_eq_some_iff.mp H
      refine J_callV (kc := 0) (ks := 0) (kc' := 0) (ks' := 0) (a := x0) (ci := 12) (as := [.int x2, .long (q39.2.2.1 a43 k45), .int ((q39.2.1 a40 k42) - ((16 : Int32) * x1)), .int (q39.2.1 x0 6)]) (st := []) (mf_Ref_put hw) (mv_Ref_469 hw) d_Ref_moveBeat_172 ln_Ref_put (by decide) (by first | exact Nat.le_of_ble_eq_true rfl | (simp only [List.map_cons, List.map_nil, List.sum_cons, List.sum_nil, va_rf_cat]; exact Nat.le_of_ble_eq_true rfl)) rfl ((hG _).1 _ g37 (by decide)).1 ((hG _).1 _ g37 (by decide)).2 (by unfold pic; rw [g37]; rfl) (jcl_at hw rfl) rfl (p_Ref_put hw hG hq46) ?_ (fun E h' n' x' e1 => by cases e1.1)
      intro v9 h9 n9 x9 e9
      obtain ⟨e91, e92, e93⟩ := e9
      cases e91
      subst e92
      subst e93
      clear x
      rename Bool => x
      show J _ _ _ _ [] _ _ _ _ _ _
      refine J_aload_n d_Ref_moveBeat_175 rfl ?_
      refine J_iload d_Ref_moveBeat_176 rfl ?_
      obtain ⟨q47, hq47, H⟩ := Option.bind_eq_some_iff.mp H
      refine J_callV (kc := 0) (ks := 0) (kc' := 0) (ks' := 0) (a := x0) (ci := 12) (as := [.int q39.1]) (st := []) (mf_Ref_take hw) (mv_Ref_473 hw) d_Ref_moveBeat_178 ln_Ref_take (by decide) (by first | exact Nat.le_of_ble_eq_true rfl | (simp only [List.map_cons, List.map_nil, List.sum_cons, List.sum_nil, va_rf_cat]; exact Nat.le_of_ble_eq_true rfl)) rfl ((hG _).1 _ g37 (by decide)).1 ((hG _).1 _ g37 (by decide)).2 (by unfold pic; rw [g37]; rfl) (jcl_at hw rfl) rfl (p_Ref_take hw hG hq47) ?_ (fun E h' n' x' e1 => by cases e1.1)
      intro v9 h9 n9 x9 e9
      obtain ⟨e91, e92, e93⟩ := e9
      cases e91
      subst e92
      subst e93
      clear x
      rename Bool => x
      show J _ _ _ _ [] _ _ _ _ _ _
      refine J_aload_n d_Ref_moveBeat_181 rfl ?_
      refine F_getR (ci := 12) (k := 55) hG (cf_Ref hw) (fl_Ref_148 hw) (by decide) (by decide) rfl d_Ref_moveBeat_182 g37 ?_
      refine J_iload_n d_Ref_moveBeat_185 rfl ?_
      refine J_iload d_Ref_moveBeat_186 rfl ?_
      obtain ⟨a48, ha48, H⟩ := Option.bind_eq_some_iff.mp H
      rw [j_rf ha48]
      obtain ⟨N49, hN49, H⟩ := Option.bind_eq_some_iff.mp H
      obtain ⟨k50, hk50, H⟩ := Option.bind_eq_some_iff.mp H
      refine F_iast k50 hw hG d_Ref_moveBeat_188 (gA_some hN49) (ix_some hk50) ?_
      refine J_aload_n d_Ref_moveBeat_189 rfl ?_
      refine F_getR (ci := 12) (k := 56) hG (cf_Ref hw) (fl_Ref_151 hw) (by decide) (by decide) rfl d_Ref_moveBeat_190 g37 ?_
      show J _ _ _ _ (va_rf (q47.2.2.2 x0 56) :: _) _ _ _ _ _ _
      refine J_iload_n d_Ref_moveBeat_193 rfl ?_
      refine J_iload d_Ref_moveBeat_194 rfl ?_
      refine J_sipush (v := 256) d_Ref_moveBeat_196 (by decide) ?_
      refine J_iand d_Ref_moveBeat_199 ?_
      refine J_if_ne (tgt := 207) d_Ref_moveBeat_200 (by decide) ?_ ?_
      · intro c51
        rw [if_neg c51] at H
        refine J_iconst (v := 0) d_Ref_moveBeat_207 (by decide) ?_
        refine J.drop [true, true, false, false, false, false, true, false, false] rfl ?_
        exact p_Ref_moveBeat_L208 hw hG  H
      · intro c51
        rw [if_pos c51] at H
        refine J_iconst (v := 1) d_Ref_moveBeat_203 (by decide) ?_
        refine J_goto (tgt := 208) d_Ref_moveBeat_204 (by decide) ?_
        refine J.drop [true, true, false, false, false, false, true, false, false] rfl ?_
        exact p_Ref_moveBeat_L208 hw hG  H
    · intro c52
      rw [if_pos c52] at H
      refine J.drop [false, false, false, false, false, false, false, false, false] rfl ?_
      exact p_Ref_moveBeat_L128 hw hG  H
def f_Ref_moveBeat_L112 (Γ : gm_T)  (φ : ph_T) (x0 : Nat) (x1 : Int32) (x2 : Int32) (y0 : Int32) : Option (Unit × ph_T) :=
  f_Ref_moveBeat_L114 Γ  φ x0 x1 x2 y0
set_option maxRecDepth 100000 in
set_option maxHeartbeats 4000000 in
theorem p_Ref_moveBeat_L112 {w : jw_T} (hw : jok w) {Γ : gm_T} {n : Nat} (hG : gd w Γ n)  {x : Bool} {φ : ph_T} {x0 : Nat} {x1 : Int32} {x2 : Int32} {y0 : Int32} {q : Unit × ph_T} (H : f_Ref_moveBeat_L112 Γ  φ x0 x1 x2 y0 = some q) : J w M_Ref_moveBeat 112 [some (.ref x0), some (.int x1), some (.int x2), none, none, none, none, none, none] [.int y0] (pic Γ φ) n x 0 0 (fq Γ n (.inl none) q.2) := by
  unfold f_Ref_moveBeat_L112 at H
  refine J_istore d_Ref_moveBeat_112 (Nat.le_of_ble_eq_true rfl) ?_
  refine J.ls (ls' := [some (.ref x0), some (.int x1), some (.int x2), none, some (.int y0), none, none, none, none]) rfl ?_
  refine J.drop [true, true, true, false, true, false, false, false, false] rfl ?_
  exact p_Ref_moveBeat_L114 hw hG  H
def f_Ref_moveBeat_L71 (Γ : gm_T)  (φ : ph_T) (x0 : Nat) (x1 : Int32) (x2 : Int32) (x4 : Int32) : Option (Unit × ph_T) :=
  @ite _ (Γ x0 = .inr 12) _ (
  if (φ.1 x0 5) = 0 then
    f_Ref_moveBeat_L114 Γ  φ x0 x1 x2 x4
  else
    Option.bind (φ.2.2 x0 56) fun a55 =>
    Option.bind (gA Γ a55 2) fun N56 =>
    Option.bind (ix x1 N56) fun k57 =>
    if (φ.1 a55 k57) = 0 then
      f_Ref_moveBeat_L114 Γ  φ x0 x1 x2 x4
    else
      Option.bind (φ.2.2 x0 55) fun a58 =>
      Option.bind (gA Γ a58 0) fun N59 =>
      Option.bind (ix x1 N59) fun k60 =>
      Option.bind (f_Ref_isFor Γ φ x0 (φ.1 a58 k60) (4 : Int32) x1) fun q61 =>
      if q61.1 = 0 then
        f_Ref_moveBeat_L112 Γ  q61.2 x0 x1 x2 (-1 : Int32)
      else
        Option.bind (q61.2.2.2 x0 55) fun a62 =>
        Option.bind (gA Γ a62 0) fun N63 =>
        Option.bind (ix x1 N63) fun k64 =>
        f_Ref_moveBeat_L112 Γ  q61.2 x0 x1 x2 (q61.2.1 a62 k64)
  ) none
set_option maxRecDepth 100000 in
set_option maxHeartbeats 4000000 in
theorem p_Ref_moveBeat_L71 {w : jw_T} (hw : jok w) {Γ : gm_T} {n : Nat} (hG : gd w Γ n)  {x : Bool} {φ : ph_T} {x0 : Nat} {x1 : Int32} {x2 : Int32} {x4 : Int32} {q : Unit × ph_T} (H : f_Ref_moveBeat_L71 Γ  φ x0 x1 x2 x4 = some q) : J w M_Ref_moveBeat 71 [some (.ref x0), some (.int x1), some (.int x2), none, some (.int x4), none, none, none, none] [] (pic Γ φ) n x 0 0 (fq Γ n (.inl none) q.2) := by
  unfold f_Ref_moveBeat_L71 at H
  refine J_aload_n d_Ref_moveBeat_71 rfl ?_
  have g54 : Γ x0 = .inr 12 := by
    apply Classical.byContradiction
    intro q9
    rw [if_neg q9] at H
    cases H
  rw [if_pos g54] at H
  refine F_getI (ci := 12) (k := 5) hG (cf_Ref hw) (fl_Ref_559 hw) (by decide) (by decide) rfl d_Ref_moveBeat_72 g54 ?_
  refine J_if_eq (tgt := 114) d_Ref_moveBeat_75 (by decide) ?_ ?_
  · intro c67
    rw [if_pos c67] at H
    refine J.drop [true, true, true, false, true, false, false, false, false] rfl ?_
    exact p_Ref_moveBeat_L114 hw hG  H
  · intro c67
    rw [if_neg c67] at H
    refine J_aload_n d_Ref_moveBeat_78 rfl ?_
    refine F_getR (ci := 12) (k := 56) hG (cf_Ref hw) (fl_Ref_151 hw) (by decide) (by decide) rfl d_Ref_moveBeat_79 g54 ?_
    refine J_iload_n d_Ref_moveBeat_82 rfl ?_
    obtain ⟨a55, ha55, H⟩ := Option.bind_eq_some_iff.mp H
    rw [j_rf ha55]
    obtain ⟨N56, hN56, H⟩ := Option.bind_eq_some_iff.mp H
    obtain ⟨k57, hk57, H⟩ := Option.bind_eq_some_iff.mp H
    refine F_zald k57 hw hG d_Ref_moveBeat_83 (gA_some hN56) (ix_some hk57) ?_
    refine J_if_eq (tgt := 114) d_Ref_moveBeat_84 (by decide) ?_ ?_
    · intro c66
      rw [if_pos c66] at H
      refine J.drop [true, true, true, false, true, false, false, false, false] rfl ?_
      exact p_Ref_moveBeat_L114 hw hG  H
    · intro c66
      rw [if_neg c66] at H
      refine J_aload_n d_Ref_moveBeat_87 rfl ?_
      refine J_aload_n d_Ref_moveBeat_88 rfl ?_
      refine F_getR (ci := 12) (k := 55) hG (cf_Ref hw) (fl_Ref_148 hw) (by decide) (by decide) rfl d_Ref_moveBeat_89 g54 ?_
      refine J_iload_n d_Ref_moveBeat_92 rfl ?_
      obtain ⟨a58, ha58, H⟩ := Option.bind_eq_some_iff.mp H
      rw [j_rf ha58]
      obtain ⟨N59, hN59, H⟩ := Option.bind_eq_some_iff.mp H
      obtain ⟨k60, hk60, H⟩ := Option.bind_eq_some_iff.mp H
      refine F_iald k60 hw hG d_Ref_moveBeat_93 (gA_some hN59) (ix_some hk60) ?_
      refine J_iconst (v := 4) d_Ref_moveBeat_94 (by decide) ?_
      refine J_iload_n d_Ref_moveBeat_95 rfl ?_
      obtain ⟨q61, hq61, H⟩ := Option.bind_eq_some_iff.mp H
      refine J_callV (kc := 0) (ks := 0) (kc' := 0) (ks' := 0) (a := x0) (ci := 12) (as := [.int (φ.1 a58 k60), .int (4 : Int32), .int x1]) (st := []) (mf_Ref_isFor hw) (mv_Ref_556 hw) d_Ref_moveBeat_96 ln_Ref_isFor (by decide) (by first | exact Nat.le_of_ble_eq_true rfl | (simp only [List.map_cons, List.map_nil, List.sum_cons, List.sum_nil, va_rf_cat]; exact Nat.le_of_ble_eq_true rfl)) rfl ((hG _).1 _ g54 (by decide)).1 ((hG _).1 _ g54 (by decide)).2 (by unfold pic; rw [g54]; rfl) (jcl_at hw rfl) rfl (p_Ref_isFor hw hG hq61) ?_ (fun E h' n' x' e1 => by cases e1.1)
      intro v9 h9 n9 x9 e9
      obtain ⟨e91, e92, e93⟩ := e9
      cases e91
      subst e92
      subst e93
      clear x
      rename Bool => x
      show J _ _ _ _ (_ :: _) _ _ _ _ _ _
      refine J_if_eq (tgt := 111) d_Ref_moveBeat_99 (by decide) ?_ ?_
      · intro c65
        rw [if_pos c65] at H
        refine J_iconst (v := -1) d_Ref_moveBeat_111 (by decide) ?_
        refine J.drop [true, true, true, false, false, false, false, false, false] rfl ?_
        exact p_Ref_moveBeat_L112 hw hG  H
      · intro c65
        rw [if_neg c65] at H
        refine J_aload_n d_Ref_moveBeat_102 rfl ?_
        refine F_getR (ci := 12) (k := 55) hG (cf_Ref hw) (fl_Ref_148 hw) (by decide) (by decide) rfl d_Ref_moveBeat_103 g54 ?_
        refine J_iload_n d_Ref_moveBeat_106 rfl ?_
        obtain ⟨a62, ha62, H⟩ := Option.bind_eq_some_iff.mp H
        rw [j_rf ha62]
        obtain ⟨N63, hN63, H⟩ := Option.bind_eq_some_iff.mp H
        obtain ⟨k64, hk64, H⟩ := Option.bind_eq_some_iff.mp H
        refine F_iald k64 hw hG d_Ref_moveBeat_107 (gA_some hN63) (ix_some hk64) ?_
        refine J_goto (tgt := 112) d_Ref_moveBeat_108 (by decide) ?_
        refine J.drop [true, true, true, false, false, false, false, false, false] rfl ?_
        exact p_Ref_moveBeat_L112 hw hG  H
def f_Ref_moveBeat_L63 (Γ : gm_T) (Kc21 : ph_T → Nat → Int32 → Int32 → Int32 → Int32 → Int32 → Option (Unit × ph_T)) (φ : ph_T) (x0 : Nat) (x1 : Int32) (x2 : Int32) (x3 : Int32) (x5 : Int32) (y0 : Int32) : Option (Unit × ph_T) :=
  Kc21 φ x0 x1 x2 x3 y0 (x5 + (1 : Int32))
set_option maxRecDepth 100000 in
set_option maxHeartbeats 4000000 in
theorem p_Ref_moveBeat_L63 {w : jw_T} (hw : jok w) {Γ : gm_T} {n : Nat} (hG : gd w Γ n) {Kc21 : ph_T → Nat → Int32 → Int32 → Int32 → Int32 → Int32 → Option (Unit × ph_T)} (hKc21 : ∀ {x : Bool} {φ : ph_T} {x0 : Nat} {x1 : Int32} {x2 : Int32} {x3 : Int32} {x4 : Int32} {x5 : Int32} {q : Unit × ph_T}, Kc21 φ x0 x1 x2 x3 x4 x5 = some q → J w M_Ref_moveBeat 21 [some (.ref x0), some (.int x1), some (.int x2), some (.int x3), some (.int x4), some (.int x5), none, none, none] [] (pic Γ φ) n x 0 0 (fq Γ n (.inl none) q.2)) {x : Bool} {φ : ph_T} {x0 : Nat} {x1 : Int32} {x2 : Int32} {x3 : Int32} {x5 : Int32} {y0 : Int32} {q : Unit × ph_T} (H : f_Ref_moveBeat_L63 Γ Kc21 φ x0 x1 x2 x3 x5 y0 = some q) : J w M_Ref_moveBeat 63 [some (.ref x0), some (.int x1), some (.int x2), some (.int x3), none, some (.int x5), none, none, none] [.int y0] (pic Γ φ) n x 0 0 (fq Γ n (.inl none) q.2) := by
  unfold f_Ref_moveBeat_L63 at H
  refine J_istore d_Ref_moveBeat_63 (Nat.le_of_ble_eq_true rfl) ?_
  refine J.ls (ls' := [some (.ref x0), some (.int x1), some (.int x2), some (.int x3), some (.int y0), some (.int x5), none, none, none]) rfl ?_
  refine J_iinc (v := x5 + 1) d_Ref_moveBeat_65 rfl (by rw [show Int32.ofInt 1 = (1 : Int32) from by decide]) ?_
  refine J.ls (ls' := [some (.ref x0), some (.int x1), some (.int x2), some (.int x3), some (.int y0), some (.int (x5 + (1 : Int32))), none, none, none]) rfl ?_
  refine J_goto (tgt := 21) d_Ref_moveBeat_68 (by decide) ?_
  refine J.drop [true, true, true, true, true, true, false, false, false] rfl ?_
  exact hKc21 H
def f_Ref_moveBeat_L21 (Γ : gm_T)  : Nat → ph_T → Nat → Int32 → Int32 → Int32 → Int32 → Int32 → Option (Unit × ph_T)
  | 0, _, _, _, _, _, _, _ => none
  | fu + 1, φ, x0, x1, x2, x3, x4, x5 =>
    if x3 < x5 then
      f_Ref_moveBeat_L71 Γ  φ x0 x1 x2 x4
    else
      if x4 = (-1 : Int32) then
        @ite _ (Γ x0 = .inr 12) _ (
        Option.bind (φ.2.2 x0 55) fun a69 =>
        Option.bind (gA Γ a69 0) fun N70 =>
        Option.bind (ix x1 N70) fun k71 =>
        @ite _ (x3 = 0) _ none (
        Option.bind (f_Ref_isFor Γ φ x0 (((φ.1 a69 k71) + x5) - ((φ.1 a69 k71) + x5) / x3 * x3) (4 : Int32) x1) fun q73 =>
        if q73.1 = 0 then
          f_Ref_moveBeat_L63 Γ (f_Ref_moveBeat_L21 Γ  fu) q73.2 x0 x1 x2 x3 x5 (-1 : Int32)
        else
          f_Ref_moveBeat_L63 Γ (f_Ref_moveBeat_L21 Γ  fu) q73.2 x0 x1 x2 x3 x5 (((φ.1 a69 k71) + x5) - ((φ.1 a69 k71) + x5) / x3 * x3)
        )
        ) none
      else
        f_Ref_moveBeat_L71 Γ  φ x0 x1 x2 x4
set_option maxRecDepth 100000 in
set_option maxHeartbeats 4000000 in
theorem p_Ref_moveBeat_L21 {w : jw_T} (hw : jok w) {Γ : gm_T} {n : Nat} (hG : gd w Γ n)  : ∀ (fu : Nat) {x : Bool} {φ : ph_T} {x0 : Nat} {x1 : Int32} {x2 : Int32} {x3 : Int32} {x4 : Int32} {x5 : Int32} {q : Unit × ph_T}, f_Ref_moveBeat_L21 Γ  fu φ x0 x1 x2 x3 x4 x5 = some q → J w M_Ref_moveBeat 21 [some (.ref x0), some (.int x1), some (.int x2), some (.int x3), some (.int x4), some (.int x5), none, none, none] [] (pic Γ φ) n x 0 0 (fq Γ n (.inl none) q.2) := by
  intro fu
  induction fu with
  | zero =>
    intro x φ x0 x1 x2 x3 x4 x5 q H
    cases H
  | succ fu ih =>
    intro x φ x0 x1 x2 x3 x4 x5 q H
    unfold f_Ref_moveBeat_L21 at H
    refine J_iload d_Ref_moveBeat_21 rfl ?_
    refine J_iload_n d_Ref_moveBeat_23 rfl ?_
    refine J_icmp_gt (tgt := 71) d_Ref_moveBeat_24 (by decide) ?_ ?_
    · intro c76
      rw [if_pos c76] at H
      refine J.drop [true, true, true, false, true, false, false, false, false] rfl ?_
      exact p_Ref_moveBeat_L71 hw hG  H
    · intro c76
      rw [if_neg c76] at H
      refine J_iload d_Ref_moveBeat_27 rfl ?_
      refine J_iconst (v := -1) d_Ref_moveBeat_29 (by decide) ?_
      refine J_icmp_ne (tgt := 71) d_Ref_moveBeat_30 (by decide) ?_ ?_
      · intro c75
        rw [if_neg c75] at H
        refine J.drop [true, true, true, false, true, false, false, false, false] rfl ?_
        exact p_Ref_moveBeat_L71 hw hG  H
      · intro c75
        rw [if_pos c75] at H
        refine J_aload_n d_Ref_moveBeat_33 rfl ?_
        have g68 : Γ x0 = .inr 12 := by
          apply Classical.byContradiction
          intro q9
          rw [if_neg q9] at H
          cases H
        rw [if_pos g68] at H
        refine F_getR (ci := 12) (k := 55) hG (cf_Ref hw) (fl_Ref_148 hw) (by decide) (by decide) rfl d_Ref_moveBeat_34 g68 ?_
        refine J_iload_n d_Ref_moveBeat_37 rfl ?_
        obtain ⟨a69, ha69, H⟩ := Option.bind_eq_some_iff.mp H
        rw [j_rf ha69]
        obtain ⟨N70, hN70, H⟩ := Option.bind_eq_some_iff.mp H
        obtain ⟨k71, hk71, H⟩ := Option.bind_eq_some_iff.mp H
        refine F_iald k71 hw hG d_Ref_moveBeat_38 (gA_some hN70) (ix_some hk71) ?_
        refine J_iload d_Ref_moveBeat_39 rfl ?_
        refine J_iadd d_Ref_moveBeat_41 ?_
        refine J_iload_n d_Ref_moveBeat_42 rfl ?_
        have h72 : ¬ x3 = 0 := by
          intro q9
          rw [if_pos q9] at H
          cases H
        rw [if_neg h72] at H
        refine J_irem d_Ref_moveBeat_43 h72 ?_
        refine J_istore d_Ref_moveBeat_44 (Nat.le_of_ble_eq_true rfl) ?_
        refine J.ls (ls' := [some (.ref x0), some (.int x1), some (.int x2), some (.int x3), some (.int x4), some (.int x5), some (.int (((φ.1 a69 k71) + x5) - ((φ.1 a69 k71) + x5) / x3 * x3)), none, none]) rfl ?_
        refine J_aload_n d_Ref_moveBeat_46 rfl ?_
        refine J_iload d_Ref_moveBeat_47 rfl ?_
        refine J_iconst (v := 4) d_Ref_moveBeat_49 (by decide) ?_
        refine J_iload_n d_Ref_moveBeat_50 rfl ?_
        obtain ⟨q73, hq73, H⟩ := Option.bind_eq_some_iff.mp H
        refine J_callV (kc := 0) (ks := 0) (kc' := 0) (ks' := 0) (a := x0) (ci := 12) (as := [.int (((φ.1 a69 k71) + x5) - ((φ.1 a69 k71) + x5) / x3 * x3), .int (4 : Int32), .int x1]) (st := []) (mf_Ref_isFor hw) (mv_Ref_556 hw) d_Ref_moveBeat_51 ln_Ref_isFor (by decide) (by first | exact Nat.le_of_ble_eq_true rfl | (simp only [List.map_cons, List.map_nil, List.sum_cons, List.sum_nil, va_rf_cat]; exact Nat.le_of_ble_eq_true rfl)) rfl ((hG _).1 _ g68 (by decide)).1 ((hG _).1 _ g68 (by decide)).2 (by unfold pic; rw [g68]; rfl) (jcl_at hw rfl) rfl (p_Ref_isFor hw hG hq73) ?_ (fun E h' n' x' e1 => by cases e1.1)
        intro v9 h9 n9 x9 e9
        obtain ⟨e91, e92, e93⟩ := e9
        cases e91
        subst e92
        subst e93
        clear x
        rename Bool => x
        show J _ _ _ _ (_ :: _) _ _ _ _ _ _
        refine J_if_eq (tgt := 62) d_Ref_moveBeat_54 (by decide) ?_ ?_
        · intro c74
          rw [if_pos c74] at H
          refine J_iconst (v := -1) d_Ref_moveBeat_62 (by decide) ?_
          refine J.drop [true, true, true, true, false, true, false, false, false] rfl ?_
          exact p_Ref_moveBeat_L63 hw hG ih H
        · intro c74
          rw [if_neg c74] at H
          refine J_iload d_Ref_moveBeat_57 rfl ?_
          refine J_goto (tgt := 63) d_Ref_moveBeat_59 (by decide) ?_
          refine J.drop [true, true, true, true, false, true, false, false, false] rfl ?_
          exact p_Ref_moveBeat_L63 hw hG ih H
def f_Ref_moveBeat (Γ : gm_T) (φ : ph_T) (this : Nat) (p0 : Int32) : Option (Unit × ph_T) :=
  @ite _ (Γ this = .inr 12) _ (
  Option.bind (f_Ref_rowOf Γ φ this (0 : Int32) p0 (4 : Int32)) fun q78 =>
  f_Ref_moveBeat_L21 Γ  jF q78.2 this p0 q78.1 ((q78.2.1 this 2) + (1 : Int32)) (-1 : Int32) (1 : Int32)
  ) none
set_option maxRecDepth 100000 in
set_option maxHeartbeats 4000000 in
theorem p_Ref_moveBeat {w : jw_T} (hw : jok w) {Γ : gm_T} {n : Nat} (hG : gd w Γ n) {x : Bool} {φ : ph_T} {this : Nat} {p0 : Int32} {q : Unit × ph_T} (H : f_Ref_moveBeat Γ φ this p0 = some q) : jc w M_Ref_moveBeat [.ref this, .int p0] (pic Γ φ) n x 0 0 (fq Γ n (.inl none) q.2) := by
  refine jc.of (by simp only [jent_r, jent_i, jent_l, jent_a, jent_0]; exact Nat.le_of_ble_eq_true rfl) ?_
  have hls : jents [.ref this, .int p0] (jm_nL M_Ref_moveBeat) = [some (.ref this), some (.int p0), none, none, none, none, none, none, none] := by simp only [jents, jent_r, jent_i, jent_l, jent_a, jent_0]; rfl
  rw [hls]
  clear hls
  unfold f_Ref_moveBeat at H
  refine J_aload_n d_Ref_moveBeat_0 rfl ?_
  refine J_iconst (v := 0) d_Ref_moveBeat_1 (by decide) ?_
  refine J_iload_n d_Ref_moveBeat_2 rfl ?_
  refine J_iconst (v := 4) d_Ref_moveBeat_3 (by decide) ?_
  have g77 : Γ this = .inr 12 := by
    apply Classical.byContradiction
    intro q9
    rw [if_neg q9] at H
    cases H
  rw [if_pos g77] at H
  obtain ⟨q78, hq78, H⟩ := Option.bind_eq_some_iff.mp H
  refine J_callV (kc := 0) (ks := 0) (kc' := 0) (ks' := 0) (a := this) (ci := 12) (as := [.int (0 : Int32), .int p0, .int (4 : Int32)]) (st := []) (mf_Ref_rowOf hw) (mv_Ref_388 hw) d_Ref_moveBeat_4 ln_Ref_rowOf (by decide) (by first | exact Nat.le_of_ble_eq_true rfl | (simp only [List.map_cons, List.map_nil, List.sum_cons, List.sum_nil, va_rf_cat]; exact Nat.le_of_ble_eq_true rfl)) rfl ((hG _).1 _ g77 (by decide)).1 ((hG _).1 _ g77 (by decide)).2 (by unfold pic; rw [g77]; rfl) (jcl_at hw rfl) rfl (p_Ref_rowOf hw hG hq78) ?_ (fun E h' n' x' e1 => by cases e1.1)
  intro v9 h9 n9 x9 e9
  obtain ⟨e91, e92, e93⟩ := e9
  cases e91
  subst e92
  subst e93
  clear x
  rename Bool => x
  show J _ _ _ _ (_ :: _) _ _ _ _ _ _
  refine J_istore_n d_Ref_moveBeat_7 (Nat.le_of_ble_eq_true rfl) ?_
  refine J.ls (ls' := [some (.ref this), some (.int p0), some (.int q78.1), none, none, none, none, none, none]) rfl ?_
  refine J_aload_n d_Ref_moveBeat_8 rfl ?_
  refine F_getI (ci := 12) (k := 2) hG (cf_Ref hw) (fl_Ref_294 hw) (by decide) (by decide) rfl d_Ref_moveBeat_9 g77 ?_
  refine J_iconst (v := 1) d_Ref_moveBeat_12 (by decide) ?_
  refine J_iadd d_Ref_moveBeat_13 ?_
  refine J_istore_n d_Ref_moveBeat_14 (Nat.le_of_ble_eq_true rfl) ?_
  refine J.ls (ls' := [some (.ref this), some (.int p0), some (.int q78.1), some (.int ((q78.2.1 this 2) + (1 : Int32))), none, none, none, none, none]) rfl ?_
  refine J_iconst (v := -1) d_Ref_moveBeat_15 (by decide) ?_
  refine J_istore d_Ref_moveBeat_16 (Nat.le_of_ble_eq_true rfl) ?_
  refine J.ls (ls' := [some (.ref this), some (.int p0), some (.int q78.1), some (.int ((q78.2.1 this 2) + (1 : Int32))), some (.int (-1 : Int32)), none, none, none, none]) rfl ?_
  refine J_iconst (v := 1) d_Ref_moveBeat_18 (by decide) ?_
  refine J_istore d_Ref_moveBeat_19 (Nat.le_of_ble_eq_true rfl) ?_
  refine J.ls (ls' := [some (.ref this), some (.int p0), some (.int q78.1), some (.int ((q78.2.1 this 2) + (1 : Int32))), some (.int (-1 : Int32)), some (.int (1 : Int32)), none, none, none]) rfl ?_
  refine J.drop [true, true, true, true, true, true, false, false, false] rfl ?_
  exact p_Ref_moveBeat_L21 hw hG  _ H
