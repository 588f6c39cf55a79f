theorem ln_Ref_watch : (parseMethodDescriptor y_Ref_watch.desc).map (fun q => q.parameters.length) = some 3 := by decide +kernel
def f_Ref_watch_L286 (Γ : gm_T) (Kc129 : ph_T → Nat → Int32 → Int32 → Int32 → Int32 → Option (Unit × ph_T)) (φ : ph_T) (x0 : Nat) (x1 : Int32) (x2 : Int32) (x3 : Int32) (x4 : Int32) (y0 : Int32) (y1 : Int32) (y2 : Option Nat) : Option (Unit × ph_T) :=
  Option.bind y2 fun a1 =>
  Option.bind (gA Γ a1 0) fun N2 =>
  Option.bind (ix y1 N2) fun k3 =>
  Kc129 (uI φ a1 k3 y0) x0 x1 x2 x3 (x4 + (1 : Int32))
set_option maxRecDepth 100000 in
set_option maxHeartbeats 4000000 in
theorem p_Ref_watch_L286 {w : jw_T} (hw : jok w) {Γ : gm_T} {n : Nat} (hG : gd w Γ n) {Kc129 : ph_T → Nat → Int32 → Int32 → Int32 → Int32 → Option (Unit × ph_T)} (hKc129 : ∀ {x : Bool} {φ : ph_T} {x0 : Nat} {x1 : Int32} {x2 : Int32} {x3 : Int32} {x4 : Int32} {q : Unit × ph_T}, Kc129 φ x0 x1 x2 x3 x4 = some q → J w M_Ref_watch 129 [some (.ref x0), some (.int x1), some (.int x2), some (.int x3), some (.int x4), none, none] [] (pic Γ φ) n x 0 0 (fq Γ n (.inl none) q.2)) {x : Bool} {φ : ph_T} {x0 : Nat} {x1 : Int32} {x2 : Int32} {x3 : Int32} {x4 : Int32} {y0 : Int32} {y1 : Int32} {y2 : Option Nat} {q : Unit × ph_T} (H : f_Ref_watch_L286 Γ Kc129 φ x0 x1 x2 x3 x4 y0 y1 y2 = some q) : J w M_Ref_watch 286 [some (.ref x0), some (.int x1), some (.int x2), some (.int x3), some (.int x4), none, none] [.int y0, .int y1, va_rf y2] (pic Γ φ) n x 0 0 (fq Γ n (.inl none) q.2) := by
  unfold f_Ref_watch_L286 at H
  obtain ⟨a1, ha1, H⟩ := Option.bind_eq_some_iff.mp H
  rw [j_rf ha1]
  obtain ⟨N2, hN2, H⟩ := Option.bind_eq_some_iff.mp H
  obtain ⟨k3, hk3, H⟩ := Option.bind_eq_some_iff.mp H
  refine F_iast k3 hw hG d_Ref_watch_286 (gA_some hN2) (ix_some hk3) ?_
  refine J_iinc (v := x4 + 1) d_Ref_watch_287 rfl (by rw [show Int32.ofInt 1 = (1 : Int32) from by decide]) ?_
  refine J.ls (ls' := [some (.ref x0), some (.int x1), some (.int x2), some (.int x3), some (.int (x4 + (1 : Int32))), none, none]) rfl ?_
  refine J_goto (tgt := 129) d_Ref_watch_290 (by decide) ?_
  refine J.drop [true, true, true, true, true, false, false] rfl ?_
  exact hKc129 H
def f_Ref_watch_L250 (Γ : gm_T) (Kc129 : ph_T → Nat → Int32 → Int32 → Int32 → Int32 → Option (Unit × ph_T)) (φ : ph_T) (x0 : Nat) (x1 : Int32) (x2 : Int32) (x3 : Int32) (x4 : Int32) (y0 : Int64) (y1 : Int32) (y2 : Option Nat) : Option (Unit × ph_T) :=
  Option.bind y2 fun a4 =>
  Option.bind (gA Γ a4 1) fun N5 =>
  Option.bind (ix y1 N5) fun k6 =>
  @ite _ (Γ x0 = .inr 12) _ (
  if x3 = 0 then
    Option.bind (φ.2.2 x0 36) fun a8 =>
    Option.bind (gA Γ a8 0) fun N9 =>
    Option.bind (ix (x2 + x4) N9) fun k10 =>
    f_Ref_watch_L286 Γ Kc129 (uL φ a4 k6 y0) x0 x1 x2 x3 x4 (φ.1 a8 k10) (((5 : Int32) * x1) + x4) (φ.2.2 x0 84)
  else
    Option.bind (φ.2.2 x0 101) fun a11 =>
    Option.bind (gA Γ a11 0) fun N12 =>
    Option.bind (ix (x2 + x4) N12) fun k13 =>
    f_Ref_watch_L286 Γ Kc129 (uL φ a4 k6 y0) x0 x1 x2 x3 x4 (φ.1 a11 k13) (((5 : Int32) * x1) + x4) (φ.2.2 x0 84)
  ) none
set_option maxRecDepth 100000 in
set_option maxHeartbeats 4000000 in
theorem p_Ref_watch_L250 {w : jw_T} (hw : jok w) {Γ : gm_T} {n : Nat} (hG : gd w Γ n) {Kc129 : ph_T → Nat → Int32 → Int32 → Int32 → Int32 → Option (Unit × ph_T)} (hKc129 : ∀ {x : Bool} {φ : ph_T} {x0 : Nat} {x1 : Int32} {x2 : Int32} {x3 : Int32} {x4 : Int32} {q : Unit × ph_T}, Kc129 φ x0 x1 x2 x3 x4 = some q → J w M_Ref_watch 129 [some (.ref x0), some (.int x1), some (.int x2), some (.int x3), some (.int x4), none, none] [] (pic Γ φ) n x 0 0 (fq Γ n (.inl none) q.2)) {x : Bool} {φ : ph_T} {x0 : Nat} {x1 : Int32} {x2 : Int32} {x3 : Int32} {x4 : Int32} {y0 : Int64} {y1 : Int32} {y2 : Option Nat} {q : Unit × ph_T} (H : f_Ref_watch_L250 Γ Kc129 φ x0 x1 x2 x3 x4 y0 y1 y2 = some q) : J w M_Ref_watch 250 [some (.ref x0), some (.int x1), some (.int x2), some (.int x3), some (.int x4), none, none] [.long y0, .int y1, va_rf y2] (pic Γ φ) n x 0 0 (fq Γ n (.inl none) q.2) := by
  unfold f_Ref_watch_L250 at H
  obtain ⟨a4, ha4, H⟩ := Option.bind_eq_some_iff.mp H
  rw [j_rf ha4]
  obtain ⟨N5, hN5, H⟩ := Option.bind_eq_some_iff.mp H
  obtain ⟨k6, hk6, H⟩ := Option.bind_eq_some_iff.mp H
  refine F_last k6 hw hG d_Ref_watch_250 (gA_some hN5) (ix_some hk6) ?_
  refine J_aload_n d_Ref_watch_251 rfl ?_
  have g7 : Γ x0 = .inr 12 := by
    apply Classical.byContradiction
    intro q9
    rw [if_neg q9] at H
    cases H
  rw [if_pos g7] at H
  refine F_getR (ci := 12) (k := 84) hG (cf_Ref hw) (fl_Ref_232 hw) (by decide) (by decide) rfl d_Ref_watch_252 g7 ?_
  show J _ _ _ _ (va_rf (φ.2.2 x0 84) :: _) _ _ _ _ _ _
  refine J_iconst (v := 5) d_Ref_watch_255 (by decide) ?_
  refine J_iload_n d_Ref_watch_256 rfl ?_
  refine J_imul d_Ref_watch_257 ?_
  refine J_iload d_Ref_watch_258 rfl ?_
  refine J_iadd d_Ref_watch_260 ?_
  refine J_iload_n d_Ref_watch_261 rfl ?_
  refine J_if_eq (tgt := 277) d_Ref_watch_262 (by decide) ?_ ?_
  · intro c14
    rw [if_pos c14] at H
    refine J_aload_n d_Ref_watch_277 rfl ?_
    refine F_getR (ci := 12) (k := 36) hG (cf_Ref hw) (fl_Ref_97 hw) (by decide) (by decide) rfl d_Ref_watch_278 g7 ?_
    show J _ _ _ _ (va_rf (φ.2.2 x0 36) :: _) _ _ _ _ _ _
    refine J_iload_n d_Ref_watch_281 rfl ?_
    refine J_iload d_Ref_watch_282 rfl ?_
    refine J_iadd d_Ref_watch_284 ?_
    obtain ⟨a8, ha8, H⟩ := Option.bind_eq_some_iff.mp H
    rw [j_rf ha8]
    obtain ⟨N9, hN9, H⟩ := Option.bind_eq_some_iff.mp H
    obtain ⟨k10, hk10, H⟩ := Option.bind_eq_some_iff.mp H
    refine F_iald k10 hw hG d_Ref_watch_285 (gA_some hN9) (ix_some hk10) ?_
    show J _ _ _ _ (.int (φ.1 a8 k10) :: _) _ _ _ _ _ _
    refine J.drop [true, true, true, true, true, false, false] rfl ?_
    exact p_Ref_watch_L286 hw hG hKc129 H
  · intro c14
    rw [if_neg c14] at H
    refine J_aload_n d_Ref_watch_265 rfl ?_
    refine F_getR (ci := 12) (k := 101) hG (cf_Ref hw) (fl_Ref_283 hw) (by decide) (by decide) rfl d_Ref_watch_266 g7 ?_
    show J _ _ _ _ (va_rf (φ.2.2 x0 101) :: _) _ _ _ _ _ _
    refine J_iload_n d_Ref_watch_269 rfl ?_
    refine J_iload d_Ref_watch_270 rfl ?_
    refine J_iadd d_Ref_watch_272 ?_
    obtain ⟨a11, ha11, H⟩ := Option.bind_eq_some_iff.mp H
    rw [j_rf ha11]
    obtain ⟨N12, hN12, H⟩ := Option.bind_eq_some_iff.mp H
    obtain ⟨k13, hk13, H⟩ := Option.bind_eq_some_iff.mp H
    refine F_iald k13 hw hG d_Ref_watch_273 (gA_some hN12) (ix_some hk13) ?_
    show J _ _ _ _ (.int (φ.1 a11 k13) :: _) _ _ _ _ _ _
    refine J_goto (tgt := 286) d_Ref_watch_274 (by decide) ?_
    refine J.drop [true, true, true, true, true, false, false] rfl ?_
    exact p_Ref_watch_L286 hw hG hKc129 H
def f_Ref_watch_L214 (Γ : gm_T) (Kc129 : ph_T → Nat → Int32 → Int32 → Int32 → Int32 → Option (Unit × ph_T)) (φ : ph_T) (x0 : Nat) (x1 : Int32) (x2 : Int32) (x3 : Int32) (x4 : Int32) (y0 : Int32) (y1 : Int32) (y2 : Option Nat) : Option (Unit × ph_T) :=
  Option.bind y2 fun a15 =>
  Option.bind (gA Γ a15 2) fun N16 =>
  Option.bind (ix y1 N16) fun k17 =>
  @ite _ (y0 = 0 ∨ y0 = 1) _ (
  @ite _ (Γ x0 = .inr 12) _ (
  if x3 = 0 then
    Option.bind (φ.2.2 x0 35) fun a20 =>
    Option.bind (gA Γ a20 1) fun N21 =>
    Option.bind (ix (x2 + x4) N21) fun k22 =>
    f_Ref_watch_L250 Γ Kc129 (uI φ a15 k17 y0) x0 x1 x2 x3 x4 (φ.2.1 a20 k22) (((5 : Int32) * x1) + x4) (φ.2.2 x0 83)
  else
    Option.bind (φ.2.2 x0 100) fun a23 =>
    Option.bind (gA Γ a23 1) fun N24 =>
    Option.bind (ix (x2 + x4) N24) fun k25 =>
    f_Ref_watch_L250 Γ Kc129 (uI φ a15 k17 y0) x0 x1 x2 x3 x4 (φ.2.1 a23 k25) (((5 : Int32) * x1) + x4) (φ.2.2 x0 83)
  ) none
  ) none
set_option maxRecDepth 100000 in
set_option maxHeartbeats 4000000 in
theorem p_Ref_watch_L214 {w : jw_T} (hw : jok w) {Γ : gm_T} {n : Nat} (hG : gd w Γ n) {Kc129 : ph_T → Nat → Int32 → Int32 → Int32 → Int32 → Option (Unit × ph_T)} (hKc129 : ∀ {x : Bool} {φ : ph_T} {x0 : Nat} {x1 : Int32} {x2 : Int32} {x3 : Int32} {x4 : Int32} {q : Unit × ph_T}, Kc129 φ x0 x1 x2 x3 x4 = some q → J w M_Ref_watch 129 [some (.ref x0), some (.int x1), some (.int x2), some (.int x3), some (.int x4), none, none] [] (pic Γ φ) n x 0 0 (fq Γ n (.inl none) q.2)) {x : Bool} {φ : ph_T} {x0 : Nat} {x1 : Int32} {x2 : Int32} {x3 : Int32} {x4 : Int32} {y0 : Int32} {y1 : Int32} {y2 : Option Nat} {q : Unit × ph_T} (H : f_Ref_watch_L214 Γ Kc129 φ x0 x1 x2 x3 x4 y0 y1 y2 = some q) : J w M_Ref_watch 214 [some (.ref x0), some (.int x1), some (.int x2), some (.int x3), some (.int x4), none, none] [.int y0, .int y1, va_rf y2] (pic Γ φ) n x 0 0 (fq Γ n (.inl none) q.2) := by
  unfold f_Ref_watch_L214 at H
  obtain ⟨a15, ha15, H⟩ := Option.bind_eq_some_iff.mp H
  rw [j_rf ha15]
  obtain ⟨N16, hN16, H⟩ := Option.bind_eq_some_iff.mp H
  obtain ⟨k17, hk17, H⟩ := Option.bind_eq_some_iff.mp H
  have z18 : y0 = 0 ∨ y0 = 1 := by
    apply Classical.byContradiction
    intro q9
    rw [if_neg q9] at H
    cases H
  rw [if_pos z18] at H
  refine F_zast k17 hw hG d_Ref_watch_214 (gA_some hN16) (ix_some hk17) z18 ?_
  refine J_aload_n d_Ref_watch_215 rfl ?_
  have g19 : Γ x0 = .inr 12 := by
    apply Classical.byContradiction
    intro q9
    rw [if_neg q9] at H
    cases H
  rw [if_pos g19] at H
  refine F_getR (ci := 12) (k := 83) hG (cf_Ref hw) (fl_Ref_229 hw) (by decide) (by decide) rfl d_Ref_watch_216 g19 ?_
  show J _ _ _ _ (va_rf (φ.2.2 x0 83) :: _) _ _ _ _ _ _
  refine J_iconst (v := 5) d_Ref_watch_219 (by decide) ?_
  refine J_iload_n d_Ref_watch_220 rfl ?_
  refine J_imul d_Ref_watch_221 ?_
  refine J_iload d_Ref_watch_222 rfl ?_
  refine J_iadd d_Ref_watch_224 ?_
  refine J_iload_n d_Ref_watch_225 rfl ?_
  refine J_if_eq (tgt := 241) d_Ref_watch_226 (by decide) ?_ ?_
  · intro c26
    rw [if_pos c26] at H
    refine J_aload_n d_Ref_watch_241 rfl ?_
    refine F_getR (ci := 12) (k := 35) hG (cf_Ref hw) (fl_Ref_94 hw) (by decide) (by decide) rfl d_Ref_watch_242 g19 ?_
    show J _ _ _ _ (va_rf (φ.2.2 x0 35) :: _) _ _ _ _ _ _
    refine J_iload_n d_Ref_watch_245 rfl ?_
    refine J_iload d_Ref_watch_246 rfl ?_
    refine J_iadd d_Ref_watch_248 ?_
    obtain ⟨a20, ha20, H⟩ := Option.bind_eq_some_iff.mp H
    rw [j_rf ha20]
    obtain ⟨N21, hN21, H⟩ := Option.bind_eq_some_iff.mp H
    obtain ⟨k22, hk22, H⟩ := Option.bind_eq_some_iff.mp H
    refine F_lald k22 hw hG d_Ref_watch_249 (gA_some hN21) (ix_some hk22) ?_
    show J _ _ _ _ (.long (φ.2.1 a20 k22) :: _) _ _ _ _ _ _
    refine J.drop [true, true, true, true, true, false, false] rfl ?_
    exact p_Ref_watch_L250 hw hG hKc129 H
  · intro c26
    rw [if_neg c26] at H
    refine J_aload_n d_Ref_watch_229 rfl ?_
    refine F_getR (ci := 12) (k := 100) hG (cf_Ref hw) (fl_Ref_280 hw) (by decide) (by decide) rfl d_Ref_watch_230 g19 ?_
    show J _ _ _ _ (va_rf (φ.2.2 x0 100) :: _) _ _ _ _ _ _
    refine J_iload_n d_Ref_watch_233 rfl ?_
    refine J_iload d_Ref_watch_234 rfl ?_
    refine J_iadd d_Ref_watch_236 ?_
    obtain ⟨a23, ha23, H⟩ := Option.bind_eq_some_iff.mp H
    rw [j_rf ha23]
    obtain ⟨N24, hN24, H⟩ := Option.bind_eq_some_iff.mp H
    obtain ⟨k25, hk25, H⟩ := Option.bind_eq_some_iff.mp H
    refine F_lald k25 hw hG d_Ref_watch_237 (gA_some hN24) (ix_some hk25) ?_
    show J _ _ _ _ (.long (φ.2.1 a23 k25) :: _) _ _ _ _ _ _
    refine J_goto (tgt := 250) d_Ref_watch_238 (by decide) ?_
    refine J.drop [true, true, true, true, true, false, false] rfl ?_
    exact p_Ref_watch_L250 hw hG hKc129 H
def f_Ref_watch_L213 (Γ : gm_T) (Kc129 : ph_T → Nat → Int32 → Int32 → Int32 → Int32 → Option (Unit × ph_T)) (φ : ph_T) (x0 : Nat) (x1 : Int32) (x2 : Int32) (x3 : Int32) (x4 : Int32) (y0 : Int32) (y1 : Option Nat) : Option (Unit × ph_T) :=
  f_Ref_watch_L214 Γ Kc129 φ x0 x1 x2 x3 x4 (0 : Int32) y0 y1
set_option maxRecDepth 100000 in
set_option maxHeartbeats 4000000 in
theorem p_Ref_watch_L213 {w : jw_T} (hw : jok w) {Γ : gm_T} {n : Nat} (hG : gd w Γ n) {Kc129 : ph_T → Nat → Int32 → Int32 → Int32 → Int32 → Option (Unit × ph_T)} (hKc129 : ∀ {x : Bool} {φ : ph_T} {x0 : Nat} {x1 : Int32} {x2 : Int32} {x3 : Int32} {x4 : Int32} {q : Unit × ph_T}, Kc129 φ x0 x1 x2 x3 x4 = some q → J w M_Ref_watch 129 [some (.ref x0), some (.int x1), some (.int x2), some (.int x3), some (.int x4), none, none] [] (pic Γ φ) n x 0 0 (fq Γ n (.inl none) q.2)) {x : Bool} {φ : ph_T} {x0 : Nat} {x1 : Int32} {x2 : Int32} {x3 : Int32} {x4 : Int32} {y0 : Int32} {y1 : Option Nat} {q : Unit × ph_T} (H : f_Ref_watch_L213 Γ Kc129 φ x0 x1 x2 x3 x4 y0 y1 = some q) : J w M_Ref_watch 213 [some (.ref x0), some (.int x1), some (.int x2), some (.int x3), some (.int x4), none, none] [.int y0, va_rf y1] (pic Γ φ) n x 0 0 (fq Γ n (.inl none) q.2) := by
  unfold f_Ref_watch_L213 at H
  refine J_iconst (v := 0) d_Ref_watch_213 (by decide) ?_
  refine J.drop [true, true, true, true, true, false, false] rfl ?_
  exact p_Ref_watch_L214 hw hG hKc129 H
def f_Ref_watch_L187 (Γ : gm_T) (Kc129 : ph_T → Nat → Int32 → Int32 → Int32 → Int32 → Option (Unit × ph_T)) (φ : ph_T) (x0 : Nat) (x1 : Int32) (x2 : Int32) (x3 : Int32) (x4 : Int32) (x5 : Int32) (y0 : Int32) : Option (Unit × ph_T) :=
  @ite _ (Γ x0 = .inr 12) _ (
  if x5 = 0 then
    f_Ref_watch_L213 Γ Kc129 φ x0 x1 x2 x3 x4 (((5 : Int32) * x1) + x4) (φ.2.2 x0 82)
  else
    if y0 = 0 then
      f_Ref_watch_L214 Γ Kc129 φ x0 x1 x2 x3 x4 (1 : Int32) (((5 : Int32) * x1) + x4) (φ.2.2 x0 82)
    else
      f_Ref_watch_L213 Γ Kc129 φ x0 x1 x2 x3 x4 (((5 : Int32) * x1) + x4) (φ.2.2 x0 82)
  ) none
set_option maxRecDepth 100000 in
set_option maxHeartbeats 4000000 in
theorem p_Ref_watch_L187 {w : jw_T} (hw : jok w) {Γ : gm_T} {n : Nat} (hG : gd w Γ n) {Kc129 : ph_T → Nat → Int32 → Int32 → Int32 → Int32 → Option (Unit × ph_T)} (hKc129 : ∀ {x : Bool} {φ : ph_T} {x0 : Nat} {x1 : Int32} {x2 : Int32} {x3 : Int32} {x4 : Int32} {q : Unit × ph_T}, Kc129 φ x0 x1 x2 x3 x4 = some q → J w M_Ref_watch 129 [some (.ref x0), some (.int x1), some (.int x2), some (.int x3), some (.int x4), none, none] [] (pic Γ φ) n x 0 0 (fq Γ n (.inl none) q.2)) {x : Bool} {φ : ph_T} {x0 : Nat} {x1 : Int32} {x2 : Int32} {x3 : Int32} {x4 : Int32} {x5 : Int32} {y0 : Int32} {q : Unit × ph_T} (H : f_Ref_watch_L187 Γ Kc129 φ x0 x1 x2 x3 x4 x5 y0 = some q) : J w M_Ref_watch 187 [some (.ref x0), some (.int x1), some (.int x2), some (.int x3), some (.int x4), some (.int x5), none] [.int y0] (pic Γ φ) n x 0 0 (fq Γ n (.inl none) q.2) := by
  unfold f_Ref_watch_L187 at H
  refine J_istore d_Ref_watch_187 (Nat.le_of_ble_eq_true rfl) ?_
  refine J.ls (ls' := [some (.ref x0), some (.int x1), some (.int x2), some (.int x3), some (.int x4), some (.int x5), some (.int y0)]) rfl ?_
  refine J_aload_n d_Ref_watch_189 rfl ?_
  have g27 : Γ x0 = .inr 12 := by
    apply Classical.byContradiction
    intro q9
    rw [if_neg q9] at H
    cases H
  rw [if_pos g27] at H
  refine F_getR (ci := 12) (k := 82) hG (cf_Ref hw) (fl_Ref_226 hw) (by decide) (by decide) rfl d_Ref_watch_190 g27 ?_
  refine J_iconst (v := 5) d_Ref_watch_193 (by decide) ?_
  refine J_iload_n d_Ref_watch_194 rfl ?_
  refine J_imul d_Ref_watch_195 ?_
  refine J_iload d_Ref_watch_196 rfl ?_
  refine J_iadd d_Ref_watch_198 ?_
  refine J_iload d_Ref_watch_199 rfl ?_
  refine J_if_eq (tgt := 213) d_Ref_watch_201 (by decide) ?_ ?_
  · intro c29
    rw [if_pos c29] at H
    refine J.drop [true, true, true, true, true, false, false] rfl ?_
    exact p_Ref_watch_L213 hw hG hKc129 H
  · intro c29
    rw [if_neg c29] at H
    refine J_iload d_Ref_watch_204 rfl ?_
    refine J_if_ne (tgt := 213) d_Ref_watch_206 (by decide) ?_ ?_
    · intro c28
      rw [if_neg c28] at H
      refine J.drop [true, true, true, true, true, false, false] rfl ?_
      exact p_Ref_watch_L213 hw hG hKc129 H
    · intro c28
      rw [if_pos c28] at H
      refine J_iconst (v := 1) d_Ref_watch_209 (by decide) ?_
      refine J_goto (tgt := 214) d_Ref_watch_210 (by decide) ?_
      refine J.drop [true, true, true, true, true, false, false] rfl ?_
      exact p_Ref_watch_L214 hw hG hKc129 H
def f_Ref_watch_L160 (Γ : gm_T) (Kc129 : ph_T → Nat → Int32 → Int32 → Int32 → Int32 → Option (Unit × ph_T)) (φ : ph_T) (x0 : Nat) (x1 : Int32) (x2 : Int32) (x3 : Int32) (x4 : Int32) (y0 : Int32) : Option (Unit × ph_T) :=
  if x3 = 0 then
    @ite _ (Γ x0 = .inr 12) _ (
    Option.bind (φ.2.2 x0 34) fun a31 =>
    Option.bind (gA Γ a31 2) fun N32 =>
    Option.bind (ix (x2 + x4) N32) fun k33 =>
    f_Ref_watch_L187 Γ Kc129 φ x0 x1 x2 x3 x4 y0 (φ.1 a31 k33)
    ) none
  else
    @ite _ (Γ x0 = .inr 12) _ (
    Option.bind (φ.2.2 x0 99) fun a35 =>
    Option.bind (gA Γ a35 2) fun N36 =>
    Option.bind (ix (x2 + x4) N36) fun k37 =>
    f_Ref_watch_L187 Γ Kc129 φ x0 x1 x2 x3 x4 y0 (φ.1 a35 k37)
    ) none
set_option maxRecDepth 100000 in
set_option maxHeartbeats 4000000 in
theorem p_Ref_watch_L160 {w : jw_T} (hw : jok w) {Γ : gm_T} {n : Nat} (hG : gd w Γ n) {Kc129 : ph_T → Nat → Int32 → Int32 → Int32 → Int32 → Option (Unit × ph_T)} (hKc129 : ∀ {x : Bool} {φ : ph_T} {x0 : Nat} {x1 : Int32} {x2 : Int32} {x3 : Int32} {x4 : Int32} {q : Unit × ph_T}, Kc129 φ x0 x1 x2 x3 x4 = some q → J w M_Ref_watch 129 [some (.ref x0), some (.int x1), some (.int x2), some (.int x3), some (.int x4), none, none] [] (pic Γ φ) n x 0 0 (fq Γ n (.inl none) q.2)) {x : Bool} {φ : ph_T} {x0 : Nat} {x1 : Int32} {x2 : Int32} {x3 : Int32} {x4 : Int32} {y0 : Int32} {q : Unit × ph_T} (H : f_Ref_watch_L160 Γ Kc129 φ x0 x1 x2 x3 x4 y0 = some q) : J w M_Ref_watch 160 [some (.ref x0), some (.int x1), some (.int x2), some (.int x3), some (.int x4), none, none] [.int y0] (pic Γ φ) n x 0 0 (fq Γ n (.inl none) q.2) := by
  unfold f_Ref_watch_L160 at H
  refine J_istore d_Ref_watch_160 (Nat.le_of_ble_eq_true rfl) ?_
  refine J.ls (ls' := [some (.ref x0), some (.int x1), some (.int x2), some (.int x3), some (.int x4), some (.int y0), none]) rfl ?_
  refine J_iload_n d_Ref_watch_162 rfl ?_
  refine J_if_eq (tgt := 178) d_Ref_watch_163 (by decide) ?_ ?_
  · intro c38
    rw [if_pos c38] at H
    refine J_aload_n d_Ref_watch_178 rfl ?_
    have g30 : Γ x0 = .inr 12 := by
      apply Classical.byContradiction
      intro q9
      rw [if_neg q9] at H
      cases H
    rw [if_pos g30] at H
    refine F_getR (ci := 12) (k := 34) hG (cf_Ref hw) (fl_Ref_91 hw) (by decide) (by decide) rfl d_Ref_watch_179 g30 ?_
    refine J_iload_n d_Ref_watch_182 rfl ?_
    refine J_iload d_Ref_watch_183 rfl ?_
    refine J_iadd d_Ref_watch_185 ?_
    obtain ⟨a31, ha31, H⟩ := Option.bind_eq_some_iff.mp H
    rw [j_rf ha31]
    obtain ⟨N32, hN32, H⟩ := Option.bind_eq_some_iff.mp H
    obtain ⟨k33, hk33, H⟩ := Option.bind_eq_some_iff.mp H
    refine F_zald k33 hw hG d_Ref_watch_186 (gA_some hN32) (ix_some hk33) ?_
    refine J.drop [true, true, true, true, true, true, false] rfl ?_
    exact p_Ref_watch_L187 hw hG hKc129 H
  · intro c38
    rw [if_neg c38] at H
    refine J_aload_n d_Ref_watch_166 rfl ?_
    have g34 : Γ x0 = .inr 12 := by
      apply Classical.byContradiction
      intro q9
      rw [if_neg q9] at H
      cases H
    rw [if_pos g34] at H
    refine F_getR (ci := 12) (k := 99) hG (cf_Ref hw) (fl_Ref_277 hw) (by decide) (by decide) rfl d_Ref_watch_167 g34 ?_
    refine J_iload_n d_Ref_watch_170 rfl ?_
    refine J_iload d_Ref_watch_171 rfl ?_
    refine J_iadd d_Ref_watch_173 ?_
    obtain ⟨a35, ha35, H⟩ := Option.bind_eq_some_iff.mp H
    rw [j_rf ha35]
    obtain ⟨N36, hN36, H⟩ := Option.bind_eq_some_iff.mp H
    obtain ⟨k37, hk37, H⟩ := Option.bind_eq_some_iff.mp H
    refine F_zald k37 hw hG d_Ref_watch_174 (gA_some hN36) (ix_some hk37) ?_
    refine J_goto (tgt := 187) d_Ref_watch_175 (by decide) ?_
    refine J.drop [true, true, true, true, true, true, false] rfl ?_
    exact p_Ref_watch_L187 hw hG hKc129 H
def f_Ref_watch_L129 (Γ : gm_T)  : Nat → ph_T → Nat → Int32 → Int32 → Int32 → Int32 → Option (Unit × ph_T)
  | 0, _, _, _, _, _, _ => none
  | fu + 1, φ, x0, x1, x2, x3, x4 =>
    if (5 : Int32) ≤ x4 then
      @ite _ (Γ x0 = .inr 12) _ (
      Option.bind (φ.2.2 x0 85) fun a40 =>
      Option.bind (gA Γ a40 0) fun N41 =>
      Option.bind (ix x1 N41) fun k42 =>
      Option.bind (gA Γ a40 0) fun N43 =>
      Option.bind (ix x1 N43) fun k44 =>
      some ((), (uI φ a40 k44 ((φ.1 a40 k42) + (1 : Int32))))
      ) none
    else
      if x3 = 0 then
        @ite _ (Γ x0 = .inr 12) _ (
        Option.bind (φ.2.2 x0 33) fun a46 =>
        Option.bind (gA Γ a46 2) fun N47 =>
        Option.bind (ix (x2 + x4) N47) fun k48 =>
        f_Ref_watch_L160 Γ (f_Ref_watch_L129 Γ  fu) φ x0 x1 x2 x3 x4 (φ.1 a46 k48)
        ) none
      else
        @ite _ (Γ x0 = .inr 12) _ (
        Option.bind (φ.2.2 x0 98) fun a50 =>
        Option.bind (gA Γ a50 2) fun N51 =>
        Option.bind (ix (x2 + x4) N51) fun k52 =>
        f_Ref_watch_L160 Γ (f_Ref_watch_L129 Γ  fu) φ x0 x1 x2 x3 x4 (φ.1 a50 k52)
        ) none
set_option maxRecDepth 100000 in
set_option maxHeartbeats 4000000 in
theorem p_Ref_watch_L129 {w : jw_T} (hw : jok w) {Γ : gm_T} {n : Nat} (hG : gd w Γ n)  : ∀ (fu : Nat) {x : Bool} {φ : ph_T} {x0 : Nat} {x1 : Int32} {x2 : Int32} {x3 : Int32} {x4 : Int32} {q : Unit × ph_T}, f_Ref_watch_L129 Γ  fu φ x0 x1 x2 x3 x4 = some q → J w M_Ref_watch 129 [some (.ref x0), some (.int x1), some (.int x2), some (.int x3), some (.int x4), none, none] [] (pic Γ φ) n x 0 0 (fq Γ n (.inl none) q.2) := by
  intro fu
  induction fu with
  | zero =>
    intro x φ x0 x1 x2 x3 x4 q H
    cases H
  | succ fu ih =>
    intro x φ x0 x1 x2 x3 x4 q H
    unfold f_Ref_watch_L129 at H
    refine J_iload d_Ref_watch_129 rfl ?_
    refine J_iconst (v := 5) d_Ref_watch_131 (by decide) ?_
    refine J_icmp_ge (tgt := 293) d_Ref_watch_132 (by decide) ?_ ?_
    · intro c54
      rw [if_pos c54] at H
      refine J_aload_n d_Ref_watch_293 rfl ?_
      have g39 : Γ x0 = .inr 12 := by
        apply Classical.byContradiction
        intro q9
        rw [if_neg q9] at H
        cases H
      rw [if_pos g39] at H
      refine F_getR (ci := 12) (k := 85) hG (cf_Ref hw) (fl_Ref_235 hw) (by decide) (by decide) rfl d_Ref_watch_294 g39 ?_
      refine J_iload_n d_Ref_watch_297 rfl ?_
      refine J_dup2 d_Ref_watch_298 rfl (va_rf_cat _) ?_
      obtain ⟨a40, ha40, H⟩ := Option.bind_eq_some_iff.mp H
      rw [j_rf ha40]
      obtain ⟨N41, hN41, H⟩ := Option.bind_eq_some_iff.mp H
      obtain ⟨k42, hk42, H⟩ := Option.bind_eq_some_iff.mp H
      refine F_iald k42 hw hG d_Ref_watch_299 (gA_some hN41) (ix_some hk42) ?_
      refine J_iconst (v := 1) d_Ref_watch_300 (by decide) ?_
      refine J_iadd d_Ref_watch_301 ?_
      obtain ⟨N43, hN43, H⟩ := Option.bind_eq_some_iff.mp H
      obtain ⟨k44, hk44, H⟩ := Option.bind_eq_some_iff.mp H
      refine F_iast k44 hw hG d_Ref_watch_302 (gA_some hN43) (ix_some hk44) ?_
      have H := Option.some.inj H
      subst H
      exact J_vret (st := []) d_Ref_watch_303 rfl ⟨rfl, rfl, rfl⟩
    · intro c54
      rw [if_neg c54] at H
      refine J_iload_n d_Ref_watch_135 rfl ?_
      refine J_if_eq (tgt := 151) d_Ref_watch_136 (by decide) ?_ ?_
      · intro c53
        rw [if_pos c53] at H
        refine J_aload_n d_Ref_watch_151 rfl ?_
        have g45 : Γ x0 = .inr 12 := by
          apply Classical.byContradiction
          intro q9
          rw [if_neg q9] at H
          cases H
        rw [if_pos g45] at H
        refine F_getR (ci := 12) (k := 33) hG (cf_Ref hw) (fl_Ref_88 hw) (by decide) (by decide) rfl d_Ref_watch_152 g45 ?_
        refine J_iload_n d_Ref_watch_155 rfl ?_
        refine J_iload d_Ref_watch_156 rfl ?_
        refine J_iadd d_Ref_watch_158 ?_
        obtain ⟨a46, ha46, H⟩ := Option.bind_eq_some_iff.mp H
        rw [j_rf ha46]
        obtain ⟨N47, hN47, H⟩ := Option.bind_eq_some_iff.mp H
        obtain ⟨k48, hk48, H⟩ := Option.bind_eq_some_iff.mp H
        refine F_zald k48 hw hG d_Ref_watch_159 (gA_some hN47) (ix_some hk48) ?_
        refine J.drop [true, true, true, true, true, false, false] rfl ?_
        exact p_Ref_watch_L160 hw hG ih H
      · intro c53
        rw [if_neg c53] at H
        refine J_aload_n d_Ref_watch_139 rfl ?_
        have g49 : Γ x0 = .inr 12 := by
          apply Classical.byContradiction
          intro q9
          rw [if_neg q9] at H
          cases H
        rw [if_pos g49] at H
        refine F_getR (ci := 12) (k := 98) hG (cf_Ref hw) (fl_Ref_274 hw) (by decide) (by decide) rfl d_Ref_watch_140 g49 ?_
        refine J_iload_n d_Ref_watch_143 rfl ?_
        refine J_iload d_Ref_watch_144 rfl ?_
        refine J_iadd d_Ref_watch_146 ?_
        obtain ⟨a50, ha50, H⟩ := Option.bind_eq_some_iff.mp H
        rw [j_rf ha50]
        obtain ⟨N51, hN51, H⟩ := Option.bind_eq_some_iff.mp H
        obtain ⟨k52, hk52, H⟩ := Option.bind_eq_some_iff.mp H
        refine F_zald k52 hw hG d_Ref_watch_147 (gA_some hN51) (ix_some hk52) ?_
        refine J_goto (tgt := 160) d_Ref_watch_148 (by decide) ?_
        refine J.drop [true, true, true, true, true, false, false] rfl ?_
        exact p_Ref_watch_L160 hw hG ih H
def f_Ref_watch_L126 (Γ : gm_T)  (φ : ph_T) (x0 : Nat) (x1 : Int32) (x2 : Int32) (x3 : Int32) : Option (Unit × ph_T) :=
  f_Ref_watch_L129 Γ  jF φ x0 x1 x2 x3 (0 : Int32)
set_option maxRecDepth 100000 in
set_option maxHeartbeats 4000000 in
theorem p_Ref_watch_L126 {w : jw_T} (hw : jok w) {Γ : gm_T} {n : Nat} (hG : gd w Γ n)  {x : Bool} {φ : ph_T} {x0 : Nat} {x1 : Int32} {x2 : Int32} {x3 : Int32} {q : Unit × ph_T} (H : f_Ref_watch_L126 Γ  φ x0 x1 x2 x3 = some q) : J w M_Ref_watch 126 [some (.ref x0), some (.int x1), some (.int x2), some (.int x3), none, none, none] [] (pic Γ φ) n x 0 0 (fq Γ n (.inl none) q.2) := by
  unfold f_Ref_watch_L126 at H
  refine J_iconst (v := 0) d_Ref_watch_126 (by decide) ?_
  refine J_istore d_Ref_watch_127 (Nat.le_of_ble_eq_true rfl) ?_
  refine J.ls (ls' := [some (.ref x0), some (.int x1), some (.int x2), some (.int x3), some (.int (0 : Int32)), none, none]) rfl ?_
  refine J.drop [true, true, true, true, true, false, false] rfl ?_
  exact p_Ref_watch_L129 hw hG  _ H
def f_Ref_watch_L110 (Γ : gm_T)  (φ : ph_T) (x0 : Nat) (x1 : Int32) (x2 : Int32) (x3 : Int32) : Option (Unit × ph_T) :=
  @ite _ (Γ x0 = .inr 12) _ (
  Option.bind (φ.2.2 x0 86) fun a56 =>
  Option.bind (gA Γ a56 0) fun N57 =>
  Option.bind (ix x1 N57) fun k58 =>
  if (φ.1 a56 k58) = 0 then
    Option.bind (f_Ref_go Γ φ x0 x1 x2 x3) fun q59 =>
    f_Ref_watch_L126 Γ  q59.2 x0 x1 x2 x3
  else
    f_Ref_watch_L126 Γ  φ x0 x1 x2 x3
  ) none
set_option maxRecDepth 100000 in
set_option maxHeartbeats 4000000 in
theorem p_Ref_watch_L110 {w : jw_T} (hw : jok w) {Γ : gm_T} {n : Nat} (hG : gd w Γ n)  {x : Bool} {φ : ph_T} {x0 : Nat} {x1 : Int32} {x2 : Int32} {x3 : Int32} {q : Unit × ph_T} (H : f_Ref_watch_L110 Γ  φ x0 x1 x2 x3 = some q) : J w M_Ref_watch 110 [some (.ref x0), some (.int x1), some (.int x2), some (.int x3), none, none, none] [] (pic Γ φ) n x 0 0 (fq Γ n (.inl none) q.2) := by
  unfold f_Ref_watch_L110 at H
  refine J_aload_n d_Ref_watch_110 rfl ?_
  have g55 : Γ x0 = .inr 12 := by
    apply Classical.byContradiction
    intro q9
    rw [if_neg q9] at H
    cases H
  rw [if_pos g55] at H
  refine F_getR (ci := 12) (k := 86) hG (cf_Ref hw) (fl_Ref_238 hw) (by decide) (by decide) rfl d_Ref_watch_111 g55 ?_
  refine J_iload_n d_Ref_watch_114 rfl ?_
  obtain ⟨a56, ha56, H⟩ := Option.bind_eq_some_iff.mp H
  rw [j_rf ha56]
  obtain ⟨N57, hN57, H⟩ := Option.bind_eq_some_iff.mp H
  obtain ⟨k58, hk58, H⟩ := Option.bind_eq_some_iff.mp H
  refine F_iald k58 hw hG d_Ref_watch_115 (gA_some hN57) (ix_some hk58) ?_
  refine J_if_ne (tgt := 126) d_Ref_watch_116 (by decide) ?_ ?_
  · intro c60
    rw [if_neg c60] at H
    refine J.drop [true, true, true, true, false, false, false] rfl ?_
    exact p_Ref_watch_L126 hw hG  H
  · intro c60
    rw [if_pos c60] at H
    refine J_aload_n d_Ref_watch_119 rfl ?_
    refine J_iload_n d_Ref_watch_120 rfl ?_
    refine J_iload_n d_Ref_watch_121 rfl ?_
    refine J_iload_n d_Ref_watch_122 rfl ?_
    obtain ⟨q59, hq59, H⟩ := Option.bind_eq_some_iff.mp H
    refine J_callV (kc := 0) (ks := 0) (kc' := 0) (ks' := 0) (a := x0) (ci := 12) (as := [.int x1, .int x2, .int x3]) (st := []) (mf_Ref_go hw) (mv_Ref_445 hw) d_Ref_watch_123 ln_Ref_go (by decide) (by first | exact Nat.le_of_ble_eq_true rfl | (simp only [List.map_cons, List.map_nil, List.sum_cons, List.sum_nil, va_rf_cat]; exact Nat.le_of_ble_eq_true rfl)) rfl ((hG _).1 _ g55 (by decide)).1 ((hG _).1 _ g55 (by decide)).2 (by unfold pic; rw [g55]; rfl) (jcl_at hw rfl) rfl (p_Ref_go hw hG hq59) ?_ (fun E h' n' x' e1 => by cases e1.1)
    intro v9 h9 n9 x9 e9
    obtain ⟨e91, e92, e93⟩ := e9
    cases e91
    subst e92
    subst e93
    clear x
    rename Bool => x
    show J _ _ _ _ [] _ _ _ _ _ _
    refine J.drop [true, true, true, true, false, false, false] rfl ?_
    exact p_Ref_watch_L126 hw hG  H
def f_Ref_watch_L101 (Γ : gm_T) (Kc3 : ph_T → Nat → Int32 → Int32 → Int32 → Int32 → Option (Unit × ph_T)) (φ : ph_T) (x0 : Nat) (x1 : Int32) (x2 : Int32) (x3 : Int32) (x4 : Int32) (y0 : Int32) (y1 : Int64) (y2 : Int32) (y3 : Int32) (y4 : Int32) (y5 : Nat) : Option (Unit × ph_T) :=
  @ite _ (Γ y5 = .inr 12) _ (
  Option.bind (f_Ref_lookAt Γ φ y5 y4 y3 y2 y1 y0) fun q62 =>
  Kc3 q62.2 x0 x1 x2 x3 (x4 + (1 : Int32))
  ) none
set_option maxRecDepth 100000 in
set_option maxHeartbeats 4000000 in
theorem p_Ref_watch_L101 {w : jw_T} (hw : jok w) {Γ : gm_T} {n : Nat} (hG : gd w Γ n) {Kc3 : ph_T → Nat → Int32 → Int32 → Int32 → Int32 → Option (Unit × ph_T)} (hKc3 : ∀ {x : Bool} {φ : ph_T} {x0 : Nat} {x1 : Int32} {x2 : Int32} {x3 : Int32} {x4 : Int32} {q : Unit × ph_T}, Kc3 φ x0 x1 x2 x3 x4 = some q → J w M_Ref_watch 3 [some (.ref x0), some (.int x1), some (.int x2), some (.int x3), some (.int x4), none, none] [] (pic Γ φ) n x 0 0 (fq Γ n (.inl none) q.2)) {x : Bool} {φ : ph_T} {x0 : Nat} {x1 : Int32} {x2 : Int32} {x3 : Int32} {x4 : Int32} {y0 : Int32} {y1 : Int64} {y2 : Int32} {y3 : Int32} {y4 : Int32} {y5 : Nat} {q : Unit × ph_T} (H : f_Ref_watch_L101 Γ Kc3 φ x0 x1 x2 x3 x4 y0 y1 y2 y3 y4 y5 = some q) : J w M_Ref_watch 101 [some (.ref x0), some (.int x1), some (.int x2), some (.int x3), some (.int x4), none, none] [.int y0, .long y1, .int y2, .int y3, .int y4, .ref y5] (pic Γ φ) n x 0 0 (fq Γ n (.inl none) q.2) := by
  unfold f_Ref_watch_L101 at H
  have g61 : Γ y5 = .inr 12 := by
    apply Classical.byContradiction
    intro q9
    rw [if_neg q9] at H
    cases H
  rw [if_pos g61] at H
  obtain ⟨q62, hq62, H⟩ := Option.bind_eq_some_iff.mp H
  refine J_callV (kc := 0) (ks := 0) (kc' := 0) (ks' := 0) (a := y5) (ci := 12) (as := [.int y4, .int y3, .int y2, .long y1, .int y0]) (st := []) (mf_Ref_lookAt hw) (mv_Ref_441 hw) d_Ref_watch_101 ln_Ref_lookAt (by decide) (by first | exact Nat.le_of_ble_eq_true rfl | (simp only [List.map_cons, List.map_nil, List.sum_cons, List.sum_nil, va_rf_cat]; exact Nat.le_of_ble_eq_true rfl)) rfl ((hG _).1 _ g61 (by decide)).1 ((hG _).1 _ g61 (by decide)).2 (by unfold pic; rw [g61]; rfl) (jcl_at hw rfl) rfl (p_Ref_lookAt hw hG hq62) ?_ (fun E h' n' x' e1 => by cases e1.1)
  intro v9 h9 n9 x9 e9
  obtain ⟨e91, e92, e93⟩ := e9
  cases e91
  subst e92
  subst e93
  clear x
  rename Bool => x
  show J _ _ _ _ [] _ _ _ _ _ _
  refine J_iinc (v := x4 + 1) d_Ref_watch_104 rfl (by rw [show Int32.ofInt 1 = (1 : Int32) from by decide]) ?_
  refine J.ls (ls' := [some (.ref x0), some (.int x1), some (.int x2), some (.int x3), some (.int (x4 + (1 : Int32))), none, none]) rfl ?_
  refine J_goto (tgt := 3) d_Ref_watch_107 (by decide) ?_
  refine J.drop [true, true, true, true, true, false, false] rfl ?_
  exact hKc3 H
def f_Ref_watch_L76 (Γ : gm_T) (Kc3 : ph_T → Nat → Int32 → Int32 → Int32 → Int32 → Option (Unit × ph_T)) (φ : ph_T) (x0 : Nat) (x1 : Int32) (x2 : Int32) (x3 : Int32) (x4 : Int32) (y0 : Int64) (y1 : Int32) (y2 : Int32) (y3 : Int32) (y4 : Nat) : Option (Unit × ph_T) :=
  if x3 = 0 then
    @ite _ (Γ x0 = .inr 12) _ (
    Option.bind (φ.2.2 x0 36) fun a64 =>
    Option.bind (gA Γ a64 0) fun N65 =>
    Option.bind (ix (x2 + x4) N65) fun k66 =>
    f_Ref_watch_L101 Γ Kc3 φ x0 x1 x2 x3 x4 (φ.1 a64 k66) y0 y1 y2 y3 y4
    ) none
  else
    @ite _ (Γ x0 = .inr 12) _ (
    Option.bind (φ.2.2 x0 101) fun a68 =>
    Option.bind (gA Γ a68 0) fun N69 =>
    Option.bind (ix (x2 + x4) N69) fun k70 =>
    f_Ref_watch_L101 Γ Kc3 φ x0 x1 x2 x3 x4 (φ.1 a68 k70) y0 y1 y2 y3 y4
    ) none
set_option maxRecDepth 100000 in
set_option maxHeartbeats 4000000 in
theorem p_Ref_watch_L76 {w : jw_T} (hw : jok w) {Γ : gm_T} {n : Nat} (hG : gd w Γ n) {Kc3 : ph_T → Nat → Int32 → Int32 → Int32 → Int32 → Option (Unit × ph_T)} (hKc3 : ∀ {x : Bool} {φ : ph_T} {x0 : Nat} {x1 : Int32} {x2 : Int32} {x3 : Int32} {x4 : Int32} {q : Unit × ph_T}, Kc3 φ x0 x1 x2 x3 x4 = some q → J w M_Ref_watch 3 [some (.ref x0), some (.int x1), some (.int x2), some (.int x3), some (.int x4), none, none] [] (pic Γ φ) n x 0 0 (fq Γ n (.inl none) q.2)) {x : Bool} {φ : ph_T} {x0 : Nat} {x1 : Int32} {x2 : Int32} {x3 : Int32} {x4 : Int32} {y0 : Int64} {y1 : Int32} {y2 : Int32} {y3 : Int32} {y4 : Nat} {q : Unit × ph_T} (H : f_Ref_watch_L76 Γ Kc3 φ x0 x1 x2 x3 x4 y0 y1 y2 y3 y4 = some q) : J w M_Ref_watch 76 [some (.ref x0), some (.int x1), some (.int x2), some (.int x3), some (.int x4), none, none] [.long y0, .int y1, .int y2, .int y3, .ref y4] (pic Γ φ) n x 0 0 (fq Γ n (.inl none) q.2) := by
  unfold f_Ref_watch_L76 at H
  refine J_iload_n d_Ref_watch_76 rfl ?_
  refine J_if_eq (tgt := 92) d_Ref_watch_77 (by decide) ?_ ?_
  · intro c71
    rw [if_pos c71] at H
    refine J_aload_n d_Ref_watch_92 rfl ?_
    have g63 : Γ x0 = .inr 12 := by
      apply Classical.byContradiction
      intro q9
      rw [if_neg q9] at H
      cases H
    rw [if_pos g63] at H
    refine F_getR (ci := 12) (k := 36) hG (cf_Ref hw) (fl_Ref_97 hw) (by decide) (by decide) rfl d_Ref_watch_93 g63 ?_
    refine J_iload_n d_Ref_watch_96 rfl ?_
    refine J_iload d_Ref_watch_97 rfl ?_
    refine J_iadd d_Ref_watch_99 ?_
    obtain ⟨a64, ha64, H⟩ := Option.bind_eq_some_iff.mp H
    rw [j_rf ha64]
    obtain ⟨N65, hN65, H⟩ := Option.bind_eq_some_iff.mp H
    obtain ⟨k66, hk66, H⟩ := Option.bind_eq_some_iff.mp H
    refine F_iald k66 hw hG d_Ref_watch_100 (gA_some hN65) (ix_some hk66) ?_
    refine J.drop [true, true, true, true, true, false, false] rfl ?_
    exact p_Ref_watch_L101 hw hG hKc3 H
  · intro c71
    rw [if_neg c71] at H
    refine J_aload_n d_Ref_watch_80 rfl ?_
    have g67 : Γ x0 = .inr 12 := by
      apply Classical.byContradiction
      intro q9
      rw [if_neg q9] at H
      cases H
    rw [if_pos g67] at H
    refine F_getR (ci := 12) (k := 101) hG (cf_Ref hw) (fl_Ref_283 hw) (by decide) (by decide) rfl d_Ref_watch_81 g67 ?_
    refine J_iload_n d_Ref_watch_84 rfl ?_
    refine J_iload d_Ref_watch_85 rfl ?_
    refine J_iadd d_Ref_watch_87 ?_
    obtain ⟨a68, ha68, H⟩ := Option.bind_eq_some_iff.mp H
    rw [j_rf ha68]
    obtain ⟨N69, hN69, H⟩ := Option.bind_eq_some_iff.mp H
    obtain ⟨k70, hk70, H⟩ := Option.bind_eq_some_iff.mp H
    refine F_iald k70 hw hG d_Ref_watch_88 (gA_some hN69) (ix_some hk70) ?_
    refine J_goto (tgt := 101) d_Ref_watch_89 (by decide) ?_
    refine J.drop [true, true, true, true, true, false, false] rfl ?_
    exact p_Ref_watch_L101 hw hG hKc3 H
def f_Ref_watch_L43 (Γ : gm_T) (Kc3 : ph_T → Nat → Int32 → Int32 → Int32 → Int32 → Option (Unit × ph_T)) (φ : ph_T) (x0 : Nat) (x1 : Int32) (x2 : Int32) (x3 : Int32) (x4 : Int32) (y0 : Int32) : Option (Unit × ph_T) :=
  if x3 = 0 then
    @ite _ (Γ x0 = .inr 12) _ (
    Option.bind (φ.2.2 x0 35) fun a73 =>
    Option.bind (gA Γ a73 1) fun N74 =>
    Option.bind (ix (x2 + x4) N74) fun k75 =>
    f_Ref_watch_L76 Γ Kc3 φ x0 x1 x2 x3 x4 (φ.2.1 a73 k75) y0 x4 x1 x0
    ) none
  else
    @ite _ (Γ x0 = .inr 12) _ (
    Option.bind (φ.2.2 x0 100) fun a77 =>
    Option.bind (gA Γ a77 1) fun N78 =>
    Option.bind (ix (x2 + x4) N78) fun k79 =>
    f_Ref_watch_L76 Γ Kc3 φ x0 x1 x2 x3 x4 (φ.2.1 a77 k79) y0 x4 x1 x0
    ) none
set_option maxRecDepth 100000 in
set_option maxHeartbeats 4000000 in
theorem p_Ref_watch_L43 {w : jw_T} (hw : jok w) {Γ : gm_T} {n : Nat} (hG : gd w Γ n) {Kc3 : ph_T → Nat → Int32 → Int32 → Int32 → Int32 → Option (Unit × ph_T)} (hKc3 : ∀ {x : Bool} {φ : ph_T} {x0 : Nat} {x1 : Int32} {x2 : Int32} {x3 : Int32} {x4 : Int32} {q : Unit × ph_T}, Kc3 φ x0 x1 x2 x3 x4 = some q → J w M_Ref_watch 3 [some (.ref x0), some (.int x1), some (.int x2), some (.int x3), some (.int x4), none, none] [] (pic Γ φ) n x 0 0 (fq Γ n (.inl none) q.2)) {x : Bool} {φ : ph_T} {x0 : Nat} {x1 : Int32} {x2 : Int32} {x3 : Int32} {x4 : Int32} {y0 : Int32} {q : Unit × ph_T} (H : f_Ref_watch_L43 Γ Kc3 φ x0 x1 x2 x3 x4 y0 = some q) : J w M_Ref_watch 43 [some (.ref x0), some (.int x1), some (.int x2), some (.int x3), some (.int x4), none, none] [.int y0] (pic Γ φ) n x 0 0 (fq Γ n (.inl none) q.2) := by
  unfold f_Ref_watch_L43 at H
  refine J_istore d_Ref_watch_43 (Nat.le_of_ble_eq_true rfl) ?_
  refine J.ls (ls' := [some (.ref x0), some (.int x1), some (.int x2), some (.int x3), some (.int x4), some (.int y0), none]) rfl ?_
  refine J_aload_n d_Ref_watch_45 rfl ?_
  refine J_iload_n d_Ref_watch_46 rfl ?_
  refine J_iload d_Ref_watch_47 rfl ?_
  refine J_iload d_Ref_watch_49 rfl ?_
  refine J_iload_n d_Ref_watch_51 rfl ?_
  refine J_if_eq (tgt := 67) d_Ref_watch_52 (by decide) ?_ ?_
  · intro c80
    rw [if_pos c80] at H
    refine J_aload_n d_Ref_watch_67 rfl ?_
    have g72 : Γ x0 = .inr 12 := by
      apply Classical.byContradiction
      intro q9
      rw [if_neg q9] at H
      cases H
    rw [if_pos g72] at H
    refine F_getR (ci := 12) (k := 35) hG (cf_Ref hw) (fl_Ref_94 hw) (by decide) (by decide) rfl d_Ref_watch_68 g72 ?_
    refine J_iload_n d_Ref_watch_71 rfl ?_
    refine J_iload d_Ref_watch_72 rfl ?_
    refine J_iadd d_Ref_watch_74 ?_
    obtain ⟨a73, ha73, H⟩ := Option.bind_eq_some_iff.mp H
    rw [j_rf ha73]
    obtain ⟨N74, hN74, H⟩ := Option.bind_eq_some_iff.mp H
    obtain ⟨k75, hk75, H⟩ := Option.bind_eq_some_iff.mp H
    refine F_lald k75 hw hG d_Ref_watch_75 (gA_some hN74) (ix_some hk75) ?_
    refine J.drop [true, true, true, true, true, false, false] rfl ?_
    exact p_Ref_watch_L76 hw hG hKc3 H
  · intro c80
    rw [if_neg c80] at H
    refine J_aload_n d_Ref_watch_55 rfl ?_
    have g76 : Γ x0 = .inr 12 := by
      apply Classical.byContradiction
      intro q9
      rw [if_neg q9] at H
      cases H
    rw [if_pos g76] at H
    refine F_getR (ci := 12) (k := 100) hG (cf_Ref hw) (fl_Ref_280 hw) (by decide) (by decide) rfl d_Ref_watch_56 g76 ?_
    refine J_iload_n d_Ref_watch_59 rfl ?_
    refine J_iload d_Ref_watch_60 rfl ?_
    refine J_iadd d_Ref_watch_62 ?_
    obtain ⟨a77, ha77, H⟩ := Option.bind_eq_some_iff.mp H
    rw [j_rf ha77]
    obtain ⟨N78, hN78, H⟩ := Option.bind_eq_some_iff.mp H
    obtain ⟨k79, hk79, H⟩ := Option.bind_eq_some_iff.mp H
    refine F_lald k79 hw hG d_Ref_watch_63 (gA_some hN78) (ix_some hk79) ?_
    refine J_goto (tgt := 76) d_Ref_watch_64 (by decide) ?_
    refine J.drop [true, true, true, true, true, false, false] rfl ?_
    exact p_Ref_watch_L76 hw hG hKc3 H
def f_Ref_watch_L3 (Γ : gm_T)  : Nat → ph_T → Nat → Int32 → Int32 → Int32 → Int32 → Option (Unit × ph_T)
  | 0, _, _, _, _, _, _ => none
  | fu + 1, φ, x0, x1, x2, x3, x4 =>
    if (5 : Int32) ≤ x4 then
      f_Ref_watch_L110 Γ  φ x0 x1 x2 x3
    else
      @ite _ (Γ x0 = .inr 12) _ (
      Option.bind (φ.2.2 x0 86) fun a82 =>
      Option.bind (gA Γ a82 0) fun N83 =>
      Option.bind (ix x1 N83) fun k84 =>
      if (φ.1 a82 k84) = 0 then
        if x3 = 0 then
          Option.bind (φ.2.2 x0 33) fun a85 =>
          Option.bind (gA Γ a85 2) fun N86 =>
          Option.bind (ix (x2 + x4) N86) fun k87 =>
          f_Ref_watch_L43 Γ (f_Ref_watch_L3 Γ  fu) φ x0 x1 x2 x3 x4 (φ.1 a85 k87)
        else
          Option.bind (φ.2.2 x0 98) fun a88 =>
          Option.bind (gA Γ a88 2) fun N89 =>
          Option.bind (ix (x2 + x4) N89) fun k90 =>
          f_Ref_watch_L43 Γ (f_Ref_watch_L3 Γ  fu) φ x0 x1 x2 x3 x4 (φ.1 a88 k90)
      else
        f_Ref_watch_L110 Γ  φ x0 x1 x2 x3
      ) none
set_option maxRecDepth 100000 in
set_option maxHeartbeats 4000000 in
theorem p_Ref_watch_L3 {w : jw_T} (hw : jok w) {Γ : gm_T} {n : Nat} (hG : gd w Γ n)  : ∀ (fu : Nat) {x : Bool} {φ : ph_T} {x0 : Nat} {x1 : Int32} {x2 : Int32} {x3 : Int32} {x4 : Int32} {q : Unit × ph_T}, f_Ref_watch_L3 Γ  fu φ x0 x1 x2 x3 x4 = some q → J w M_Ref_watch 3 [some (.ref x0), some (.int x1), some (.int x2), some (.int x3), some (.int x4), none, none] [] (pic Γ φ) n x 0 0 (fq Γ n (.inl none) q.2) := by
  intro fu
  induction fu with
  | zero =>
    intro x φ x0 x1 x2 x3 x4 q H
    cases H
  | succ fu ih =>
    intro x φ x0 x1 x2 x3 x4 q H
    unfold f_Ref_watch_L3 at H
    refine J_iload d_Ref_watch_3 rfl ?_
    refine J_iconst (v := 5) d_Ref_watch_5 (by decide) ?_
    refine J_icmp_ge (tgt := 110) d_Ref_watch_6 (by decide) ?_ ?_
    · intro c93
      rw [if_pos c93] at H
      refine J.drop [true, true, true, true, false, false, false] rfl ?_
      exact p_Ref_watch_L110 hw hG  H
    · intro c93
      rw [if_neg c93] at H
      refine J_aload_n d_Ref_watch_9 rfl ?_
      have g81 : Γ x0 = .inr 12 := by
        apply Classical.byContradiction
        intro q9
        rw [if_neg q9] at H
        cases H
      rw [if_pos g81] at H
      refine F_getR (ci := 12) (k := 86) hG (cf_Ref hw) (fl_Ref_238 hw) (by decide) (by decide) rfl d_Ref_watch_10 g81 ?_
      refine J_iload_n d_Ref_watch_13 rfl ?_
      obtain ⟨a82, ha82, H⟩ := Option.bind_eq_some_iff.mp H
      rw [j_rf ha82]
      obtain ⟨N83, hN83, H⟩ := Option.bind_eq_some_iff.mp H
      obtain ⟨k84, hk84, H⟩ := Option.bind_eq_some_iff.mp H
      refine F_iald k84 hw hG d_Ref_watch_14 (gA_some hN83) (ix_some hk84) ?_
      refine J_if_ne (tgt := 110) d_Ref_watch_15 (by decide) ?_ ?_
      · intro c92
        rw [if_neg c92] at H
        refine J.drop [true, true, true, true, false, false, false] rfl ?_
        exact p_Ref_watch_L110 hw hG  H
      · intro c92
        rw [if_pos c92] at H
        refine J_iload_n d_Ref_watch_18 rfl ?_
        refine J_if_eq (tgt := 34) d_Ref_watch_19 (by decide) ?_ ?_
        · intro c91
          rw [if_pos c91] at H
          refine J_aload_n d_Ref_watch_34 rfl ?_
          refine F_getR (ci := 12) (k := 33) hG (cf_Ref hw) (fl_Ref_88 hw) (by decide) (by decide) rfl d_Ref_watch_35 g81 ?_
          refine J_iload_n d_Ref_watch_38 rfl ?_
          refine J_iload d_Ref_watch_39 rfl ?_
          refine J_iadd d_Ref_watch_41 ?_
          obtain ⟨a85, ha85, H⟩ := Option.bind_eq_some_iff.mp H
          rw [j_rf ha85]
          obtain ⟨N86, hN86, H⟩ := Option.bind_eq_some_iff.mp H
          obtain ⟨k87, hk87, H⟩ := Option.bind_eq_some_iff.mp H
          refine F_zald k87 hw hG d_Ref_watch_42 (gA_some hN86) (ix_some hk87) ?_
          refine J.drop [true, true, true, true, true, false, false] rfl ?_
          exact p_Ref_watch_L43 hw hG ih H
        · intro c91
          rw [if_neg c91] at H
          refine J_aload_n d_Ref_watch_22 rfl ?_
          refine F_getR (ci := 12) (k := 98) hG (cf_Ref hw) (fl_Ref_274 hw) (by decide) (by decide) rfl d_Ref_watch_23 g81 ?_
          refine J_iload_n d_Ref_watch_26 rfl ?_
          refine J_iload d_Ref_watch_27 rfl ?_
          refine J_iadd d_Ref_watch_29 ?_
          obtain ⟨a88, ha88, H⟩ := Option.bind_eq_some_iff.mp H
          rw [j_rf ha88]
          obtain ⟨N89, hN89, H⟩ := Option.bind_eq_some_iff.mp H
          obtain ⟨k90, hk90, H⟩ := Option.bind_eq_some_iff.mp H
          refine F_zald k90 hw hG d_Ref_watch_30 (gA_some hN89) (ix_some hk90) ?_
          refine J_goto (tgt := 43) d_Ref_watch_31 (by decide) ?_
          refine J.drop [true, true, true, true, true, false, false] rfl ?_
          exact p_Ref_watch_L43 hw hG ih H
def f_Ref_watch (Γ : gm_T) (φ : ph_T) (this : Nat) (p0 : Int32) (p1 : Int32) (p2 : Int32) : Option (Unit × ph_T) :=
  f_Ref_watch_L3 Γ  jF φ this p0 p1 p2 (0 : Int32)
set_option maxRecDepth 100000 in
set_option maxHeartbeats 4000000 in
theorem p_Ref_watch {w : jw_T} (hw : jok w) {Γ : gm_T} {n : Nat} (hG : gd w Γ n) {x : Bool} {φ : ph_T} {this : Nat} {p0 : Int32} {p1 : Int32} {p2 : Int32} {q : Unit × ph_T} (H : f_Ref_watch Γ φ this p0 p1 p2 = some q) : jc w M_Ref_watch [.ref this, .int p0, .int p1, .int p2] (pic Γ φ) n x 0 0 (fq Γ n (.inl none) q.2) := by
  refine jc.of (by simp only [jent_r, jent_i, jent_l, jent_a, jent_0]; exact Nat.le_of_ble_eq_true rfl) ?_
  have hls : jents [.ref this, .int p0, .int p1, .int p2] (jm_nL M_Ref_watch) = [some (.ref this), some (.int p0), some (.int p1), some (.int p2), none, none, none] := by simp only [jents, jent_r, jent_i, jent_l, jent_a, jent_0]; rfl
  rw [hls]
  clear hls
  unfold f_Ref_watch at H
  refine J_iconst (v := 0) d_Ref_watch_0 (by decide) ?_
  refine J_istore d_Ref_watch_1 (Nat.le_of_ble_eq_true rfl) ?_
  refine J.ls (ls' := [some (.ref this), some (.int p0), some (.int p1), some (.int p2), some (.int (0 : Int32)), none, none]) rfl ?_
  refine J.drop [true, true, true, true, true, false, false] rfl ?_
  exact p_Ref_watch_L3 hw hG  _ H
