theorem ln_Ref_near : (parseMethodDescriptor y_Ref_near.desc).map (fun q => q.parameters.length) = some 2 := by decide +kernel
def f_Ref_near_L19 (Γ : gm_T)  (φ : ph_T) (y0 : Int32) : Option (Int32 × ph_T) :=
  some (y0, φ)
set_option maxRecDepth 100000 in
set_option maxHeartbeats 4000000 in
theorem p_Ref_near_L19 {w : jw_T} (hw : jok w) {Γ : gm_T} {n : Nat} (hG : gd w Γ n)  {x : Bool} {φ : ph_T} {y0 : Int32} {q : Int32 × ph_T} (H : f_Ref_near_L19 Γ  φ y0 = some q) : J w M_Ref_near 19 [none, none] [.int y0] (pic Γ φ) n x 0 0 (fq Γ n (.inl (some (.int q.1))) q.2) := by
  unfold f_Ref_near_L19 at H
  have H := Option.some.inj H
  subst H
  exact J_iret (st := []) d_Ref_near_19 rfl rfl ⟨rfl, rfl, rfl⟩
def f_Ref_near (Γ : gm_T) (φ : ph_T) (p0 : Int32) (p1 : Int32) : Option (Int32 × ph_T) :=
  if (1 : Int32) ≤ p0 then
    if p0 ≤ p1 then
      f_Ref_near_L19 Γ  φ p0
    else
      f_Ref_near_L19 Γ  φ p1
  else
    f_Ref_near_L19 Γ  φ (1 : Int32)
set_option maxRecDepth 100000 in
set_option maxHeartbeats 4000000 in
theorem p_Ref_near {w : jw_T} (hw : jok w) {Γ : gm_T} {n : Nat} (hG : gd w Γ n) {x : Bool} {φ : ph_T} {p0 : Int32} {p1 : Int32} {q : Int32 × ph_T} (H : f_Ref_near Γ φ p0 p1 = some q) : jc w M_Ref_near [.int p0, .int p1] (pic Γ φ) n x 0 0 (fq Γ n (.inl (some (.int q.1))) q.2) := by
  refine jc.of (by simp only [jent_r, jent_i, jent_l, jent_a, jent_0]; exact Nat.le_of_ble_eq_true rfl) ?_
  have hls : jents [.int p0, .int p1] (jm_nL M_Ref_near) = [some (.int p0), some (.int p1)] := by simp only [jents, jent_r, jent_i, jent_l, jent_a, jent_0]; rfl
  rw [hls]
  clear hls
  unfold f_Ref_near at H
  refine J_iload_n d_Ref_near_0 rfl ?_
  refine J_iconst (v := 1) d_Ref_near_1 (by decide) ?_
  refine J_icmp_ge (tgt := 9) d_Ref_near_2 (by decide) ?_ ?_
  · intro c2
    rw [if_pos c2] at H
    refine J_iload_n d_Ref_near_9 rfl ?_
    refine J_iload_n d_Ref_near_10 rfl ?_
    refine J_icmp_le (tgt := 18) d_Ref_near_11 (by decide) ?_ ?_
    · intro c1
      rw [if_pos c1] at H
      refine J_iload_n d_Ref_near_18 rfl ?_
      refine J.drop [false, false] rfl ?_
      exact p_Ref_near_L19 hw hG  H
    · intro c1
      rw [if_neg c1] at H
      refine J_iload_n d_Ref_near_14 rfl ?_
      refine J_goto (tgt := 19) d_Ref_near_15 (by decide) ?_
      refine J.drop [false, false] rfl ?_
      exact p_Ref_near_L19 hw hG  H
  · intro c2
    rw [if_neg c2] at H
    refine J_iconst (v := 1) d_Ref_near_5 (by decide) ?_
    refine J_goto (tgt := 19) d_Ref_near_6 (by decide) ?_
    refine J.drop [false, false] rfl ?_
    exact p_Ref_near_L19 hw hG  H
theorem ln_Ref_show : (parseMethodDescriptor y_Ref_show.desc).map (fun q => q.parameters.length) = some 4 := by decide +kernel
def f_Ref_show_L37 (Γ : gm_T)  (φ : ph_T) (y0 : Int32) (y1 : Int32) (y2 : Option Nat) : Option (Unit × ph_T) :=
  Option.bind y2 fun a1 =>
  Option.bind (gA Γ a1 0) fun N2 =>
  Option.bind (ix y1 N2) fun k3 =>
  some ((), (uI φ a1 k3 y0))
set_option maxRecDepth 100000 in
set_option maxHeartbeats 4000000 in
theorem p_Ref_show_L37 {w : jw_T} (hw : jok w) {Γ : gm_T} {n : Nat} (hG : gd w Γ n)  {x : Bool} {φ : ph_T} {y0 : Int32} {y1 : Int32} {y2 : Option Nat} {q : Unit × ph_T} (H : f_Ref_show_L37 Γ  φ y0 y1 y2 = some q) : J w M_Ref_show 37 [none, none, none, none, none, none] [.int y0, .int y1, va_rf y2] (pic Γ φ) n x 0 0 (fq Γ n (.inl none) q.2) := by
  unfold f_Ref_show_L37 at H
  obtain ⟨a1, ha1, H⟩ := Option.bind_eq_some_iff.mp H
  rw [j_rf ha1]
  obtain ⟨N2, hN2, H⟩ := Option.bind_eq_some_iff.mp H
  obtain ⟨k3, hk3, H⟩ := Option.bind_eq_some_iff.mp H
  refine F_iast k3 hw hG d_Ref_show_37 (gA_some hN2) (ix_some hk3) ?_
  have H := Option.some.inj H
  subst H
  exact J_vret (st := []) d_Ref_show_38 rfl ⟨rfl, rfl, rfl⟩
def f_Ref_show_L21 (Γ : gm_T)  (φ : ph_T) (x0 : Nat) (x1 : Int32) (x2 : Int32) (x5 : Int32) (y0 : Int64) (y1 : Int32) (y2 : Option Nat) : Option (Unit × ph_T) :=
  Option.bind y2 fun a4 =>
  Option.bind (gA Γ a4 1) fun N5 =>
  Option.bind (ix y1 N5) fun k6 =>
  @ite _ (Γ x0 = .inr 12) _ (
  if x2 = 0 then
    f_Ref_show_L37 Γ  (uL φ a4 k6 y0) (0 : Int32) x1 (φ.2.2 x0 36)
  else
    f_Ref_show_L37 Γ  (uL φ a4 k6 y0) x5 x1 (φ.2.2 x0 36)
  ) none
set_option maxRecDepth 100000 in
set_option maxHeartbeats 4000000 in
theorem p_Ref_show_L21 {w : jw_T} (hw : jok w) {Γ : gm_T} {n : Nat} (hG : gd w Γ n)  {x : Bool} {φ : ph_T} {x0 : Nat} {x1 : Int32} {x2 : Int32} {x5 : Int32} {y0 : Int64} {y1 : Int32} {y2 : Option Nat} {q : Unit × ph_T} (H : f_Ref_show_L21 Γ  φ x0 x1 x2 x5 y0 y1 y2 = some q) : J w M_Ref_show 21 [some (.ref x0), some (.int x1), some (.int x2), none, none, some (.int x5)] [.long y0, .int y1, va_rf y2] (pic Γ φ) n x 0 0 (fq Γ n (.inl none) q.2) := by
  unfold f_Ref_show_L21 at H
  obtain ⟨a4, ha4, H⟩ := Option.bind_eq_some_iff.mp H
  rw [j_rf ha4]
  obtain ⟨N5, hN5, H⟩ := Option.bind_eq_some_iff.mp H
  obtain ⟨k6, hk6, H⟩ := Option.bind_eq_some_iff.mp H
  refine F_last k6 hw hG d_Ref_show_21 (gA_some hN5) (ix_some hk6) ?_
  refine J_aload_n d_Ref_show_22 rfl ?_
  have g7 : Γ x0 = .inr 12 := by
    apply Classical.byContradiction
    intro q9
    rw [if_neg q9] at H
    cases H
  rw [if_pos g7] at H
  refine F_getR (ci := 12) (k := 36) hG (cf_Ref hw) (fl_Ref_97 hw) (by decide) (by decide) rfl d_Ref_show_23 g7 ?_
  show J _ _ _ _ (va_rf (φ.2.2 x0 36) :: _) _ _ _ _ _ _
  refine J_iload_n d_Ref_show_26 rfl ?_
  refine J_iload_n d_Ref_show_27 rfl ?_
  refine J_if_eq (tgt := 36) d_Ref_show_28 (by decide) ?_ ?_
  · intro c8
    rw [if_pos c8] at H
    refine J_iconst (v := 0) d_Ref_show_36 (by decide) ?_
    refine J.drop [false, false, false, false, false, false] rfl ?_
    exact p_Ref_show_L37 hw hG  H
  · intro c8
    rw [if_neg c8] at H
    refine J_iload d_Ref_show_31 rfl ?_
    refine J_goto (tgt := 37) d_Ref_show_33 (by decide) ?_
    refine J.drop [false, false, false, false, false, false] rfl ?_
    exact p_Ref_show_L37 hw hG  H
def f_Ref_show (Γ : gm_T) (φ : ph_T) (this : Nat) (p0 : Int32) (p1 : Int32) (p2 : Int64) (p3 : Int32) : Option (Unit × ph_T) :=
  @ite _ (Γ this = .inr 12) _ (
  Option.bind (φ.2.2 this 33) fun a10 =>
  Option.bind (gA Γ a10 2) fun N11 =>
  Option.bind (ix p0 N11) fun k12 =>
  @ite _ (p1 = 0 ∨ p1 = 1) _ (
  if p1 = 0 then
    f_Ref_show_L21 Γ  (uI φ a10 k12 p1) this p0 p1 p3 (0 : Int64) p0 (φ.2.2 this 35)
  else
    f_Ref_show_L21 Γ  (uI φ a10 k12 p1) this p0 p1 p3 p2 p0 (φ.2.2 this 35)
  ) none
  ) none
set_option maxRecDepth 100000 in
set_option maxHeartbeats 4000000 in
theorem p_Ref_show {w : jw_T} (hw : jok w) {Γ : gm_T} {n : Nat} (hG : gd w Γ n) {x : Bool} {φ : ph_T} {this : Nat} {p0 : Int32} {p1 : Int32} {p2 : Int64} {p3 : Int32} {q : Unit × ph_T} (H : f_Ref_show Γ φ this p0 p1 p2 p3 = some q) : jc w M_Ref_show [.ref this, .int p0, .int p1, .long p2, .int p3] (pic Γ φ) n x 0 0 (fq Γ n (.inl none) q.2) := by
  refine jc.of (by simp only [jent_r, jent_i, jent_l, jent_a, jent_0]; exact Nat.le_of_ble_eq_true rfl) ?_
  have hls : jents [.ref this, .int p0, .int p1, .long p2, .int p3] (jm_nL M_Ref_show) = [some (.ref this), some (.int p0), some (.int p1), some (.long p2), none, some (.int p3)] := by simp only [jents, jent_r, jent_i, jent_l, jent_a, jent_0]; rfl
  rw [hls]
  clear hls
  unfold f_Ref_show at H
  refine J_aload_n d_Ref_show_0 rfl ?_
  have g9 : Γ this = .inr 12 := by
    apply Classical.byContradiction
    intro q9
    rw [if_neg q9] at H
    cases H
  rw [if_pos g9] at H
  refine F_getR (ci := 12) (k := 33) hG (cf_Ref hw) (fl_Ref_88 hw) (by decide) (by decide) rfl d_Ref_show_1 g9 ?_
  refine J_iload_n d_Ref_show_4 rfl ?_
  refine J_iload_n d_Ref_show_5 rfl ?_
  obtain ⟨a10, ha10, H⟩ := Option.bind_eq_some_iff.mp H
  rw [j_rf ha10]
  obtain ⟨N11, hN11, H⟩ := Option.bind_eq_some_iff.mp H
  obtain ⟨k12, hk12, H⟩ := Option.bind_eq_some_iff.mp H
  have z13 : p1 = 0 ∨ p1 = 1 := by
    apply Classical.byContradiction
    intro q9
    rw [if_neg q9] at H
    cases H
  rw [if_pos z13] at H
  refine F_zast k12 hw hG d_Ref_show_6 (gA_some hN11) (ix_some hk12) z13 ?_
  refine J_aload_n d_Ref_show_7 rfl ?_
  refine F_getR (ci := 12) (k := 35) hG (cf_Ref hw) (fl_Ref_94 hw) (by decide) (by decide) rfl d_Ref_show_8 g9 ?_
  show J _ _ _ _ (va_rf (φ.2.2 this 35) :: _) _ _ _ _ _ _
  refine J_iload_n d_Ref_show_11 rfl ?_
  refine J_iload_n d_Ref_show_12 rfl ?_
  refine J_if_eq (tgt := 20) d_Ref_show_13 (by decide) ?_ ?_
  · intro c14
    rw [if_pos c14] at H
    refine J_lconst (v := 0) d_Ref_show_20 (by decide) ?_
    refine J.drop [true, true, true, false, false, true] rfl ?_
    exact p_Ref_show_L21 hw hG  H
  · intro c14
    rw [if_neg c14] at H
    refine J_lload_n d_Ref_show_16 rfl ?_
    refine J_goto (tgt := 21) d_Ref_show_17 (by decide) ?_
    refine J.drop [true, true, true, false, false, true] rfl ?_
    exact p_Ref_show_L21 hw hG  H
theorem ln_Ref_beginMonitor : (parseMethodDescriptor y_Ref_beginMonitor.desc).map (fun q => q.parameters.length) = some 1 := by decide +kernel
def f_Ref_beginMonitor_L44 (Γ : gm_T)  : Nat → ph_T → Nat → Int32 → Int32 → Option (Unit × ph_T)
  | 0, _, _, _, _ => none
  | fu + 1, φ, x0, x1, x2 =>
    if (5 : Int32) ≤ x2 then
      some ((), φ)
    else
      @ite _ (Γ x0 = .inr 12) _ (
      Option.bind (φ.2.2 x0 82) fun a2 =>
      Option.bind (gA Γ a2 2) fun N3 =>
      Option.bind (ix (((5 : Int32) * x1) + x2) N3) fun k4 =>
      @ite _ ((0 : Int32) = 0 ∨ (0 : Int32) = 1) _ (
      (f_Ref_beginMonitor_L44 Γ  fu) (uI φ a2 k4 (0 : Int32)) x0 x1 (x2 + (1 : Int32))
      ) none
      ) none
set_option maxRecDepth 100000 in
set_option maxHeartbeats 4000000 in
theorem p_Ref_beginMonitor_L44 {w : jw_T} (hw : jok w) {Γ : gm_T} {n : Nat} (hG : gd w Γ n)  : ∀ (fu : Nat) {x : Bool} {φ : ph_T} {x0 : Nat} {x1 : Int32} {x2 : Int32} {q : Unit × ph_T}, f_Ref_beginMonitor_L44 Γ  fu φ x0 x1 x2 = some q → J w M_Ref_beginMonitor 44 [some (.ref x0), some (.int x1), some (.int x2)] [] (pic Γ φ) n x 0 0 (fq Γ n (.inl none) q.2) := by
  intro fu
  induction fu with
  | zero =>
    intro x φ x0 x1 x2 q H
    cases H
  | succ fu ih =>
    intro x φ x0 x1 x2 q H
    unfold f_Ref_beginMonitor_L44 at H
    refine J_iload_n d_Ref_beginMonitor_44 rfl ?_
    refine J_iconst (v := 5) d_Ref_beginMonitor_45 (by decide) ?_
    refine J_icmp_ge (tgt := 66) d_Ref_beginMonitor_46 (by decide) ?_ ?_
    · intro c6
      rw [if_pos c6] at H
      have H := Option.some.inj H
      subst H
      exact J_vret (st := []) d_Ref_beginMonitor_66 rfl ⟨rfl, rfl, rfl⟩
    · intro c6
      rw [if_neg c6] at H
      refine J_aload_n d_Ref_beginMonitor_49 rfl ?_
      have g1 : Γ x0 = .inr 12 := by
        apply Classical.byContradiction
        intro q9
        rw [if_neg q9] at H
        cases H
      rw [if_pos g1] at H
      refine F_getR (ci := 12) (k := 82) hG (cf_Ref hw) (fl_Ref_226 hw) (by decide) (by decide) rfl d_Ref_beginMonitor_50 g1 ?_
      refine J_iconst (v := 5) d_Ref_beginMonitor_53 (by decide) ?_
      refine J_iload_n d_Ref_beginMonitor_54 rfl ?_
      refine J_imul d_Ref_beginMonitor_55 ?_
      refine J_iload_n d_Ref_beginMonitor_56 rfl ?_
      refine J_iadd d_Ref_beginMonitor_57 ?_
      refine J_iconst (v := 0) d_Ref_beginMonitor_58 (by decide) ?_
      obtain ⟨a2, ha2, H⟩ := Option.bind_eq_some_iff.mp H
      rw [j_rf ha2]
      obtain ⟨N3, hN3, H⟩ := Option.bind_eq_some_iff.mp H
      obtain ⟨k4, hk4, H⟩ := Option.bind_eq_some_iff.mp H
      have z5 : (0 : Int32) = 0 ∨ (0 : Int32) = 1 := by
        apply Classical.byContradiction
        intro q9
        rw [if_neg q9] at H
        cases H
      rw [if_pos z5] at H
      refine F_zast k4 hw hG d_Ref_beginMonitor_59 (gA_some hN3) (ix_some hk4) z5 ?_
      refine J_iinc (v := x2 + 1) d_Ref_beginMonitor_60 rfl (by rw [show Int32.ofInt 1 = (1 : Int32) from by decide]) ?_
      refine J.ls (ls' := [some (.ref x0), some (.int x1), some (.int (x2 + (1 : Int32)))]) rfl ?_
      refine J_goto (tgt := 44) d_Ref_beginMonitor_63 (by decide) ?_
      refine J.drop [true, true, true] rfl ?_
      exact ih H
def f_Ref_beginMonitor (Γ : gm_T) (φ : ph_T) (this : Nat) (p0 : Int32) : Option (Unit × ph_T) :=
  @ite _ (Γ this = .inr 12) _ (
  Option.bind (φ.2.2 this 85) fun a8 =>
  Option.bind (gA Γ a8 0) fun N9 =>
  Option.bind (ix p0 N9) fun k10 =>
  Option.bind (φ.2.2 this 86) fun a11 =>
  Option.bind (gA Γ a11 0) fun N12 =>
  Option.bind (ix p0 N12) fun k13 =>
  Option.bind (φ.2.2 this 87) fun a14 =>
  Option.bind (gA Γ a14 0) fun N15 =>
  Option.bind (ix p0 N15) fun k16 =>
  Option.bind (φ.2.2 this 88) fun a17 =>
  Option.bind (gA Γ a17 0) fun N18 =>
  Option.bind (ix p0 N18) fun k19 =>
  Option.bind (φ.2.2 this 89) fun a20 =>
  Option.bind (gA Γ a20 0) fun N21 =>
  Option.bind (ix p0 N21) fun k22 =>
  Option.bind (φ.2.2 this 90) fun a23 =>
  Option.bind (gA Γ a23 0) fun N24 =>
  Option.bind (ix p0 N24) fun k25 =>
  f_Ref_beginMonitor_L44 Γ  jF (uI (uI (uI (uI (uI (uI φ a8 k10 (0 : Int32)) a11 k13 (0 : Int32)) a14 k16 (-1 : Int32)) a17 k19 (-1 : Int32)) a20 k22 (0 : Int32)) a23 k25 (0 : Int32)) this p0 (0 : Int32)
  ) none
set_option maxRecDepth 100000 in
set_option maxHeartbeats 4000000 in
theorem p_Ref_beginMonitor {w : jw_T} (hw : jok w) {Γ : gm_T} {n : Nat} (hG : gd w Γ n) {x : Bool} {φ : ph_T} {this : Nat} {p0 : Int32} {q : Unit × ph_T} (H : f_Ref_beginMonitor Γ φ this p0 = some q) : jc w M_Ref_beginMonitor [.ref this, .int p0] (pic Γ φ) n x 0 0 (fq Γ n (.inl none) q.2) := by
  refine jc.of (by simp only [jent_r, jent_i, jent_l, jent_a, jent_0]; exact Nat.le_of_ble_eq_true rfl) ?_
  have hls : jents [.ref this, .int p0] (jm_nL M_Ref_beginMonitor) = [some (.ref this), some (.int p0), none] := by simp only [jents, jent_r, jent_i, jent_l, jent_a, jent_0]; rfl
  rw [hls]
  clear hls
  unfold f_Ref_beginMonitor at H
  refine J_aload_n d_Ref_beginMonitor_0 rfl ?_
  have g7 : Γ this = .inr 12 := by
    apply Classical.byContradiction
    intro q9
    rw [if_neg q9] at H
    cases H
  rw [if_pos g7] at H
  refine F_getR (ci := 12) (k := 85) hG (cf_Ref hw) (fl_Ref_235 hw) (by decide) (by decide) rfl d_Ref_beginMonitor_1 g7 ?_
  refine J_iload_n d_Ref_beginMonitor_4 rfl ?_
  refine J_iconst (v := 0) d_Ref_beginMonitor_5 (by decide) ?_
  obtain ⟨a8, ha8, H⟩ := Option.bind_eq_some_iff.mp H
  rw [j_rf ha8]
  obtain ⟨N9, hN9, H⟩ := Option.bind_eq_some_iff.mp H
  obtain ⟨k10, hk10, H⟩ := Option.bind_eq_some_iff.mp H
  refine F_iast k10 hw hG d_Ref_beginMonitor_6 (gA_some hN9) (ix_some hk10) ?_
  refine J_aload_n d_Ref_beginMonitor_7 rfl ?_
  refine F_getR (ci := 12) (k := 86) hG (cf_Ref hw) (fl_Ref_238 hw) (by decide) (by decide) rfl d_Ref_beginMonitor_8 g7 ?_
  show J _ _ _ _ (va_rf (φ.2.2 this 86) :: _) _ _ _ _ _ _
  refine J_iload_n d_Ref_beginMonitor_11 rfl ?_
  refine J_iconst (v := 0) d_Ref_beginMonitor_12 (by decide) ?_
  obtain ⟨a11, ha11, H⟩ := Option.bind_eq_some_iff.mp H
  rw [j_rf ha11]
  obtain ⟨N12, hN12, H⟩ := Option.bind_eq_some_iff.mp H
  obtain ⟨k13, hk13, H⟩ := Option.bind_eq_some_iff.mp H
  refine F_iast k13 hw hG d_Ref_beginMonitor_13 (gA_some hN12) (ix_some hk13) ?_
  refine J_aload_n d_Ref_beginMonitor_14 rfl ?_
  refine F_getR (ci := 12) (k := 87) hG (cf_Ref hw) (fl_Ref_241 hw) (by decide) (by decide) rfl d_Ref_beginMonitor_15 g7 ?_
  show J _ _ _ _ (va_rf (φ.2.2 this 87) :: _) _ _ _ _ _ _
  refine J_iload_n d_Ref_beginMonitor_18 rfl ?_
  refine J_iconst (v := -1) d_Ref_beginMonitor_19 (by decide) ?_
  obtain ⟨a14, ha14, H⟩ := Option.bind_eq_some_iff.mp H
  rw [j_rf ha14]
  obtain ⟨N15, hN15, H⟩ := Option.bind_eq_some_iff.mp H
  obtain ⟨k16, hk16, H⟩ := Option.bind_eq_some_iff.mp H
  refine F_iast k16 hw hG d_Ref_beginMonitor_20 (gA_some hN15) (ix_some hk16) ?_
  refine J_aload_n d_Ref_beginMonitor_21 rfl ?_
  refine F_getR (ci := 12) (k := 88) hG (cf_Ref hw) (fl_Ref_244 hw) (by decide) (by decide) rfl d_Ref_beginMonitor_22 g7 ?_
  show J _ _ _ _ (va_rf (φ.2.2 this 88) :: _) _ _ _ _ _ _
  refine J_iload_n d_Ref_beginMonitor_25 rfl ?_
  refine J_iconst (v := -1) d_Ref_beginMonitor_26 (by decide) ?_
  obtain ⟨a17, ha17, H⟩ := Option.bind_eq_some_iff.mp H
  rw [j_rf ha17]
  obtain ⟨N18, hN18, H⟩ := Option.bind_eq_some_iff.mp H
  obtain ⟨k19, hk19, H⟩ := Option.bind_eq_some_iff.mp H
  refine F_iast k19 hw hG d_Ref_beginMonitor_27 (gA_some hN18) (ix_some hk19) ?_
  refine J_aload_n d_Ref_beginMonitor_28 rfl ?_
  refine F_getR (ci := 12) (k := 89) hG (cf_Ref hw) (fl_Ref_247 hw) (by decide) (by decide) rfl d_Ref_beginMonitor_29 g7 ?_
  show J _ _ _ _ (va_rf (φ.2.2 this 89) :: _) _ _ _ _ _ _
  refine J_iload_n d_Ref_beginMonitor_32 rfl ?_
  refine J_iconst (v := 0) d_Ref_beginMonitor_33 (by decide) ?_
  obtain ⟨a20, ha20, H⟩ := Option.bind_eq_some_iff.mp H
  rw [j_rf ha20]
  obtain ⟨N21, hN21, H⟩ := Option.bind_eq_some_iff.mp H
  obtain ⟨k22, hk22, H⟩ := Option.bind_eq_some_iff.mp H
  refine F_iast k22 hw hG d_Ref_beginMonitor_34 (gA_some hN21) (ix_some hk22) ?_
  refine J_aload_n d_Ref_beginMonitor_35 rfl ?_
  refine F_getR (ci := 12) (k := 90) hG (cf_Ref hw) (fl_Ref_250 hw) (by decide) (by decide) rfl d_Ref_beginMonitor_36 g7 ?_
  show J _ _ _ _ (va_rf (φ.2.2 this 90) :: _) _ _ _ _ _ _
  refine J_iload_n d_Ref_beginMonitor_39 rfl ?_
  refine J_iconst (v := 0) d_Ref_beginMonitor_40 (by decide) ?_
  obtain ⟨a23, ha23, H⟩ := Option.bind_eq_some_iff.mp H
  rw [j_rf ha23]
  obtain ⟨N24, hN24, H⟩ := Option.bind_eq_some_iff.mp H
  obtain ⟨k25, hk25, H⟩ := Option.bind_eq_some_iff.mp H
  refine F_iast k25 hw hG d_Ref_beginMonitor_41 (gA_some hN24) (ix_some hk25) ?_
  refine J_iconst (v := 0) d_Ref_beginMonitor_42 (by decide) ?_
  refine J_istore_n d_Ref_beginMonitor_43 (Nat.le_of_ble_eq_true rfl) ?_
  refine J.ls (ls' := [some (.ref this), some (.int p0), some (.int (0 : Int32))]) rfl ?_
  refine J.drop [true, true, true] rfl ?_
  exact p_Ref_beginMonitor_L44 hw hG  _ H
theorem ln_Ref_blank : (parseMethodDescriptor y_Ref_blank.desc).map (fun q => q.parameters.length) = some 1 := by decide +kernel
def f_Ref_blank_L4 (Γ : gm_T)  : Nat → ph_T → Nat → Int32 → Int32 → Option (Unit × ph_T)
  | 0, _, _, _, _ => none
  | fu + 1, φ, x0, x1, x2 =>
    if (((5 : Int32) * x1) + (5 : Int32)) ≤ x2 then
      some ((), φ)
    else
      @ite _ (Γ x0 = .inr 12) _ (
      Option.bind (φ.2.2 x0 98) fun a2 =>
      Option.bind (gA Γ a2 2) fun N3 =>
      Option.bind (ix x2 N3) fun k4 =>
      @ite _ ((0 : Int32) = 0 ∨ (0 : Int32) = 1) _ (
      Option.bind (φ.2.2 x0 99) fun a6 =>
      Option.bind (gA Γ a6 2) fun N7 =>
      Option.bind (ix x2 N7) fun k8 =>
      @ite _ ((0 : Int32) = 0 ∨ (0 : Int32) = 1) _ (
      Option.bind (φ.2.2 x0 100) fun a10 =>
      Option.bind (gA Γ a10 1) fun N11 =>
      Option.bind (ix x2 N11) fun k12 =>
      Option.bind (φ.2.2 x0 101) fun a13 =>
      Option.bind (gA Γ a13 0) fun N14 =>
      Option.bind (ix x2 N14) fun k15 =>
      (f_Ref_blank_L4 Γ  fu) (uI (uL (uI (uI φ a2 k4 (0 : Int32)) a6 k8 (0 : Int32)) a10 k12 (0 : Int64)) a13 k15 (0 : Int32)) x0 x1 (x2 + (1 : Int32))
      ) none
      ) none
      ) none
set_option maxRecDepth 100000 in
set_option maxHeartbeats 4000000 in
theorem p_Ref_blank_L4 {w : jw_T} (hw : jok w) {Γ : gm_T} {n : Nat} (hG : gd w Γ n)  : ∀ (fu : Nat) {x : Bool} {φ : ph_T} {x0 : Nat} {x1 : Int32} {x2 : Int32} {q : Unit × ph_T}, f_Ref_blank_L4 Γ  fu φ x0 x1 x2 = some q → J w M_Ref_blank 4 [some (.ref x0), some (.int x1), some (.int x2)] [] (pic Γ φ) n x 0 0 (fq Γ n (.inl none) q.2) := by
  intro fu
  induction fu with
  | zero =>
    intro x φ x0 x1 x2 q H
    cases H
  | succ fu ih =>
    intro x φ x0 x1 x2 q H
    unfold f_Ref_blank_L4 at H
    refine J_iload_n d_Ref_blank_4 rfl ?_
    refine J_iconst (v := 5) d_Ref_blank_5 (by decide) ?_
    refine J_iload_n d_Ref_blank_6 rfl ?_
    refine J_imul d_Ref_blank_7 ?_
    refine J_iconst (v := 5) d_Ref_blank_8 (by decide) ?_
    refine J_iadd d_Ref_blank_9 ?_
    refine J_icmp_ge (tgt := 47) d_Ref_blank_10 (by decide) ?_ ?_
    · intro c16
      rw [if_pos c16] at H
      have H := Option.some.inj H
      subst H
      exact J_vret (st := []) d_Ref_blank_47 rfl ⟨rfl, rfl, rfl⟩
    · intro c16
      rw [if_neg c16] at H
      refine J_aload_n d_Ref_blank_13 rfl ?_
      have g1 : Γ x0 = .inr 12 := by
        apply Classical.byContradiction
        intro q9
        rw [if_neg q9] at H
        cases H
      rw [if_pos g1] at H
      refine F_getR (ci := 12) (k := 98) hG (cf_Ref hw) (fl_Ref_274 hw) (by decide) (by decide) rfl d_Ref_blank_14 g1 ?_
      refine J_iload_n d_Ref_blank_17 rfl ?_
      refine J_iconst (v := 0) d_Ref_blank_18 (by decide) ?_
      obtain ⟨a2, ha2, H⟩ := Option.bind_eq_some_iff.mp H
      rw [j_rf ha2]
      obtain ⟨N3, hN3, H⟩ := Option.bind_eq_some_iff.mp H
      obtain ⟨k4, hk4, H⟩ := Option.bind_eq_some_iff.mp H
      have z5 : (0 : Int32) = 0 ∨ (0 : Int32) = 1 := by
        apply Classical.byContradiction
        intro q9
        rw [if_neg q9] at H
        cases H
      rw [if_pos z5] at H
      refine F_zast k4 hw hG d_Ref_blank_19 (gA_some hN3) (ix_some hk4) z5 ?_
      refine J_aload_n d_Ref_blank_20 rfl ?_
      refine F_getR (ci := 12) (k := 99) hG (cf_Ref hw) (fl_Ref_277 hw) (by decide) (by decide) rfl d_Ref_blank_21 g1 ?_
      show J _ _ _ _ (va_rf (φ.2.2 x0 99) :: _) _ _ _ _ _ _
      refine J_iload_n d_Ref_blank_24 rfl ?_
      refine J_iconst (v := 0) d_Ref_blank_25 (by decide) ?_
      obtain ⟨a6, ha6, H⟩ := Option.bind_eq_some_iff.mp H
      rw [j_rf ha6]
      obtain ⟨N7, hN7, H⟩ := Option.bind_eq_some_iff.mp H
      obtain ⟨k8, hk8, H⟩ := Option.bind_eq_some_iff.mp H
      have z9 : (0 : Int32) = 0 ∨ (0 : Int32) = 1 := by
        apply Classical.byContradiction
        intro q9
        rw [if_neg q9] at H
        cases H
      rw [if_pos z9] at H
      refine F_zast k8 hw hG d_Ref_blank_26 (gA_some hN7) (ix_some hk8) z9 ?_
      refine J_aload_n d_Ref_blank_27 rfl ?_
      refine F_getR (ci := 12) (k := 100) hG (cf_Ref hw) (fl_Ref_280 hw) (by decide) (by decide) rfl d_Ref_blank_28 g1 ?_
      show J _ _ _ _ (va_rf (φ.2.2 x0 100) :: _) _ _ _ _ _ _
      refine J_iload_n d_Ref_blank_31 rfl ?_
      refine J_lconst (v := 0) d_Ref_blank_32 (by decide) ?_
      obtain ⟨a10, ha10, H⟩ := Option.bind_eq_some_iff.mp H
      rw [j_rf ha10]
      obtain ⟨N11, hN11, H⟩ := Option.bind_eq_some_iff.mp H
      obtain ⟨k12, hk12, H⟩ := Option.bind_eq_some_iff.mp H
      refine F_last k12 hw hG d_Ref_blank_33 (gA_some hN11) (ix_some hk12) ?_
      refine J_aload_n d_Ref_blank_34 rfl ?_
      refine F_getR (ci := 12) (k := 101) hG (cf_Ref hw) (fl_Ref_283 hw) (by decide) (by decide) rfl d_Ref_blank_35 g1 ?_
      show J _ _ _ _ (va_rf (φ.2.2 x0 101) :: _) _ _ _ _ _ _
      refine J_iload_n d_Ref_blank_38 rfl ?_
      refine J_iconst (v := 0) d_Ref_blank_39 (by decide) ?_
      obtain ⟨a13, ha13, H⟩ := Option.bind_eq_some_iff.mp H
      rw [j_rf ha13]
      obtain ⟨N14, hN14, H⟩ := Option.bind_eq_some_iff.mp H
      obtain ⟨k15, hk15, H⟩ := Option.bind_eq_some_iff.mp H
      refine F_iast k15 hw hG d_Ref_blank_40 (gA_some hN14) (ix_some hk15) ?_
      refine J_iinc (v := x2 + 1) d_Ref_blank_41 rfl (by rw [show Int32.ofInt 1 = (1 : Int32) from by decide]) ?_
      refine J.ls (ls' := [some (.ref x0), some (.int x1), some (.int (x2 + (1 : Int32)))]) rfl ?_
      refine J_goto (tgt := 4) d_Ref_blank_44 (by decide) ?_
      refine J.drop [true, true, true] rfl ?_
      exact ih H
def f_Ref_blank (Γ : gm_T) (φ : ph_T) (this : Nat) (p0 : Int32) : Option (Unit × ph_T) :=
  f_Ref_blank_L4 Γ  jF φ this p0 ((5 : Int32) * p0)
set_option maxRecDepth 100000 in
set_option maxHeartbeats 4000000 in
theorem p_Ref_blank {w : jw_T} (hw : jok w) {Γ : gm_T} {n : Nat} (hG : gd w Γ n) {x : Bool} {φ : ph_T} {this : Nat} {p0 : Int32} {q : Unit × ph_T} (H : f_Ref_blank Γ φ this p0 = some q) : jc w M_Ref_blank [.ref this, .int p0] (pic Γ φ) n x 0 0 (fq Γ n (.inl none) q.2) := by
  refine jc.of (by simp only [jent_r, jent_i, jent_l, jent_a, jent_0]; exact Nat.le_of_ble_eq_true rfl) ?_
  have hls : jents [.ref this, .int p0] (jm_nL M_Ref_blank) = [some (.ref this), some (.int p0), none] := by simp only [jents, jent_r, jent_i, jent_l, jent_a, jent_0]; rfl
  rw [hls]
  clear hls
  unfold f_Ref_blank at H
  refine J_iconst (v := 5) d_Ref_blank_0 (by decide) ?_
  refine J_iload_n d_Ref_blank_1 rfl ?_
  refine J_imul d_Ref_blank_2 ?_
  refine J_istore_n d_Ref_blank_3 (Nat.le_of_ble_eq_true rfl) ?_
  refine J.ls (ls' := [some (.ref this), some (.int p0), some (.int ((5 : Int32) * p0))]) rfl ?_
  refine J.drop [true, true, true] rfl ?_
  exact p_Ref_blank_L4 hw hG  _ H
theorem ln_Ref_clear : (parseMethodDescriptor y_Ref_clear.desc).map (fun q => q.parameters.length) = some 0 := by decide +kernel
def f_Ref_clear_L354 (Γ : gm_T)  : Nat → ph_T → Nat → Int32 → Option (Unit × ph_T)
  | 0, _, _, _ => none
  | fu + 1, φ, x0, x1 =>
    if (10 : Int32) ≤ x1 then
      @ite _ (Γ x0 = .inr 12) _ (
      Option.bind (f_Ref_blank Γ φ x0 (0 : Int32)) fun q3 =>
      Option.bind (f_Ref_blank Γ q3.2 x0 (1 : Int32)) fun q4 =>
      some ((), q4.2)
      ) none
    else
      @ite _ (Γ x0 = .inr 12) _ (
      Option.bind (f_Ref_beginMonitor Γ φ x0 x1) fun q6 =>
      (f_Ref_clear_L354 Γ  fu) q6.2 x0 (x1 + (1 : Int32))
      ) none
set_option maxRecDepth 100000 in
set_option maxHeartbeats 4000000 in
theorem p_Ref_clear_L354 {w : jw_T} (hw : jok w) {Γ : gm_T} {n : Nat} (hG : gd w Γ n)  : ∀ (fu : Nat) {x : Bool} {φ : ph_T} {x0 : Nat} {x1 : Int32} {q : Unit × ph_T}, f_Ref_clear_L354 Γ  fu φ x0 x1 = some q → J w M_Ref_clear 354 [some (.ref x0), some (.int x1)] [] (pic Γ φ) n x 0 0 (fq Γ n (.inl none) q.2) := by
  intro fu
  induction fu with
  | zero =>
    intro x φ x0 x1 q H
    cases H
  | succ fu ih =>
    intro x φ x0 x1 q H
    unfold f_Ref_clear_L354 at H
    refine J_iload_n d_Ref_clear_354 rfl ?_
    refine J_bipush (v := 10) d_Ref_clear_355 (by decide) ?_
    refine J_icmp_ge (tgt := 371) d_Ref_clear_357 (by decide) ?_ ?_
    · intro c7
      rw [if_pos c7] at H
      refine J_aload_n d_Ref_clear_371 rfl ?_
      refine J_iconst (v := 0) d_Ref_clear_372 (by decide) ?_
      have g2 : Γ x0 = .inr 12 := by
        apply Classical.byContradiction
        intro q9
        rw [if_neg q9] at H
        cases H
      rw [if_pos g2] at H
      obtain ⟨q3, hq3, H⟩ := Option.bind_eq_some_iff.mp H
      refine J_callV (kc := 0) (ks := 0) (kc' := 0) (ks' := 0) (a := x0) (ci := 12) (as := [.int (0 : Int32)]) (st := []) (mf_Ref_blank hw) (mv_Ref_642 hw) d_Ref_clear_373 ln_Ref_blank (by decide) (by first | exact Nat.le_of_ble_eq_true rfl | (simp only [List.map_cons, List.map_nil, List.sum_cons, List.sum_nil, va_rf_cat]; exact Nat.le_of_ble_eq_true rfl)) rfl ((hG _).1 _ g2 (by decide)).1 ((hG _).1 _ g2 (by decide)).2 (by unfold pic; rw [g2]; rfl) (jcl_at hw rfl) rfl (p_Ref_blank hw hG hq3) ?_ (fun E h' n' x' e1 => by cases e1.1)
      intro v9 h9 n9 x9 e9
      obtain ⟨e91, e92, e93⟩ := e9
      cases e91
      subst e92
      subst e93
      clear x
      rename Bool => x
      show J _ _ _ _ [] _ _ _ _ _ _
      refine J_aload_n d_Ref_clear_376 rfl ?_
      refine J_iconst (v := 1) d_Ref_clear_377 (by decide) ?_
      obtain ⟨q4, hq4, H⟩ := Option.bind_eq_some_iff.mp H
      refine J_callV (kc := 0) (ks := 0) (kc' := 0) (ks' := 0) (a := x0) (ci := 12) (as := [.int (1 : Int32)]) (st := []) (mf_Ref_blank hw) (mv_Ref_642 hw) d_Ref_clear_378 ln_Ref_blank (by decide) (by first | exact Nat.le_of_ble_eq_true rfl | (simp only [List.map_cons, List.map_nil, List.sum_cons, List.sum_nil, va_rf_cat]; exact Nat.le_of_ble_eq_true rfl)) rfl ((hG _).1 _ g2 (by decide)).1 ((hG _).1 _ g2 (by decide)).2 (by unfold pic; rw [g2]; rfl) (jcl_at hw rfl) rfl (p_Ref_blank hw hG hq4) ?_ (fun E h' n' x' e1 => by cases e1.1)
      intro v9 h9 n9 x9 e9
      obtain ⟨e91, e92, e93⟩ := e9
      cases e91
      subst e92
      subst e93
      clear x
      rename Bool => x
      show J _ _ _ _ [] _ _ _ _ _ _
      have H := Option.some.inj H
      subst H
      exact J_vret (st := []) d_Ref_clear_381 rfl ⟨rfl, rfl, rfl⟩
    · intro c7
      rw [if_neg c7] at H
      refine J_aload_n d_Ref_clear_360 rfl ?_
      refine J_iload_n d_Ref_clear_361 rfl ?_
      have g5 : Γ x0 = .inr 12 := by
        apply Classical.byContradiction
        intro q9
        rw [if_neg q9] at H
        cases H
      rw [if_pos g5] at H
      obtain ⟨q6, hq6, H⟩ := Option.bind_eq_some_iff.mp H
      refine J_callV (kc := 0) (ks := 0) (kc' := 0) (ks' := 0) (a := x0) (ci := 12) (as := [.int x1]) (st := []) (mf_Ref_beginMonitor hw) (mv_Ref_647 hw) d_Ref_clear_362 ln_Ref_beginMonitor (by decide) (by first | exact Nat.le_of_ble_eq_true rfl | (simp only [List.map_cons, List.map_nil, List.sum_cons, List.sum_nil, va_rf_cat]; exact Nat.le_of_ble_eq_true rfl)) rfl ((hG _).1 _ g5 (by decide)).1 ((hG _).1 _ g5 (by decide)).2 (by unfold pic; rw [g5]; rfl) (jcl_at hw rfl) rfl (p_Ref_beginMonitor hw hG hq6) ?_ (fun E h' n' x' e1 => by cases e1.1)
      intro v9 h9 n9 x9 e9
      obtain ⟨e91, e92, e93⟩ := e9
      cases e91
      subst e92
      subst e93
      clear x
      rename Bool => x
      show J _ _ _ _ [] _ _ _ _ _ _
      refine J_iinc (v := x1 + 1) d_Ref_clear_365 rfl (by rw [show Int32.ofInt 1 = (1 : Int32) from by decide]) ?_
      refine J.ls (ls' := [some (.ref x0), some (.int (x1 + (1 : Int32)))]) rfl ?_
      refine J_goto (tgt := 354) d_Ref_clear_368 (by decide) ?_
      refine J.drop [true, true] rfl ?_
      exact ih H
def f_Ref_clear_L326 (Γ : gm_T)  : Nat → ph_T → Nat → Int32 → Option (Unit × ph_T)
  | 0, _, _, _ => none
  | fu + 1, φ, x0, x1 =>
    if (65536 : Int32) ≤ x1 then
      f_Ref_clear_L354 Γ  jF φ x0 (0 : Int32)
    else
      @ite _ (Γ x0 = .inr 12) _ (
      Option.bind (φ.2.2 x0 13) fun a9 =>
      Option.bind (gA Γ a9 0) fun N10 =>
      Option.bind (ix x1 N10) fun k11 =>
      Option.bind (φ.2.2 x0 14) fun a12 =>
      Option.bind (gA Γ a12 2) fun N13 =>
      Option.bind (ix x1 N13) fun k14 =>
      @ite _ ((0 : Int32) = 0 ∨ (0 : Int32) = 1) _ (
      (f_Ref_clear_L326 Γ  fu) (uI (uI φ a9 k11 (0 : Int32)) a12 k14 (0 : Int32)) x0 (x1 + (1 : Int32))
      ) none
      ) none
set_option maxRecDepth 100000 in
set_option maxHeartbeats 4000000 in
theorem p_Ref_clear_L326 {w : jw_T} (hw : jok w) {Γ : gm_T} {n : Nat} (hG : gd w Γ n)  : ∀ (fu : Nat) {x : Bool} {φ : ph_T} {x0 : Nat} {x1 : Int32} {q : Unit × ph_T}, f_Ref_clear_L326 Γ  fu φ x0 x1 = some q → J w M_Ref_clear 326 [some (.ref x0), some (.int x1)] [] (pic Γ φ) n x 0 0 (fq Γ n (.inl none) q.2) := by
  intro fu
  induction fu with
  | zero =>
    intro x φ x0 x1 q H
    cases H
  | succ fu ih =>
    intro x φ x0 x1 q H
    unfold f_Ref_clear_L326 at H
    refine J_iload_n d_Ref_clear_326 rfl ?_
    refine J_ldc (v := 65536) d_Ref_clear_327 (kn_Ref_29 hw) ?_
    refine J_icmp_ge (tgt := 352) d_Ref_clear_329 (by decide) ?_ ?_
    · intro c16
      rw [if_pos c16] at H
      refine J_iconst (v := 0) d_Ref_clear_352 (by decide) ?_
      refine J_istore_n d_Ref_clear_353 (Nat.le_of_ble_eq_true rfl) ?_
      refine J.ls (ls' := [some (.ref x0), some (.int (0 : Int32))]) rfl ?_
      refine J.drop [true, true] rfl ?_
      exact p_Ref_clear_L354 hw hG  _ H
    · intro c16
      rw [if_neg c16] at H
      refine J_aload_n d_Ref_clear_332 rfl ?_
      have g8 : Γ x0 = .inr 12 := by
        apply Classical.byContradiction
        intro q9
        rw [if_neg q9] at H
        cases H
      rw [if_pos g8] at H
      refine F_getR (ci := 12) (k := 13) hG (cf_Ref hw) (fl_Ref_30 hw) (by decide) (by decide) rfl d_Ref_clear_333 g8 ?_
      refine J_iload_n d_Ref_clear_336 rfl ?_
      refine J_iconst (v := 0) d_Ref_clear_337 (by decide) ?_
      obtain ⟨a9, ha9, H⟩ := Option.bind_eq_some_iff.mp H
      rw [j_rf ha9]
      obtain ⟨N10, hN10, H⟩ := Option.bind_eq_some_iff.mp H
      obtain ⟨k11, hk11, H⟩ := Option.bind_eq_some_iff.mp H
      refine F_iast k11 hw hG d_Ref_clear_338 (gA_some hN10) (ix_some hk11) ?_
      refine J_aload_n d_Ref_clear_339 rfl ?_
      refine F_getR (ci := 12) (k := 14) hG (cf_Ref hw) (fl_Ref_33 hw) (by decide) (by decide) rfl d_Ref_clear_340 g8 ?_
      show J _ _ _ _ (va_rf (φ.2.2 x0 14) :: _) _ _ _ _ _ _
      refine J_iload_n d_Ref_clear_343 rfl ?_
      refine J_iconst (v := 0) d_Ref_clear_344 (by decide) ?_
      obtain ⟨a12, ha12, H⟩ := Option.bind_eq_some_iff.mp H
      rw [j_rf ha12]
      obtain ⟨N13, hN13, H⟩ := Option.bind_eq_some_iff.mp H
      obtain ⟨k14, hk14, H⟩ := Option.bind_eq_some_iff.mp H
      have z15 : (0 : Int32) = 0 ∨ (0 : Int32) = 1 := by
        apply Classical.byContradiction
        intro q9
        rw [if_neg q9] at H
        cases H
      rw [if_pos z15] at H
      refine F_zast k14 hw hG d_Ref_clear_345 (gA_some hN13) (ix_some hk14) z15 ?_
      refine J_iinc (v := x1 + 1) d_Ref_clear_346 rfl (by rw [show Int32.ofInt 1 = (1 : Int32) from by decide]) ?_
      refine J.ls (ls' := [some (.ref x0), some (.int (x1 + (1 : Int32)))]) rfl ?_
      refine J_goto (tgt := 326) d_Ref_clear_349 (by decide) ?_
      refine J.drop [true, true] rfl ?_
      exact ih H
def f_Ref_clear_L304 (Γ : gm_T)  : Nat → ph_T → Nat → Int32 → Option (Unit × ph_T)
  | 0, _, _, _ => none
  | fu + 1, φ, x0, x1 =>
    if (256 : Int32) ≤ x1 then
      f_Ref_clear_L326 Γ  jF φ x0 (0 : Int32)
    else
      @ite _ (Γ x0 = .inr 12) _ (
      Option.bind (φ.2.2 x0 80) fun a18 =>
      Option.bind (gA Γ a18 0) fun N19 =>
      Option.bind (ix x1 N19) fun k20 =>
      (f_Ref_clear_L304 Γ  fu) (uI φ a18 k20 (-1 : Int32)) x0 (x1 + (1 : Int32))
      ) none
set_option maxRecDepth 100000 in
set_option maxHeartbeats 4000000 in
theorem p_Ref_clear_L304 {w : jw_T} (hw : jok w) {Γ : gm_T} {n : Nat} (hG : gd w Γ n)  : ∀ (fu : Nat) {x : Bool} {φ : ph_T} {x0 : Nat} {x1 : Int32} {q : Unit × ph_T}, f_Ref_clear_L304 Γ  fu φ x0 x1 = some q → J w M_Ref_clear 304 [some (.ref x0), some (.int x1)] [] (pic Γ φ) n x 0 0 (fq Γ n (.inl none) q.2) := by
  intro fu
  induction fu with
  | zero =>
    intro x φ x0 x1 q H
    cases H
  | succ fu ih =>
    intro x φ x0 x1 q H
    unfold f_Ref_clear_L304 at H
    refine J_iload_n d_Ref_clear_304 rfl ?_
    refine J_sipush (v := 256) d_Ref_clear_305 (by decide) ?_
    refine J_icmp_ge (tgt := 324) d_Ref_clear_308 (by decide) ?_ ?_
    · intro c21
      rw [if_pos c21] at H
      refine J_iconst (v := 0) d_Ref_clear_324 (by decide) ?_
      refine J_istore_n d_Ref_clear_325 (Nat.le_of_ble_eq_true rfl) ?_
      refine J.ls (ls' := [some (.ref x0), some (.int (0 : Int32))]) rfl ?_
      refine J.drop [true, true] rfl ?_
      exact p_Ref_clear_L326 hw hG  _ H
    · intro c21
      rw [if_neg c21] at H
      refine J_aload_n d_Ref_clear_311 rfl ?_
      have g17 : Γ x0 = .inr 12 := by
        apply Classical.byContradiction
        intro q9
        rw [if_neg q9] at H
        cases H
      rw [if_pos g17] at H
      refine F_getR (ci := 12) (k := 80) hG (cf_Ref hw) (fl_Ref_220 hw) (by decide) (by decide) rfl d_Ref_clear_312 g17 ?_
      refine J_iload_n d_Ref_clear_315 rfl ?_
      refine J_iconst (v := -1) d_Ref_clear_316 (by decide) ?_
      obtain ⟨a18, ha18, H⟩ := Option.bind_eq_some_iff.mp H
      rw [j_rf ha18]
      obtain ⟨N19, hN19, H⟩ := Option.bind_eq_some_iff.mp H
      obtain ⟨k20, hk20, H⟩ := Option.bind_eq_some_iff.mp H
      refine F_iast k20 hw hG d_Ref_clear_317 (gA_some hN19) (ix_some hk20) ?_
      refine J_iinc (v := x1 + 1) d_Ref_clear_318 rfl (by rw [show Int32.ofInt 1 = (1 : Int32) from by decide]) ?_
      refine J.ls (ls' := [some (.ref x0), some (.int (x1 + (1 : Int32)))]) rfl ?_
      refine J_goto (tgt := 304) d_Ref_clear_321 (by decide) ?_
      refine J.drop [true, true] rfl ?_
      exact ih H
def f_Ref_clear_L215 (Γ : gm_T)  : Nat → ph_T → Nat → Int32 → Option (Unit × ph_T)
  | 0, _, _, _ => none
  | fu + 1, φ, x0, x1 =>
    if (4 : Int32) ≤ x1 then
      f_Ref_clear_L304 Γ  jF φ x0 (0 : Int32)
    else
      @ite _ (Γ x0 = .inr 12) _ (
      Option.bind (φ.2.2 x0 10) fun a23 =>
      Option.bind (gA Γ a23 2) fun N24 =>
      Option.bind (ix x1 N24) fun k25 =>
      @ite _ ((0 : Int32) = 0 ∨ (0 : Int32) = 1) _ (
      Option.bind (φ.2.2 x0 11) fun a27 =>
      Option.bind (gA Γ a27 0) fun N28 =>
      Option.bind (ix x1 N28) fun k29 =>
      Option.bind (φ.2.2 x0 12) fun a30 =>
      Option.bind (gA Γ a30 0) fun N31 =>
      Option.bind (ix x1 N31) fun k32 =>
      Option.bind (φ.2.2 x0 54) fun a33 =>
      Option.bind (gA Γ a33 0) fun N34 =>
      Option.bind (ix x1 N34) fun k35 =>
      Option.bind (φ.2.2 x0 55) fun a36 =>
      Option.bind (gA Γ a36 0) fun N37 =>
      Option.bind (ix x1 N37) fun k38 =>
      Option.bind (φ.2.2 x0 56) fun a39 =>
      Option.bind (gA Γ a39 2) fun N40 =>
      Option.bind (ix x1 N40) fun k41 =>
      @ite _ ((0 : Int32) = 0 ∨ (0 : Int32) = 1) _ (
      Option.bind (φ.2.2 x0 58) fun a43 =>
      Option.bind (gA Γ a43 0) fun N44 =>
      Option.bind (ix x1 N44) fun k45 =>
      Option.bind (φ.2.2 x0 67) fun a46 =>
      Option.bind (gA Γ a46 0) fun N47 =>
      Option.bind (ix x1 N47) fun k48 =>
      Option.bind (φ.2.2 x0 76) fun a49 =>
      Option.bind (gA Γ a49 0) fun N50 =>
      Option.bind (ix x1 N50) fun k51 =>
      Option.bind (φ.2.2 x0 77) fun a52 =>
      Option.bind (gA Γ a52 0) fun N53 =>
      Option.bind (ix x1 N53) fun k54 =>
      (f_Ref_clear_L215 Γ  fu) (uI (uI (uI (uI (uI (uI (uI (uI (uI (uI φ a23 k25 (0 : Int32)) a27 k29 (0 : Int32)) a30 k32 (0 : Int32)) a33 k35 ((uI (uI (uI φ a23 k25 (0 : Int32)) a27 k29 (0 : Int32)) a30 k32 (0 : Int32)).1 x0 2)) a36 k38 ((uI (uI (uI (uI φ a23 k25 (0 : Int32)) a27 k29 (0 : Int32)) a30 k32 (0 : Int32)) a33 k35 ((uI (uI (uI φ a23 k25 (0 : Int32)) a27 k29 (0 : Int32)) a30 k32 (0 : Int32)).1 x0 2)).1 x0 2)) a39 k41 (0 : Int32)) a43 k45 (0 : Int32)) a46 k48 (0 : Int32)) a49 k51 (0 : Int32)) a52 k54 (-1 : Int32)) x0 (x1 + (1 : Int32))
      ) none
      ) none
      ) none
set_option maxRecDepth 100000 in
set_option maxHeartbeats 4000000 in
theorem p_Ref_clear_L215 {w : jw_T} (hw : jok w) {Γ : gm_T} {n : Nat} (hG : gd w Γ n)  : ∀ (fu : Nat) {x : Bool} {φ : ph_T} {x0 : Nat} {x1 : Int32} {q : Unit × ph_T}, f_Ref_clear_L215 Γ  fu φ x0 x1 = some q → J w M_Ref_clear 215 [some (.ref x0), some (.int x1)] [] (pic Γ φ) n x 0 0 (fq Γ n (.inl none) q.2) := by
  intro fu
  induction fu with
  | zero =>
    intro x φ x0 x1 q H
    cases H
  | succ fu ih =>
    intro x φ x0 x1 q H
    unfold f_Ref_clear_L215 at H
    refine J_iload_n d_Ref_clear_215 rfl ?_
    refine J_iconst (v := 4) d_Ref_clear_216 (by decide) ?_
    refine J_icmp_ge (tgt := 302) d_Ref_clear_217 (by decide) ?_ ?_
    · intro c55
      rw [if_pos c55] at H
      refine J_iconst (v := 0) d_Ref_clear_302 (by decide) ?_
      refine J_istore_n d_Ref_clear_303 (Nat.le_of_ble_eq_true rfl) ?_
      refine J.ls (ls' := [some (.ref x0), some (.int (0 : Int32))]) rfl ?_
      refine J.drop [true, true] rfl ?_
      exact p_Ref_clear_L304 hw hG  _ H
    · intro c55
      rw [if_neg c55] at H
      refine J_aload_n d_Ref_clear_220 rfl ?_
      have g22 : Γ x0 = .inr 12 := by
        apply Classical.byContradiction
        intro q9
        rw [if_neg q9] at H
        cases H
      rw [if_pos g22] at H
      refine F_getR (ci := 12) (k := 10) hG (cf_Ref hw) (fl_Ref_19 hw) (by decide) (by decide) rfl d_Ref_clear_221 g22 ?_
      refine J_iload_n d_Ref_clear_224 rfl ?_
      refine J_iconst (v := 0) d_Ref_clear_225 (by decide) ?_
      obtain ⟨a23, ha23, H⟩ := Option.bind_eq_some_iff.mp H
      rw [j_rf ha23]
      obtain ⟨N24, hN24, H⟩ := Option.bind_eq_some_iff.mp H
      obtain ⟨k25, hk25, H⟩ := Option.bind_eq_some_iff.mp H
      have z26 : (0 : Int32) = 0 ∨ (0 : Int32) = 1 := by
        apply Classical.byContradiction
        intro q9
        rw [if_neg q9] at H
        cases H
      rw [if_pos z26] at H
      refine F_zast k25 hw hG d_Ref_clear_226 (gA_some hN24) (ix_some hk25) z26 ?_
      refine J_aload_n d_Ref_clear_227 rfl ?_
      refine F_getR (ci := 12) (k := 11) hG (cf_Ref hw) (fl_Ref_23 hw) (by decide) (by decide) rfl d_Ref_clear_228 g22 ?_
      show J _ _ _ _ (va_rf (φ.2.2 x0 11) :: _) _ _ _ _ _ _
      refine J_iload_n d_Ref_clear_231 rfl ?_
      refine J_iconst (v := 0) d_Ref_clear_232 (by decide) ?_
      obtain ⟨a27, ha27, H⟩ := Option.bind_eq_some_iff.mp H
      rw [j_rf ha27]
      obtain ⟨N28, hN28, H⟩ := Option.bind_eq_some_iff.mp H
      obtain ⟨k29, hk29, H⟩ := Option.bind_eq_some_iff.mp H
      refine F_iast k29 hw hG d_Ref_clear_233 (gA_some hN28) (ix_some hk29) ?_
      refine J_aload_n d_Ref_clear_234 rfl ?_
      refine F_getR (ci := 12) (k := 12) hG (cf_Ref hw) (fl_Ref_26 hw) (by decide) (by decide) rfl d_Ref_clear_235 g22 ?_
      show J _ _ _ _ (va_rf (φ.2.2 x0 12) :: _) _ _ _ _ _ _
      refine J_iload_n d_Ref_clear_238 rfl ?_
      refine J_iconst (v := 0) d_Ref_clear_239 (by decide) ?_
      obtain ⟨a30, ha30, H⟩ := Option.bind_eq_some_iff.mp H
      rw [j_rf ha30]
      obtain ⟨N31, hN31, H⟩ := Option.bind_eq_some_iff.mp H
      obtain ⟨k32, hk32, H⟩ := Option.bind_eq_some_iff.mp H
      refine F_iast k32 hw hG d_Ref_clear_240 (gA_some hN31) (ix_some hk32) ?_
      refine J_aload_n d_Ref_clear_241 rfl ?_
      refine F_getR (ci := 12) (k := 54) hG (cf_Ref hw) (fl_Ref_145 hw) (by decide) (by decide) rfl d_Ref_clear_242 g22 ?_
      show J _ _ _ _ (va_rf (φ.2.2 x0 54) :: _) _ _ _ _ _ _
      refine J_iload_n d_Ref_clear_245 rfl ?_
      refine J_aload_n d_Ref_clear_246 rfl ?_
      refine F_getI (ci := 12) (k := 2) hG (cf_Ref hw) (fl_Ref_294 hw) (by decide) (by decide) rfl d_Ref_clear_247 g22 ?_
      obtain ⟨a33, ha33, H⟩ := Option.bind_eq_some_iff.mp H
      rw [j_rf ha33]
      obtain ⟨N34, hN34, H⟩ := Option.bind_eq_some_iff.mp H
      obtain ⟨k35, hk35, H⟩ := Option.bind_eq_some_iff.mp H
      refine F_iast k35 hw hG d_Ref_clear_250 (gA_some hN34) (ix_some hk35) ?_
      refine J_aload_n d_Ref_clear_251 rfl ?_
      refine F_getR (ci := 12) (k := 55) hG (cf_Ref hw) (fl_Ref_148 hw) (by decide) (by decide) rfl d_Ref_clear_252 g22 ?_
      show J _ _ _ _ (va_rf (φ.2.2 x0 55) :: _) _ _ _ _ _ _
      refine J_iload_n d_Ref_clear_255 rfl ?_
      refine J_aload_n d_Ref_clear_256 rfl ?_
      refine F_getI (ci := 12) (k := 2) hG (cf_Ref hw) (fl_Ref_294 hw) (by decide) (by decide) rfl d_Ref_clear_257 g22 ?_
      obtain ⟨a36, ha36, H⟩ := Option.bind_eq_some_iff.mp H
      rw [j_rf ha36]
      obtain ⟨N37, hN37, H⟩ := Option.bind_eq_some_iff.mp H
      obtain ⟨k38, hk38, H⟩ := Option.bind_eq_some_iff.mp H
      refine F_iast k38 hw hG d_Ref_clear_260 (gA_some hN37) (ix_some hk38) ?_
      refine J_aload_n d_Ref_clear_261 rfl ?_
      refine F_getR (ci := 12) (k := 56) hG (cf_Ref hw) (fl_Ref_151 hw) (by decide) (by decide) rfl d_Ref_clear_262 g22 ?_
      show J _ _ _ _ (va_rf (φ.2.2 x0 56) :: _) _ _ _ _ _ _
      refine J_iload_n d_Ref_clear_265 rfl ?_
      refine J_iconst (v := 0) d_Ref_clear_266 (by decide) ?_
      obtain ⟨a39, ha39, H⟩ := Option.bind_eq_some_iff.mp H
      rw [j_rf ha39]
      obtain ⟨N40, hN40, H⟩ := Option.bind_eq_some_iff.mp H
      obtain ⟨k41, hk41, H⟩ := Option.bind_eq_some_iff.mp H
      have z42 : (0 : Int32) = 0 ∨ (0 : Int32) = 1 := by
        apply Classical.byContradiction
        intro q9
        rw [if_neg q9] at H
        cases H
      rw [if_pos z42] at H
      refine F_zast k41 hw hG d_Ref_clear_267 (gA_some hN40) (ix_some hk41) z42 ?_
      refine J_aload_n d_Ref_clear_268 rfl ?_
      refine F_getR (ci := 12) (k := 58) hG (cf_Ref hw) (fl_Ref_154 hw) (by decide) (by decide) rfl d_Ref_clear_269 g22 ?_
      show J _ _ _ _ (va_rf (φ.2.2 x0 58) :: _) _ _ _ _ _ _
      refine J_iload_n d_Ref_clear_272 rfl ?_
      refine J_iconst (v := 0) d_Ref_clear_273 (by decide) ?_
      obtain ⟨a43, ha43, H⟩ := Option.bind_eq_some_iff.mp H
      rw [j_rf ha43]
      obtain ⟨N44, hN44, H⟩ := Option.bind_eq_some_iff.mp H
      obtain ⟨k45, hk45, H⟩ := Option.bind_eq_some_iff.mp H
      refine F_iast k45 hw hG d_Ref_clear_274 (gA_some hN44) (ix_some hk45) ?_
      refine J_aload_n d_Ref_clear_275 rfl ?_
      refine F_getR (ci := 12) (k := 67) hG (cf_Ref hw) (fl_Ref_181 hw) (by decide) (by decide) rfl d_Ref_clear_276 g22 ?_
      show J _ _ _ _ (va_rf (φ.2.2 x0 67) :: _) _ _ _ _ _ _
      refine J_iload_n d_Ref_clear_279 rfl ?_
      refine J_iconst (v := 0) d_Ref_clear_280 (by decide) ?_
      obtain ⟨a46, ha46, H⟩ := Option.bind_eq_some_iff.mp H
      rw [j_rf ha46]
      obtain ⟨N47, hN47, H⟩ := Option.bind_eq_some_iff.mp H
      obtain ⟨k48, hk48, H⟩ := Option.bind_eq_some_iff.mp H
      refine F_iast k48 hw hG d_Ref_clear_281 (gA_some hN47) (ix_some hk48) ?_
      refine J_aload_n d_Ref_clear_282 rfl ?_
      refine F_getR (ci := 12) (k := 76) hG (cf_Ref hw) (fl_Ref_208 hw) (by decide) (by decide) rfl d_Ref_clear_283 g22 ?_
      show J _ _ _ _ (va_rf (φ.2.2 x0 76) :: _) _ _ _ _ _ _
      refine J_iload_n d_Ref_clear_286 rfl ?_
      refine J_iconst (v := 0) d_Ref_clear_287 (by decide) ?_
      obtain ⟨a49, ha49, H⟩ := Option.bind_eq_some_iff.mp H
      rw [j_rf ha49]
      obtain ⟨N50, hN50, H⟩ := Option.bind_eq_some_iff.mp H
      obtain ⟨k51, hk51, H⟩ := Option.bind_eq_some_iff.mp H
      refine F_iast k51 hw hG d_Ref_clear_288 (gA_some hN50) (ix_some hk51) ?_
      refine J_aload_n d_Ref_clear_289 rfl ?_
      refine F_getR (ci := 12) (k := 77) hG (cf_Ref hw) (fl_Ref_211 hw) (by decide) (by decide) rfl d_Ref_clear_290 g22 ?_
      show J _ _ _ _ (va_rf (φ.2.2 x0 77) :: _) _ _ _ _ _ _
      refine J_iload_n d_Ref_clear_293 rfl ?_
      refine J_iconst (v := -1) d_Ref_clear_294 (by decide) ?_
      obtain ⟨a52, ha52, H⟩ := Option.bind_eq_some_iff.mp H
      rw [j_rf ha52]
      obtain ⟨N53, hN53, H⟩ := Option.bind_eq_some_iff.mp H
      obtain ⟨k54, hk54, H⟩ := Option.bind_eq_some_iff.mp H
      refine F_iast k54 hw hG d_Ref_clear_295 (gA_some hN53) (ix_some hk54) ?_
      refine J_iinc (v := x1 + 1) d_Ref_clear_296 rfl (by rw [show Int32.ofInt 1 = (1 : Int32) from by decide]) ?_
      refine J.ls (ls' := [some (.ref x0), some (.int (x1 + (1 : Int32)))]) rfl ?_
      refine J_goto (tgt := 215) d_Ref_clear_299 (by decide) ?_
      refine J.drop [true, true] rfl ?_
      exact ih H
def f_Ref_clear_L178 (Γ : gm_T)  : Nat → ph_T → Nat → Int32 → Option (Unit × ph_T)
  | 0, _, _, _ => none
  | fu + 1, φ, x0, x1 =>
    if (5 : Int32) ≤ x1 then
      f_Ref_clear_L215 Γ  jF φ x0 (0 : Int32)
    else
      @ite _ (Γ x0 = .inr 12) _ (
      Option.bind (φ.2.2 x0 52) fun a57 =>
      Option.bind (gA Γ a57 0) fun N58 =>
      Option.bind (ix x1 N58) fun k59 =>
      Option.bind (φ.2.2 x0 53) fun a60 =>
      Option.bind (gA Γ a60 0) fun N61 =>
      Option.bind (ix x1 N61) fun k62 =>
      (f_Ref_clear_L178 Γ  fu) (uI (uI φ a57 k59 ((φ.1 x0 1) - (1 : Int32))) a60 k62 (((uI φ a57 k59 ((φ.1 x0 1) - (1 : Int32))).1 x0 1) - (1 : Int32))) x0 (x1 + (1 : Int32))
      ) none
set_option maxRecDepth 100000 in
set_option maxHeartbeats 4000000 in
theorem p_Ref_clear_L178 {w : jw_T} (hw : jok w) {Γ : gm_T} {n : Nat} (hG : gd w Γ n)  : ∀ (fu : Nat) {x : Bool} {φ : ph_T} {x0 : Nat} {x1 : Int32} {q : Unit × ph_T}, f_Ref_clear_L178 Γ  fu φ x0 x1 = some q → J w M_Ref_clear 178 [some (.ref x0), some (.int x1)] [] (pic Γ φ) n x 0 0 (fq Γ n (.inl none) q.2) := by
  intro fu
  induction fu with
  | zero =>
    intro x φ x0 x1 q H
    cases H
  | succ fu ih =>
    intro x φ x0 x1 q H
    unfold f_Ref_clear_L178 at H
    refine J_iload_n d_Ref_clear_178 rfl ?_
    refine J_iconst (v := 5) d_Ref_clear_179 (by decide) ?_
    refine J_icmp_ge (tgt := 213) d_Ref_clear_180 (by decide) ?_ ?_
    · intro c63
      rw [if_pos c63] at H
      refine J_iconst (v := 0) d_Ref_clear_213 (by decide) ?_
      refine J_istore_n d_Ref_clear_214 (Nat.le_of_ble_eq_true rfl) ?_
      refine J.ls (ls' := [some (.ref x0), some (.int (0 : Int32))]) rfl ?_
      refine J.drop [true, true] rfl ?_
      exact p_Ref_clear_L215 hw hG  _ H
    · intro c63
      rw [if_neg c63] at H
      refine J_aload_n d_Ref_clear_183 rfl ?_
      have g56 : Γ x0 = .inr 12 := by
        apply Classical.byContradiction
        intro q9
        rw [if_neg q9] at H
        cases H
      rw [if_pos g56] at H
      refine F_getR (ci := 12) (k := 52) hG (cf_Ref hw) (fl_Ref_139 hw) (by decide) (by decide) rfl d_Ref_clear_184 g56 ?_
      refine J_iload_n d_Ref_clear_187 rfl ?_
      refine J_aload_n d_Ref_clear_188 rfl ?_
      refine F_getI (ci := 12) (k := 1) hG (cf_Ref hw) (fl_Ref_290 hw) (by decide) (by decide) rfl d_Ref_clear_189 g56 ?_
      refine J_iconst (v := 1) d_Ref_clear_192 (by decide) ?_
      refine J_isub d_Ref_clear_193 ?_
      obtain ⟨a57, ha57, H⟩ := Option.bind_eq_some_iff.mp H
      rw [j_rf ha57]
      obtain ⟨N58, hN58, H⟩ := Option.bind_eq_some_iff.mp H
      obtain ⟨k59, hk59, H⟩ := Option.bind_eq_some_iff.mp H
      refine F_iast k59 hw hG d_Ref_clear_194 (gA_some hN58) (ix_some hk59) ?_
      refine J_aload_n d_Ref_clear_195 rfl ?_
      refine F_getR (ci := 12) (k := 53) hG (cf_Ref hw) (fl_Ref_142 hw) (by decide) (by decide) rfl d_Ref_clear_196 g56 ?_
      show J _ _ _ _ (va_rf (φ.2.2 x0 53) :: _) _ _ _ _ _ _
      refine J_iload_n d_Ref_clear_199 rfl ?_
      refine J_aload_n d_Ref_clear_200 rfl ?_
      refine F_getI (ci := 12) (k := 1) hG (cf_Ref hw) (fl_Ref_290 hw) (by decide) (by decide) rfl d_Ref_clear_201 g56 ?_
      refine J_iconst (v := 1) d_Ref_clear_204 (by decide) ?_
      refine J_isub d_Ref_clear_205 ?_
      obtain ⟨a60, ha60, H⟩ := Option.bind_eq_some_iff.mp H
      rw [j_rf ha60]
      obtain ⟨N61, hN61, H⟩ := Option.bind_eq_some_iff.mp H
      obtain ⟨k62, hk62, H⟩ := Option.bind_eq_some_iff.mp H
      refine F_iast k62 hw hG d_Ref_clear_206 (gA_some hN61) (ix_some hk62) ?_
      refine J_iinc (v := x1 + 1) d_Ref_clear_207 rfl (by rw [show Int32.ofInt 1 = (1 : Int32) from by decide]) ?_
      refine J.ls (ls' := [some (.ref x0), some (.int (x1 + (1 : Int32)))]) rfl ?_
      refine J_goto (tgt := 178) d_Ref_clear_210 (by decide) ?_
      refine J.drop [true, true] rfl ?_
      exact ih H
def f_Ref_clear_L157 (Γ : gm_T)  : Nat → ph_T → Nat → Int32 → Option (Unit × ph_T)
  | 0, _, _, _ => none
  | fu + 1, φ, x0, x1 =>
    if (45 : Int32) ≤ x1 then
      f_Ref_clear_L178 Γ  jF φ x0 (0 : Int32)
    else
      @ite _ (Γ x0 = .inr 12) _ (
      Option.bind (φ.2.2 x0 42) fun a65 =>
      Option.bind (gA Γ a65 0) fun N66 =>
      Option.bind (ix x1 N66) fun k67 =>
      (f_Ref_clear_L157 Γ  fu) (uI φ a65 k67 (0 : Int32)) x0 (x1 + (1 : Int32))
      ) none
set_option maxRecDepth 100000 in
set_option maxHeartbeats 4000000 in
theorem p_Ref_clear_L157 {w : jw_T} (hw : jok w) {Γ : gm_T} {n : Nat} (hG : gd w Γ n)  : ∀ (fu : Nat) {x : Bool} {φ : ph_T} {x0 : Nat} {x1 : Int32} {q : Unit × ph_T}, f_Ref_clear_L157 Γ  fu φ x0 x1 = some q → J w M_Ref_clear 157 [some (.ref x0), some (.int x1)] [] (pic Γ φ) n x 0 0 (fq Γ n (.inl none) q.2) := by
  intro fu
  induction fu with
  | zero =>
    intro x φ x0 x1 q H
    cases H
  | succ fu ih =>
    intro x φ x0 x1 q H
    unfold f_Ref_clear_L157 at H
    refine J_iload_n d_Ref_clear_157 rfl ?_
    refine J_bipush (v := 45) d_Ref_clear_158 (by decide) ?_
    refine J_icmp_ge (tgt := 176) d_Ref_clear_160 (by decide) ?_ ?_
    · intro c68
      rw [if_pos c68] at H
      refine J_iconst (v := 0) d_Ref_clear_176 (by decide) ?_
      refine J_istore_n d_Ref_clear_177 (Nat.le_of_ble_eq_true rfl) ?_
      refine J.ls (ls' := [some (.ref x0), some (.int (0 : Int32))]) rfl ?_
      refine J.drop [true, true] rfl ?_
      exact p_Ref_clear_L178 hw hG  _ H
    · intro c68
      rw [if_neg c68] at H
      refine J_aload_n d_Ref_clear_163 rfl ?_
      have g64 : Γ x0 = .inr 12 := by
        apply Classical.byContradiction
        intro q9
        rw [if_neg q9] at H
        cases H
      rw [if_pos g64] at H
      refine F_getR (ci := 12) (k := 42) hG (cf_Ref hw) (fl_Ref_115 hw) (by decide) (by decide) rfl d_Ref_clear_164 g64 ?_
      refine J_iload_n d_Ref_clear_167 rfl ?_
      refine J_iconst (v := 0) d_Ref_clear_168 (by decide) ?_
      obtain ⟨a65, ha65, H⟩ := Option.bind_eq_some_iff.mp H
      rw [j_rf ha65]
      obtain ⟨N66, hN66, H⟩ := Option.bind_eq_some_iff.mp H
      obtain ⟨k67, hk67, H⟩ := Option.bind_eq_some_iff.mp H
      refine F_iast k67 hw hG d_Ref_clear_169 (gA_some hN66) (ix_some hk67) ?_
      refine J_iinc (v := x1 + 1) d_Ref_clear_170 rfl (by rw [show Int32.ofInt 1 = (1 : Int32) from by decide]) ?_
      refine J.ls (ls' := [some (.ref x0), some (.int (x1 + (1 : Int32)))]) rfl ?_
      refine J_goto (tgt := 157) d_Ref_clear_173 (by decide) ?_
      refine J.drop [true, true] rfl ?_
      exact ih H
def f_Ref_clear_L114 (Γ : gm_T)  : Nat → ph_T → Nat → Int32 → Option (Unit × ph_T)
  | 0, _, _, _ => none
  | fu + 1, φ, x0, x1 =>
    if (40 : Int32) ≤ x1 then
      f_Ref_clear_L157 Γ  jF φ x0 (0 : Int32)
    else
      @ite _ (Γ x0 = .inr 12) _ (
      Option.bind (f_Ref_show Γ φ x0 x1 (0 : Int32) (0 : Int64) (0 : Int32)) fun q70 =>
      Option.bind (q70.2.2.2 x0 34) fun a71 =>
      Option.bind (gA Γ a71 2) fun N72 =>
      Option.bind (ix x1 N72) fun k73 =>
      @ite _ ((0 : Int32) = 0 ∨ (0 : Int32) = 1) _ (
      Option.bind (q70.2.2.2 x0 37) fun a75 =>
      Option.bind (gA Γ a75 2) fun N76 =>
      Option.bind (ix x1 N76) fun k77 =>
      @ite _ ((0 : Int32) = 0 ∨ (0 : Int32) = 1) _ (
      Option.bind (q70.2.2.2 x0 38) fun a79 =>
      Option.bind (gA Γ a79 0) fun N80 =>
      Option.bind (ix x1 N80) fun k81 =>
      (f_Ref_clear_L114 Γ  fu) (uI (uI (uI q70.2 a71 k73 (0 : Int32)) a75 k77 (0 : Int32)) a79 k81 (0 : Int32)) x0 (x1 + (1 : Int32))
      ) none
      ) none
      ) none
set_option maxRecDepth 100000 in
set_option maxHeartbeats 4000000 in
theorem p_Ref_clear_L114 {w : jw_T} (hw : jok w) {Γ : gm_T} {n : Nat} (hG : gd w Γ n)  : ∀ (fu : Nat) {x : Bool} {φ : ph_T} {x0 : Nat} {x1 : Int32} {q : Unit × ph_T}, f_Ref_clear_L114 Γ  fu φ x0 x1 = some q → J w M_Ref_clear 114 [some (.ref x0), some (.int x1)] [] (pic Γ φ) n x 0 0 (fq Γ n (.inl none) q.2) := by
  intro fu
  induction fu with
  | zero =>
    intro x φ x0 x1 q H
    cases H
  | succ fu ih =>
    intro x φ x0 x1 q H
    unfold f_Ref_clear_L114 at H
    refine J_iload_n d_Ref_clear_114 rfl ?_
    refine J_bipush (v := 40) d_Ref_clear_115 (by decide) ?_
    refine J_icmp_ge (tgt := 155) d_Ref_clear_117 (by decide) ?_ ?_
    · intro c82
      rw [if_pos c82] at H
      refine J_iconst (v := 0) d_Ref_clear_155 (by decide) ?_
      refine J_istore_n d_Ref_clear_156 (Nat.le_of_ble_eq_true rfl) ?_
      refine J.ls (ls' := [some (.ref x0), some (.int (0 : Int32))]) rfl ?_
      refine J.drop [true, true] rfl ?_
      exact p_Ref_clear_L157 hw hG  _ H
    · intro c82
      rw [if_neg c82] at H
      refine J_aload_n d_Ref_clear_120 rfl ?_
      refine J_iload_n d_Ref_clear_121 rfl ?_
      refine J_iconst (v := 0) d_Ref_clear_122 (by decide) ?_
      refine J_lconst (v := 0) d_Ref_clear_123 (by decide) ?_
      refine J_iconst (v := 0) d_Ref_clear_124 (by decide) ?_
      have g69 : Γ x0 = .inr 12 := by
        apply Classical.byContradiction
        intro q9
        rw [if_neg q9] at H
        cases H
      rw [if_pos g69] at H
      obtain ⟨q70, hq70, H⟩ := Option.bind_eq_some_iff.mp H
      refine J_callV (kc := 0) (ks := 0) (kc' := 0) (ks' := 0) (a := x0) (ci := 12) (as := [.int x1, .int (0 : Int32), .long (0 : Int64), .int (0 : Int32)]) (st := []) (mf_Ref_show hw) (mv_Ref_359 hw) d_Ref_clear_125 ln_Ref_show (by decide) (by first | exact Nat.le_of_ble_eq_true rfl | (simp only [List.map_cons, List.map_nil, List.sum_cons, List.sum_nil, va_rf_cat]; exact Nat.le_of_ble_eq_true rfl)) rfl ((hG _).1 _ g69 (by decide)).1 ((hG _).1 _ g69 (by decide)).2 (by unfold pic; rw [g69]; rfl) (jcl_at hw rfl) rfl (p_Ref_show hw hG hq70) ?_ (fun E h' n' x' e1 => by cases e1.1)
      intro v9 h9 n9 x9 e9
      obtain ⟨e91, e92, e93⟩ := e9
      cases e91
      subst e92
      subst e93
      clear x
      rename Bool => x
      show J _ _ _ _ [] _ _ _ _ _ _
      refine J_aload_n d_Ref_clear_128 rfl ?_
      refine F_getR (ci := 12) (k := 34) hG (cf_Ref hw) (fl_Ref_91 hw) (by decide) (by decide) rfl d_Ref_clear_129 g69 ?_
      refine J_iload_n d_Ref_clear_132 rfl ?_
      refine J_iconst (v := 0) d_Ref_clear_133 (by decide) ?_
      obtain ⟨a71, ha71, H⟩ := Option.bind_eq_some_iff.mp H
      rw [j_rf ha71]
      obtain ⟨N72, hN72, H⟩ := Option.bind_eq_some_iff.mp H
      obtain ⟨k73, hk73, H⟩ := Option.bind_eq_some_iff.mp H
      have z74 : (0 : Int32) = 0 ∨ (0 : Int32) = 1 := by
        apply Classical.byContradiction
        intro q9
        rw [if_neg q9] at H
        cases H
      rw [if_pos z74] at H
      refine F_zast k73 hw hG d_Ref_clear_134 (gA_some hN72) (ix_some hk73) z74 ?_
      refine J_aload_n d_Ref_clear_135 rfl ?_
      refine F_getR (ci := 12) (k := 37) hG (cf_Ref hw) (fl_Ref_100 hw) (by decide) (by decide) rfl d_Ref_clear_136 g69 ?_
      show J _ _ _ _ (va_rf (q70.2.2.2 x0 37) :: _) _ _ _ _ _ _
      refine J_iload_n d_Ref_clear_139 rfl ?_
      refine J_iconst (v := 0) d_Ref_clear_140 (by decide) ?_
      obtain ⟨a75, ha75, H⟩ := Option.bind_eq_some_iff.mp H
      rw [j_rf ha75]
      obtain ⟨N76, hN76, H⟩ := Option.bind_eq_some_iff.mp H
      obtain ⟨k77, hk77, H⟩ := Option.bind_eq_some_iff.mp H
      have z78 : (0 : Int32) = 0 ∨ (0 : Int32) = 1 := by
        apply Classical.byContradiction
        intro q9
        rw [if_neg q9] at H
        cases H
      rw [if_pos z78] at H
      refine F_zast k77 hw hG d_Ref_clear_141 (gA_some hN76) (ix_some hk77) z78 ?_
      refine J_aload_n d_Ref_clear_142 rfl ?_
      refine F_getR (ci := 12) (k := 38) hG (cf_Ref hw) (fl_Ref_103 hw) (by decide) (by decide) rfl d_Ref_clear_143 g69 ?_
      show J _ _ _ _ (va_rf (q70.2.2.2 x0 38) :: _) _ _ _ _ _ _
      refine J_iload_n d_Ref_clear_146 rfl ?_
      refine J_iconst (v := 0) d_Ref_clear_147 (by decide) ?_
      obtain ⟨a79, ha79, H⟩ := Option.bind_eq_some_iff.mp H
      rw [j_rf ha79]
      obtain ⟨N80, hN80, H⟩ := Option.bind_eq_some_iff.mp H
      obtain ⟨k81, hk81, H⟩ := Option.bind_eq_some_iff.mp H
      refine F_iast k81 hw hG d_Ref_clear_148 (gA_some hN80) (ix_some hk81) ?_
      refine J_iinc (v := x1 + 1) d_Ref_clear_149 rfl (by rw [show Int32.ofInt 1 = (1 : Int32) from by decide]) ?_
      refine J.ls (ls' := [some (.ref x0), some (.int (x1 + (1 : Int32)))]) rfl ?_
      refine J_goto (tgt := 114) d_Ref_clear_152 (by decide) ?_
      refine J.drop [true, true] rfl ?_
      exact ih H
def f_Ref_clear_L82 (Γ : gm_T)  : Nat → ph_T → Nat → Int32 → Option (Unit × ph_T)
  | 0, _, _, _ => none
  | fu + 1, φ, x0, x1 =>
    if (20 : Int32) ≤ x1 then
      f_Ref_clear_L114 Γ  jF φ x0 (0 : Int32)
    else
      @ite _ (Γ x0 = .inr 12) _ (
      Option.bind (φ.2.2 x0 8) fun a84 =>
      Option.bind (gA Γ a84 0) fun N85 =>
      Option.bind (ix x1 N85) fun k86 =>
      Option.bind (φ.2.2 x0 9) fun a87 =>
      Option.bind (gA Γ a87 0) fun N88 =>
      Option.bind (ix x1 N88) fun k89 =>
      (f_Ref_clear_L82 Γ  fu) (uI (uI φ a84 k86 (65535 : Int32)) a87 k89 (65535 : Int32)) x0 (x1 + (1 : Int32))
      ) none
set_option maxRecDepth 100000 in
set_option maxHeartbeats 4000000 in
theorem p_Ref_clear_L82 {w : jw_T} (hw : jok w) {Γ : gm_T} {n : Nat} (hG : gd w Γ n)  : ∀ (fu : Nat) {x : Bool} {φ : ph_T} {x0 : Nat} {x1 : Int32} {q : Unit × ph_T}, f_Ref_clear_L82 Γ  fu φ x0 x1 = some q → J w M_Ref_clear 82 [some (.ref x0), some (.int x1)] [] (pic Γ φ) n x 0 0 (fq Γ n (.inl none) q.2) := by
  intro fu
  induction fu with
  | zero =>
    intro x φ x0 x1 q H
    cases H
  | succ fu ih =>
    intro x φ x0 x1 q H
    unfold f_Ref_clear_L82 at H
    refine J_iload_n d_Ref_clear_82 rfl ?_
    refine J_bipush (v := 20) d_Ref_clear_83 (by decide) ?_
    refine J_icmp_ge (tgt := 112) d_Ref_clear_85 (by decide) ?_ ?_
    · intro c90
      rw [if_pos c90] at H
      refine J_iconst (v := 0) d_Ref_clear_112 (by decide) ?_
      refine J_istore_n d_Ref_clear_113 (Nat.le_of_ble_eq_true rfl) ?_
      refine J.ls (ls' := [some (.ref x0), some (.int (0 : Int32))]) rfl ?_
      refine J.drop [true, true] rfl ?_
      exact p_Ref_clear_L114 hw hG  _ H
    · intro c90
      rw [if_neg c90] at H
      refine J_aload_n d_Ref_clear_88 rfl ?_
      have g83 : Γ x0 = .inr 12 := by
        apply Classical.byContradiction
        intro q9
        rw [if_neg q9] at H
        cases H
      rw [if_pos g83] at H
      refine F_getR (ci := 12) (k := 8) hG (cf_Ref hw) (fl_Ref_13 hw) (by decide) (by decide) rfl d_Ref_clear_89 g83 ?_
      refine J_iload_n d_Ref_clear_92 rfl ?_
      refine J_ldcw (v := 65535) d_Ref_clear_93 (kn_Ref_611 hw) ?_
      obtain ⟨a84, ha84, H⟩ := Option.bind_eq_some_iff.mp H
      rw [j_rf ha84]
      obtain ⟨N85, hN85, H⟩ := Option.bind_eq_some_iff.mp H
      obtain ⟨k86, hk86, H⟩ := Option.bind_eq_some_iff.mp H
      refine F_iast k86 hw hG d_Ref_clear_96 (gA_some hN85) (ix_some hk86) ?_
      refine J_aload_n d_Ref_clear_97 rfl ?_
      refine F_getR (ci := 12) (k := 9) hG (cf_Ref hw) (fl_Ref_16 hw) (by decide) (by decide) rfl d_Ref_clear_98 g83 ?_
      show J _ _ _ _ (va_rf (φ.2.2 x0 9) :: _) _ _ _ _ _ _
      refine J_iload_n d_Ref_clear_101 rfl ?_
      refine J_ldcw (v := 65535) d_Ref_clear_102 (kn_Ref_611 hw) ?_
      obtain ⟨a87, ha87, H⟩ := Option.bind_eq_some_iff.mp H
      rw [j_rf ha87]
      obtain ⟨N88, hN88, H⟩ := Option.bind_eq_some_iff.mp H
      obtain ⟨k89, hk89, H⟩ := Option.bind_eq_some_iff.mp H
      refine F_iast k89 hw hG d_Ref_clear_105 (gA_some hN88) (ix_some hk89) ?_
      refine J_iinc (v := x1 + 1) d_Ref_clear_106 rfl (by rw [show Int32.ofInt 1 = (1 : Int32) from by decide]) ?_
      refine J.ls (ls' := [some (.ref x0), some (.int (x1 + (1 : Int32)))]) rfl ?_
      refine J_goto (tgt := 82) d_Ref_clear_109 (by decide) ?_
      refine J.drop [true, true] rfl ?_
      exact ih H
def f_Ref_clear_L42 (Γ : gm_T)  : Nat → ph_T → Nat → Int32 → Option (Unit × ph_T)
  | 0, _, _, _ => none
  | fu + 1, φ, x0, x1 =>
    if (16 : Int32) ≤ x1 then
      f_Ref_clear_L82 Γ  jF φ x0 (0 : Int32)
    else
      @ite _ (Γ x0 = .inr 12) _ (
      @ite _ ((φ.1 x0 2) = 0) _ none (
      Option.bind (φ.2.2 x0 7) fun a93 =>
      Option.bind (gA Γ a93 0) fun N94 =>
      Option.bind (ix x1 N94) fun k95 =>
      Option.bind (φ.2.2 x0 60) fun a96 =>
      Option.bind (gA Γ a96 2) fun N97 =>
      Option.bind (ix x1 N97) fun k98 =>
      @ite _ ((0 : Int32) = 0 ∨ (0 : Int32) = 1) _ (
      Option.bind (φ.2.2 x0 69) fun a100 =>
      Option.bind (gA Γ a100 2) fun N101 =>
      Option.bind (ix x1 N101) fun k102 =>
      @ite _ ((0 : Int32) = 0 ∨ (0 : Int32) = 1) _ (
      (f_Ref_clear_L42 Γ  fu) (uI (uI (uI φ a93 k95 (x1 - x1 / (φ.1 x0 2) * (φ.1 x0 2))) a96 k98 (0 : Int32)) a100 k102 (0 : Int32)) x0 (x1 + (1 : Int32))
      ) none
      ) none
      )
      ) none
set_option maxRecDepth 100000 in
set_option maxHeartbeats 4000000 in
theorem p_Ref_clear_L42 {w : jw_T} (hw : jok w) {Γ : gm_T} {n : Nat} (hG : gd w Γ n)  : ∀ (fu : Nat) {x : Bool} {φ : ph_T} {x0 : Nat} {x1 : Int32} {q : Unit × ph_T}, f_Ref_clear_L42 Γ  fu φ x0 x1 = some q → J w M_Ref_clear 42 [some (.ref x0), some (.int x1)] [] (pic Γ φ) n x 0 0 (fq Γ n (.inl none) q.2) := by
  intro fu
  induction fu with
  | zero =>
    intro x φ x0 x1 q H
    cases H
  | succ fu ih =>
    intro x φ x0 x1 q H
    unfold f_Ref_clear_L42 at H
    refine J_iload_n d_Ref_clear_42 rfl ?_
    refine J_bipush (v := 16) d_Ref_clear_43 (by decide) ?_
    refine J_icmp_ge (tgt := 80) d_Ref_clear_45 (by decide) ?_ ?_
    · intro c104
      rw [if_pos c104] at H
      refine J_iconst (v := 0) d_Ref_clear_80 (by decide) ?_
      refine J_istore_n d_Ref_clear_81 (Nat.le_of_ble_eq_true rfl) ?_
      refine J.ls (ls' := [some (.ref x0), some (.int (0 : Int32))]) rfl ?_
      refine J.drop [true, true] rfl ?_
      exact p_Ref_clear_L82 hw hG  _ H
    · intro c104
      rw [if_neg c104] at H
      refine J_aload_n d_Ref_clear_48 rfl ?_
      have g91 : Γ x0 = .inr 12 := by
        apply Classical.byContradiction
        intro q9
        rw [if_neg q9] at H
        cases H
      rw [if_pos g91] at H
      refine F_getR (ci := 12) (k := 7) hG (cf_Ref hw) (fl_Ref_7 hw) (by decide) (by decide) rfl d_Ref_clear_49 g91 ?_
      refine J_iload_n d_Ref_clear_52 rfl ?_
      refine J_iload_n d_Ref_clear_53 rfl ?_
      refine J_aload_n d_Ref_clear_54 rfl ?_
      refine F_getI (ci := 12) (k := 2) hG (cf_Ref hw) (fl_Ref_294 hw) (by decide) (by decide) rfl d_Ref_clear_55 g91 ?_
      have h92 : ¬ (φ.1 x0 2) = 0 := by
        intro q9
        rw [if_pos q9] at H
        cases H
      rw [if_neg h92] at H
      refine J_irem d_Ref_clear_58 h92 ?_
      obtain ⟨a93, ha93, H⟩ := Option.bind_eq_some_iff.mp H
      rw [j_rf ha93]
      obtain ⟨N94, hN94, H⟩ := Option.bind_eq_some_iff.mp H
      obtain ⟨k95, hk95, H⟩ := Option.bind_eq_some_iff.mp H
      refine F_iast k95 hw hG d_Ref_clear_59 (gA_some hN94) (ix_some hk95) ?_
      refine J_aload_n d_Ref_clear_60 rfl ?_
      refine F_getR (ci := 12) (k := 60) hG (cf_Ref hw) (fl_Ref_160 hw) (by decide) (by decide) rfl d_Ref_clear_61 g91 ?_
      show J _ _ _ _ (va_rf (φ.2.2 x0 60) :: _) _ _ _ _ _ _
      refine J_iload_n d_Ref_clear_64 rfl ?_
      refine J_iconst (v := 0) d_Ref_clear_65 (by decide) ?_
      obtain ⟨a96, ha96, H⟩ := Option.bind_eq_some_iff.mp H
      rw [j_rf ha96]
      obtain ⟨N97, hN97, H⟩ := Option.bind_eq_some_iff.mp H
      obtain ⟨k98, hk98, H⟩ := Option.bind_eq_some_iff.mp H
      have z99 : (0 : Int32) = 0 ∨ (0 : Int32) = 1 := by
        apply Classical.byContradiction
        intro q9
        rw [if_neg q9] at H
        cases H
      rw [if_pos z99] at H
      refine F_zast k98 hw hG d_Ref_clear_66 (gA_some hN97) (ix_some hk98) z99 ?_
      refine J_aload_n d_Ref_clear_67 rfl ?_
      refine F_getR (ci := 12) (k := 69) hG (cf_Ref hw) (fl_Ref_187 hw) (by decide) (by decide) rfl d_Ref_clear_68 g91 ?_
      show J _ _ _ _ (va_rf (φ.2.2 x0 69) :: _) _ _ _ _ _ _
      refine J_iload_n d_Ref_clear_71 rfl ?_
      refine J_iconst (v := 0) d_Ref_clear_72 (by decide) ?_
      obtain ⟨a100, ha100, H⟩ := Option.bind_eq_some_iff.mp H
      rw [j_rf ha100]
      obtain ⟨N101, hN101, H⟩ := Option.bind_eq_some_iff.mp H
      obtain ⟨k102, hk102, H⟩ := Option.bind_eq_some_iff.mp H
      have z103 : (0 : Int32) = 0 ∨ (0 : Int32) = 1 := by
        apply Classical.byContradiction
        intro q9
        rw [if_neg q9] at H
        cases H
      rw [if_pos z103] at H
      refine F_zast k102 hw hG d_Ref_clear_73 (gA_some hN101) (ix_some hk102) z103 ?_
      refine J_iinc (v := x1 + 1) d_Ref_clear_74 rfl (by rw [show Int32.ofInt 1 = (1 : Int32) from by decide]) ?_
      refine J.ls (ls' := [some (.ref x0), some (.int (x1 + (1 : Int32)))]) rfl ?_
      refine J_goto (tgt := 42) d_Ref_clear_77 (by decide) ?_
      refine J.drop [true, true] rfl ?_
      exact ih H
def f_Ref_clear (Γ : gm_T) (φ : ph_T) (this : Nat) : Option (Unit × ph_T) :=
  @ite _ (Γ this = .inr 12) _ (
  @ite _ ((0 : Int32) = 0 ∨ (0 : Int32) = 1) _ (
  f_Ref_clear_L42 Γ  jF (uI (uI (uI (uI (uI (uI (uI (uI φ this 0 (0 : Int32)) this 4 (1 : Int32)) this 5 (0 : Int32)) this 6 (0 : Int32)) this 15 (0 : Int32)) this 47 (0 : Int32)) this 51 (0 : Int32)) this 57 (0 : Int32)) this (0 : Int32)
  ) none
  ) none
set_option maxRecDepth 100000 in
set_option maxHeartbeats 4000000 in
theorem p_Ref_clear {w : jw_T} (hw : jok w) {Γ : gm_T} {n : Nat} (hG : gd w Γ n) {x : Bool} {φ : ph_T} {this : Nat} {q : Unit × ph_T} (H : f_Ref_clear Γ φ this = some q) : jc w M_Ref_clear [.ref this] (pic Γ φ) n x 0 0 (fq Γ n (.inl none) q.2) := by
  refine jc.of (by simp only [jent_r, jent_i, jent_l, jent_a, jent_0]; exact Nat.le_of_ble_eq_true rfl) ?_
  have hls : jents [.ref this] (jm_nL M_Ref_clear) = [some (.ref this), none] := by simp only [jents, jent_r, jent_i, jent_l, jent_a, jent_0]; rfl
  rw [hls]
  clear hls
  unfold f_Ref_clear at H
  refine J_aload_n d_Ref_clear_0 rfl ?_
  refine J_iconst (v := 0) d_Ref_clear_1 (by decide) ?_
  have g105 : Γ this = .inr 12 := by
    apply Classical.byContradiction
    intro q9
    rw [if_neg q9] at H
    cases H
  rw [if_pos g105] at H
  refine F_putI (ci := 12) (k := 0) hG (cf_Ref hw) (fl_Ref_303 hw) (by decide) (by decide) rfl d_Ref_clear_2 rfl rfl rfl g105 ?_
  refine J_aload_n d_Ref_clear_5 rfl ?_
  refine J_iconst (v := 1) d_Ref_clear_6 (by decide) ?_
  refine F_putI (ci := 12) (k := 4) hG (cf_Ref hw) (fl_Ref_532 hw) (by decide) (by decide) rfl d_Ref_clear_7 rfl rfl rfl g105 ?_
  refine J_aload_n d_Ref_clear_10 rfl ?_
  refine J_iconst (v := 0) d_Ref_clear_11 (by decide) ?_
  have z106 : (0 : Int32) = 0 ∨ (0 : Int32) = 1 := by
    apply Classical.byContradiction
    intro q9
    rw [if_neg q9] at H
    cases H
  rw [if_pos z106] at H
  refine F_putI (ci := 12) (k := 5) hG (cf_Ref hw) (fl_Ref_559 hw) (by decide) (by decide) rfl d_Ref_clear_12 rfl (narrow_z z106).1 (narrow_z z106).2 g105 ?_
  refine J_aload_n d_Ref_clear_15 rfl ?_
  refine J_iconst (v := 0) d_Ref_clear_16 (by decide) ?_
  refine F_putI (ci := 12) (k := 6) hG (cf_Ref hw) (fl_Ref_348 hw) (by decide) (by decide) rfl d_Ref_clear_17 rfl rfl rfl g105 ?_
  refine J_aload_n d_Ref_clear_20 rfl ?_
  refine J_iconst (v := 0) d_Ref_clear_21 (by decide) ?_
  refine F_putI (ci := 12) (k := 15) hG (cf_Ref hw) (fl_Ref_337 hw) (by decide) (by decide) rfl d_Ref_clear_22 rfl rfl rfl g105 ?_
  refine J_aload_n d_Ref_clear_25 rfl ?_
  refine J_iconst (v := 0) d_Ref_clear_26 (by decide) ?_
  refine F_putI (ci := 12) (k := 47) hG (cf_Ref hw) (fl_Ref_526 hw) (by decide) (by decide) rfl d_Ref_clear_27 rfl rfl rfl g105 ?_
  refine J_aload_n d_Ref_clear_30 rfl ?_
  refine J_iconst (v := 0) d_Ref_clear_31 (by decide) ?_
  refine F_putI (ci := 12) (k := 51) hG (cf_Ref hw) (fl_Ref_529 hw) (by decide) (by decide) rfl d_Ref_clear_32 rfl rfl rfl g105 ?_
  refine J_aload_n d_Ref_clear_35 rfl ?_
  refine J_iconst (v := 0) d_Ref_clear_36 (by decide) ?_
  refine F_putI (ci := 12) (k := 57) hG (cf_Ref hw) (fl_Ref_553 hw) (by decide) (by decide) rfl d_Ref_clear_37 rfl rfl rfl g105 ?_
  refine J_iconst (v := 0) d_Ref_clear_40 (by decide) ?_
  refine J_istore_n d_Ref_clear_41 (Nat.le_of_ble_eq_true rfl) ?_
  refine J.ls (ls' := [some (.ref this), some (.int (0 : Int32))]) rfl ?_
  refine J.drop [true, true] rfl ?_
  exact p_Ref_clear_L42 hw hG  _ H
