theorem ln_Ref_mayRead : (parseMethodDescriptor y_Ref_mayRead.desc).map (fun q => q.parameters.length) = some 2 := by decide +kernel
def f_Ref_mayRead_L157 (Γ : gm_T)  (φ : ph_T) (y0 : Int32) : Option (Int32 × ph_T) :=
  @ite _ (y0 = 0 ∨ y0 = 1) _ (
  some (y0, φ)
  ) none
set_option maxRecDepth 100000 in
set_option maxHeartbeats 4000000 in
theorem p_Ref_mayRead_L157 {w : jw_T} (hw : jok w) {Γ : gm_T} {n : Nat} (hG : gd w Γ n)  {x : Bool} {φ : ph_T} {y0 : Int32} {q : Int32 × ph_T} (H : f_Ref_mayRead_L157 Γ  φ y0 = some q) : J w M_Ref_mayRead 157 [none, none, none, none, none, none, none, none] [.int y0] (pic Γ φ) n x 0 0 (fq Γ n (.inl (some (.int q.1))) q.2) := by
  unfold f_Ref_mayRead_L157 at H
  have z1 : y0 = 0 ∨ y0 = 1 := by
    apply Classical.byContradiction
    intro q9
    rw [if_neg q9] at H
    cases H
  rw [if_pos z1] at H
  have H := Option.some.inj H
  subst H
  exact J_iret (st := []) d_Ref_mayRead_157 rfl (narrow_z z1).1 ⟨rfl, rfl, rfl⟩
def f_Ref_mayRead_L156 (Γ : gm_T)  (φ : ph_T) : Option (Int32 × ph_T) :=
  f_Ref_mayRead_L157 Γ  φ (0 : Int32)
set_option maxRecDepth 100000 in
set_option maxHeartbeats 4000000 in
theorem p_Ref_mayRead_L156 {w : jw_T} (hw : jok w) {Γ : gm_T} {n : Nat} (hG : gd w Γ n)  {x : Bool} {φ : ph_T} {q : Int32 × ph_T} (H : f_Ref_mayRead_L156 Γ  φ  = some q) : J w M_Ref_mayRead 156 [none, none, none, none, none, none, none, none] [] (pic Γ φ) n x 0 0 (fq Γ n (.inl (some (.int q.1))) q.2) := by
  unfold f_Ref_mayRead_L156 at H
  refine J_iconst (v := 0) d_Ref_mayRead_156 (by decide) ?_
  refine J.drop [false, false, false, false, false, false, false, false] rfl ?_
  exact p_Ref_mayRead_L157 hw hG  H
def f_Ref_mayRead_L132 (Γ : gm_T) (Kc74 : ph_T → Nat → Int32 → Int32 → Int32 → Int32 → Int32 → Int32 → Option (Int32 × ph_T)) (φ : ph_T) (x0 : Nat) (x1 : Int32) (x2 : Int32) (x4 : Int32) (x5 : Int32) (x6 : Int32) (x7 : Int32) : Option (Int32 × ph_T) :=
  Kc74 φ x0 x1 x2 x4 x5 x6 (x7 + (1 : Int32))
set_option maxRecDepth 100000 in
set_option maxHeartbeats 4000000 in
theorem p_Ref_mayRead_L132 {w : jw_T} (hw : jok w) {Γ : gm_T} {n : Nat} (hG : gd w Γ n) {Kc74 : ph_T → Nat → Int32 → Int32 → Int32 → Int32 → Int32 → Int32 → Option (Int32 × ph_T)} (hKc74 : ∀ {x : Bool} {φ : ph_T} {x0 : Nat} {x1 : Int32} {x2 : Int32} {x4 : Int32} {x5 : Int32} {x6 : Int32} {x7 : Int32} {q : Int32 × ph_T}, Kc74 φ x0 x1 x2 x4 x5 x6 x7 = some q → J w M_Ref_mayRead 74 [some (.ref x0), some (.int x1), some (.int x2), none, some (.int x4), some (.int x5), some (.int x6), some (.int x7)] [] (pic Γ φ) n x 0 0 (fq Γ n (.inl (some (.int q.1))) q.2)) {x : Bool} {φ : ph_T} {x0 : Nat} {x1 : Int32} {x2 : Int32} {x4 : Int32} {x5 : Int32} {x6 : Int32} {x7 : Int32} {q : Int32 × ph_T} (H : f_Ref_mayRead_L132 Γ Kc74 φ x0 x1 x2 x4 x5 x6 x7 = some q) : J w M_Ref_mayRead 132 [some (.ref x0), some (.int x1), some (.int x2), none, some (.int x4), some (.int x5), some (.int x6), some (.int x7)] [] (pic Γ φ) n x 0 0 (fq Γ n (.inl (some (.int q.1))) q.2) := by
  unfold f_Ref_mayRead_L132 at H
  refine J_iinc (v := x7 + 1) d_Ref_mayRead_132 rfl (by rw [show Int32.ofInt 1 = (1 : Int32) from by decide]) ?_
  refine J.ls (ls' := [some (.ref x0), some (.int x1), some (.int x2), none, some (.int x4), some (.int x5), some (.int x6), some (.int (x7 + (1 : Int32)))]) rfl ?_
  refine J_goto (tgt := 74) d_Ref_mayRead_135 (by decide) ?_
  refine J.drop [true, true, true, false, true, true, true, true] rfl ?_
  exact hKc74 H
def f_Ref_mayRead_L130 (Γ : gm_T) (Kc74 : ph_T → Nat → Int32 → Int32 → Int32 → Int32 → Int32 → Int32 → Option (Int32 × ph_T)) (φ : ph_T) (x0 : Nat) (x1 : Int32) (x2 : Int32) (x4 : Int32) (x5 : Int32) (x7 : Int32) (y0 : Int32) : Option (Int32 × ph_T) :=
  f_Ref_mayRead_L132 Γ Kc74 φ x0 x1 x2 x4 x5 y0 x7
set_option maxRecDepth 100000 in
set_option maxHeartbeats 4000000 in
theorem p_Ref_mayRead_L130 {w : jw_T} (hw : jok w) {Γ : gm_T} {n : Nat} (hG : gd w Γ n) {Kc74 : ph_T → Nat → Int32 → Int32 → Int32 → Int32 → Int32 → Int32 → Option (Int32 × ph_T)} (hKc74 : ∀ {x : Bool} {φ : ph_T} {x0 : Nat} {x1 : Int32} {x2 : Int32} {x4 : Int32} {x5 : Int32} {x6 : Int32} {x7 : Int32} {q : Int32 × ph_T}, Kc74 φ x0 x1 x2 x4 x5 x6 x7 = some q → J w M_Ref_mayRead 74 [some (.ref x0), some (.int x1), some (.int x2), none, some (.int x4), some (.int x5), some (.int x6), some (.int x7)] [] (pic Γ φ) n x 0 0 (fq Γ n (.inl (some (.int q.1))) q.2)) {x : Bool} {φ : ph_T} {x0 : Nat} {x1 : Int32} {x2 : Int32} {x4 : Int32} {x5 : Int32} {x7 : Int32} {y0 : Int32} {q : Int32 × ph_T} (H : f_Ref_mayRead_L130 Γ Kc74 φ x0 x1 x2 x4 x5 x7 y0 = some q) : J w M_Ref_mayRead 130 [some (.ref x0), some (.int x1), some (.int x2), none, some (.int x4), some (.int x5), none, some (.int x7)] [.int y0] (pic Γ φ) n x 0 0 (fq Γ n (.inl (some (.int q.1))) q.2) := by
  unfold f_Ref_mayRead_L130 at H
  refine J_istore d_Ref_mayRead_130 (Nat.le_of_ble_eq_true rfl) ?_
  refine J.ls (ls' := [some (.ref x0), some (.int x1), some (.int x2), none, some (.int x4), some (.int x5), some (.int y0), some (.int x7)]) rfl ?_
  refine J.drop [true, true, true, false, true, true, true, true] rfl ?_
  exact p_Ref_mayRead_L132 hw hG hKc74 H
def f_Ref_mayRead_L129 (Γ : gm_T) (Kc74 : ph_T → Nat → Int32 → Int32 → Int32 → Int32 → Int32 → Int32 → Option (Int32 × ph_T)) (φ : ph_T) (x0 : Nat) (x1 : Int32) (x2 : Int32) (x4 : Int32) (x5 : Int32) (x7 : Int32) : Option (Int32 × ph_T) :=
  f_Ref_mayRead_L130 Γ Kc74 φ x0 x1 x2 x4 x5 x7 (0 : Int32)
set_option maxRecDepth 100000 in
set_option maxHeartbeats 4000000 in
theorem p_Ref_mayRead_L129 {w : jw_T} (hw : jok w) {Γ : gm_T} {n : Nat} (hG : gd w Γ n) {Kc74 : ph_T → Nat → Int32 → Int32 → Int32 → Int32 → Int32 → Int32 → Option (Int32 × ph_T)} (hKc74 : ∀ {x : Bool} {φ : ph_T} {x0 : Nat} {x1 : Int32} {x2 : Int32} {x4 : Int32} {x5 : Int32} {x6 : Int32} {x7 : Int32} {q : Int32 × ph_T}, Kc74 φ x0 x1 x2 x4 x5 x6 x7 = some q → J w M_Ref_mayRead 74 [some (.ref x0), some (.int x1), some (.int x2), none, some (.int x4), some (.int x5), some (.int x6), some (.int x7)] [] (pic Γ φ) n x 0 0 (fq Γ n (.inl (some (.int q.1))) q.2)) {x : Bool} {φ : ph_T} {x0 : Nat} {x1 : Int32} {x2 : Int32} {x4 : Int32} {x5 : Int32} {x7 : Int32} {q : Int32 × ph_T} (H : f_Ref_mayRead_L129 Γ Kc74 φ x0 x1 x2 x4 x5 x7 = some q) : J w M_Ref_mayRead 129 [some (.ref x0), some (.int x1), some (.int x2), none, some (.int x4), some (.int x5), none, some (.int x7)] [] (pic Γ φ) n x 0 0 (fq Γ n (.inl (some (.int q.1))) q.2) := by
  unfold f_Ref_mayRead_L129 at H
  refine J_iconst (v := 0) d_Ref_mayRead_129 (by decide) ?_
  refine J.drop [true, true, true, false, true, true, false, true] rfl ?_
  exact p_Ref_mayRead_L130 hw hG hKc74 H
def f_Ref_mayRead_L125 (Γ : gm_T) (Kc74 : ph_T → Nat → Int32 → Int32 → Int32 → Int32 → Int32 → Int32 → Option (Int32 × ph_T)) (φ : ph_T) (x0 : Nat) (x1 : Int32) (x2 : Int32) (x4 : Int32) (x5 : Int32) (x7 : Int32) : Option (Int32 × ph_T) :=
  f_Ref_mayRead_L130 Γ Kc74 φ x0 x1 x2 x4 x5 x7 (1 : Int32)
set_option maxRecDepth 100000 in
set_option maxHeartbeats 4000000 in
theorem p_Ref_mayRead_L125 {w : jw_T} (hw : jok w) {Γ : gm_T} {n : Nat} (hG : gd w Γ n) {Kc74 : ph_T → Nat → Int32 → Int32 → Int32 → Int32 → Int32 → Int32 → Option (Int32 × ph_T)} (hKc74 : ∀ {x : Bool} {φ : ph_T} {x0 : Nat} {x1 : Int32} {x2 : Int32} {x4 : Int32} {x5 : Int32} {x6 : Int32} {x7 : Int32} {q : Int32 × ph_T}, Kc74 φ x0 x1 x2 x4 x5 x6 x7 = some q → J w M_Ref_mayRead 74 [some (.ref x0), some (.int x1), some (.int x2), none, some (.int x4), some (.int x5), some (.int x6), some (.int x7)] [] (pic Γ φ) n x 0 0 (fq Γ n (.inl (some (.int q.1))) q.2)) {x : Bool} {φ : ph_T} {x0 : Nat} {x1 : Int32} {x2 : Int32} {x4 : Int32} {x5 : Int32} {x7 : Int32} {q : Int32 × ph_T} (H : f_Ref_mayRead_L125 Γ Kc74 φ x0 x1 x2 x4 x5 x7 = some q) : J w M_Ref_mayRead 125 [some (.ref x0), some (.int x1), some (.int x2), none, some (.int x4), some (.int x5), none, some (.int x7)] [] (pic Γ φ) n x 0 0 (fq Γ n (.inl (some (.int q.1))) q.2) := by
  unfold f_Ref_mayRead_L125 at H
  refine J_iconst (v := 1) d_Ref_mayRead_125 (by decide) ?_
  refine J_goto (tgt := 130) d_Ref_mayRead_126 (by decide) ?_
  refine J.drop [true, true, true, false, true, true, false, true] rfl ?_
  exact p_Ref_mayRead_L130 hw hG hKc74 H
def f_Ref_mayRead_L74 (Γ : gm_T)  : Nat → ph_T → Nat → Int32 → Int32 → Int32 → Int32 → Int32 → Int32 → Option (Int32 × ph_T)
  | 0, _, _, _, _, _, _, _, _ => none
  | fu + 1, φ, x0, x1, x2, x4, x5, x6, x7 =>
    @ite _ (Γ x0 = .inr 12) _ (
    if (φ.1 x0 51) ≤ x7 then
      if x6 = 0 then
        f_Ref_mayRead_L156 Γ  φ 
      else
        if (φ.1 x0 3) ≤ x5 then
          f_Ref_mayRead_L156 Γ  φ 
        else
          f_Ref_mayRead_L157 Γ  φ (1 : Int32)
    else
      Option.bind (φ.2.2 x0 48) fun a5 =>
      Option.bind (gA Γ a5 0) fun N6 =>
      Option.bind (ix x7 N6) fun k7 =>
      if (φ.1 a5 k7) = x1 then
        if x6 = 0 then
          f_Ref_mayRead_L129 Γ (f_Ref_mayRead_L74 Γ  fu) φ x0 x1 x2 x4 (x5 + (1 : Int32)) x7
        else
          Option.bind (φ.2.2 x0 50) fun a8 =>
          Option.bind (gA Γ a8 0) fun N9 =>
          Option.bind (ix x7 N9) fun k10 =>
          if (φ.1 a8 k10) = x2 then
            f_Ref_mayRead_L125 Γ (f_Ref_mayRead_L74 Γ  fu) φ x0 x1 x2 x4 (x5 + (1 : Int32)) x7
          else
            Option.bind (φ.2.2 x0 49) fun a11 =>
            Option.bind (gA Γ a11 0) fun N12 =>
            Option.bind (ix x7 N12) fun k13 =>
            if (φ.1 a11 k13) = x4 then
              f_Ref_mayRead_L129 Γ (f_Ref_mayRead_L74 Γ  fu) φ x0 x1 x2 x4 (x5 + (1 : Int32)) x7
            else
              f_Ref_mayRead_L125 Γ (f_Ref_mayRead_L74 Γ  fu) φ x0 x1 x2 x4 (x5 + (1 : Int32)) x7
      else
        f_Ref_mayRead_L132 Γ (f_Ref_mayRead_L74 Γ  fu) φ x0 x1 x2 x4 x5 x6 x7
    ) none
set_option maxRecDepth 100000 in
set_option maxHeartbeats 4000000 in
theorem p_Ref_mayRead_L74 {w : jw_T} (hw : jok w) {Γ : gm_T} {n : Nat} (hG : gd w Γ n)  : ∀ (fu : Nat) {x : Bool} {φ : ph_T} {x0 : Nat} {x1 : Int32} {x2 : Int32} {x4 : Int32} {x5 : Int32} {x6 : Int32} {x7 : Int32} {q : Int32 × ph_T}, f_Ref_mayRead_L74 Γ  fu φ x0 x1 x2 x4 x5 x6 x7 = some q → J w M_Ref_mayRead 74 [some (.ref x0), some (.int x1), some (.int x2), none, some (.int x4), some (.int x5), some (.int x6), some (.int x7)] [] (pic Γ φ) n x 0 0 (fq Γ n (.inl (some (.int q.1))) q.2) := by
  intro fu
  induction fu with
  | zero =>
    intro x φ x0 x1 x2 x4 x5 x6 x7 q H
    cases H
  | succ fu ih =>
    intro x φ x0 x1 x2 x4 x5 x6 x7 q H
    unfold f_Ref_mayRead_L74 at H
    refine J_iload d_Ref_mayRead_74 rfl ?_
    refine J_aload_n d_Ref_mayRead_76 rfl ?_
    have g2 : Γ x0 = .inr 12 := by
      apply Classical.byContradiction
      intro q9
      rw [if_neg q9] at H
      cases H
    rw [if_pos g2] at H
    refine F_getI (ci := 12) (k := 51) hG (cf_Ref hw) (fl_Ref_529 hw) (by decide) (by decide) rfl d_Ref_mayRead_77 g2 ?_
    refine J_icmp_ge (tgt := 138) d_Ref_mayRead_80 (by decide) ?_ ?_
    · intro c18
      rw [if_pos c18] at H
      refine J_iload d_Ref_mayRead_138 rfl ?_
      refine J_if_eq (tgt := 156) d_Ref_mayRead_140 (by decide) ?_ ?_
      · intro c4
        rw [if_pos c4] at H
        refine J.drop [false, false, false, false, false, false, false, false] rfl ?_
        exact p_Ref_mayRead_L156 hw hG  H
      · intro c4
        rw [if_neg c4] at H
        refine J_iload d_Ref_mayRead_143 rfl ?_
        refine J_aload_n d_Ref_mayRead_145 rfl ?_
        refine F_getI (ci := 12) (k := 3) hG (cf_Ref hw) (fl_Ref_297 hw) (by decide) (by decide) rfl d_Ref_mayRead_146 g2 ?_
        refine J_icmp_ge (tgt := 156) d_Ref_mayRead_149 (by decide) ?_ ?_
        · intro c3
          rw [if_pos c3] at H
          refine J.drop [false, false, false, false, false, false, false, false] rfl ?_
          exact p_Ref_mayRead_L156 hw hG  H
        · intro c3
          rw [if_neg c3] at H
          refine J_iconst (v := 1) d_Ref_mayRead_152 (by decide) ?_
          refine J_goto (tgt := 157) d_Ref_mayRead_153 (by decide) ?_
          refine J.drop [false, false, false, false, false, false, false, false] rfl ?_
          exact p_Ref_mayRead_L157 hw hG  H
    · intro c18
      rw [if_neg c18] at H
      refine J_aload_n d_Ref_mayRead_83 rfl ?_
      refine F_getR (ci := 12) (k := 48) hG (cf_Ref hw) (fl_Ref_130 hw) (by decide) (by decide) rfl d_Ref_mayRead_84 g2 ?_
      refine J_iload d_Ref_mayRead_87 rfl ?_
      obtain ⟨a5, ha5, H⟩ := Option.bind_eq_some_iff.mp H
      rw [j_rf ha5]
      obtain ⟨N6, hN6, H⟩ := Option.bind_eq_some_iff.mp H
      obtain ⟨k7, hk7, H⟩ := Option.bind_eq_some_iff.mp H
      refine F_iald k7 hw hG d_Ref_mayRead_89 (gA_some hN6) (ix_some hk7) ?_
      refine J_iload_n d_Ref_mayRead_90 rfl ?_
      refine J_icmp_ne (tgt := 132) d_Ref_mayRead_91 (by decide) ?_ ?_
      · intro c17
        rw [if_neg c17] at H
        refine J.drop [true, true, true, false, true, true, true, true] rfl ?_
        exact p_Ref_mayRead_L132 hw hG ih H
      · intro c17
        rw [if_pos c17] at H
        refine J_iinc (v := x5 + 1) d_Ref_mayRead_94 rfl (by rw [show Int32.ofInt 1 = (1 : Int32) from by decide]) ?_
        refine J.ls (ls' := [some (.ref x0), some (.int x1), some (.int x2), none, some (.int x4), some (.int (x5 + (1 : Int32))), some (.int x6), some (.int x7)]) rfl ?_
        refine J_iload d_Ref_mayRead_97 rfl ?_
        refine J_if_eq (tgt := 129) d_Ref_mayRead_99 (by decide) ?_ ?_
        · intro c16
          rw [if_pos c16] at H
          refine J.drop [true, true, true, false, true, true, false, true] rfl ?_
          exact p_Ref_mayRead_L129 hw hG ih H
        · intro c16
          rw [if_neg c16] at H
          refine J_aload_n d_Ref_mayRead_102 rfl ?_
          refine F_getR (ci := 12) (k := 50) hG (cf_Ref hw) (fl_Ref_136 hw) (by decide) (by decide) rfl d_Ref_mayRead_103 g2 ?_
          refine J_iload d_Ref_mayRead_106 rfl ?_
          obtain ⟨a8, ha8, H⟩ := Option.bind_eq_some_iff.mp H
          rw [j_rf ha8]
          obtain ⟨N9, hN9, H⟩ := Option.bind_eq_some_iff.mp H
          obtain ⟨k10, hk10, H⟩ := Option.bind_eq_some_iff.mp H
          refine F_iald k10 hw hG d_Ref_mayRead_108 (gA_some hN9) (ix_some hk10) ?_
          refine J_iload_n d_Ref_mayRead_109 rfl ?_
          refine J_icmp_eq (tgt := 125) d_Ref_mayRead_110 (by decide) ?_ ?_
          · intro c15
            rw [if_pos c15] at H
            refine J.drop [true, true, true, false, true, true, false, true] rfl ?_
            exact p_Ref_mayRead_L125 hw hG ih H
          · intro c15
            rw [if_neg c15] at H
            refine J_aload_n d_Ref_mayRead_113 rfl ?_
            refine F_getR (ci := 12) (k := 49) hG (cf_Ref hw) (fl_Ref_133 hw) (by decide) (by decide) rfl d_Ref_mayRead_114 g2 ?_
            refine J_iload d_Ref_mayRead_117 rfl ?_
            obtain ⟨a11, ha11, H⟩ := Option.bind_eq_some_iff.mp H
            rw [j_rf ha11]
            obtain ⟨N12, hN12, H⟩ := Option.bind_eq_some_iff.mp H
            obtain ⟨k13, hk13, H⟩ := Option.bind_eq_some_iff.mp H
            refine F_iald k13 hw hG d_Ref_mayRead_119 (gA_some hN12) (ix_some hk13) ?_
            refine J_iload d_Ref_mayRead_120 rfl ?_
            refine J_icmp_eq (tgt := 129) d_Ref_mayRead_122 (by decide) ?_ ?_
            · intro c14
              rw [if_pos c14] at H
              refine J.drop [true, true, true, false, true, true, false, true] rfl ?_
              exact p_Ref_mayRead_L129 hw hG ih H
            · intro c14
              rw [if_neg c14] at H
              refine J.drop [true, true, true, false, true, true, false, true] rfl ?_
              exact p_Ref_mayRead_L125 hw hG ih H
def f_Ref_mayRead_L50 (Γ : gm_T)  (φ : ph_T) : Option (Int32 × ph_T) :=
  @ite _ ((0 : Int32) = 0 ∨ (0 : Int32) = 1) _ (
  some ((0 : Int32), φ)
  ) none
set_option maxRecDepth 100000 in
set_option maxHeartbeats 4000000 in
theorem p_Ref_mayRead_L50 {w : jw_T} (hw : jok w) {Γ : gm_T} {n : Nat} (hG : gd w Γ n)  {x : Bool} {φ : ph_T} {q : Int32 × ph_T} (H : f_Ref_mayRead_L50 Γ  φ  = some q) : J w M_Ref_mayRead 50 [none, none, none, none, none, none, none, none] [] (pic Γ φ) n x 0 0 (fq Γ n (.inl (some (.int q.1))) q.2) := by
  unfold f_Ref_mayRead_L50 at H
  refine J_iconst (v := 0) d_Ref_mayRead_50 (by decide) ?_
  have z19 : (0 : Int32) = 0 ∨ (0 : Int32) = 1 := by
    apply Classical.byContradiction
    intro q9
    rw [if_neg q9] at H
    cases H
  rw [if_pos z19] at H
  have H := Option.some.inj H
  subst H
  exact J_iret (st := []) d_Ref_mayRead_51 rfl (narrow_z z19).1 ⟨rfl, rfl, rfl⟩
def f_Ref_mayRead (Γ : gm_T) (φ : ph_T) (this : Nat) (p0 : Int32) (p1 : Int32) : Option (Int32 × ph_T) :=
  @ite _ (Γ this = .inr 12) _ (
  Option.bind (f_Ref_rowOf Γ φ this (0 : Int32) p0 (3 : Int32)) fun q21 =>
  Option.bind (q21.2.2.2 this 42) fun a22 =>
  Option.bind (gA Γ a22 0) fun N23 =>
  Option.bind (ix q21.1 N23) fun k24 =>
  if (q21.2.1 a22 k24) = 0 then
    f_Ref_mayRead_L50 Γ  q21.2 
  else
    Option.bind (q21.2.2.2 this 39) fun a25 =>
    Option.bind (gA Γ a25 1) fun N26 =>
    Option.bind (ix ((4 : Int32) * q21.1) N26) fun k27 =>
    Option.bind (f_Ref_addressOf Γ q21.2 (q21.2.2.1 a25 k27)) fun q28 =>
    Option.bind (f_Ref_targetOf Γ q28.2 this q28.1) fun q29 =>
    if q29.1 = p1 then
      Option.bind (f_Ref_rowOf Γ q29.2 this (1 : Int32) p1 (3 : Int32)) fun q30 =>
      Option.bind (f_Ref_hasRoom Γ q30.2 this q30.1) fun q31 =>
      if q31.1 = 0 then
        f_Ref_mayRead_L50 Γ  q31.2 
      else
        Option.bind (q31.2.2.2 this 39) fun a32 =>
        Option.bind (gA Γ a32 1) fun N33 =>
        Option.bind (ix ((4 : Int32) * q21.1) N33) fun k34 =>
        Option.bind (f_Ref_idOf Γ q31.2 (q31.2.2.1 a32 k34)) fun q35 =>
        f_Ref_mayRead_L74 Γ  jF q35.2 this p0 p1 q35.1 (0 : Int32) (1 : Int32) (0 : Int32)
    else
      f_Ref_mayRead_L50 Γ  q29.2 
  ) none
set_option maxRecDepth 100000 in
set_option maxHeartbeats 4000000 in
theorem p_Ref_mayRead {w : jw_T} (hw : jok w) {Γ : gm_T} {n : Nat} (hG : gd w Γ n) {x : Bool} {φ : ph_T} {this : Nat} {p0 : Int32} {p1 : Int32} {q : Int32 × ph_T} (H : f_Ref_mayRead Γ φ this p0 p1 = some q) : jc w M_Ref_mayRead [.ref this, .int p0, .int p1] (pic Γ φ) n x 0 0 (fq Γ n (.inl (some (.int q.1))) q.2) := by
  refine jc.of (by simp only [jent_r, jent_i, jent_l, jent_a, jent_0]; exact Nat.le_of_ble_eq_true rfl) ?_
  have hls : jents [.ref this, .int p0, .int p1] (jm_nL M_Ref_mayRead) = [some (.ref this), some (.int p0), some (.int p1), none, none, none, none, none] := by simp only [jents, jent_r, jent_i, jent_l, jent_a, jent_0]; rfl
  rw [hls]
  clear hls
  unfold f_Ref_mayRead at H
  refine J_aload_n d_Ref_mayRead_0 rfl ?_
  refine J_iconst (v := 0) d_Ref_mayRead_1 (by decide) ?_
  refine J_iload_n d_Ref_mayRead_2 rfl ?_
  refine J_iconst (v := 3) d_Ref_mayRead_3 (by decide) ?_
  have g20 : Γ this = .inr 12 := by
    apply Classical.byContradiction
    intro q9
    rw [if_neg q9] at H
    cases H
  rw [if_pos g20] at H
  obtain ⟨q21, hq21, H⟩ := Option.bind_eq_some_iff.mp H
  refine J_callV (kc := 0) (ks := 0) (kc' := 0) (ks' := 0) (a := this) (ci := 12) (as := [.int (0 : Int32), .int p0, .int (3 : Int32)]) (st := []) (mf_Ref_rowOf hw) (mv_Ref_388 hw) d_Ref_mayRead_4 ln_Ref_rowOf (by decide) (by first | exact Nat.le_of_ble_eq_true rfl | (simp only [List.map_cons, List.map_nil, List.sum_cons, List.sum_nil, va_rf_cat]; exact Nat.le_of_ble_eq_true rfl)) rfl ((hG _).1 _ g20 (by decide)).1 ((hG _).1 _ g20 (by decide)).2 (by unfold pic; rw [g20]; rfl) (jcl_at hw rfl) rfl (p_Ref_rowOf hw hG hq21) ?_ (fun E h' n' x' e1 => by cases e1.1)
  intro v9 h9 n9 x9 e9
  obtain ⟨e91, e92, e93⟩ := e9
  cases e91
  subst e92
  subst e93
  clear x
  rename Bool => x
  show J _ _ _ _ (_ :: _) _ _ _ _ _ _
  refine J_istore_n d_Ref_mayRead_7 (Nat.le_of_ble_eq_true rfl) ?_
  refine J.ls (ls' := [some (.ref this), some (.int p0), some (.int p1), some (.int q21.1), none, none, none, none]) rfl ?_
  refine J_aload_n d_Ref_mayRead_8 rfl ?_
  refine F_getR (ci := 12) (k := 42) hG (cf_Ref hw) (fl_Ref_115 hw) (by decide) (by decide) rfl d_Ref_mayRead_9 g20 ?_
  refine J_iload_n d_Ref_mayRead_12 rfl ?_
  obtain ⟨a22, ha22, H⟩ := Option.bind_eq_some_iff.mp H
  rw [j_rf ha22]
  obtain ⟨N23, hN23, H⟩ := Option.bind_eq_some_iff.mp H
  obtain ⟨k24, hk24, H⟩ := Option.bind_eq_some_iff.mp H
  refine F_iald k24 hw hG d_Ref_mayRead_13 (gA_some hN23) (ix_some hk24) ?_
  refine J_if_eq (tgt := 50) d_Ref_mayRead_14 (by decide) ?_ ?_
  · intro c38
    rw [if_pos c38] at H
    refine J.drop [false, false, false, false, false, false, false, false] rfl ?_
    exact p_Ref_mayRead_L50 hw hG  H
  · intro c38
    rw [if_neg c38] at H
    refine J_aload_n d_Ref_mayRead_17 rfl ?_
    refine J_aload_n d_Ref_mayRead_18 rfl ?_
    refine F_getR (ci := 12) (k := 39) hG (cf_Ref hw) (fl_Ref_106 hw) (by decide) (by decide) rfl d_Ref_mayRead_19 g20 ?_
    refine J_iconst (v := 4) d_Ref_mayRead_22 (by decide) ?_
    refine J_iload_n d_Ref_mayRead_23 rfl ?_
    refine J_imul d_Ref_mayRead_24 ?_
    obtain ⟨a25, ha25, H⟩ := Option.bind_eq_some_iff.mp H
    rw [j_rf ha25]
    obtain ⟨N26, hN26, H⟩ := Option.bind_eq_some_iff.mp H
    obtain ⟨k27, hk27, H⟩ := Option.bind_eq_some_iff.mp H
    refine F_lald k27 hw hG d_Ref_mayRead_25 (gA_some hN26) (ix_some hk27) ?_
    obtain ⟨q28, hq28, H⟩ := Option.bind_eq_some_iff.mp H
    refine J_callS (kc := 0) (ks := 0) (kc' := 0) (ks' := 0) (as := [.long (q21.2.2.1 a25 k27)]) (st := [.ref this]) (mf_Ref_addressOf hw) (ms_Ref_314 hw) d_Ref_mayRead_26 ln_Ref_addressOf (by decide) (by first | exact Nat.le_of_ble_eq_true rfl | (simp only [List.map_cons, List.map_nil, List.sum_cons, List.sum_nil, va_rf_cat]; exact Nat.le_of_ble_eq_true rfl)) rfl (p_Ref_addressOf hw hG hq28) ?_ (fun E h' n' x' e1 => by cases e1.1)
    intro v9 h9 n9 x9 e9
    obtain ⟨e91, e92, e93⟩ := e9
    cases e91
    subst e92
    subst e93
    clear x
    rename Bool => x
    show J _ _ _ _ (_ :: _) _ _ _ _ _ _
    obtain ⟨q29, hq29, H⟩ := Option.bind_eq_some_iff.mp H
    refine J_callV (kc := 0) (ks := 0) (kc' := 0) (ks' := 0) (a := this) (ci := 12) (as := [.int q28.1]) (st := []) (mf_Ref_targetOf hw) (mv_Ref_523 hw) d_Ref_mayRead_29 ln_Ref_targetOf (by decide) (by first | exact Nat.le_of_ble_eq_true rfl | (simp only [List.map_cons, List.map_nil, List.sum_cons, List.sum_nil, va_rf_cat]; exact Nat.le_of_ble_eq_true rfl)) rfl ((hG _).1 _ g20 (by decide)).1 ((hG _).1 _ g20 (by decide)).2 (by unfold pic; rw [g20]; rfl) (jcl_at hw rfl) rfl (p_Ref_targetOf hw hG hq29) ?_ (fun E h' n' x' e1 => by cases e1.1)
    intro v9 h9 n9 x9 e9
    obtain ⟨e91, e92, e93⟩ := e9
    cases e91
    subst e92
    subst e93
    clear x
    rename Bool => x
    show J _ _ _ _ (_ :: _) _ _ _ _ _ _
    refine J_iload_n d_Ref_mayRead_32 rfl ?_
    refine J_icmp_ne (tgt := 50) d_Ref_mayRead_33 (by decide) ?_ ?_
    · intro c37
      rw [if_neg c37] at H
      refine J.drop [false, false, false, false, false, false, false, false] rfl ?_
      exact p_Ref_mayRead_L50 hw hG  H
    · intro c37
      rw [if_pos c37] at H
      refine J_aload_n d_Ref_mayRead_36 rfl ?_
      refine J_aload_n d_Ref_mayRead_37 rfl ?_
      refine J_iconst (v := 1) d_Ref_mayRead_38 (by decide) ?_
      refine J_iload_n d_Ref_mayRead_39 rfl ?_
      refine J_iconst (v := 3) d_Ref_mayRead_40 (by decide) ?_
      obtain ⟨q30, hq30, H⟩ := Option.bind_eq_some_iff.mp H
      refine J_callV (kc := 0) (ks := 0) (kc' := 0) (ks' := 0) (a := this) (ci := 12) (as := [.int (1 : Int32), .int p1, .int (3 : Int32)]) (st := [.ref this]) (mf_Ref_rowOf hw) (mv_Ref_388 hw) d_Ref_mayRead_41 ln_Ref_rowOf (by decide) (by first | exact Nat.le_of_ble_eq_true rfl | (simp only [List.map_cons, List.map_nil, List.sum_cons, List.sum_nil, va_rf_cat]; exact Nat.le_of_ble_eq_true rfl)) rfl ((hG _).1 _ g20 (by decide)).1 ((hG _).1 _ g20 (by decide)).2 (by unfold pic; rw [g20]; rfl) (jcl_at hw rfl) rfl (p_Ref_rowOf hw hG hq30) ?_ (fun E h' n' x' e1 => by cases e1.1)
      intro v9 h9 n9 x9 e9
      obtain ⟨e91, e92, e93⟩ := e9
      cases e91
      subst e92
      subst e93
      clear x
      rename Bool => x
      show J _ _ _ _ (_ :: _) _ _ _ _ _ _
      obtain ⟨q31, hq31, H⟩ := Option.bind_eq_some_iff.mp H
      refine J_callV (kc := 0) (ks := 0) (kc' := 0) (ks' := 0) (a := this) (ci := 12) (as := [.int q30.1]) (st := []) (mf_Ref_hasRoom hw) (mv_Ref_392 hw) d_Ref_mayRead_44 ln_Ref_hasRoom (by decide) (by first | exact Nat.le_of_ble_eq_true rfl | (simp only [List.map_cons, List.map_nil, List.sum_cons, List.sum_nil, va_rf_cat]; exact Nat.le_of_ble_eq_true rfl)) rfl ((hG _).1 _ g20 (by decide)).1 ((hG _).1 _ g20 (by decide)).2 (by unfold pic; rw [g20]; rfl) (jcl_at hw rfl) rfl (p_Ref_hasRoom hw hG hq31) ?_ (fun E h' n' x' e1 => by cases e1.1)
      intro v9 h9 n9 x9 e9
      obtain ⟨e91, e92, e93⟩ := e9
      cases e91
      subst e92
      subst e93
      clear x
      rename Bool => x
      show J _ _ _ _ (_ :: _) _ _ _ _ _ _
      refine J_if_ne (tgt := 52) d_Ref_mayRead_47 (by decide) ?_ ?_
      · intro c36
        rw [if_neg c36] at H
        refine J_aload_n d_Ref_mayRead_52 rfl ?_
        refine F_getR (ci := 12) (k := 39) hG (cf_Ref hw) (fl_Ref_106 hw) (by decide) (by decide) rfl d_Ref_mayRead_53 g20 ?_
        refine J_iconst (v := 4) d_Ref_mayRead_56 (by decide) ?_
        refine J_iload_n d_Ref_mayRead_57 rfl ?_
        refine J_imul d_Ref_mayRead_58 ?_
        obtain ⟨a32, ha32, H⟩ := Option.bind_eq_some_iff.mp H
        rw [j_rf ha32]
        obtain ⟨N33, hN33, H⟩ := Option.bind_eq_some_iff.mp H
        obtain ⟨k34, hk34, H⟩ := Option.bind_eq_some_iff.mp H
        refine F_lald k34 hw hG d_Ref_mayRead_59 (gA_some hN33) (ix_some hk34) ?_
        obtain ⟨q35, hq35, H⟩ := Option.bind_eq_some_iff.mp H
        refine J_callS (kc := 0) (ks := 0) (kc' := 0) (ks' := 0) (as := [.long (q31.2.2.1 a32 k34)]) (st := []) (mf_Ref_idOf hw) (ms_Ref_396 hw) d_Ref_mayRead_60 ln_Ref_idOf (by decide) (by first | exact Nat.le_of_ble_eq_true rfl | (simp only [List.map_cons, List.map_nil, List.sum_cons, List.sum_nil, va_rf_cat]; exact Nat.le_of_ble_eq_true rfl)) rfl (p_Ref_idOf hw hG hq35) ?_ (fun E h' n' x' e1 => by cases e1.1)
        intro v9 h9 n9 x9 e9
        obtain ⟨e91, e92, e93⟩ := e9
        cases e91
        subst e92
        subst e93
        clear x
        rename Bool => x
        show J _ _ _ _ (_ :: _) _ _ _ _ _ _
        refine J_istore d_Ref_mayRead_63 (Nat.le_of_ble_eq_true rfl) ?_
        refine J.ls (ls' := [some (.ref this), some (.int p0), some (.int p1), some (.int q21.1), some (.int q35.1), none, none, none]) rfl ?_
        refine J_iconst (v := 0) d_Ref_mayRead_65 (by decide) ?_
        refine J_istore d_Ref_mayRead_66 (Nat.le_of_ble_eq_true rfl) ?_
        refine J.ls (ls' := [some (.ref this), some (.int p0), some (.int p1), some (.int q21.1), some (.int q35.1), some (.int (0 : Int32)), none, none]) rfl ?_
        refine J_iconst (v := 1) d_Ref_mayRead_68 (by decide) ?_
        refine J_istore d_Ref_mayRead_69 (Nat.le_of_ble_eq_true rfl) ?_
        refine J.ls (ls' := [some (.ref this), some (.int p0), some (.int p1), some (.int q21.1), some (.int q35.1), some (.int (0 : Int32)), some (.int (1 : Int32)), none]) rfl ?_
        refine J_iconst (v := 0) d_Ref_mayRead_71 (by decide) ?_
        refine J_istore d_Ref_mayRead_72 (Nat.le_of_ble_eq_true rfl) ?_
        refine J.ls (ls' := [some (.ref this), some (.int p0), some (.int p1), some (.int q21.1), some (.int q35.1), some (.int (0 : Int32)), some (.int (1 : Int32)), some (.int (0 : Int32))]) rfl ?_
        refine J.drop [true, true, true, false, true, true, true, true] rfl ?_
        exact p_Ref_mayRead_L74 hw hG  _ H
      · intro c36
        rw [if_pos c36] at H
        refine J.drop [false, false, false, false, false, false, false, false] rfl ?_
        exact p_Ref_mayRead_L50 hw hG  H
theorem ln_Ref_urgencyOf : (parseMethodDescriptor y_Ref_urgencyOf.desc).map (fun q => q.parameters.length) = some 1 := by decide +kernel
def f_Ref_urgencyOf (Γ : gm_T) (φ : ph_T) (p0 : Int64) : Option (Int32 × ph_T) :=
  some ((Int64.toInt32 ((p0 >>> (Int32.toInt64 (31 : Int32) &&& 63)) &&& (15 : Int64))), φ)
set_option maxRecDepth 100000 in
set_option maxHeartbeats 4000000 in
theorem p_Ref_urgencyOf {w : jw_T} (hw : jok w) {Γ : gm_T} {n : Nat} (hG : gd w Γ n) {x : Bool} {φ : ph_T} {p0 : Int64} {q : Int32 × ph_T} (H : f_Ref_urgencyOf Γ φ p0 = some q) : jc w M_Ref_urgencyOf [.long p0] (pic Γ φ) n x 0 0 (fq Γ n (.inl (some (.int q.1))) q.2) := by
  refine jc.of (by simp only [jent_r, jent_i, jent_l, jent_a, jent_0]; exact Nat.le_of_ble_eq_true rfl) ?_
  have hls : jents [.long p0] (jm_nL M_Ref_urgencyOf) = [some (.long p0), none] := by simp only [jents, jent_r, jent_i, jent_l, jent_a, jent_0]; rfl
  rw [hls]
  clear hls
  unfold f_Ref_urgencyOf at H
  refine J_lload_n d_Ref_urgencyOf_0 rfl ?_
  refine J_bipush (v := 31) d_Ref_urgencyOf_1 (by decide) ?_
  refine J_lshr d_Ref_urgencyOf_3 ?_
  refine J_ldc2 (v := 15) d_Ref_urgencyOf_4 (kn_Ref_310 hw) ?_
  refine J_land d_Ref_urgencyOf_7 ?_
  refine J_l2i d_Ref_urgencyOf_8 ?_
  have H := Option.some.inj H
  subst H
  exact J_iret (st := []) d_Ref_urgencyOf_9 rfl rfl ⟨rfl, rfl, rfl⟩
theorem ln_Ref_isBetter : (parseMethodDescriptor y_Ref_isBetter.desc).map (fun q => q.parameters.length) = some 3 := by decide +kernel
def f_Ref_isBetter_L129 (Γ : gm_T)  (φ : ph_T) (y0 : Int32) : Option (Int32 × ph_T) :=
  @ite _ (y0 = 0 ∨ y0 = 1) _ (
  some (y0, φ)
  ) none
set_option maxRecDepth 100000 in
set_option maxHeartbeats 4000000 in
theorem p_Ref_isBetter_L129 {w : jw_T} (hw : jok w) {Γ : gm_T} {n : Nat} (hG : gd w Γ n)  {x : Bool} {φ : ph_T} {y0 : Int32} {q : Int32 × ph_T} (H : f_Ref_isBetter_L129 Γ  φ y0 = some q) : J w M_Ref_isBetter 129 [none, none, none, none, none, none] [.int y0] (pic Γ φ) n x 0 0 (fq Γ n (.inl (some (.int q.1))) q.2) := by
  unfold f_Ref_isBetter_L129 at H
  have z1 : y0 = 0 ∨ y0 = 1 := by
    apply Classical.byContradiction
    intro q9
    rw [if_neg q9] at H
    cases H
  rw [if_pos z1] at H
  have H := Option.some.inj H
  subst H
  exact J_iret (st := []) d_Ref_isBetter_129 rfl (narrow_z z1).1 ⟨rfl, rfl, rfl⟩
def f_Ref_isBetter_L128 (Γ : gm_T)  (φ : ph_T) : Option (Int32 × ph_T) :=
  f_Ref_isBetter_L129 Γ  φ (0 : Int32)
set_option maxRecDepth 100000 in
set_option maxHeartbeats 4000000 in
theorem p_Ref_isBetter_L128 {w : jw_T} (hw : jok w) {Γ : gm_T} {n : Nat} (hG : gd w Γ n)  {x : Bool} {φ : ph_T} {q : Int32 × ph_T} (H : f_Ref_isBetter_L128 Γ  φ  = some q) : J w M_Ref_isBetter 128 [none, none, none, none, none, none] [] (pic Γ φ) n x 0 0 (fq Γ n (.inl (some (.int q.1))) q.2) := by
  unfold f_Ref_isBetter_L128 at H
  refine J_iconst (v := 0) d_Ref_isBetter_128 (by decide) ?_
  refine J.drop [false, false, false, false, false, false] rfl ?_
  exact p_Ref_isBetter_L129 hw hG  H
def f_Ref_isBetter_L92 (Γ : gm_T)  (φ : ph_T) (y0 : Int32) : Option (Int32 × ph_T) :=
  @ite _ (y0 = 0 ∨ y0 = 1) _ (
  some (y0, φ)
  ) none
set_option maxRecDepth 100000 in
set_option maxHeartbeats 4000000 in
theorem p_Ref_isBetter_L92 {w : jw_T} (hw : jok w) {Γ : gm_T} {n : Nat} (hG : gd w Γ n)  {x : Bool} {φ : ph_T} {y0 : Int32} {q : Int32 × ph_T} (H : f_Ref_isBetter_L92 Γ  φ y0 = some q) : J w M_Ref_isBetter 92 [none, none, none, none, none, none] [.int y0] (pic Γ φ) n x 0 0 (fq Γ n (.inl (some (.int q.1))) q.2) := by
  unfold f_Ref_isBetter_L92 at H
  have z2 : y0 = 0 ∨ y0 = 1 := by
    apply Classical.byContradiction
    intro q9
    rw [if_neg q9] at H
    cases H
  rw [if_pos z2] at H
  have H := Option.some.inj H
  subst H
  exact J_iret (st := []) d_Ref_isBetter_92 rfl (narrow_z z2).1 ⟨rfl, rfl, rfl⟩
def f_Ref_isBetter_L91 (Γ : gm_T)  (φ : ph_T) : Option (Int32 × ph_T) :=
  f_Ref_isBetter_L92 Γ  φ (0 : Int32)
set_option maxRecDepth 100000 in
set_option maxHeartbeats 4000000 in
theorem p_Ref_isBetter_L91 {w : jw_T} (hw : jok w) {Γ : gm_T} {n : Nat} (hG : gd w Γ n)  {x : Bool} {φ : ph_T} {q : Int32 × ph_T} (H : f_Ref_isBetter_L91 Γ  φ  = some q) : J w M_Ref_isBetter 91 [none, none, none, none, none, none] [] (pic Γ φ) n x 0 0 (fq Γ n (.inl (some (.int q.1))) q.2) := by
  unfold f_Ref_isBetter_L91 at H
  refine J_iconst (v := 0) d_Ref_isBetter_91 (by decide) ?_
  refine J.drop [false, false, false, false, false, false] rfl ?_
  exact p_Ref_isBetter_L92 hw hG  H
def f_Ref_isBetter_L87 (Γ : gm_T)  (φ : ph_T) : Option (Int32 × ph_T) :=
  f_Ref_isBetter_L92 Γ  φ (1 : Int32)
set_option maxRecDepth 100000 in
set_option maxHeartbeats 4000000 in
theorem p_Ref_isBetter_L87 {w : jw_T} (hw : jok w) {Γ : gm_T} {n : Nat} (hG : gd w Γ n)  {x : Bool} {φ : ph_T} {q : Int32 × ph_T} (H : f_Ref_isBetter_L87 Γ  φ  = some q) : J w M_Ref_isBetter 87 [none, none, none, none, none, none] [] (pic Γ φ) n x 0 0 (fq Γ n (.inl (some (.int q.1))) q.2) := by
  unfold f_Ref_isBetter_L87 at H
  refine J_iconst (v := 1) d_Ref_isBetter_87 (by decide) ?_
  refine J_goto (tgt := 92) d_Ref_isBetter_88 (by decide) ?_
  refine J.drop [false, false, false, false, false, false] rfl ?_
  exact p_Ref_isBetter_L92 hw hG  H
def f_Ref_isBetter_L39 (Γ : gm_T)  (φ : ph_T) (y0 : Int32) : Option (Int32 × ph_T) :=
  @ite _ (y0 = 0 ∨ y0 = 1) _ (
  some (y0, φ)
  ) none
set_option maxRecDepth 100000 in
set_option maxHeartbeats 4000000 in
theorem p_Ref_isBetter_L39 {w : jw_T} (hw : jok w) {Γ : gm_T} {n : Nat} (hG : gd w Γ n)  {x : Bool} {φ : ph_T} {y0 : Int32} {q : Int32 × ph_T} (H : f_Ref_isBetter_L39 Γ  φ y0 = some q) : J w M_Ref_isBetter 39 [none, none, none, none, none, none] [.int y0] (pic Γ φ) n x 0 0 (fq Γ n (.inl (some (.int q.1))) q.2) := by
  unfold f_Ref_isBetter_L39 at H
  have z3 : y0 = 0 ∨ y0 = 1 := by
    apply Classical.byContradiction
    intro q9
    rw [if_neg q9] at H
    cases H
  rw [if_pos z3] at H
  have H := Option.some.inj H
  subst H
  exact J_iret (st := []) d_Ref_isBetter_39 rfl (narrow_z z3).1 ⟨rfl, rfl, rfl⟩
def f_Ref_isBetter (Γ : gm_T) (φ : ph_T) (this : Nat) (p0 : Int32) (p1 : Int32) (p2 : Int32) : Option (Int32 × ph_T) :=
  @ite _ (Γ this = .inr 12) _ (
  Option.bind (f_Ref_rowOf Γ φ this (0 : Int32) p0 p2) fun q5 =>
  Option.bind (f_Ref_rowOf Γ q5.2 this (0 : Int32) p1 p2) fun q6 =>
  if (q6.2.1 this 4) = 0 then
    if p1 ≤ p0 then
      f_Ref_isBetter_L39 Γ  q6.2 (0 : Int32)
    else
      f_Ref_isBetter_L39 Γ  q6.2 (1 : Int32)
  else
    if (q6.2.1 this 4) = (2 : Int32) then
      Option.bind (q6.2.2.2 this 41) fun a17 =>
      Option.bind (gA Γ a17 0) fun N18 =>
      Option.bind (ix ((4 : Int32) * q5.1) N18) fun k19 =>
      Option.bind (gA Γ a17 0) fun N20 =>
      Option.bind (ix ((4 : Int32) * q6.1) N20) fun k21 =>
      if (q6.2.1 a17 k19) < (q6.2.1 a17 k21) then
        f_Ref_isBetter_L87 Γ  q6.2 
      else
        Option.bind (gA Γ a17 0) fun N22 =>
        Option.bind (ix ((4 : Int32) * q5.1) N22) fun k23 =>
        Option.bind (gA Γ a17 0) fun N24 =>
        Option.bind (ix ((4 : Int32) * q6.1) N24) fun k25 =>
        if (q6.2.1 a17 k23) = (q6.2.1 a17 k25) then
          if p1 ≤ p0 then
            f_Ref_isBetter_L91 Γ  q6.2 
          else
            f_Ref_isBetter_L87 Γ  q6.2 
        else
          f_Ref_isBetter_L91 Γ  q6.2 
    else
      if (q6.2.1 this 4) = (3 : Int32) then
        Option.bind (q6.2.2.2 this 39) fun a7 =>
        Option.bind (gA Γ a7 1) fun N8 =>
        Option.bind (ix ((4 : Int32) * q5.1) N8) fun k9 =>
        Option.bind (f_Ref_urgencyOf Γ q6.2 (q6.2.2.1 a7 k9)) fun q10 =>
        Option.bind (q10.2.2.2 this 39) fun a11 =>
        Option.bind (gA Γ a11 1) fun N12 =>
        Option.bind (ix ((4 : Int32) * q6.1) N12) fun k13 =>
        Option.bind (f_Ref_urgencyOf Γ q10.2 (q10.2.2.1 a11 k13)) fun q14 =>
        if q10.1 ≤ q14.1 then
          f_Ref_isBetter_L128 Γ  q14.2 
        else
          f_Ref_isBetter_L129 Γ  q14.2 (1 : Int32)
      else
        f_Ref_isBetter_L128 Γ  q6.2 
  ) none
set_option maxRecDepth 100000 in
set_option maxHeartbeats 4000000 in
theorem p_Ref_isBetter {w : jw_T} (hw : jok w) {Γ : gm_T} {n : Nat} (hG : gd w Γ n) {x : Bool} {φ : ph_T} {this : Nat} {p0 : Int32} {p1 : Int32} {p2 : Int32} {q : Int32 × ph_T} (H : f_Ref_isBetter Γ φ this p0 p1 p2 = some q) : jc w M_Ref_isBetter [.ref this, .int p0, .int p1, .int p2] (pic Γ φ) n x 0 0 (fq Γ n (.inl (some (.int q.1))) q.2) := by
  refine jc.of (by simp only [jent_r, jent_i, jent_l, jent_a, jent_0]; exact Nat.le_of_ble_eq_true rfl) ?_
  have hls : jents [.ref this, .int p0, .int p1, .int p2] (jm_nL M_Ref_isBetter) = [some (.ref this), some (.int p0), some (.int p1), some (.int p2), none, none] := by simp only [jents, jent_r, jent_i, jent_l, jent_a, jent_0]; rfl
  rw [hls]
  clear hls
  unfold f_Ref_isBetter at H
  refine J_iconst (v := 4) d_Ref_isBetter_0 (by decide) ?_
  refine J_aload_n d_Ref_isBetter_1 rfl ?_
  refine J_iconst (v := 0) d_Ref_isBetter_2 (by decide) ?_
  refine J_iload_n d_Ref_isBetter_3 rfl ?_
  refine J_iload_n d_Ref_isBetter_4 rfl ?_
  have g4 : Γ this = .inr 12 := by
    apply Classical.byContradiction
    intro q9
    rw [if_neg q9] at H
    cases H
  rw [if_pos g4] at H
  obtain ⟨q5, hq5, H⟩ := Option.bind_eq_some_iff.mp H
  refine J_callV (kc := 0) (ks := 0) (kc' := 0) (ks' := 0) (a := this) (ci := 12) (as := [.int (0 : Int32), .int p0, .int p2]) (st := [.int (4 : Int32)]) (mf_Ref_rowOf hw) (mv_Ref_388 hw) d_Ref_isBetter_5 ln_Ref_rowOf (by decide) (by first | exact Nat.le_of_ble_eq_true rfl | (simp only [List.map_cons, List.map_nil, List.sum_cons, List.sum_nil, va_rf_cat]; exact Nat.le_of_ble_eq_true rfl)) rfl ((hG _).1 _ g4 (by decide)).1 ((hG _).1 _ g4 (by decide)).2 (by unfold pic; rw [g4]; rfl) (jcl_at hw rfl) rfl (p_Ref_rowOf hw hG hq5) ?_ (fun E h' n' x' e1 => by cases e1.1)
  intro v9 h9 n9 x9 e9
  obtain ⟨e91, e92, e93⟩ := e9
  cases e91
  subst e92
  subst e93
  clear x
  rename Bool => x
  show J _ _ _ _ (_ :: _) _ _ _ _ _ _
  refine J_imul d_Ref_isBetter_8 ?_
  refine J_istore d_Ref_isBetter_9 (Nat.le_of_ble_eq_true rfl) ?_
  refine J.ls (ls' := [some (.ref this), some (.int p0), some (.int p1), some (.int p2), some (.int ((4 : Int32) * q5.1)), none]) rfl ?_
  refine J_iconst (v := 4) d_Ref_isBetter_11 (by decide) ?_
  refine J_aload_n d_Ref_isBetter_12 rfl ?_
  refine J_iconst (v := 0) d_Ref_isBetter_13 (by decide) ?_
  refine J_iload_n d_Ref_isBetter_14 rfl ?_
  refine J_iload_n d_Ref_isBetter_15 rfl ?_
  obtain ⟨q6, hq6, H⟩ := Option.bind_eq_some_iff.mp H
  refine J_callV (kc := 0) (ks := 0) (kc' := 0) (ks' := 0) (a := this) (ci := 12) (as := [.int (0 : Int32), .int p1, .int p2]) (st := [.int (4 : Int32)]) (mf_Ref_rowOf hw) (mv_Ref_388 hw) d_Ref_isBetter_16 ln_Ref_rowOf (by decide) (by first | exact Nat.le_of_ble_eq_true rfl | (simp only [List.map_cons, List.map_nil, List.sum_cons, List.sum_nil, va_rf_cat]; exact Nat.le_of_ble_eq_true rfl)) rfl ((hG _).1 _ g4 (by decide)).1 ((hG _).1 _ g4 (by decide)).2 (by unfold pic; rw [g4]; rfl) (jcl_at hw rfl) rfl (p_Ref_rowOf hw hG hq6) ?_ (fun E h' n' x' e1 => by cases e1.1)
  intro v9 h9 n9 x9 e9
  obtain ⟨e91, e92, e93⟩ := e9
  cases e91
  subst e92
  subst e93
  clear x
  rename Bool => x
  show J _ _ _ _ (_ :: _) _ _ _ _ _ _
  refine J_imul d_Ref_isBetter_19 ?_
  refine J_istore d_Ref_isBetter_20 (Nat.le_of_ble_eq_true rfl) ?_
  refine J.ls (ls' := [some (.ref this), some (.int p0), some (.int p1), some (.int p2), some (.int ((4 : Int32) * q5.1)), some (.int ((4 : Int32) * q6.1))]) rfl ?_
  refine J_aload_n d_Ref_isBetter_22 rfl ?_
  refine F_getI (ci := 12) (k := 4) hG (cf_Ref hw) (fl_Ref_532 hw) (by decide) (by decide) rfl d_Ref_isBetter_23 g4 ?_
  refine J_if_ne (tgt := 40) d_Ref_isBetter_26 (by decide) ?_ ?_
  · intro c31
    rw [if_neg c31] at H
    refine J_aload_n d_Ref_isBetter_40 rfl ?_
    refine F_getI (ci := 12) (k := 4) hG (cf_Ref hw) (fl_Ref_532 hw) (by decide) (by decide) rfl d_Ref_isBetter_41 g4 ?_
    refine J_iconst (v := 2) d_Ref_isBetter_44 (by decide) ?_
    refine J_icmp_ne (tgt := 93) d_Ref_isBetter_45 (by decide) ?_ ?_
    · intro c29
      rw [if_neg c29] at H
      refine J_aload_n d_Ref_isBetter_93 rfl ?_
      refine F_getI (ci := 12) (k := 4) hG (cf_Ref hw) (fl_Ref_532 hw) (by decide) (by decide) rfl d_Ref_isBetter_94 g4 ?_
      refine J_iconst (v := 3) d_Ref_isBetter_97 (by decide) ?_
      refine J_icmp_ne (tgt := 128) d_Ref_isBetter_98 (by decide) ?_ ?_
      · intro c16
        rw [if_neg c16] at H
        refine J.drop [false, false, false, false, false, false] rfl ?_
        exact p_Ref_isBetter_L128 hw hG  H
      · intro c16
        rw [if_pos c16] at H
        refine J_aload_n d_Ref_isBetter_101 rfl ?_
        refine F_getR (ci := 12) (k := 39) hG (cf_Ref hw) (fl_Ref_106 hw) (by decide) (by decide) rfl d_Ref_isBetter_102 g4 ?_
        refine J_iload d_Ref_isBetter_105 rfl ?_
        obtain ⟨a7, ha7, H⟩ := Option.bind_eq_some_iff.mp H
        rw [j_rf ha7]
        obtain ⟨N8, hN8, H⟩ := Option.bind_eq_some_iff.mp H
        obtain ⟨k9, hk9, H⟩ := Option.bind_eq_some_iff.mp H
        refine F_lald k9 hw hG d_Ref_isBetter_107 (gA_some hN8) (ix_some hk9) ?_
        obtain ⟨q10, hq10, H⟩ := Option.bind_eq_some_iff.mp H
        refine J_callS (kc := 0) (ks := 0) (kc' := 0) (ks' := 0) (as := [.long (q6.2.2.1 a7 k9)]) (st := []) (mf_Ref_urgencyOf hw) (ms_Ref_535 hw) d_Ref_isBetter_108 ln_Ref_urgencyOf (by decide) (by first | exact Nat.le_of_ble_eq_true rfl | (simp only [List.map_cons, List.map_nil, List.sum_cons, List.sum_nil, va_rf_cat]; exact Nat.le_of_ble_eq_true rfl)) rfl (p_Ref_urgencyOf hw hG hq10) ?_ (fun E h' n' x' e1 => by cases e1.1)
        intro v9 h9 n9 x9 e9
        obtain ⟨e91, e92, e93⟩ := e9
        cases e91
        subst e92
        subst e93
        clear x
        rename Bool => x
        show J _ _ _ _ (_ :: _) _ _ _ _ _ _
        refine J_aload_n d_Ref_isBetter_111 rfl ?_
        refine F_getR (ci := 12) (k := 39) hG (cf_Ref hw) (fl_Ref_106 hw) (by decide) (by decide) rfl d_Ref_isBetter_112 g4 ?_
        refine J_iload d_Ref_isBetter_115 rfl ?_
        obtain ⟨a11, ha11, H⟩ := Option.bind_eq_some_iff.mp H
        rw [j_rf ha11]
        obtain ⟨N12, hN12, H⟩ := Option.bind_eq_some_iff.mp H
        obtain ⟨k13, hk13, H⟩ := Option.bind_eq_some_iff.mp H
        refine F_lald k13 hw hG d_Ref_isBetter_117 (gA_some hN12) (ix_some hk13) ?_
        obtain ⟨q14, hq14, H⟩ := Option.bind_eq_some_iff.mp H
        refine J_callS (kc := 0) (ks := 0) (kc' := 0) (ks' := 0) (as := [.long (q10.2.2.1 a11 k13)]) (st := [.int q10.1]) (mf_Ref_urgencyOf hw) (ms_Ref_535 hw) d_Ref_isBetter_118 ln_Ref_urgencyOf (by decide) (by first | exact Nat.le_of_ble_eq_true rfl | (simp only [List.map_cons, List.map_nil, List.sum_cons, List.sum_nil, va_rf_cat]; exact Nat.le_of_ble_eq_true rfl)) rfl (p_Ref_urgencyOf hw hG hq14) ?_ (fun E h' n' x' e1 => by cases e1.1)
        intro v9 h9 n9 x9 e9
        obtain ⟨e91, e92, e93⟩ := e9
        cases e91
        subst e92
        subst e93
        clear x
        rename Bool => x
        show J _ _ _ _ (_ :: _) _ _ _ _ _ _
        refine J_icmp_le (tgt := 128) d_Ref_isBetter_121 (by decide) ?_ ?_
        · intro c15
          rw [if_pos c15] at H
          refine J.drop [false, false, false, false, false, false] rfl ?_
          exact p_Ref_isBetter_L128 hw hG  H
        · intro c15
          rw [if_neg c15] at H
          refine J_iconst (v := 1) d_Ref_isBetter_124 (by decide) ?_
          refine J_goto (tgt := 129) d_Ref_isBetter_125 (by decide) ?_
          refine J.drop [false, false, false, false, false, false] rfl ?_
          exact p_Ref_isBetter_L129 hw hG  H
    · intro c29
      rw [if_pos c29] at H
      refine J_aload_n d_Ref_isBetter_48 rfl ?_
      refine F_getR (ci := 12) (k := 41) hG (cf_Ref hw) (fl_Ref_112 hw) (by decide) (by decide) rfl d_Ref_isBetter_49 g4 ?_
      refine J_iload d_Ref_isBetter_52 rfl ?_
      obtain ⟨a17, ha17, H⟩ := Option.bind_eq_some_iff.mp H
      rw [j_rf ha17]
      obtain ⟨N18, hN18, H⟩ := Option.bind_eq_some_iff.mp H
      obtain ⟨k19, hk19, H⟩ := Option.bind_eq_some_iff.mp H
      refine F_iald k19 hw hG d_Ref_isBetter_54 (gA_some hN18) (ix_some hk19) ?_
      refine J_aload_n d_Ref_isBetter_55 rfl ?_
      refine F_getR (ci := 12) (k := 41) hG (cf_Ref hw) (fl_Ref_112 hw) (by decide) (by decide) rfl d_Ref_isBetter_56 g4 ?_
      refine J_iload d_Ref_isBetter_59 rfl ?_
      try rw [j_rf ha17]
      obtain ⟨N20, hN20, H⟩ := Option.bind_eq_some_iff.mp H
      obtain ⟨k21, hk21, H⟩ := Option.bind_eq_some_iff.mp H
      refine F_iald k21 hw hG d_Ref_isBetter_61 (gA_some hN20) (ix_some hk21) ?_
      refine J_icmp_lt (tgt := 87) d_Ref_isBetter_62 (by decide) ?_ ?_
      · intro c28
        rw [if_pos c28] at H
        refine J.drop [false, false, false, false, false, false] rfl ?_
        exact p_Ref_isBetter_L87 hw hG  H
      · intro c28
        rw [if_neg c28] at H
        refine J_aload_n d_Ref_isBetter_65 rfl ?_
        refine F_getR (ci := 12) (k := 41) hG (cf_Ref hw) (fl_Ref_112 hw) (by decide) (by decide) rfl d_Ref_isBetter_66 g4 ?_
        refine J_iload d_Ref_isBetter_69 rfl ?_
        try rw [j_rf ha17]
        obtain ⟨N22, hN22, H⟩ := Option.bind_eq_some_iff.mp H
        obtain ⟨k23, hk23, H⟩ := Option.bind_eq_some_iff.mp H
        refine F_iald k23 hw hG d_Ref_isBetter_71 (gA_some hN22) (ix_some hk23) ?_
        refine J_aload_n d_Ref_isBetter_72 rfl ?_
        refine F_getR (ci := 12) (k := 41) hG (cf_Ref hw) (fl_Ref_112 hw) (by decide) (by decide) rfl d_Ref_isBetter_73 g4 ?_
        refine J_iload d_Ref_isBetter_76 rfl ?_
        try rw [j_rf ha17]
        obtain ⟨N24, hN24, H⟩ := Option.bind_eq_some_iff.mp H
        obtain ⟨k25, hk25, H⟩ := Option.bind_eq_some_iff.mp H
        refine F_iald k25 hw hG d_Ref_isBetter_78 (gA_some hN24) (ix_some hk25) ?_
        refine J_icmp_ne (tgt := 91) d_Ref_isBetter_79 (by decide) ?_ ?_
        · intro c27
          rw [if_neg c27] at H
          refine J.drop [false, false, false, false, false, false] rfl ?_
          exact p_Ref_isBetter_L91 hw hG  H
        · intro c27
          rw [if_pos c27] at H
          refine J_iload_n d_Ref_isBetter_82 rfl ?_
          refine J_iload_n d_Ref_isBetter_83 rfl ?_
          refine J_icmp_ge (tgt := 91) d_Ref_isBetter_84 (by decide) ?_ ?_
          · intro c26
            rw [if_pos c26] at H
            refine J.drop [false, false, false, false, false, false] rfl ?_
            exact p_Ref_isBetter_L91 hw hG  H
          · intro c26
            rw [if_neg c26] at H
            refine J.drop [false, false, false, false, false, false] rfl ?_
            exact p_Ref_isBetter_L87 hw hG  H
  · intro c31
    rw [if_pos c31] at H
    refine J_iload_n d_Ref_isBetter_29 rfl ?_
    refine J_iload_n d_Ref_isBetter_30 rfl ?_
    refine J_icmp_ge (tgt := 38) d_Ref_isBetter_31 (by decide) ?_ ?_
    · intro c30
      rw [if_pos c30] at H
      refine J_iconst (v := 0) d_Ref_isBetter_38 (by decide) ?_
      refine J.drop [false, false, false, false, false, false] rfl ?_
      exact p_Ref_isBetter_L39 hw hG  H
    · intro c30
      rw [if_neg c30] at H
      refine J_iconst (v := 1) d_Ref_isBetter_34 (by decide) ?_
      refine J_goto (tgt := 39) d_Ref_isBetter_35 (by decide) ?_
      refine J.drop [false, false, false, false, false, false] rfl ?_
      exact p_Ref_isBetter_L39 hw hG  H
