theorem ln_Ref_answered : (parseMethodDescriptor y_Ref_answered.desc).map (fun q => q.parameters.length) = some 3 := by decide +kernel
def f_Ref_answered_L70 (Γ : gm_T) (Kc3 : ph_T → Nat → Int32 → Int32 → Int32 → Int32 → Option (Int32 × ph_T)) (φ : ph_T) (x0 : Nat) (x1 : Int32) (x2 : Int32) (x3 : Int32) (x4 : Int32) : Option (Int32 × ph_T) :=
  Kc3 φ x0 x1 x2 x3 (x4 + (1 : Int32))
set_option maxRecDepth 100000 in
set_option maxHeartbeats 4000000 in
theorem p_Ref_answered_L70 {w : jw_T} (hw : jok w) {Γ : gm_T} {n : Nat} (hG : gd w Γ n) {Kc3 : ph_T → Nat → Int32 → Int32 → Int32 → Int32 → Option (Int32 × ph_T)} (hKc3 : ∀ {x : Bool} {φ : ph_T} {x0 : Nat} {x1 : Int32} {x2 : Int32} {x3 : Int32} {x4 : Int32} {q : Int32 × ph_T}, Kc3 φ x0 x1 x2 x3 x4 = some q → J w M_Ref_answered 3 [some (.ref x0), some (.int x1), some (.int x2), some (.int x3), some (.int x4)] [] (pic Γ φ) n x 0 0 (fq Γ n (.inl (some (.int q.1))) q.2)) {x : Bool} {φ : ph_T} {x0 : Nat} {x1 : Int32} {x2 : Int32} {x3 : Int32} {x4 : Int32} {q : Int32 × ph_T} (H : f_Ref_answered_L70 Γ Kc3 φ x0 x1 x2 x3 x4 = some q) : J w M_Ref_answered 70 [some (.ref x0), some (.int x1), some (.int x2), some (.int x3), some (.int x4)] [] (pic Γ φ) n x 0 0 (fq Γ n (.inl (some (.int q.1))) q.2) := by
  unfold f_Ref_answered_L70 at H
  refine J_iinc (v := x4 + 1) d_Ref_answered_70 rfl (by rw [show Int32.ofInt 1 = (1 : Int32) from by decide]) ?_
  refine J.ls (ls' := [some (.ref x0), some (.int x1), some (.int x2), some (.int x3), some (.int (x4 + (1 : Int32)))]) rfl ?_
  refine J_goto (tgt := 3) d_Ref_answered_73 (by decide) ?_
  refine J.drop [true, true, true, true, true] rfl ?_
  exact hKc3 H
def f_Ref_answered_L3 (Γ : gm_T)  : Nat → ph_T → Nat → Int32 → Int32 → Int32 → Int32 → Option (Int32 × ph_T)
  | 0, _, _, _, _, _, _ => none
  | fu + 1, φ, x0, x1, x2, x3, x4 =>
    @ite _ (Γ x0 = .inr 12) _ (
    if (φ.1 x0 15) ≤ x4 then
      some ((-1 : Int32), φ)
    else
      Option.bind (φ.2.2 x0 16) fun a2 =>
      Option.bind (gA Γ a2 0) fun N3 =>
      Option.bind (ix x4 N3) fun k4 =>
      if (φ.1 a2 k4) = x1 then
        Option.bind (φ.2.2 x0 20) fun a5 =>
        Option.bind (gA Γ a5 2) fun N6 =>
        Option.bind (ix x4 N6) fun k7 =>
        if (φ.1 a5 k7) = x3 then
          Option.bind (φ.2.2 x0 25) fun a8 =>
          Option.bind (gA Γ a8 0) fun N9 =>
          Option.bind (ix x4 N9) fun k10 =>
          if (φ.1 a8 k10) = x2 then
            Option.bind (φ.2.2 x0 28) fun a11 =>
            Option.bind (gA Γ a11 0) fun N12 =>
            Option.bind (ix x4 N12) fun k13 =>
            if (φ.1 a11 k13) = (-1 : Int32) then
              f_Ref_answered_L70 Γ (f_Ref_answered_L3 Γ  fu) φ x0 x1 x2 x3 x4
            else
              Option.bind (φ.2.2 x0 29) fun a14 =>
              Option.bind (gA Γ a14 0) fun N15 =>
              Option.bind (ix x4 N15) fun k16 =>
              if (φ.1 a14 k16) = (-1 : Int32) then
                some (x4, φ)
              else
                f_Ref_answered_L70 Γ (f_Ref_answered_L3 Γ  fu) φ x0 x1 x2 x3 x4
          else
            f_Ref_answered_L70 Γ (f_Ref_answered_L3 Γ  fu) φ x0 x1 x2 x3 x4
        else
          f_Ref_answered_L70 Γ (f_Ref_answered_L3 Γ  fu) φ x0 x1 x2 x3 x4
      else
        f_Ref_answered_L70 Γ (f_Ref_answered_L3 Γ  fu) φ x0 x1 x2 x3 x4
    ) none
set_option maxRecDepth 100000 in
set_option maxHeartbeats 4000000 in
theorem p_Ref_answered_L3 {w : jw_T} (hw : jok w) {Γ : gm_T} {n : Nat} (hG : gd w Γ n)  : ∀ (fu : Nat) {x : Bool} {φ : ph_T} {x0 : Nat} {x1 : Int32} {x2 : Int32} {x3 : Int32} {x4 : Int32} {q : Int32 × ph_T}, f_Ref_answered_L3 Γ  fu φ x0 x1 x2 x3 x4 = some q → J w M_Ref_answered 3 [some (.ref x0), some (.int x1), some (.int x2), some (.int x3), some (.int x4)] [] (pic Γ φ) n x 0 0 (fq Γ n (.inl (some (.int q.1))) q.2) := by
  intro fu
  induction fu with
  | zero =>
    intro x φ x0 x1 x2 x3 x4 q H
    cases H
  | succ fu ih =>
    intro x φ x0 x1 x2 x3 x4 q H
    unfold f_Ref_answered_L3 at H
    refine J_iload d_Ref_answered_3 rfl ?_
    refine J_aload_n d_Ref_answered_5 rfl ?_
    have g1 : Γ x0 = .inr 12 := by
      apply Classical.byContradiction
      intro q9
      rw [if_neg q9] at H
      cases H
    rw [if_pos g1] at H
    refine F_getI (ci := 12) (k := 15) hG (cf_Ref hw) (fl_Ref_337 hw) (by decide) (by decide) rfl d_Ref_answered_6 g1 ?_
    refine J_icmp_ge (tgt := 76) d_Ref_answered_9 (by decide) ?_ ?_
    · intro c22
      rw [if_pos c22] at H
      refine J_iconst (v := -1) d_Ref_answered_76 (by decide) ?_
      have H := Option.some.inj H
      subst H
      exact J_iret (st := []) d_Ref_answered_77 rfl rfl ⟨rfl, rfl, rfl⟩
    · intro c22
      rw [if_neg c22] at H
      refine J_aload_n d_Ref_answered_12 rfl ?_
      refine F_getR (ci := 12) (k := 16) hG (cf_Ref hw) (fl_Ref_36 hw) (by decide) (by decide) rfl d_Ref_answered_13 g1 ?_
      refine J_iload d_Ref_answered_16 rfl ?_
      obtain ⟨a2, ha2, H⟩ := Option.bind_eq_some_iff.mp H
      rw [j_rf ha2]
      obtain ⟨N3, hN3, H⟩ := Option.bind_eq_some_iff.mp H
      obtain ⟨k4, hk4, H⟩ := Option.bind_eq_some_iff.mp H
      refine F_iald k4 hw hG d_Ref_answered_18 (gA_some hN3) (ix_some hk4) ?_
      refine J_iload_n d_Ref_answered_19 rfl ?_
      refine J_icmp_ne (tgt := 70) d_Ref_answered_20 (by decide) ?_ ?_
      · intro c21
        rw [if_neg c21] at H
        refine J.drop [true, true, true, true, true] rfl ?_
        exact p_Ref_answered_L70 hw hG ih H
      · intro c21
        rw [if_pos c21] at H
        refine J_aload_n d_Ref_answered_23 rfl ?_
        refine F_getR (ci := 12) (k := 20) hG (cf_Ref hw) (fl_Ref_48 hw) (by decide) (by decide) rfl d_Ref_answered_24 g1 ?_
        refine J_iload d_Ref_answered_27 rfl ?_
        obtain ⟨a5, ha5, H⟩ := Option.bind_eq_some_iff.mp H
        rw [j_rf ha5]
        obtain ⟨N6, hN6, H⟩ := Option.bind_eq_some_iff.mp H
        obtain ⟨k7, hk7, H⟩ := Option.bind_eq_some_iff.mp H
        refine F_zald k7 hw hG d_Ref_answered_29 (gA_some hN6) (ix_some hk7) ?_
        refine J_iload_n d_Ref_answered_30 rfl ?_
        refine J_icmp_ne (tgt := 70) d_Ref_answered_31 (by decide) ?_ ?_
        · intro c20
          rw [if_neg c20] at H
          refine J.drop [true, true, true, true, true] rfl ?_
          exact p_Ref_answered_L70 hw hG ih H
        · intro c20
          rw [if_pos c20] at H
          refine J_aload_n d_Ref_answered_34 rfl ?_
          refine F_getR (ci := 12) (k := 25) hG (cf_Ref hw) (fl_Ref_63 hw) (by decide) (by decide) rfl d_Ref_answered_35 g1 ?_
          refine J_iload d_Ref_answered_38 rfl ?_
          obtain ⟨a8, ha8, H⟩ := Option.bind_eq_some_iff.mp H
          rw [j_rf ha8]
          obtain ⟨N9, hN9, H⟩ := Option.bind_eq_some_iff.mp H
          obtain ⟨k10, hk10, H⟩ := Option.bind_eq_some_iff.mp H
          refine F_iald k10 hw hG d_Ref_answered_40 (gA_some hN9) (ix_some hk10) ?_
          refine J_iload_n d_Ref_answered_41 rfl ?_
          refine J_icmp_ne (tgt := 70) d_Ref_answered_42 (by decide) ?_ ?_
          · intro c19
            rw [if_neg c19] at H
            refine J.drop [true, true, true, true, true] rfl ?_
            exact p_Ref_answered_L70 hw hG ih H
          · intro c19
            rw [if_pos c19] at H
            refine J_aload_n d_Ref_answered_45 rfl ?_
            refine F_getR (ci := 12) (k := 28) hG (cf_Ref hw) (fl_Ref_73 hw) (by decide) (by decide) rfl d_Ref_answered_46 g1 ?_
            refine J_iload d_Ref_answered_49 rfl ?_
            obtain ⟨a11, ha11, H⟩ := Option.bind_eq_some_iff.mp H
            rw [j_rf ha11]
            obtain ⟨N12, hN12, H⟩ := Option.bind_eq_some_iff.mp H
            obtain ⟨k13, hk13, H⟩ := Option.bind_eq_some_iff.mp H
            refine F_iald k13 hw hG d_Ref_answered_51 (gA_some hN12) (ix_some hk13) ?_
            refine J_iconst (v := -1) d_Ref_answered_52 (by decide) ?_
            refine J_icmp_eq (tgt := 70) d_Ref_answered_53 (by decide) ?_ ?_
            · intro c18
              rw [if_pos c18] at H
              refine J.drop [true, true, true, true, true] rfl ?_
              exact p_Ref_answered_L70 hw hG ih H
            · intro c18
              rw [if_neg c18] at H
              refine J_aload_n d_Ref_answered_56 rfl ?_
              refine F_getR (ci := 12) (k := 29) hG (cf_Ref hw) (fl_Ref_76 hw) (by decide) (by decide) rfl d_Ref_answered_57 g1 ?_
              refine J_iload d_Ref_answered_60 rfl ?_
              obtain ⟨a14, ha14, H⟩ := Option.bind_eq_some_iff.mp H
              rw [j_rf ha14]
              obtain ⟨N15, hN15, H⟩ := Option.bind_eq_some_iff.mp H
              obtain ⟨k16, hk16, H⟩ := Option.bind_eq_some_iff.mp H
              refine F_iald k16 hw hG d_Ref_answered_62 (gA_some hN15) (ix_some hk16) ?_
              refine J_iconst (v := -1) d_Ref_answered_63 (by decide) ?_
              refine J_icmp_ne (tgt := 70) d_Ref_answered_64 (by decide) ?_ ?_
              · intro c17
                rw [if_neg c17] at H
                refine J.drop [true, true, true, true, true] rfl ?_
                exact p_Ref_answered_L70 hw hG ih H
              · intro c17
                rw [if_pos c17] at H
                refine J_iload d_Ref_answered_67 rfl ?_
                have H := Option.some.inj H
                subst H
                exact J_iret (st := []) d_Ref_answered_69 rfl rfl ⟨rfl, rfl, rfl⟩
def f_Ref_answered (Γ : gm_T) (φ : ph_T) (this : Nat) (p0 : Int32) (p1 : Int32) (p2 : Int32) : Option (Int32 × ph_T) :=
  f_Ref_answered_L3 Γ  jF φ this p0 p1 p2 (0 : Int32)
set_option maxRecDepth 100000 in
set_option maxHeartbeats 4000000 in
theorem p_Ref_answered {w : jw_T} (hw : jok w) {Γ : gm_T} {n : Nat} (hG : gd w Γ n) {x : Bool} {φ : ph_T} {this : Nat} {p0 : Int32} {p1 : Int32} {p2 : Int32} {q : Int32 × ph_T} (H : f_Ref_answered Γ φ this p0 p1 p2 = some q) : jc w M_Ref_answered [.ref this, .int p0, .int p1, .int p2] (pic Γ φ) n x 0 0 (fq Γ n (.inl (some (.int q.1))) q.2) := by
  refine jc.of (by simp only [jent_r, jent_i, jent_l, jent_a, jent_0]; exact Nat.le_of_ble_eq_true rfl) ?_
  have hls : jents [.ref this, .int p0, .int p1, .int p2] (jm_nL M_Ref_answered) = [some (.ref this), some (.int p0), some (.int p1), some (.int p2), none] := by simp only [jents, jent_r, jent_i, jent_l, jent_a, jent_0]; rfl
  rw [hls]
  clear hls
  unfold f_Ref_answered at H
  refine J_iconst (v := 0) d_Ref_answered_0 (by decide) ?_
  refine J_istore d_Ref_answered_1 (Nat.le_of_ble_eq_true rfl) ?_
  refine J.ls (ls' := [some (.ref this), some (.int p0), some (.int p1), some (.int p2), some (.int (0 : Int32))]) rfl ?_
  refine J.drop [true, true, true, true, true] rfl ?_
  exact p_Ref_answered_L3 hw hG  _ H
theorem ln_Ref_answerCame : (parseMethodDescriptor y_Ref_answerCame.desc).map (fun q => q.parameters.length) = some 2 := by decide +kernel
def f_Ref_answerCame_L177 (Γ : gm_T)  (φ : ph_T) (y0 : Int32) (y1 : Int32) (y2 : Option Nat) : Option (Unit × ph_T) :=
  Option.bind y2 fun a1 =>
  Option.bind (gA Γ a1 0) fun N2 =>
  Option.bind (ix y1 N2) fun k3 =>
  some ((), (uI φ a1 k3 y0))
set_option maxRecDepth 100000 in
set_option maxHeartbeats 4000000 in
theorem p_Ref_answerCame_L177 {w : jw_T} (hw : jok w) {Γ : gm_T} {n : Nat} (hG : gd w Γ n)  {x : Bool} {φ : ph_T} {y0 : Int32} {y1 : Int32} {y2 : Option Nat} {q : Unit × ph_T} (H : f_Ref_answerCame_L177 Γ  φ y0 y1 y2 = some q) : J w M_Ref_answerCame 177 [none, none, none, none, none, none] [.int y0, .int y1, va_rf y2] (pic Γ φ) n x 0 0 (fq Γ n (.inl none) q.2) := by
  unfold f_Ref_answerCame_L177 at H
  obtain ⟨a1, ha1, H⟩ := Option.bind_eq_some_iff.mp H
  rw [j_rf ha1]
  obtain ⟨N2, hN2, H⟩ := Option.bind_eq_some_iff.mp H
  obtain ⟨k3, hk3, H⟩ := Option.bind_eq_some_iff.mp H
  refine F_iast k3 hw hG d_Ref_answerCame_177 (gA_some hN2) (ix_some hk3) ?_
  have H := Option.some.inj H
  subst H
  exact J_vret (st := []) d_Ref_answerCame_178 rfl ⟨rfl, rfl, rfl⟩
def f_Ref_answerCame_L93 (Γ : gm_T)  (φ : ph_T) (x0 : Nat) (x2 : Int32) (x3 : Int32) (x4 : Int32) (y0 : Int32) (y1 : Int32) (y2 : Option Nat) : Option (Unit × ph_T) :=
  Option.bind y2 fun a4 =>
  Option.bind (gA Γ a4 0) fun N5 =>
  Option.bind (ix y1 N5) fun k6 =>
  if x2 = (2 : Int32) then
    @ite _ (Γ x0 = .inr 12) _ (
    Option.bind (φ.2.2 x0 29) fun a28 =>
    Option.bind (gA Γ a28 0) fun N29 =>
    Option.bind (ix x4 N29) fun k30 =>
    some ((), (uI (uI φ a4 k6 y0) a28 k30 ((uI φ a4 k6 y0).1 x0 6)))
    ) none
  else
    @ite _ (Γ x0 = .inr 12) _ (
    Option.bind (φ.2.2 x0 30) fun a8 =>
    Option.bind (gA Γ a8 0) fun N9 =>
    Option.bind (ix x4 N9) fun k10 =>
    Option.bind (φ.2.2 x0 35) fun a11 =>
    Option.bind (gA Γ a11 1) fun N12 =>
    Option.bind (ix x3 N12) fun k13 =>
    Option.bind (φ.2.2 x0 32) fun a14 =>
    Option.bind (gA Γ a14 1) fun N15 =>
    Option.bind (ix (((16 : Int32) * x4) + ((uI φ a4 k6 y0).1 a8 k10)) N15) fun k16 =>
    Option.bind (gA Γ a8 0) fun N17 =>
    Option.bind (ix x4 N17) fun k18 =>
    Option.bind (gA Γ a8 0) fun N19 =>
    Option.bind (ix x4 N19) fun k20 =>
    Option.bind (gA Γ a8 0) fun N21 =>
    Option.bind (ix x4 N21) fun k22 =>
    Option.bind (φ.2.2 x0 17) fun a23 =>
    Option.bind (gA Γ a23 0) fun N24 =>
    Option.bind (ix x4 N24) fun k25 =>
    if ((uI (uL (uI φ a4 k6 y0) a14 k16 (φ.2.1 a11 k13)) a8 k20 (((uI φ a4 k6 y0).1 a8 k18) + (1 : Int32))).1 a8 k22) = ((uI (uL (uI φ a4 k6 y0) a14 k16 (φ.2.1 a11 k13)) a8 k20 (((uI φ a4 k6 y0).1 a8 k18) + (1 : Int32))).1 a23 k25) then
      f_Ref_answerCame_L177 Γ  (uI (uL (uI φ a4 k6 y0) a14 k16 (φ.2.1 a11 k13)) a8 k20 (((uI φ a4 k6 y0).1 a8 k18) + (1 : Int32))) ((uI (uL (uI φ a4 k6 y0) a14 k16 (φ.2.1 a11 k13)) a8 k20 (((uI φ a4 k6 y0).1 a8 k18) + (1 : Int32))).1 x0 6) x4 (φ.2.2 x0 29)
    else
      f_Ref_answerCame_L177 Γ  (uI (uL (uI φ a4 k6 y0) a14 k16 (φ.2.1 a11 k13)) a8 k20 (((uI φ a4 k6 y0).1 a8 k18) + (1 : Int32))) (-1 : Int32) x4 (φ.2.2 x0 29)
    ) none
set_option maxRecDepth 100000 in
set_option maxHeartbeats 4000000 in
theorem p_Ref_answerCame_L93 {w : jw_T} (hw : jok w) {Γ : gm_T} {n : Nat} (hG : gd w Γ n)  {x : Bool} {φ : ph_T} {x0 : Nat} {x2 : Int32} {x3 : Int32} {x4 : Int32} {y0 : Int32} {y1 : Int32} {y2 : Option Nat} {q : Unit × ph_T} (H : f_Ref_answerCame_L93 Γ  φ x0 x2 x3 x4 y0 y1 y2 = some q) : J w M_Ref_answerCame 93 [some (.ref x0), none, some (.int x2), some (.int x3), some (.int x4), none] [.int y0, .int y1, va_rf y2] (pic Γ φ) n x 0 0 (fq Γ n (.inl none) q.2) := by
  unfold f_Ref_answerCame_L93 at H
  obtain ⟨a4, ha4, H⟩ := Option.bind_eq_some_iff.mp H
  rw [j_rf ha4]
  obtain ⟨N5, hN5, H⟩ := Option.bind_eq_some_iff.mp H
  obtain ⟨k6, hk6, H⟩ := Option.bind_eq_some_iff.mp H
  refine F_iast k6 hw hG d_Ref_answerCame_93 (gA_some hN5) (ix_some hk6) ?_
  refine J_iload_n d_Ref_answerCame_94 rfl ?_
  refine J_iconst (v := 2) d_Ref_answerCame_95 (by decide) ?_
  refine J_icmp_ne (tgt := 111) d_Ref_answerCame_96 (by decide) ?_ ?_
  · intro c31
    rw [if_neg c31] at H
    refine J_aload_n d_Ref_answerCame_111 rfl ?_
    have g7 : Γ x0 = .inr 12 := by
      apply Classical.byContradiction
      intro q9
      rw [if_neg q9] at H
      cases H
    rw [if_pos g7] at H
    refine F_getR (ci := 12) (k := 32) hG (cf_Ref hw) (fl_Ref_85 hw) (by decide) (by decide) rfl d_Ref_answerCame_112 g7 ?_
    show J _ _ _ _ (va_rf (φ.2.2 x0 32) :: _) _ _ _ _ _ _
    refine J_bipush (v := 16) d_Ref_answerCame_115 (by decide) ?_
    refine J_iload d_Ref_answerCame_117 rfl ?_
    refine J_imul d_Ref_answerCame_119 ?_
    refine J_aload_n d_Ref_answerCame_120 rfl ?_
    refine F_getR (ci := 12) (k := 30) hG (cf_Ref hw) (fl_Ref_79 hw) (by decide) (by decide) rfl d_Ref_answerCame_121 g7 ?_
    show J _ _ _ _ (va_rf (φ.2.2 x0 30) :: _) _ _ _ _ _ _
    refine J_iload d_Ref_answerCame_124 rfl ?_
    obtain ⟨a8, ha8, H⟩ := Option.bind_eq_some_iff.mp H
    rw [j_rf ha8]
    obtain ⟨N9, hN9, H⟩ := Option.bind_eq_some_iff.mp H
    obtain ⟨k10, hk10, H⟩ := Option.bind_eq_some_iff.mp H
    refine F_iald k10 hw hG d_Ref_answerCame_126 (gA_some hN9) (ix_some hk10) ?_
    refine J_iadd d_Ref_answerCame_127 ?_
    refine J_aload_n d_Ref_answerCame_128 rfl ?_
    refine F_getR (ci := 12) (k := 35) hG (cf_Ref hw) (fl_Ref_94 hw) (by decide) (by decide) rfl d_Ref_answerCame_129 g7 ?_
    show J _ _ _ _ (va_rf (φ.2.2 x0 35) :: _) _ _ _ _ _ _
    refine J_iload_n d_Ref_answerCame_132 rfl ?_
    obtain ⟨a11, ha11, H⟩ := Option.bind_eq_some_iff.mp H
    rw [j_rf ha11]
    obtain ⟨N12, hN12, H⟩ := Option.bind_eq_some_iff.mp H
    obtain ⟨k13, hk13, H⟩ := Option.bind_eq_some_iff.mp H
    refine F_lald k13 hw hG d_Ref_answerCame_133 (gA_some hN12) (ix_some hk13) ?_
    show J _ _ _ _ (.long (φ.2.1 a11 k13) :: _) _ _ _ _ _ _
    obtain ⟨a14, ha14, H⟩ := Option.bind_eq_some_iff.mp H
    rw [j_rf ha14]
    obtain ⟨N15, hN15, H⟩ := Option.bind_eq_some_iff.mp H
    obtain ⟨k16, hk16, H⟩ := Option.bind_eq_some_iff.mp H
    refine F_last k16 hw hG d_Ref_answerCame_134 (gA_some hN15) (ix_some hk16) ?_
    refine J_aload_n d_Ref_answerCame_135 rfl ?_
    refine F_getR (ci := 12) (k := 30) hG (cf_Ref hw) (fl_Ref_79 hw) (by decide) (by decide) rfl d_Ref_answerCame_136 g7 ?_
    show J _ _ _ _ (va_rf (φ.2.2 x0 30) :: _) _ _ _ _ _ _
    refine J_iload d_Ref_answerCame_139 rfl ?_
    refine J_dup2 d_Ref_answerCame_141 rfl (va_rf_cat _) ?_
    try rw [j_rf ha8]
    obtain ⟨N17, hN17, H⟩ := Option.bind_eq_some_iff.mp H
    obtain ⟨k18, hk18, H⟩ := Option.bind_eq_some_iff.mp H
    refine F_iald k18 hw hG d_Ref_answerCame_142 (gA_some hN17) (ix_some hk18) ?_
    show J _ _ _ _ (.int ((uI φ a4 k6 y0).1 a8 k18) :: _) _ _ _ _ _ _
    refine J_iconst (v := 1) d_Ref_answerCame_143 (by decide) ?_
    refine J_iadd d_Ref_answerCame_144 ?_
    obtain ⟨N19, hN19, H⟩ := Option.bind_eq_some_iff.mp H
    obtain ⟨k20, hk20, H⟩ := Option.bind_eq_some_iff.mp H
    refine F_iast k20 hw hG d_Ref_answerCame_145 (gA_some hN19) (ix_some hk20) ?_
    refine J_aload_n d_Ref_answerCame_146 rfl ?_
    refine F_getR (ci := 12) (k := 29) hG (cf_Ref hw) (fl_Ref_76 hw) (by decide) (by decide) rfl d_Ref_answerCame_147 g7 ?_
    show J _ _ _ _ (va_rf (φ.2.2 x0 29) :: _) _ _ _ _ _ _
    refine J_iload d_Ref_answerCame_150 rfl ?_
    refine J_aload_n d_Ref_answerCame_152 rfl ?_
    refine F_getR (ci := 12) (k := 30) hG (cf_Ref hw) (fl_Ref_79 hw) (by decide) (by decide) rfl d_Ref_answerCame_153 g7 ?_
    show J _ _ _ _ (va_rf (φ.2.2 x0 30) :: _) _ _ _ _ _ _
    refine J_iload d_Ref_answerCame_156 rfl ?_
    try rw [j_rf ha8]
    obtain ⟨N21, hN21, H⟩ := Option.bind_eq_some_iff.mp H
    obtain ⟨k22, hk22, H⟩ := Option.bind_eq_some_iff.mp H
    refine F_iald k22 hw hG d_Ref_answerCame_158 (gA_some hN21) (ix_some hk22) ?_
    refine J_aload_n d_Ref_answerCame_159 rfl ?_
    refine F_getR (ci := 12) (k := 17) hG (cf_Ref hw) (fl_Ref_39 hw) (by decide) (by decide) rfl d_Ref_answerCame_160 g7 ?_
    show J _ _ _ _ (va_rf (φ.2.2 x0 17) :: _) _ _ _ _ _ _
    refine J_iload d_Ref_answerCame_163 rfl ?_
    obtain ⟨a23, ha23, H⟩ := Option.bind_eq_some_iff.mp H
    rw [j_rf ha23]
    obtain ⟨N24, hN24, H⟩ := Option.bind_eq_some_iff.mp H
    obtain ⟨k25, hk25, H⟩ := Option.bind_eq_some_iff.mp H
    refine F_iald k25 hw hG d_Ref_answerCame_165 (gA_some hN24) (ix_some hk25) ?_
    refine J_icmp_ne (tgt := 176) d_Ref_answerCame_166 (by decide) ?_ ?_
    · intro c26
      rw [if_neg c26] at H
      refine J_iconst (v := -1) d_Ref_answerCame_176 (by decide) ?_
      refine J.drop [false, false, false, false, false, false] rfl ?_
      exact p_Ref_answerCame_L177 hw hG  H
    · intro c26
      rw [if_pos c26] at H
      refine J_aload_n d_Ref_answerCame_169 rfl ?_
      refine F_getI (ci := 12) (k := 6) hG (cf_Ref hw) (fl_Ref_348 hw) (by decide) (by decide) rfl d_Ref_answerCame_170 g7 ?_
      refine J_goto (tgt := 177) d_Ref_answerCame_173 (by decide) ?_
      refine J.drop [false, false, false, false, false, false] rfl ?_
      exact p_Ref_answerCame_L177 hw hG  H
  · intro c31
    rw [if_pos c31] at H
    refine J_aload_n d_Ref_answerCame_99 rfl ?_
    have g27 : Γ x0 = .inr 12 := by
      apply Classical.byContradiction
      intro q9
      rw [if_neg q9] at H
      cases H
    rw [if_pos g27] at H
    refine F_getR (ci := 12) (k := 29) hG (cf_Ref hw) (fl_Ref_76 hw) (by decide) (by decide) rfl d_Ref_answerCame_100 g27 ?_
    show J _ _ _ _ (va_rf (φ.2.2 x0 29) :: _) _ _ _ _ _ _
    refine J_iload d_Ref_answerCame_103 rfl ?_
    refine J_aload_n d_Ref_answerCame_105 rfl ?_
    refine F_getI (ci := 12) (k := 6) hG (cf_Ref hw) (fl_Ref_348 hw) (by decide) (by decide) rfl d_Ref_answerCame_106 g27 ?_
    obtain ⟨a28, ha28, H⟩ := Option.bind_eq_some_iff.mp H
    rw [j_rf ha28]
    obtain ⟨N29, hN29, H⟩ := Option.bind_eq_some_iff.mp H
    obtain ⟨k30, hk30, H⟩ := Option.bind_eq_some_iff.mp H
    refine F_iast k30 hw hG d_Ref_answerCame_109 (gA_some hN29) (ix_some hk30) ?_
    have H := Option.some.inj H
    subst H
    exact J_vret (st := []) d_Ref_answerCame_110 rfl ⟨rfl, rfl, rfl⟩
def f_Ref_answerCame_L38 (Γ : gm_T)  (φ : ph_T) (x0 : Nat) (x2 : Int32) (x3 : Int32) (y0 : Int32) (y1 : Int32) (y2 : Int32) (y3 : Nat) : Option (Unit × ph_T) :=
  @ite _ (Γ y3 = .inr 12) _ (
  Option.bind (f_Ref_answered Γ φ y3 y2 y1 y0) fun q33 =>
  if q33.1 = (-1 : Int32) then
    some ((), q33.2)
  else
    @ite _ (Γ x0 = .inr 12) _ (
    Option.bind (q33.2.2.2 x0 36) fun a35 =>
    Option.bind (gA Γ a35 0) fun N36 =>
    Option.bind (ix x3 N36) fun k37 =>
    Option.bind (q33.2.2.2 x0 31) fun a38 =>
    Option.bind (gA Γ a38 0) fun N39 =>
    Option.bind (ix q33.1 N39) fun k40 =>
    if (((q33.2.1 a35 k37) >>> ((6 : Int32) &&& 31)) &&& (3 : Int32)) ≤ (q33.2.1 a38 k40) then
      Option.bind (gA Γ a38 0) fun N41 =>
      Option.bind (ix q33.1 N41) fun k42 =>
      f_Ref_answerCame_L93 Γ  q33.2 x0 x2 x3 q33.1 (q33.2.1 a38 k42) q33.1 (some a38)
    else
      f_Ref_answerCame_L93 Γ  q33.2 x0 x2 x3 q33.1 (((q33.2.1 a35 k37) >>> ((6 : Int32) &&& 31)) &&& (3 : Int32)) q33.1 (some a38)
    ) none
  ) none
set_option maxRecDepth 100000 in
set_option maxHeartbeats 4000000 in
theorem p_Ref_answerCame_L38 {w : jw_T} (hw : jok w) {Γ : gm_T} {n : Nat} (hG : gd w Γ n)  {x : Bool} {φ : ph_T} {x0 : Nat} {x2 : Int32} {x3 : Int32} {y0 : Int32} {y1 : Int32} {y2 : Int32} {y3 : Nat} {q : Unit × ph_T} (H : f_Ref_answerCame_L38 Γ  φ x0 x2 x3 y0 y1 y2 y3 = some q) : J w M_Ref_answerCame 38 [some (.ref x0), none, some (.int x2), some (.int x3), none, none] [.int y0, .int y1, .int y2, .ref y3] (pic Γ φ) n x 0 0 (fq Γ n (.inl none) q.2) := by
  unfold f_Ref_answerCame_L38 at H
  have g32 : Γ y3 = .inr 12 := by
    apply Classical.byContradiction
    intro q9
    rw [if_neg q9] at H
    cases H
  rw [if_pos g32] at H
  obtain ⟨q33, hq33, H⟩ := Option.bind_eq_some_iff.mp H
  refine J_callV (kc := 0) (ks := 0) (kc' := 0) (ks' := 0) (a := y3) (ci := 12) (as := [.int y2, .int y1, .int y0]) (st := []) (mf_Ref_answered hw) (mv_Ref_476 hw) d_Ref_answerCame_38 ln_Ref_answered (by decide) (by first | exact Nat.le_of_ble_eq_true rfl | (simp only [List.map_cons, List.map_nil, List.sum_cons, List.sum_nil, va_rf_cat]; exact Nat.le_of_ble_eq_true rfl)) rfl ((hG _).1 _ g32 (by decide)).1 ((hG _).1 _ g32 (by decide)).2 (by unfold pic; rw [g32]; rfl) (jcl_at hw rfl) rfl (p_Ref_answered hw hG hq33) ?_ (fun E h' n' x' e1 => by cases e1.1)
  intro v9 h9 n9 x9 e9
  obtain ⟨e91, e92, e93⟩ := e9
  cases e91
  subst e92
  subst e93
  clear x
  rename Bool => x
  show J _ _ _ _ (_ :: _) _ _ _ _ _ _
  refine J_istore d_Ref_answerCame_41 (Nat.le_of_ble_eq_true rfl) ?_
  refine J.ls (ls' := [some (.ref x0), none, some (.int x2), some (.int x3), some (.int q33.1), none]) rfl ?_
  refine J_iload d_Ref_answerCame_43 rfl ?_
  refine J_iconst (v := -1) d_Ref_answerCame_45 (by decide) ?_
  refine J_icmp_ne (tgt := 50) d_Ref_answerCame_46 (by decide) ?_ ?_
  · intro c44
    rw [if_neg c44] at H
    refine J_aload_n d_Ref_answerCame_50 rfl ?_
    have g34 : Γ x0 = .inr 12 := by
      apply Classical.byContradiction
      intro q9
      rw [if_neg q9] at H
      cases H
    rw [if_pos g34] at H
    refine F_getR (ci := 12) (k := 36) hG (cf_Ref hw) (fl_Ref_97 hw) (by decide) (by decide) rfl d_Ref_answerCame_51 g34 ?_
    refine J_iload_n d_Ref_answerCame_54 rfl ?_
    obtain ⟨a35, ha35, H⟩ := Option.bind_eq_some_iff.mp H
    rw [j_rf ha35]
    obtain ⟨N36, hN36, H⟩ := Option.bind_eq_some_iff.mp H
    obtain ⟨k37, hk37, H⟩ := Option.bind_eq_some_iff.mp H
    refine F_iald k37 hw hG d_Ref_answerCame_55 (gA_some hN36) (ix_some hk37) ?_
    refine J_bipush (v := 6) d_Ref_answerCame_56 (by decide) ?_
    refine J_ishr d_Ref_answerCame_58 ?_
    refine J_iconst (v := 3) d_Ref_answerCame_59 (by decide) ?_
    refine J_iand d_Ref_answerCame_60 ?_
    refine J_istore d_Ref_answerCame_61 (Nat.le_of_ble_eq_true rfl) ?_
    refine J.ls (ls' := [some (.ref x0), none, some (.int x2), some (.int x3), some (.int q33.1), some (.int (((q33.2.1 a35 k37) >>> ((6 : Int32) &&& 31)) &&& (3 : Int32)))]) rfl ?_
    refine J_aload_n d_Ref_answerCame_63 rfl ?_
    refine F_getR (ci := 12) (k := 31) hG (cf_Ref hw) (fl_Ref_82 hw) (by decide) (by decide) rfl d_Ref_answerCame_64 g34 ?_
    refine J_iload d_Ref_answerCame_67 rfl ?_
    refine J_iload d_Ref_answerCame_69 rfl ?_
    refine J_aload_n d_Ref_answerCame_71 rfl ?_
    refine F_getR (ci := 12) (k := 31) hG (cf_Ref hw) (fl_Ref_82 hw) (by decide) (by decide) rfl d_Ref_answerCame_72 g34 ?_
    refine J_iload d_Ref_answerCame_75 rfl ?_
    obtain ⟨a38, ha38, H⟩ := Option.bind_eq_some_iff.mp H
    rw [j_rf ha38]
    obtain ⟨N39, hN39, H⟩ := Option.bind_eq_some_iff.mp H
    obtain ⟨k40, hk40, H⟩ := Option.bind_eq_some_iff.mp H
    refine F_iald k40 hw hG d_Ref_answerCame_77 (gA_some hN39) (ix_some hk40) ?_
    refine J_icmp_le (tgt := 86) d_Ref_answerCame_78 (by decide) ?_ ?_
    · intro c43
      rw [if_pos c43] at H
      refine J_aload_n d_Ref_answerCame_86 rfl ?_
      refine F_getR (ci := 12) (k := 31) hG (cf_Ref hw) (fl_Ref_82 hw) (by decide) (by decide) rfl d_Ref_answerCame_87 g34 ?_
      refine J_iload d_Ref_answerCame_90 rfl ?_
      try rw [j_rf ha38]
      obtain ⟨N41, hN41, H⟩ := Option.bind_eq_some_iff.mp H
      obtain ⟨k42, hk42, H⟩ := Option.bind_eq_some_iff.mp H
      refine F_iald k42 hw hG d_Ref_answerCame_92 (gA_some hN41) (ix_some hk42) ?_
      refine J.drop [true, false, true, true, true, false] rfl ?_
      exact p_Ref_answerCame_L93 hw hG  H
    · intro c43
      rw [if_neg c43] at H
      refine J_iload d_Ref_answerCame_81 rfl ?_
      refine J_goto (tgt := 93) d_Ref_answerCame_83 (by decide) ?_
      refine J.drop [true, false, true, true, true, false] rfl ?_
      exact p_Ref_answerCame_L93 hw hG  H
  · intro c44
    rw [if_pos c44] at H
    have H := Option.some.inj H
    subst H
    exact J_vret (st := []) d_Ref_answerCame_49 rfl ⟨rfl, rfl, rfl⟩
def f_Ref_answerCame (Γ : gm_T) (φ : ph_T) (this : Nat) (p0 : Int32) (p1 : Int32) : Option (Unit × ph_T) :=
  @ite _ (Γ this = .inr 12) _ (
  Option.bind (f_Ref_rowOf Γ φ this (0 : Int32) p0 p1) fun q46 =>
  Option.bind (f_Ref_take Γ q46.2 this q46.1) fun q47 =>
  Option.bind (q47.2.2.2 this 36) fun a48 =>
  Option.bind (gA Γ a48 0) fun N49 =>
  Option.bind (ix (((5 : Int32) * p0) + p1) N49) fun k50 =>
  if p1 = (2 : Int32) then
    f_Ref_answerCame_L38 Γ  q47.2 this p1 (((5 : Int32) * p0) + p1) (1 : Int32) ((q47.2.1 a48 k50) &&& (63 : Int32)) p0 this
  else
    f_Ref_answerCame_L38 Γ  q47.2 this p1 (((5 : Int32) * p0) + p1) (0 : Int32) ((q47.2.1 a48 k50) &&& (63 : Int32)) p0 this
  ) none
set_option maxRecDepth 100000 in
set_option maxHeartbeats 4000000 in
theorem p_Ref_answerCame {w : jw_T} (hw : jok w) {Γ : gm_T} {n : Nat} (hG : gd w Γ n) {x : Bool} {φ : ph_T} {this : Nat} {p0 : Int32} {p1 : Int32} {q : Unit × ph_T} (H : f_Ref_answerCame Γ φ this p0 p1 = some q) : jc w M_Ref_answerCame [.ref this, .int p0, .int p1] (pic Γ φ) n x 0 0 (fq Γ n (.inl none) q.2) := by
  refine jc.of (by simp only [jent_r, jent_i, jent_l, jent_a, jent_0]; exact Nat.le_of_ble_eq_true rfl) ?_
  have hls : jents [.ref this, .int p0, .int p1] (jm_nL M_Ref_answerCame) = [some (.ref this), some (.int p0), some (.int p1), none, none, none] := by simp only [jents, jent_r, jent_i, jent_l, jent_a, jent_0]; rfl
  rw [hls]
  clear hls
  unfold f_Ref_answerCame at H
  refine J_iconst (v := 5) d_Ref_answerCame_0 (by decide) ?_
  refine J_iload_n d_Ref_answerCame_1 rfl ?_
  refine J_imul d_Ref_answerCame_2 ?_
  refine J_iload_n d_Ref_answerCame_3 rfl ?_
  refine J_iadd d_Ref_answerCame_4 ?_
  refine J_istore_n d_Ref_answerCame_5 (Nat.le_of_ble_eq_true rfl) ?_
  refine J.ls (ls' := [some (.ref this), some (.int p0), some (.int p1), some (.int (((5 : Int32) * p0) + p1)), none, none]) rfl ?_
  refine J_aload_n d_Ref_answerCame_6 rfl ?_
  refine J_aload_n d_Ref_answerCame_7 rfl ?_
  refine J_iconst (v := 0) d_Ref_answerCame_8 (by decide) ?_
  refine J_iload_n d_Ref_answerCame_9 rfl ?_
  refine J_iload_n d_Ref_answerCame_10 rfl ?_
  have g45 : Γ this = .inr 12 := by
    apply Classical.byContradiction
    intro q9
    rw [if_neg q9] at H
    cases H
  rw [if_pos g45] at H
  obtain ⟨q46, hq46, H⟩ := Option.bind_eq_some_iff.mp H
  refine J_callV (kc := 0) (ks := 0) (kc' := 0) (ks' := 0) (a := this) (ci := 12) (as := [.int (0 : Int32), .int p0, .int p1]) (st := [.ref this]) (mf_Ref_rowOf hw) (mv_Ref_388 hw) d_Ref_answerCame_11 ln_Ref_rowOf (by decide) (by first | exact Nat.le_of_ble_eq_true rfl | (simp only [List.map_cons, List.map_nil, List.sum_cons, List.sum_nil, va_rf_cat]; exact Nat.le_of_ble_eq_true rfl)) rfl ((hG _).1 _ g45 (by decide)).1 ((hG _).1 _ g45 (by decide)).2 (by unfold pic; rw [g45]; rfl) (jcl_at hw rfl) rfl (p_Ref_rowOf hw hG hq46) ?_ (fun E h' n' x' e1 => by cases e1.1)
  intro v9 h9 n9 x9 e9
  obtain ⟨e91, e92, e93⟩ := e9
  cases e91
  subst e92
  subst e93
  clear x
  rename Bool => x
  show J _ _ _ _ (_ :: _) _ _ _ _ _ _
  obtain ⟨q47, hq47, H⟩ := Option.bind_eq_some_iff.mp H
  refine J_callV (kc := 0) (ks := 0) (kc' := 0) (ks' := 0) (a := this) (ci := 12) (as := [.int q46.1]) (st := []) (mf_Ref_take hw) (mv_Ref_473 hw) d_Ref_answerCame_14 ln_Ref_take (by decide) (by first | exact Nat.le_of_ble_eq_true rfl | (simp only [List.map_cons, List.map_nil, List.sum_cons, List.sum_nil, va_rf_cat]; exact Nat.le_of_ble_eq_true rfl)) rfl ((hG _).1 _ g45 (by decide)).1 ((hG _).1 _ g45 (by decide)).2 (by unfold pic; rw [g45]; rfl) (jcl_at hw rfl) rfl (p_Ref_take hw hG hq47) ?_ (fun E h' n' x' e1 => by cases e1.1)
  intro v9 h9 n9 x9 e9
  obtain ⟨e91, e92, e93⟩ := e9
  cases e91
  subst e92
  subst e93
  clear x
  rename Bool => x
  show J _ _ _ _ [] _ _ _ _ _ _
  refine J_aload_n d_Ref_answerCame_17 rfl ?_
  refine J_iload_n d_Ref_answerCame_18 rfl ?_
  refine J_aload_n d_Ref_answerCame_19 rfl ?_
  refine F_getR (ci := 12) (k := 36) hG (cf_Ref hw) (fl_Ref_97 hw) (by decide) (by decide) rfl d_Ref_answerCame_20 g45 ?_
  refine J_iload_n d_Ref_answerCame_23 rfl ?_
  obtain ⟨a48, ha48, H⟩ := Option.bind_eq_some_iff.mp H
  rw [j_rf ha48]
  obtain ⟨N49, hN49, H⟩ := Option.bind_eq_some_iff.mp H
  obtain ⟨k50, hk50, H⟩ := Option.bind_eq_some_iff.mp H
  refine F_iald k50 hw hG d_Ref_answerCame_24 (gA_some hN49) (ix_some hk50) ?_
  refine J_bipush (v := 63) d_Ref_answerCame_25 (by decide) ?_
  refine J_iand d_Ref_answerCame_27 ?_
  refine J_iload_n d_Ref_answerCame_28 rfl ?_
  refine J_iconst (v := 2) d_Ref_answerCame_29 (by decide) ?_
  refine J_icmp_ne (tgt := 37) d_Ref_answerCame_30 (by decide) ?_ ?_
  · intro c51
    rw [if_neg c51] at H
    refine J_iconst (v := 0) d_Ref_answerCame_37 (by decide) ?_
    refine J.drop [true, false, true, true, false, false] rfl ?_
    exact p_Ref_answerCame_L38 hw hG  H
  · intro c51
    rw [if_pos c51] at H
    refine J_iconst (v := 1) d_Ref_answerCame_33 (by decide) ?_
    refine J_goto (tgt := 38) d_Ref_answerCame_34 (by decide) ?_
    refine J.drop [true, false, true, true, false, false] rfl ?_
    exact p_Ref_answerCame_L38 hw hG  H
