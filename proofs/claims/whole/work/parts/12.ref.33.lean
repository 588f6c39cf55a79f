theorem ln_Ref_right : (parseMethodDescriptor y_Ref_right.desc).map (fun q => q.parameters.length) = some 2 := by decide +kernel
def f_Ref_right_L63 (Γ : gm_T)  (φ : ph_T) (y0 : Int32) : Option (Int32 × ph_T) :=
  some (y0, φ)
set_option maxRecDepth 100000 in
set_option maxHeartbeats 4000000 in
theorem p_Ref_right_L63 {w : jw_T} (hw : jok w) {Γ : gm_T} {n : Nat} (hG : gd w Γ n)  {x : Bool} {φ : ph_T} {y0 : Int32} {q : Int32 × ph_T} (H : f_Ref_right_L63 Γ  φ y0 = some q) : J w M_Ref_right 63 [none, none, none] [.int y0] (pic Γ φ) n x 0 0 (fq Γ n (.inl (some (.int q.1))) q.2) := by
  unfold f_Ref_right_L63 at H
  have H := Option.some.inj H
  subst H
  exact J_iret (st := []) d_Ref_right_63 rfl rfl ⟨rfl, rfl, rfl⟩
def f_Ref_right_L38 (Γ : gm_T)  (φ : ph_T) (x0 : Nat) (x1 : Int32) (x2 : Int32) (y0 : Int32) (y1 : Nat) : Option (Int32 × ph_T) :=
  @ite _ (Γ y1 = .inr 12) _ (
  @ite _ (Γ x0 = .inr 12) _ (
  if ((uI φ y1 0 y0).1 x0 0) ≤ 0 then
    Option.bind (φ.2.2 x0 80) fun a3 =>
    Option.bind (gA Γ a3 0) fun N4 =>
    Option.bind (ix (((64 : Int32) * x1) + x2) N4) fun k5 =>
    f_Ref_right_L63 Γ  (uI φ y1 0 y0) ((uI φ y1 0 y0).1 a3 k5)
  else
    f_Ref_right_L63 Γ  (uI φ y1 0 y0) (0 : Int32)
  ) none
  ) none
set_option maxRecDepth 100000 in
set_option maxHeartbeats 4000000 in
theorem p_Ref_right_L38 {w : jw_T} (hw : jok w) {Γ : gm_T} {n : Nat} (hG : gd w Γ n)  {x : Bool} {φ : ph_T} {x0 : Nat} {x1 : Int32} {x2 : Int32} {y0 : Int32} {y1 : Nat} {q : Int32 × ph_T} (H : f_Ref_right_L38 Γ  φ x0 x1 x2 y0 y1 = some q) : J w M_Ref_right 38 [some (.ref x0), some (.int x1), some (.int x2)] [.int y0, .ref y1] (pic Γ φ) n x 0 0 (fq Γ n (.inl (some (.int q.1))) q.2) := by
  unfold f_Ref_right_L38 at H
  have g1 : Γ y1 = .inr 12 := by
    apply Classical.byContradiction
    intro q9
    rw [if_neg q9] at H
    cases H
  rw [if_pos g1] at H
  refine F_putI (ci := 12) (k := 0) hG (cf_Ref hw) (fl_Ref_303 hw) (by decide) (by decide) rfl d_Ref_right_38 rfl rfl rfl g1 ?_
  refine J_aload_n d_Ref_right_41 rfl ?_
  have g2 : Γ x0 = .inr 12 := by
    apply Classical.byContradiction
    intro q9
    rw [if_neg q9] at H
    cases H
  rw [if_pos g2] at H
  refine F_getI (ci := 12) (k := 0) hG (cf_Ref hw) (fl_Ref_303 hw) (by decide) (by decide) rfl d_Ref_right_42 g2 ?_
  refine J_if_le (tgt := 52) d_Ref_right_45 (by decide) ?_ ?_
  · intro c6
    rw [if_pos c6] at H
    refine J_aload_n d_Ref_right_52 rfl ?_
    refine F_getR (ci := 12) (k := 80) hG (cf_Ref hw) (fl_Ref_220 hw) (by decide) (by decide) rfl d_Ref_right_53 g2 ?_
    show J _ _ _ _ (va_rf (φ.2.2 x0 80) :: _) _ _ _ _ _ _
    refine J_bipush (v := 64) d_Ref_right_56 (by decide) ?_
    refine J_iload_n d_Ref_right_58 rfl ?_
    refine J_imul d_Ref_right_59 ?_
    refine J_iload_n d_Ref_right_60 rfl ?_
    refine J_iadd d_Ref_right_61 ?_
    obtain ⟨a3, ha3, H⟩ := Option.bind_eq_some_iff.mp H
    rw [j_rf ha3]
    obtain ⟨N4, hN4, H⟩ := Option.bind_eq_some_iff.mp H
    obtain ⟨k5, hk5, H⟩ := Option.bind_eq_some_iff.mp H
    refine F_iald k5 hw hG d_Ref_right_62 (gA_some hN4) (ix_some hk5) ?_
    refine J.drop [false, false, false] rfl ?_
    exact p_Ref_right_L63 hw hG  H
  · intro c6
    rw [if_neg c6] at H
    refine J_iconst (v := 0) d_Ref_right_48 (by decide) ?_
    refine J_goto (tgt := 63) d_Ref_right_49 (by decide) ?_
    refine J.drop [false, false, false] rfl ?_
    exact p_Ref_right_L63 hw hG  H
def f_Ref_right (Γ : gm_T) (φ : ph_T) (this : Nat) (p0 : Int32) (p1 : Int32) : Option (Int32 × ph_T) :=
  @ite _ (Γ this = .inr 12) _ (
  Option.bind (f_Ref_in Γ φ (Int32.toInt64 p0) (0 : Int64) ((Int32.toInt64 (φ.1 this 2)) - (1 : Int64))) fun q8 =>
  if q8.1 = 0 then
    f_Ref_right_L38 Γ  q8.2 this p0 p1 (1 : Int32) this
  else
    Option.bind (f_Ref_in Γ q8.2 (Int32.toInt64 p1) (0 : Int64) (63 : Int64)) fun q9 =>
    if q9.1 = 0 then
      f_Ref_right_L38 Γ  q9.2 this p0 p1 (2 : Int32) this
    else
      f_Ref_right_L38 Γ  q9.2 this p0 p1 (0 : Int32) this
  ) none
set_option maxRecDepth 100000 in
set_option maxHeartbeats 4000000 in
theorem p_Ref_right {w : jw_T} (hw : jok w) {Γ : gm_T} {n : Nat} (hG : gd w Γ n) {x : Bool} {φ : ph_T} {this : Nat} {p0 : Int32} {p1 : Int32} {q : Int32 × ph_T} (H : f_Ref_right Γ φ this p0 p1 = some q) : jc w M_Ref_right [.ref this, .int p0, .int p1] (pic Γ φ) n x 0 0 (fq Γ n (.inl (some (.int q.1))) q.2) := by
  refine jc.of (by simp only [jent_r, jent_i, jent_l, jent_a, jent_0]; exact Nat.le_of_ble_eq_true rfl) ?_
  have hls : jents [.ref this, .int p0, .int p1] (jm_nL M_Ref_right) = [some (.ref this), some (.int p0), some (.int p1)] := by simp only [jents, jent_r, jent_i, jent_l, jent_a, jent_0]; rfl
  rw [hls]
  clear hls
  unfold f_Ref_right at H
  refine J_aload_n d_Ref_right_0 rfl ?_
  refine J_iload_n d_Ref_right_1 rfl ?_
  refine J_i2l d_Ref_right_2 ?_
  refine J_lconst (v := 0) d_Ref_right_3 (by decide) ?_
  refine J_aload_n d_Ref_right_4 rfl ?_
  have g7 : Γ this = .inr 12 := by
    apply Classical.byContradiction
    intro q9
    rw [if_neg q9] at H
    cases H
  rw [if_pos g7] at H
  refine F_getI (ci := 12) (k := 2) hG (cf_Ref hw) (fl_Ref_294 hw) (by decide) (by decide) rfl d_Ref_right_5 g7 ?_
  refine J_i2l d_Ref_right_8 ?_
  refine J_lconst (v := 1) d_Ref_right_9 (by decide) ?_
  refine J_lsub d_Ref_right_10 ?_
  obtain ⟨q8, hq8, H⟩ := Option.bind_eq_some_iff.mp H
  refine J_callS (kc := 0) (ks := 0) (kc' := 0) (ks' := 0) (as := [.long (Int32.toInt64 p0), .long (0 : Int64), .long ((Int32.toInt64 (φ.1 this 2)) - (1 : Int64))]) (st := [.ref this]) (mf_Ref_in hw) (ms_Ref_599 hw) d_Ref_right_11 ln_Ref_in (by decide) (by first | exact Nat.le_of_ble_eq_true rfl | (simp only [List.map_cons, List.map_nil, List.sum_cons, List.sum_nil, va_rf_cat]; exact Nat.le_of_ble_eq_true rfl)) rfl (p_Ref_in hw hG hq8) ?_ (fun E h' n' x' e1 => by cases e1.1)
  intro v9 h9 n9 x9 e9
  obtain ⟨e91, e92, e93⟩ := e9
  cases e91
  subst e92
  subst e93
  clear x
  rename Bool => x
  show J _ _ _ _ (_ :: _) _ _ _ _ _ _
  refine J_if_ne (tgt := 21) d_Ref_right_14 (by decide) ?_ ?_
  · intro c11
    rw [if_neg c11] at H
    refine J_iload_n d_Ref_right_21 rfl ?_
    refine J_i2l d_Ref_right_22 ?_
    refine J_lconst (v := 0) d_Ref_right_23 (by decide) ?_
    refine J_ldc2 (v := 63) d_Ref_right_24 (kn_Ref_306 hw) ?_
    obtain ⟨q9, hq9, H⟩ := Option.bind_eq_some_iff.mp H
    refine J_callS (kc := 0) (ks := 0) (kc' := 0) (ks' := 0) (as := [.long (Int32.toInt64 p1), .long (0 : Int64), .long (63 : Int64)]) (st := [.ref this]) (mf_Ref_in hw) (ms_Ref_599 hw) d_Ref_right_27 ln_Ref_in (by decide) (by first | exact Nat.le_of_ble_eq_true rfl | (simp only [List.map_cons, List.map_nil, List.sum_cons, List.sum_nil, va_rf_cat]; exact Nat.le_of_ble_eq_true rfl)) rfl (p_Ref_in hw hG hq9) ?_ (fun E h' n' x' e1 => by cases e1.1)
    intro v9 h9 n9 x9 e9
    obtain ⟨e91, e92, e93⟩ := e9
    cases e91
    subst e92
    subst e93
    clear x
    rename Bool => x
    show J _ _ _ _ (_ :: _) _ _ _ _ _ _
    refine J_if_ne (tgt := 37) d_Ref_right_30 (by decide) ?_ ?_
    · intro c10
      rw [if_neg c10] at H
      refine J_iconst (v := 0) d_Ref_right_37 (by decide) ?_
      refine J.drop [true, true, true] rfl ?_
      exact p_Ref_right_L38 hw hG  H
    · intro c10
      rw [if_pos c10] at H
      refine J_iconst (v := 2) d_Ref_right_33 (by decide) ?_
      refine J_goto (tgt := 38) d_Ref_right_34 (by decide) ?_
      refine J.drop [true, true, true] rfl ?_
      exact p_Ref_right_L38 hw hG  H
  · intro c11
    rw [if_pos c11] at H
    refine J_iconst (v := 1) d_Ref_right_17 (by decide) ?_
    refine J_goto (tgt := 38) d_Ref_right_18 (by decide) ?_
    refine J.drop [true, true, true] rfl ?_
    exact p_Ref_right_L38 hw hG  H
theorem ln_Ref_told : (parseMethodDescriptor y_Ref_told.desc).map (fun q => q.parameters.length) = some 1 := by decide +kernel
def f_Ref_told (Γ : gm_T) (φ : ph_T) (this : Nat) (p0 : Int32) : Option (Int32 × ph_T) :=
  @ite _ (Γ this = .inr 12) _ (
  if p0 = 0 then
    some (((uI φ this 0 (0 : Int32)).1 this 6), (uI φ this 0 (0 : Int32)))
  else
    if p0 = 1 then
      some (((uI φ this 0 (0 : Int32)).1 this 15), (uI φ this 0 (0 : Int32)))
    else
      if p0 = 2 then
        Option.bind (f_Ref_open Γ (uI φ this 0 (0 : Int32)) this) fun q2 =>
        some (q2.1, q2.2)
      else
        if p0 = 3 then
          some (((uI φ this 0 (0 : Int32)).1 this 1), (uI φ this 0 (0 : Int32)))
        else
          if p0 = 4 then
            some (((uI φ this 0 (0 : Int32)).1 this 2), (uI φ this 0 (0 : Int32)))
          else
            if p0 = 5 then
              some (((uI φ this 0 (0 : Int32)).1 this 3), (uI φ this 0 (0 : Int32)))
            else
              if p0 = 6 then
                some (((uI φ this 0 (0 : Int32)).1 this 4), (uI φ this 0 (0 : Int32)))
              else
                some ((-1 : Int32), (uI φ this 0 (0 : Int32)))
  ) none
set_option maxRecDepth 100000 in
set_option maxHeartbeats 4000000 in
theorem p_Ref_told {w : jw_T} (hw : jok w) {Γ : gm_T} {n : Nat} (hG : gd w Γ n) {x : Bool} {φ : ph_T} {this : Nat} {p0 : Int32} {q : Int32 × ph_T} (H : f_Ref_told Γ φ this p0 = some q) : jc w M_Ref_told [.ref this, .int p0] (pic Γ φ) n x 0 0 (fq Γ n (.inl (some (.int q.1))) q.2) := by
  refine jc.of (by simp only [jent_r, jent_i, jent_l, jent_a, jent_0]; exact Nat.le_of_ble_eq_true rfl) ?_
  have hls : jents [.ref this, .int p0] (jm_nL M_Ref_told) = [some (.ref this), some (.int p0)] := by simp only [jents, jent_r, jent_i, jent_l, jent_a, jent_0]; rfl
  rw [hls]
  clear hls
  unfold f_Ref_told at H
  refine J_aload_n d_Ref_told_0 rfl ?_
  refine J_iconst (v := 0) d_Ref_told_1 (by decide) ?_
  have g1 : Γ this = .inr 12 := by
    apply Classical.byContradiction
    intro q9
    rw [if_neg q9] at H
    cases H
  rw [if_pos g1] at H
  refine F_putI (ci := 12) (k := 0) hG (cf_Ref hw) (fl_Ref_303 hw) (by decide) (by decide) rfl d_Ref_told_2 rfl rfl rfl g1 ?_
  refine J_iload_n d_Ref_told_5 rfl ?_
  by_cases c3 : p0 = 0
  · rw [if_pos c3] at H
    refine J_table (off := 42) (tgt := 48) d_Ref_told_6 (by rw [c3]; decide) (by decide) ?_
    refine J_aload_n d_Ref_told_48 rfl ?_
    refine F_getI (ci := 12) (k := 6) hG (cf_Ref hw) (fl_Ref_348 hw) (by decide) (by decide) rfl d_Ref_told_49 g1 ?_
    have H := Option.some.inj H
    subst H
    exact J_iret (st := []) d_Ref_told_52 rfl rfl ⟨rfl, rfl, rfl⟩
  · rw [if_neg c3] at H
    by_cases c4 : p0 = 1
    · rw [if_pos c4] at H
      refine J_table (off := 47) (tgt := 53) d_Ref_told_6 (by rw [c4]; decide) (by decide) ?_
      refine J_aload_n d_Ref_told_53 rfl ?_
      refine F_getI (ci := 12) (k := 15) hG (cf_Ref hw) (fl_Ref_337 hw) (by decide) (by decide) rfl d_Ref_told_54 g1 ?_
      have H := Option.some.inj H
      subst H
      exact J_iret (st := []) d_Ref_told_57 rfl rfl ⟨rfl, rfl, rfl⟩
    · rw [if_neg c4] at H
      by_cases c5 : p0 = 2
      · rw [if_pos c5] at H
        refine J_table (off := 52) (tgt := 58) d_Ref_told_6 (by rw [c5]; decide) (by decide) ?_
        refine J_aload_n d_Ref_told_58 rfl ?_
        obtain ⟨q2, hq2, H⟩ := Option.bind_eq_some_iff.mp H
        refine J_callV (kc := 0) (ks := 0) (kc' := 0) (ks' := 0) (a := this) (ci := 12) (as := []) (st := []) (mf_Ref_open hw) (mv_Ref_605 hw) d_Ref_told_59 ln_Ref_open (by decide) (by first | exact Nat.le_of_ble_eq_true rfl | (simp only [List.map_cons, List.map_nil, List.sum_cons, List.sum_nil, va_rf_cat]; exact Nat.le_of_ble_eq_true rfl)) rfl ((hG _).1 _ g1 (by decide)).1 ((hG _).1 _ g1 (by decide)).2 (by unfold pic; rw [g1]; rfl) (jcl_at hw rfl) rfl (p_Ref_open hw hG hq2) ?_ (fun E h' n' x' e1 => by cases e1.1)
        intro v9 h9 n9 x9 e9
        obtain ⟨e91, e92, e93⟩ := e9
        cases e91
        subst e92
        subst e93
        clear x
        rename Bool => x
        show J _ _ _ _ (_ :: _) _ _ _ _ _ _
        have H := Option.some.inj H
        subst H
        exact J_iret (st := []) d_Ref_told_62 rfl rfl ⟨rfl, rfl, rfl⟩
      · rw [if_neg c5] at H
        by_cases c6 : p0 = 3
        · rw [if_pos c6] at H
          refine J_table (off := 57) (tgt := 63) d_Ref_told_6 (by rw [c6]; decide) (by decide) ?_
          refine J_aload_n d_Ref_told_63 rfl ?_
          refine F_getI (ci := 12) (k := 1) hG (cf_Ref hw) (fl_Ref_290 hw) (by decide) (by decide) rfl d_Ref_told_64 g1 ?_
          have H := Option.some.inj H
          subst H
          exact J_iret (st := []) d_Ref_told_67 rfl rfl ⟨rfl, rfl, rfl⟩
        · rw [if_neg c6] at H
          by_cases c7 : p0 = 4
          · rw [if_pos c7] at H
            refine J_table (off := 62) (tgt := 68) d_Ref_told_6 (by rw [c7]; decide) (by decide) ?_
            refine J_aload_n d_Ref_told_68 rfl ?_
            refine F_getI (ci := 12) (k := 2) hG (cf_Ref hw) (fl_Ref_294 hw) (by decide) (by decide) rfl d_Ref_told_69 g1 ?_
            have H := Option.some.inj H
            subst H
            exact J_iret (st := []) d_Ref_told_72 rfl rfl ⟨rfl, rfl, rfl⟩
          · rw [if_neg c7] at H
            by_cases c8 : p0 = 5
            · rw [if_pos c8] at H
              refine J_table (off := 67) (tgt := 73) d_Ref_told_6 (by rw [c8]; decide) (by decide) ?_
              refine J_aload_n d_Ref_told_73 rfl ?_
              refine F_getI (ci := 12) (k := 3) hG (cf_Ref hw) (fl_Ref_297 hw) (by decide) (by decide) rfl d_Ref_told_74 g1 ?_
              have H := Option.some.inj H
              subst H
              exact J_iret (st := []) d_Ref_told_77 rfl rfl ⟨rfl, rfl, rfl⟩
            · rw [if_neg c8] at H
              by_cases c9 : p0 = 6
              · rw [if_pos c9] at H
                refine J_table (off := 72) (tgt := 78) d_Ref_told_6 (by rw [c9]; decide) (by decide) ?_
                refine J_aload_n d_Ref_told_78 rfl ?_
                refine F_getI (ci := 12) (k := 4) hG (cf_Ref hw) (fl_Ref_532 hw) (by decide) (by decide) rfl d_Ref_told_79 g1 ?_
                have H := Option.some.inj H
                subst H
                exact J_iret (st := []) d_Ref_told_82 rfl rfl ⟨rfl, rfl, rfl⟩
              · rw [if_neg c9] at H
                refine J_table (off := 77) (tgt := 83) d_Ref_told_6 (by
                    rw [if_pos (by
                      apply Classical.byContradiction
                      intro h9
                      have h8 : (p0).toInt = 0 ∨ (p0).toInt = 1 ∨ (p0).toInt = 2 ∨ (p0).toInt = 3 ∨ (p0).toInt = 4 ∨ (p0).toInt = 5 ∨ (p0).toInt = 6 := by omega
                      rcases h8 with h8 | h8 | h8 | h8 | h8 | h8 | h8
                      · exact c3 (j_inj (by rw [h8]; decide))
                      · exact c4 (j_inj (by rw [h8]; decide))
                      · exact c5 (j_inj (by rw [h8]; decide))
                      · exact c6 (j_inj (by rw [h8]; decide))
                      · exact c7 (j_inj (by rw [h8]; decide))
                      · exact c8 (j_inj (by rw [h8]; decide))
                      · exact c9 (j_inj (by rw [h8]; decide)))]) (by decide) ?_
                refine J_iconst (v := -1) d_Ref_told_83 (by decide) ?_
                have H := Option.some.inj H
                subst H
                exact J_iret (st := []) d_Ref_told_84 rfl rfl ⟨rfl, rfl, rfl⟩
theorem ln_Ref_isWatcher : (parseMethodDescriptor y_Ref_isWatcher.desc).map (fun q => q.parameters.length) = some 1 := by decide +kernel
def f_Ref_isWatcher (Γ : gm_T) (φ : ph_T) (p0 : Int32) : Option (Int32 × ph_T) :=
  Option.bind (f_Ref_in Γ φ (Int32.toInt64 p0) (0 : Int64) (1 : Int64)) fun q1 =>
  @ite _ (q1.1 = 0 ∨ q1.1 = 1) _ (
  some (q1.1, q1.2)
  ) none
set_option maxRecDepth 100000 in
set_option maxHeartbeats 4000000 in
theorem p_Ref_isWatcher {w : jw_T} (hw : jok w) {Γ : gm_T} {n : Nat} (hG : gd w Γ n) {x : Bool} {φ : ph_T} {p0 : Int32} {q : Int32 × ph_T} (H : f_Ref_isWatcher Γ φ p0 = some q) : jc w M_Ref_isWatcher [.int p0] (pic Γ φ) n x 0 0 (fq Γ n (.inl (some (.int q.1))) q.2) := by
  refine jc.of (by simp only [jent_r, jent_i, jent_l, jent_a, jent_0]; exact Nat.le_of_ble_eq_true rfl) ?_
  have hls : jents [.int p0] (jm_nL M_Ref_isWatcher) = [some (.int p0)] := by simp only [jents, jent_r, jent_i, jent_l, jent_a, jent_0]; rfl
  rw [hls]
  clear hls
  unfold f_Ref_isWatcher at H
  refine J_iload_n d_Ref_isWatcher_0 rfl ?_
  refine J_i2l d_Ref_isWatcher_1 ?_
  refine J_lconst (v := 0) d_Ref_isWatcher_2 (by decide) ?_
  refine J_lconst (v := 1) d_Ref_isWatcher_3 (by decide) ?_
  obtain ⟨q1, hq1, H⟩ := Option.bind_eq_some_iff.mp H
  refine J_callS (kc := 0) (ks := 0) (kc' := 0) (ks' := 0) (as := [.long (Int32.toInt64 p0), .long (0 : Int64), .long (1 : Int64)]) (st := []) (mf_Ref_in hw) (ms_Ref_599 hw) d_Ref_isWatcher_4 ln_Ref_in (by decide) (by first | exact Nat.le_of_ble_eq_true rfl | (simp only [List.map_cons, List.map_nil, List.sum_cons, List.sum_nil, va_rf_cat]; exact Nat.le_of_ble_eq_true rfl)) rfl (p_Ref_in hw hG hq1) ?_ (fun E h' n' x' e1 => by cases e1.1)
  intro v9 h9 n9 x9 e9
  obtain ⟨e91, e92, e93⟩ := e9
  cases e91
  subst e92
  subst e93
  clear x
  rename Bool => x
  show J _ _ _ _ (_ :: _) _ _ _ _ _ _
  have z2 : q1.1 = 0 ∨ q1.1 = 1 := by
    apply Classical.byContradiction
    intro q9
    rw [if_neg q9] at H
    cases H
  rw [if_pos z2] at H
  have H := Option.some.inj H
  subst H
  exact J_iret (st := []) d_Ref_isWatcher_7 rfl (narrow_z z2).1 ⟨rfl, rfl, rfl⟩
theorem ln_Ref_see : (parseMethodDescriptor y_Ref_see.desc).map (fun q => q.parameters.length) = some 5 := by decide +kernel
def f_Ref_see_L153 (Γ : gm_T)  (φ : ph_T) (y0 : Int32) (y1 : Int32) (y2 : Option Nat) : Option (Unit × ph_T) :=
  Option.bind y2 fun a2 =>
  Option.bind (gA Γ a2 0) fun N3 =>
  Option.bind (ix y1 N3) fun k4 =>
  some ((), (uI φ a2 k4 y0))
set_option maxRecDepth 100000 in
set_option maxHeartbeats 4000000 in
theorem p_Ref_see_L153 {w : jw_T} (hw : jok w) {Γ : gm_T} {n : Nat} (hG : gd w Γ n)  {x : Bool} {φ : ph_T} {y0 : Int32} {y1 : Int32} {y2 : Option Nat} {q : Unit × ph_T} (H : f_Ref_see_L153 Γ  φ y0 y1 y2 = some q) : J w M_Ref_see 153 [none, none, none, none, none, none, none, none] [.int y0, .int y1, va_rf y2] (pic Γ φ) n x 0 0 (fq Γ n (.inl none) q.2) := by
  unfold f_Ref_see_L153 at H
  obtain ⟨a2, ha2, H⟩ := Option.bind_eq_some_iff.mp H
  rw [j_rf ha2]
  obtain ⟨N3, hN3, H⟩ := Option.bind_eq_some_iff.mp H
  obtain ⟨k4, hk4, H⟩ := Option.bind_eq_some_iff.mp H
  refine F_iast k4 hw hG d_Ref_see_153 (gA_some hN3) (ix_some hk4) ?_
  have H := Option.some.inj H
  subst H
  exact J_vret (st := []) d_Ref_see_154 rfl ⟨rfl, rfl, rfl⟩
def f_Ref_see_L130 (Γ : gm_T)  (φ : ph_T) (x0 : Nat) (x6 : Int32) (x7 : Int32) (y0 : Int64) (y1 : Int32) (y2 : Option Nat) : Option (Unit × ph_T) :=
  Option.bind y2 fun a5 =>
  Option.bind (gA Γ a5 1) fun N6 =>
  Option.bind (ix y1 N6) fun k7 =>
  @ite _ (Γ x0 = .inr 12) _ (
  Option.bind (φ.2.2 x0 98) fun a9 =>
  Option.bind (gA Γ a9 2) fun N10 =>
  Option.bind (ix x7 N10) fun k11 =>
  if (φ.1 a9 k11) = 0 then
    f_Ref_see_L153 Γ  (uL φ a5 k7 y0) (0 : Int32) x7 (φ.2.2 x0 101)
  else
    f_Ref_see_L153 Γ  (uL φ a5 k7 y0) x6 x7 (φ.2.2 x0 101)
  ) none
set_option maxRecDepth 100000 in
set_option maxHeartbeats 4000000 in
theorem p_Ref_see_L130 {w : jw_T} (hw : jok w) {Γ : gm_T} {n : Nat} (hG : gd w Γ n)  {x : Bool} {φ : ph_T} {x0 : Nat} {x6 : Int32} {x7 : Int32} {y0 : Int64} {y1 : Int32} {y2 : Option Nat} {q : Unit × ph_T} (H : f_Ref_see_L130 Γ  φ x0 x6 x7 y0 y1 y2 = some q) : J w M_Ref_see 130 [some (.ref x0), none, none, none, none, none, some (.int x6), some (.int x7)] [.long y0, .int y1, va_rf y2] (pic Γ φ) n x 0 0 (fq Γ n (.inl none) q.2) := by
  unfold f_Ref_see_L130 at H
  obtain ⟨a5, ha5, H⟩ := Option.bind_eq_some_iff.mp H
  rw [j_rf ha5]
  obtain ⟨N6, hN6, H⟩ := Option.bind_eq_some_iff.mp H
  obtain ⟨k7, hk7, H⟩ := Option.bind_eq_some_iff.mp H
  refine F_last k7 hw hG d_Ref_see_130 (gA_some hN6) (ix_some hk7) ?_
  refine J_aload_n d_Ref_see_131 rfl ?_
  have g8 : Γ x0 = .inr 12 := by
    apply Classical.byContradiction
    intro q9
    rw [if_neg q9] at H
    cases H
  rw [if_pos g8] at H
  refine F_getR (ci := 12) (k := 101) hG (cf_Ref hw) (fl_Ref_283 hw) (by decide) (by decide) rfl d_Ref_see_132 g8 ?_
  show J _ _ _ _ (va_rf (φ.2.2 x0 101) :: _) _ _ _ _ _ _
  refine J_iload d_Ref_see_135 rfl ?_
  refine J_aload_n d_Ref_see_137 rfl ?_
  refine F_getR (ci := 12) (k := 98) hG (cf_Ref hw) (fl_Ref_274 hw) (by decide) (by decide) rfl d_Ref_see_138 g8 ?_
  show J _ _ _ _ (va_rf (φ.2.2 x0 98) :: _) _ _ _ _ _ _
  refine J_iload d_Ref_see_141 rfl ?_
  obtain ⟨a9, ha9, H⟩ := Option.bind_eq_some_iff.mp H
  rw [j_rf ha9]
  obtain ⟨N10, hN10, H⟩ := Option.bind_eq_some_iff.mp H
  obtain ⟨k11, hk11, H⟩ := Option.bind_eq_some_iff.mp H
  refine F_zald k11 hw hG d_Ref_see_143 (gA_some hN10) (ix_some hk11) ?_
  show J _ _ _ _ (.int (φ.1 a9 k11) :: _) _ _ _ _ _ _
  refine J_if_eq (tgt := 152) d_Ref_see_144 (by decide) ?_ ?_
  · intro c12
    rw [if_pos c12] at H
    refine J_iconst (v := 0) d_Ref_see_152 (by decide) ?_
    refine J.drop [false, false, false, false, false, false, false, false] rfl ?_
    exact p_Ref_see_L153 hw hG  H
  · intro c12
    rw [if_neg c12] at H
    refine J_iload d_Ref_see_147 rfl ?_
    refine J_goto (tgt := 153) d_Ref_see_149 (by decide) ?_
    refine J.drop [false, false, false, false, false, false, false, false] rfl ?_
    exact p_Ref_see_L153 hw hG  H
def f_Ref_see_L107 (Γ : gm_T)  (φ : ph_T) (x0 : Nat) (x4 : Int64) (x6 : Int32) (x7 : Int32) (y0 : Int32) (y1 : Int32) (y2 : Option Nat) : Option (Unit × ph_T) :=
  Option.bind y2 fun a13 =>
  Option.bind (gA Γ a13 2) fun N14 =>
  Option.bind (ix y1 N14) fun k15 =>
  @ite _ (y0 = 0 ∨ y0 = 1) _ (
  @ite _ (Γ x0 = .inr 12) _ (
  Option.bind (φ.2.2 x0 98) fun a18 =>
  Option.bind (gA Γ a18 2) fun N19 =>
  Option.bind (ix x7 N19) fun k20 =>
  if ((uI φ a13 k15 y0).1 a18 k20) = 0 then
    f_Ref_see_L130 Γ  (uI φ a13 k15 y0) x0 x6 x7 (0 : Int64) x7 (φ.2.2 x0 100)
  else
    f_Ref_see_L130 Γ  (uI φ a13 k15 y0) x0 x6 x7 x4 x7 (φ.2.2 x0 100)
  ) none
  ) none
set_option maxRecDepth 100000 in
set_option maxHeartbeats 4000000 in
theorem p_Ref_see_L107 {w : jw_T} (hw : jok w) {Γ : gm_T} {n : Nat} (hG : gd w Γ n)  {x : Bool} {φ : ph_T} {x0 : Nat} {x4 : Int64} {x6 : Int32} {x7 : Int32} {y0 : Int32} {y1 : Int32} {y2 : Option Nat} {q : Unit × ph_T} (H : f_Ref_see_L107 Γ  φ x0 x4 x6 x7 y0 y1 y2 = some q) : J w M_Ref_see 107 [some (.ref x0), none, none, none, some (.long x4), none, some (.int x6), some (.int x7)] [.int y0, .int y1, va_rf y2] (pic Γ φ) n x 0 0 (fq Γ n (.inl none) q.2) := by
  unfold f_Ref_see_L107 at H
  obtain ⟨a13, ha13, H⟩ := Option.bind_eq_some_iff.mp H
  rw [j_rf ha13]
  obtain ⟨N14, hN14, H⟩ := Option.bind_eq_some_iff.mp H
  obtain ⟨k15, hk15, H⟩ := Option.bind_eq_some_iff.mp H
  have z16 : y0 = 0 ∨ y0 = 1 := by
    apply Classical.byContradiction
    intro q9
    rw [if_neg q9] at H
    cases H
  rw [if_pos z16] at H
  refine F_zast k15 hw hG d_Ref_see_107 (gA_some hN14) (ix_some hk15) z16 ?_
  refine J_aload_n d_Ref_see_108 rfl ?_
  have g17 : Γ x0 = .inr 12 := by
    apply Classical.byContradiction
    intro q9
    rw [if_neg q9] at H
    cases H
  rw [if_pos g17] at H
  refine F_getR (ci := 12) (k := 100) hG (cf_Ref hw) (fl_Ref_280 hw) (by decide) (by decide) rfl d_Ref_see_109 g17 ?_
  show J _ _ _ _ (va_rf (φ.2.2 x0 100) :: _) _ _ _ _ _ _
  refine J_iload d_Ref_see_112 rfl ?_
  refine J_aload_n d_Ref_see_114 rfl ?_
  refine F_getR (ci := 12) (k := 98) hG (cf_Ref hw) (fl_Ref_274 hw) (by decide) (by decide) rfl d_Ref_see_115 g17 ?_
  show J _ _ _ _ (va_rf (φ.2.2 x0 98) :: _) _ _ _ _ _ _
  refine J_iload d_Ref_see_118 rfl ?_
  obtain ⟨a18, ha18, H⟩ := Option.bind_eq_some_iff.mp H
  rw [j_rf ha18]
  obtain ⟨N19, hN19, H⟩ := Option.bind_eq_some_iff.mp H
  obtain ⟨k20, hk20, H⟩ := Option.bind_eq_some_iff.mp H
  refine F_zald k20 hw hG d_Ref_see_120 (gA_some hN19) (ix_some hk20) ?_
  refine J_if_eq (tgt := 129) d_Ref_see_121 (by decide) ?_ ?_
  · intro c21
    rw [if_pos c21] at H
    refine J_lconst (v := 0) d_Ref_see_129 (by decide) ?_
    refine J.drop [true, false, false, false, false, false, true, true] rfl ?_
    exact p_Ref_see_L130 hw hG  H
  · intro c21
    rw [if_neg c21] at H
    refine J_lload d_Ref_see_124 rfl ?_
    refine J_goto (tgt := 130) d_Ref_see_126 (by decide) ?_
    refine J.drop [true, false, false, false, false, false, true, true] rfl ?_
    exact p_Ref_see_L130 hw hG  H
def f_Ref_see_L90 (Γ : gm_T)  (φ : ph_T) (x0 : Nat) (x3 : Int32) (x4 : Int64) (x6 : Int32) (x7 : Int32) (y0 : Int32) (y1 : Int32) (y2 : Option Nat) : Option (Unit × ph_T) :=
  Option.bind y2 fun a22 =>
  Option.bind (gA Γ a22 2) fun N23 =>
  Option.bind (ix y1 N23) fun k24 =>
  @ite _ (y0 = 0 ∨ y0 = 1) _ (
  @ite _ (Γ x0 = .inr 12) _ (
  if x3 ≤ (1 : Int32) then
    f_Ref_see_L107 Γ  (uI φ a22 k24 y0) x0 x4 x6 x7 (0 : Int32) x7 (φ.2.2 x0 99)
  else
    f_Ref_see_L107 Γ  (uI φ a22 k24 y0) x0 x4 x6 x7 (1 : Int32) x7 (φ.2.2 x0 99)
  ) none
  ) none
set_option maxRecDepth 100000 in
set_option maxHeartbeats 4000000 in
theorem p_Ref_see_L90 {w : jw_T} (hw : jok w) {Γ : gm_T} {n : Nat} (hG : gd w Γ n)  {x : Bool} {φ : ph_T} {x0 : Nat} {x3 : Int32} {x4 : Int64} {x6 : Int32} {x7 : Int32} {y0 : Int32} {y1 : Int32} {y2 : Option Nat} {q : Unit × ph_T} (H : f_Ref_see_L90 Γ  φ x0 x3 x4 x6 x7 y0 y1 y2 = some q) : J w M_Ref_see 90 [some (.ref x0), none, none, some (.int x3), some (.long x4), none, some (.int x6), some (.int x7)] [.int y0, .int y1, va_rf y2] (pic Γ φ) n x 0 0 (fq Γ n (.inl none) q.2) := by
  unfold f_Ref_see_L90 at H
  obtain ⟨a22, ha22, H⟩ := Option.bind_eq_some_iff.mp H
  rw [j_rf ha22]
  obtain ⟨N23, hN23, H⟩ := Option.bind_eq_some_iff.mp H
  obtain ⟨k24, hk24, H⟩ := Option.bind_eq_some_iff.mp H
  have z25 : y0 = 0 ∨ y0 = 1 := by
    apply Classical.byContradiction
    intro q9
    rw [if_neg q9] at H
    cases H
  rw [if_pos z25] at H
  refine F_zast k24 hw hG d_Ref_see_90 (gA_some hN23) (ix_some hk24) z25 ?_
  refine J_aload_n d_Ref_see_91 rfl ?_
  have g26 : Γ x0 = .inr 12 := by
    apply Classical.byContradiction
    intro q9
    rw [if_neg q9] at H
    cases H
  rw [if_pos g26] at H
  refine F_getR (ci := 12) (k := 99) hG (cf_Ref hw) (fl_Ref_277 hw) (by decide) (by decide) rfl d_Ref_see_92 g26 ?_
  show J _ _ _ _ (va_rf (φ.2.2 x0 99) :: _) _ _ _ _ _ _
  refine J_iload d_Ref_see_95 rfl ?_
  refine J_iload_n d_Ref_see_97 rfl ?_
  refine J_iconst (v := 1) d_Ref_see_98 (by decide) ?_
  refine J_icmp_le (tgt := 106) d_Ref_see_99 (by decide) ?_ ?_
  · intro c27
    rw [if_pos c27] at H
    refine J_iconst (v := 0) d_Ref_see_106 (by decide) ?_
    refine J.drop [true, false, false, false, true, false, true, true] rfl ?_
    exact p_Ref_see_L107 hw hG  H
  · intro c27
    rw [if_neg c27] at H
    refine J_iconst (v := 1) d_Ref_see_102 (by decide) ?_
    refine J_goto (tgt := 107) d_Ref_see_103 (by decide) ?_
    refine J.drop [true, false, false, false, true, false, true, true] rfl ?_
    exact p_Ref_see_L107 hw hG  H
def f_Ref_see_L54 (Γ : gm_T)  (φ : ph_T) (x0 : Nat) (x1 : Int32) (x2 : Int32) (x3 : Int32) (x4 : Int64) (x6 : Int32) (y0 : Int32) (y1 : Nat) : Option (Unit × ph_T) :=
  @ite _ (Γ y1 = .inr 12) _ (
  @ite _ (Γ x0 = .inr 12) _ (
  if ((uI φ y1 0 y0).1 x0 0) ≤ 0 then
    @ite _ ((2 : Int32) = 0) _ none (
    if (x3 - x3 / (2 : Int32) * (2 : Int32)) = (1 : Int32) then
      f_Ref_see_L90 Γ  (uI φ y1 0 y0) x0 x3 x4 x6 (((5 : Int32) * x1) + x2) (1 : Int32) (((5 : Int32) * x1) + x2) (φ.2.2 x0 98)
    else
      f_Ref_see_L90 Γ  (uI φ y1 0 y0) x0 x3 x4 x6 (((5 : Int32) * x1) + x2) (0 : Int32) (((5 : Int32) * x1) + x2) (φ.2.2 x0 98)
    )
  else
    some ((), (uI φ y1 0 y0))
  ) none
  ) none
set_option maxRecDepth 100000 in
set_option maxHeartbeats 4000000 in
theorem p_Ref_see_L54 {w : jw_T} (hw : jok w) {Γ : gm_T} {n : Nat} (hG : gd w Γ n)  {x : Bool} {φ : ph_T} {x0 : Nat} {x1 : Int32} {x2 : Int32} {x3 : Int32} {x4 : Int64} {x6 : Int32} {y0 : Int32} {y1 : Nat} {q : Unit × ph_T} (H : f_Ref_see_L54 Γ  φ x0 x1 x2 x3 x4 x6 y0 y1 = some q) : J w M_Ref_see 54 [some (.ref x0), some (.int x1), some (.int x2), some (.int x3), some (.long x4), none, some (.int x6), none] [.int y0, .ref y1] (pic Γ φ) n x 0 0 (fq Γ n (.inl none) q.2) := by
  unfold f_Ref_see_L54 at H
  have g28 : Γ y1 = .inr 12 := by
    apply Classical.byContradiction
    intro q9
    rw [if_neg q9] at H
    cases H
  rw [if_pos g28] at H
  refine F_putI (ci := 12) (k := 0) hG (cf_Ref hw) (fl_Ref_303 hw) (by decide) (by decide) rfl d_Ref_see_54 rfl rfl rfl g28 ?_
  refine J_aload_n d_Ref_see_57 rfl ?_
  have g29 : Γ x0 = .inr 12 := by
    apply Classical.byContradiction
    intro q9
    rw [if_neg q9] at H
    cases H
  rw [if_pos g29] at H
  refine F_getI (ci := 12) (k := 0) hG (cf_Ref hw) (fl_Ref_303 hw) (by decide) (by decide) rfl d_Ref_see_58 g29 ?_
  refine J_if_le (tgt := 65) d_Ref_see_61 (by decide) ?_ ?_
  · intro c32
    rw [if_pos c32] at H
    refine J_iconst (v := 5) d_Ref_see_65 (by decide) ?_
    refine J_iload_n d_Ref_see_66 rfl ?_
    refine J_imul d_Ref_see_67 ?_
    refine J_iload_n d_Ref_see_68 rfl ?_
    refine J_iadd d_Ref_see_69 ?_
    refine J_istore d_Ref_see_70 (Nat.le_of_ble_eq_true rfl) ?_
    refine J.ls (ls' := [some (.ref x0), some (.int x1), some (.int x2), some (.int x3), some (.long x4), none, some (.int x6), some (.int (((5 : Int32) * x1) + x2))]) rfl ?_
    refine J_aload_n d_Ref_see_72 rfl ?_
    refine F_getR (ci := 12) (k := 98) hG (cf_Ref hw) (fl_Ref_274 hw) (by decide) (by decide) rfl d_Ref_see_73 g29 ?_
    show J _ _ _ _ (va_rf (φ.2.2 x0 98) :: _) _ _ _ _ _ _
    refine J_iload d_Ref_see_76 rfl ?_
    refine J_iload_n d_Ref_see_78 rfl ?_
    refine J_iconst (v := 2) d_Ref_see_79 (by decide) ?_
    have h30 : ¬ (2 : Int32) = 0 := by
      intro q9
      rw [if_pos q9] at H
      cases H
    rw [if_neg h30] at H
    refine J_irem d_Ref_see_80 h30 ?_
    refine J_iconst (v := 1) d_Ref_see_81 (by decide) ?_
    refine J_icmp_ne (tgt := 89) d_Ref_see_82 (by decide) ?_ ?_
    · intro c31
      rw [if_neg c31] at H
      refine J_iconst (v := 0) d_Ref_see_89 (by decide) ?_
      refine J.drop [true, false, false, true, true, false, true, true] rfl ?_
      exact p_Ref_see_L90 hw hG  H
    · intro c31
      rw [if_pos c31] at H
      refine J_iconst (v := 1) d_Ref_see_85 (by decide) ?_
      refine J_goto (tgt := 90) d_Ref_see_86 (by decide) ?_
      refine J.drop [true, false, false, true, true, false, true, true] rfl ?_
      exact p_Ref_see_L90 hw hG  H
  · intro c32
    rw [if_neg c32] at H
    have H := Option.some.inj H
    subst H
    exact J_vret (st := []) d_Ref_see_64 rfl ⟨rfl, rfl, rfl⟩
def f_Ref_see_L49 (Γ : gm_T)  (φ : ph_T) (x0 : Nat) (x1 : Int32) (x2 : Int32) (x3 : Int32) (x4 : Int64) (x6 : Int32) (y0 : Nat) : Option (Unit × ph_T) :=
  f_Ref_see_L54 Γ  φ x0 x1 x2 x3 x4 x6 (2 : Int32) y0
set_option maxRecDepth 100000 in
set_option maxHeartbeats 4000000 in
theorem p_Ref_see_L49 {w : jw_T} (hw : jok w) {Γ : gm_T} {n : Nat} (hG : gd w Γ n)  {x : Bool} {φ : ph_T} {x0 : Nat} {x1 : Int32} {x2 : Int32} {x3 : Int32} {x4 : Int64} {x6 : Int32} {y0 : Nat} {q : Unit × ph_T} (H : f_Ref_see_L49 Γ  φ x0 x1 x2 x3 x4 x6 y0 = some q) : J w M_Ref_see 49 [some (.ref x0), some (.int x1), some (.int x2), some (.int x3), some (.long x4), none, some (.int x6), none] [.ref y0] (pic Γ φ) n x 0 0 (fq Γ n (.inl none) q.2) := by
  unfold f_Ref_see_L49 at H
  refine J_iconst (v := 2) d_Ref_see_49 (by decide) ?_
  refine J_goto (tgt := 54) d_Ref_see_50 (by decide) ?_
  refine J.drop [true, true, true, true, true, false, true, false] rfl ?_
  exact p_Ref_see_L54 hw hG  H
def f_Ref_see_L20 (Γ : gm_T)  (φ : ph_T) (x0 : Nat) (x1 : Int32) (x2 : Int32) (x3 : Int32) (x4 : Int64) (x6 : Int32) (y0 : Nat) : Option (Unit × ph_T) :=
  f_Ref_see_L54 Γ  φ x0 x1 x2 x3 x4 x6 (1 : Int32) y0
set_option maxRecDepth 100000 in
set_option maxHeartbeats 4000000 in
theorem p_Ref_see_L20 {w : jw_T} (hw : jok w) {Γ : gm_T} {n : Nat} (hG : gd w Γ n)  {x : Bool} {φ : ph_T} {x0 : Nat} {x1 : Int32} {x2 : Int32} {x3 : Int32} {x4 : Int64} {x6 : Int32} {y0 : Nat} {q : Unit × ph_T} (H : f_Ref_see_L20 Γ  φ x0 x1 x2 x3 x4 x6 y0 = some q) : J w M_Ref_see 20 [some (.ref x0), some (.int x1), some (.int x2), some (.int x3), some (.long x4), none, some (.int x6), none] [.ref y0] (pic Γ φ) n x 0 0 (fq Γ n (.inl none) q.2) := by
  unfold f_Ref_see_L20 at H
  refine J_iconst (v := 1) d_Ref_see_20 (by decide) ?_
  refine J_goto (tgt := 54) d_Ref_see_21 (by decide) ?_
  refine J.drop [true, true, true, true, true, false, true, false] rfl ?_
  exact p_Ref_see_L54 hw hG  H
def f_Ref_see (Γ : gm_T) (φ : ph_T) (this : Nat) (p0 : Int32) (p1 : Int32) (p2 : Int32) (p3 : Int64) (p4 : Int32) : Option (Unit × ph_T) :=
  Option.bind (f_Ref_isWatcher Γ φ p0) fun q33 =>
  if q33.1 = 0 then
    f_Ref_see_L20 Γ  q33.2 this p0 p1 p2 p3 p4 this
  else
    Option.bind (f_Ref_in Γ q33.2 (Int32.toInt64 p1) (0 : Int64) (4 : Int64)) fun q34 =>
    if q34.1 = 0 then
      f_Ref_see_L20 Γ  q34.2 this p0 p1 p2 p3 p4 this
    else
      Option.bind (f_Ref_in Γ q34.2 (Int32.toInt64 p2) (0 : Int64) (3 : Int64)) fun q35 =>
      if q35.1 = 0 then
        f_Ref_see_L49 Γ  q35.2 this p0 p1 p2 p3 p4 this
      else
        Option.bind (f_Ref_in Γ q35.2 (Int32.toInt64 p4) (0 : Int64) (511 : Int64)) fun q36 =>
        if q36.1 = 0 then
          f_Ref_see_L49 Γ  q36.2 this p0 p1 p2 p3 p4 this
        else
          f_Ref_see_L54 Γ  q36.2 this p0 p1 p2 p3 p4 (0 : Int32) this
set_option maxRecDepth 100000 in
set_option maxHeartbeats 4000000 in
theorem p_Ref_see {w : jw_T} (hw : jok w) {Γ : gm_T} {n : Nat} (hG : gd w Γ n) {x : Bool} {φ : ph_T} {this : Nat} {p0 : Int32} {p1 : Int32} {p2 : Int32} {p3 : Int64} {p4 : Int32} {q : Unit × ph_T} (H : f_Ref_see Γ φ this p0 p1 p2 p3 p4 = some q) : jc w M_Ref_see [.ref this, .int p0, .int p1, .int p2, .long p3, .int p4] (pic Γ φ) n x 0 0 (fq Γ n (.inl none) q.2) := by
  refine jc.of (by simp only [jent_r, jent_i, jent_l, jent_a, jent_0]; exact Nat.le_of_ble_eq_true rfl) ?_
  have hls : jents [.ref this, .int p0, .int p1, .int p2, .long p3, .int p4] (jm_nL M_Ref_see) = [some (.ref this), some (.int p0), some (.int p1), some (.int p2), some (.long p3), none, some (.int p4), none] := by simp only [jents, jent_r, jent_i, jent_l, jent_a, jent_0]; rfl
  rw [hls]
  clear hls
  unfold f_Ref_see at H
  refine J_aload_n d_Ref_see_0 rfl ?_
  refine J_iload_n d_Ref_see_1 rfl ?_
  obtain ⟨q33, hq33, H⟩ := Option.bind_eq_some_iff.mp H
  refine J_callS (kc := 0) (ks := 0) (kc' := 0) (ks' := 0) (as := [.int p0]) (st := [.ref this]) (mf_Ref_isWatcher hw) (ms_Ref_637 hw) d_Ref_see_2 ln_Ref_isWatcher (by decide) (by first | exact Nat.le_of_ble_eq_true rfl | (simp only [List.map_cons, List.map_nil, List.sum_cons, List.sum_nil, va_rf_cat]; exact Nat.le_of_ble_eq_true rfl)) rfl (p_Ref_isWatcher hw hG hq33) ?_ (fun E h' n' x' e1 => by cases e1.1)
  intro v9 h9 n9 x9 e9
  obtain ⟨e91, e92, e93⟩ := e9
  cases e91
  subst e92
  subst e93
  clear x
  rename Bool => x
  show J _ _ _ _ (_ :: _) _ _ _ _ _ _
  refine J_if_eq (tgt := 20) d_Ref_see_5 (by decide) ?_ ?_
  · intro c40
    rw [if_pos c40] at H
    refine J.drop [true, true, true, true, true, false, true, false] rfl ?_
    exact p_Ref_see_L20 hw hG  H
  · intro c40
    rw [if_neg c40] at H
    refine J_iload_n d_Ref_see_8 rfl ?_
    refine J_i2l d_Ref_see_9 ?_
    refine J_lconst (v := 0) d_Ref_see_10 (by decide) ?_
    refine J_ldc2 (v := 4) d_Ref_see_11 (kn_Ref_609 hw) ?_
    obtain ⟨q34, hq34, H⟩ := Option.bind_eq_some_iff.mp H
    refine J_callS (kc := 0) (ks := 0) (kc' := 0) (ks' := 0) (as := [.long (Int32.toInt64 p1), .long (0 : Int64), .long (4 : Int64)]) (st := [.ref this]) (mf_Ref_in hw) (ms_Ref_599 hw) d_Ref_see_14 ln_Ref_in (by decide) (by first | exact Nat.le_of_ble_eq_true rfl | (simp only [List.map_cons, List.map_nil, List.sum_cons, List.sum_nil, va_rf_cat]; exact Nat.le_of_ble_eq_true rfl)) rfl (p_Ref_in hw hG hq34) ?_ (fun E h' n' x' e1 => by cases e1.1)
    intro v9 h9 n9 x9 e9
    obtain ⟨e91, e92, e93⟩ := e9
    cases e91
    subst e92
    subst e93
    clear x
    rename Bool => x
    show J _ _ _ _ (_ :: _) _ _ _ _ _ _
    refine J_if_ne (tgt := 24) d_Ref_see_17 (by decide) ?_ ?_
    · intro c39
      rw [if_neg c39] at H
      refine J_iload_n d_Ref_see_24 rfl ?_
      refine J_i2l d_Ref_see_25 ?_
      refine J_lconst (v := 0) d_Ref_see_26 (by decide) ?_
      refine J_ldc2 (v := 3) d_Ref_see_27 (kn_Ref_312 hw) ?_
      obtain ⟨q35, hq35, H⟩ := Option.bind_eq_some_iff.mp H
      refine J_callS (kc := 0) (ks := 0) (kc' := 0) (ks' := 0) (as := [.long (Int32.toInt64 p2), .long (0 : Int64), .long (3 : Int64)]) (st := [.ref this]) (mf_Ref_in hw) (ms_Ref_599 hw) d_Ref_see_30 ln_Ref_in (by decide) (by first | exact Nat.le_of_ble_eq_true rfl | (simp only [List.map_cons, List.map_nil, List.sum_cons, List.sum_nil, va_rf_cat]; exact Nat.le_of_ble_eq_true rfl)) rfl (p_Ref_in hw hG hq35) ?_ (fun E h' n' x' e1 => by cases e1.1)
      intro v9 h9 n9 x9 e9
      obtain ⟨e91, e92, e93⟩ := e9
      cases e91
      subst e92
      subst e93
      clear x
      rename Bool => x
      show J _ _ _ _ (_ :: _) _ _ _ _ _ _
      refine J_if_eq (tgt := 49) d_Ref_see_33 (by decide) ?_ ?_
      · intro c38
        rw [if_pos c38] at H
        refine J.drop [true, true, true, true, true, false, true, false] rfl ?_
        exact p_Ref_see_L49 hw hG  H
      · intro c38
        rw [if_neg c38] at H
        refine J_iload d_Ref_see_36 rfl ?_
        refine J_i2l d_Ref_see_38 ?_
        refine J_lconst (v := 0) d_Ref_see_39 (by decide) ?_
        refine J_ldc2 (v := 511) d_Ref_see_40 (kn_Ref_640 hw) ?_
        obtain ⟨q36, hq36, H⟩ := Option.bind_eq_some_iff.mp H
        refine J_callS (kc := 0) (ks := 0) (kc' := 0) (ks' := 0) (as := [.long (Int32.toInt64 p4), .long (0 : Int64), .long (511 : Int64)]) (st := [.ref this]) (mf_Ref_in hw) (ms_Ref_599 hw) d_Ref_see_43 ln_Ref_in (by decide) (by first | exact Nat.le_of_ble_eq_true rfl | (simp only [List.map_cons, List.map_nil, List.sum_cons, List.sum_nil, va_rf_cat]; exact Nat.le_of_ble_eq_true rfl)) rfl (p_Ref_in hw hG hq36) ?_ (fun E h' n' x' e1 => by cases e1.1)
        intro v9 h9 n9 x9 e9
        obtain ⟨e91, e92, e93⟩ := e9
        cases e91
        subst e92
        subst e93
        clear x
        rename Bool => x
        show J _ _ _ _ (_ :: _) _ _ _ _ _ _
        refine J_if_ne (tgt := 53) d_Ref_see_46 (by decide) ?_ ?_
        · intro c37
          rw [if_neg c37] at H
          refine J_iconst (v := 0) d_Ref_see_53 (by decide) ?_
          refine J.drop [true, true, true, true, true, false, true, false] rfl ?_
          exact p_Ref_see_L54 hw hG  H
        · intro c37
          rw [if_pos c37] at H
          refine J.drop [true, true, true, true, true, false, true, false] rfl ?_
          exact p_Ref_see_L49 hw hG  H
    · intro c39
      rw [if_pos c39] at H
      refine J.drop [true, true, true, true, true, false, true, false] rfl ?_
      exact p_Ref_see_L20 hw hG  H
