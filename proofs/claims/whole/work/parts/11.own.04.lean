theorem ln_Slave_chooseLast : (parseMethodDescriptor y_Slave_chooseLast.desc).map (fun q => q.parameters.length) = some 3 := by decide +kernel
def f_Slave_chooseLast_L50 (Γ : gm_T) (Kc6 : ph_T → Nat → Option Nat → Int32 → Int32 → Int32 → Int32 → Option (Int32 × ph_T)) (φ : ph_T) (x0 : Nat) (x1 : Option Nat) (x2 : Int32) (x3 : Int32) (x4 : Int32) (x5 : Int32) : Option (Int32 × ph_T) :=
  Kc6 φ x0 x1 x2 x3 x4 (x5 + (1 : Int32))
set_option maxRecDepth 100000 in
set_option maxHeartbeats 4000000 in
theorem p_Slave_chooseLast_L50 {w : jw_T} (hw : jok w) {Γ : gm_T} {n : Nat} (hG : gd w Γ n) {Kc6 : ph_T → Nat → Option Nat → Int32 → Int32 → Int32 → Int32 → Option (Int32 × ph_T)} (hKc6 : ∀ {x : Bool} {φ : ph_T} {x0 : Nat} {x1 : Option Nat} {x2 : Int32} {x3 : Int32} {x4 : Int32} {x5 : Int32} {q : Int32 × ph_T}, Kc6 φ x0 x1 x2 x3 x4 x5 = some q → J w M_Slave_chooseLast 6 [some (.ref x0), some (va_rf x1), some (.int x2), some (.int x3), some (.int x4), some (.int x5)] [] (pic Γ φ) n x 0 0 (fq Γ n (.inl (some (.int q.1))) q.2)) {x : Bool} {φ : ph_T} {x0 : Nat} {x1 : Option Nat} {x2 : Int32} {x3 : Int32} {x4 : Int32} {x5 : Int32} {q : Int32 × ph_T} (H : f_Slave_chooseLast_L50 Γ Kc6 φ x0 x1 x2 x3 x4 x5 = some q) : J w M_Slave_chooseLast 50 [some (.ref x0), some (va_rf x1), some (.int x2), some (.int x3), some (.int x4), some (.int x5)] [] (pic Γ φ) n x 0 0 (fq Γ n (.inl (some (.int q.1))) q.2) := by
  unfold f_Slave_chooseLast_L50 at H
  refine J_iinc (v := x5 + 1) d_Slave_chooseLast_50 rfl (by rw [show Int32.ofInt 1 = (1 : Int32) from by decide]) ?_
  refine J.ls (ls' := [some (.ref x0), some (va_rf x1), some (.int x2), some (.int x3), some (.int x4), some (.int (x5 + (1 : Int32)))]) rfl ?_
  refine J_goto (tgt := 6) d_Slave_chooseLast_53 (by decide) ?_
  refine J.drop [true, true, true, true, true, true] rfl ?_
  exact hKc6 H
def f_Slave_chooseLast_L6 (Γ : gm_T)  : Nat → ph_T → Nat → Option Nat → Int32 → Int32 → Int32 → Int32 → Option (Int32 × ph_T)
  | 0, _, _, _, _, _, _, _ => none
  | fu + 1, φ, x0, x1, x2, x3, x4, x5 =>
    Option.bind x1 fun a1 =>
    @ite _ (Γ a1 = .inr 1) _ (
    if (φ.1 a1 1) ≤ x5 then
      some (x4, φ)
    else
      @ite _ (Γ x0 = .inr 8) _ (
      Option.bind (f_Slave_mayAnswer Γ φ x0 (some a1) x5 x3) fun q4 =>
      if q4.1 = 0 then
        f_Slave_chooseLast_L50 Γ (f_Slave_chooseLast_L6 Γ  fu) q4.2 x0 (some a1) x2 x3 x4 x5
      else
        if x2 = 0 then
          f_Slave_chooseLast_L50 Γ (f_Slave_chooseLast_L6 Γ  fu) q4.2 x0 (some a1) x2 x3 x5 x5
        else
          Option.bind (q4.2.2.2 a1 0) fun a5 =>
          Option.bind (gA Γ a5 5) fun N6 =>
          Option.bind (ix x5 N6) fun k7 =>
          Option.bind (q4.2.2.2 a5 k7) fun a8 =>
          @ite _ (Γ a8 = .inr 0) _ (
          if (q4.2.1 a8 3) ≤ 0 then
            f_Slave_chooseLast_L50 Γ (f_Slave_chooseLast_L6 Γ  fu) q4.2 x0 (some a1) x2 x3 x5 x5
          else
            some (x5, q4.2)
          ) none
      ) none
    ) none
set_option maxRecDepth 100000 in
set_option maxHeartbeats 4000000 in
theorem p_Slave_chooseLast_L6 {w : jw_T} (hw : jok w) {Γ : gm_T} {n : Nat} (hG : gd w Γ n)  : ∀ (fu : Nat) {x : Bool} {φ : ph_T} {x0 : Nat} {x1 : Option Nat} {x2 : Int32} {x3 : Int32} {x4 : Int32} {x5 : Int32} {q : Int32 × ph_T}, f_Slave_chooseLast_L6 Γ  fu φ x0 x1 x2 x3 x4 x5 = some q → J w M_Slave_chooseLast 6 [some (.ref x0), some (va_rf x1), some (.int x2), some (.int x3), some (.int x4), some (.int x5)] [] (pic Γ φ) n x 0 0 (fq Γ n (.inl (some (.int q.1))) q.2) := by
  intro fu
  induction fu with
  | zero =>
    intro x φ x0 x1 x2 x3 x4 x5 q H
    cases H
  | succ fu ih =>
    intro x φ x0 x1 x2 x3 x4 x5 q H
    unfold f_Slave_chooseLast_L6 at H
    refine J_iload d_Slave_chooseLast_6 rfl ?_
    refine J_aload_nO d_Slave_chooseLast_8 rfl ?_
    obtain ⟨a1, ha1, H⟩ := Option.bind_eq_some_iff.mp H
    rw [j_rf ha1]
    have g2 : Γ a1 = .inr 1 := by
      apply Classical.byContradiction
      intro q9
      rw [if_neg q9] at H
      cases H
    rw [if_pos g2] at H
    refine F_getI (ci := 1) (k := 1) hG (cf_Line hw) (fl_Slave_54 hw) (by decide) (by decide) rfl d_Slave_chooseLast_9 g2 ?_
    refine J_icmp_ge (tgt := 56) d_Slave_chooseLast_12 (by decide) ?_ ?_
    · intro c13
      rw [if_pos c13] at H
      refine J_iload d_Slave_chooseLast_56 rfl ?_
      have H := Option.some.inj H
      subst H
      exact J_iret (st := []) d_Slave_chooseLast_58 rfl rfl ⟨rfl, rfl, rfl⟩
    · intro c13
      rw [if_neg c13] at H
      refine J_aload_n d_Slave_chooseLast_15 rfl ?_
      refine J_aload_n d_Slave_chooseLast_16 rfl ?_
      refine J_iload d_Slave_chooseLast_17 rfl ?_
      refine J_iload_n d_Slave_chooseLast_19 rfl ?_
      have g3 : Γ x0 = .inr 8 := by
        apply Classical.byContradiction
        intro q9
        rw [if_neg q9] at H
        cases H
      rw [if_pos g3] at H
      obtain ⟨q4, hq4, H⟩ := Option.bind_eq_some_iff.mp H
      refine J_callV (kc := 0) (ks := 0) (kc' := 0) (ks' := 0) (a := x0) (ci := 8) (as := [.ref a1, .int x5, .int x3]) (st := []) (mf_Slave_mayAnswer hw) (mv_Slave_141 hw) d_Slave_chooseLast_20 ln_Slave_mayAnswer (by decide) (by first | exact Nat.le_of_ble_eq_true rfl | (simp only [List.map_cons, List.map_nil, List.sum_cons, List.sum_nil, va_rf_cat]; exact Nat.le_of_ble_eq_true rfl)) rfl ((hG _).1 _ g3 (by decide)).1 ((hG _).1 _ g3 (by decide)).2 (by unfold pic; rw [g3]; rfl) (jcl_at hw rfl) rfl (p_Slave_mayAnswer hw hG hq4) ?_ (fun E h' n' x' e1 => by cases e1.1)
      intro v9 h9 n9 x9 e9
      obtain ⟨e91, e92, e93⟩ := e9
      cases e91
      subst e92
      subst e93
      clear x
      rename Bool => x
      show J _ _ _ _ (_ :: _) _ _ _ _ _ _
      refine J_if_eq (tgt := 50) d_Slave_chooseLast_23 (by decide) ?_ ?_
      · intro c12
        rw [if_pos c12] at H
        refine J.drop [true, true, true, true, true, true] rfl ?_
        exact p_Slave_chooseLast_L50 hw hG ih H
      · intro c12
        rw [if_neg c12] at H
        refine J_iload d_Slave_chooseLast_26 rfl ?_
        refine J_istore d_Slave_chooseLast_28 (Nat.le_of_ble_eq_true rfl) ?_
        refine J.ls (ls' := [some (.ref x0), some (.ref a1), some (.int x2), some (.int x3), some (.int x5), some (.int x5)]) rfl ?_
        refine J_iload_n d_Slave_chooseLast_30 rfl ?_
        refine J_if_eq (tgt := 50) d_Slave_chooseLast_31 (by decide) ?_ ?_
        · intro c11
          rw [if_pos c11] at H
          refine J.drop [true, true, true, true, true, true] rfl ?_
          exact p_Slave_chooseLast_L50 hw hG ih H
        · intro c11
          rw [if_neg c11] at H
          refine J_aload_n d_Slave_chooseLast_34 rfl ?_
          refine F_getR (ci := 1) (k := 0) hG (cf_Line hw) (fl_Slave_145 hw) (by decide) (by decide) rfl d_Slave_chooseLast_35 g2 ?_
          refine J_iload d_Slave_chooseLast_38 rfl ?_
          obtain ⟨a5, ha5, H⟩ := Option.bind_eq_some_iff.mp H
          rw [j_rf ha5]
          obtain ⟨N6, hN6, H⟩ := Option.bind_eq_some_iff.mp H
          obtain ⟨k7, hk7, H⟩ := Option.bind_eq_some_iff.mp H
          refine F_aald k7 hw hG (t := 5) rfl (by decide) d_Slave_chooseLast_40 (gA_some hN6) (ix_some hk7) ?_
          obtain ⟨a8, ha8, H⟩ := Option.bind_eq_some_iff.mp H
          rw [j_rf ha8]
          have g9 : Γ a8 = .inr 0 := by
            apply Classical.byContradiction
            intro q9
            rw [if_neg q9] at H
            cases H
          rw [if_pos g9] at H
          refine F_getI (ci := 0) (k := 3) hG (cf_Burst hw) (fl_Slave_120 hw) (by decide) (by decide) rfl d_Slave_chooseLast_41 g9 ?_
          refine J_if_le (tgt := 50) d_Slave_chooseLast_44 (by decide) ?_ ?_
          · intro c10
            rw [if_pos c10] at H
            refine J.drop [true, true, true, true, true, true] rfl ?_
            exact p_Slave_chooseLast_L50 hw hG ih H
          · intro c10
            rw [if_neg c10] at H
            refine J_iload d_Slave_chooseLast_47 rfl ?_
            have H := Option.some.inj H
            subst H
            exact J_iret (st := []) d_Slave_chooseLast_49 rfl rfl ⟨rfl, rfl, rfl⟩
def f_Slave_chooseLast (Γ : gm_T) (φ : ph_T) (this : Nat) (p0 : Option Nat) (p1 : Int32) (p2 : Int32) : Option (Int32 × ph_T) :=
  f_Slave_chooseLast_L6 Γ  jF φ this p0 p1 p2 (-1 : Int32) (0 : Int32)
set_option maxRecDepth 100000 in
set_option maxHeartbeats 4000000 in
theorem p_Slave_chooseLast {w : jw_T} (hw : jok w) {Γ : gm_T} {n : Nat} (hG : gd w Γ n) {x : Bool} {φ : ph_T} {this : Nat} {p0 : Option Nat} {p1 : Int32} {p2 : Int32} {q : Int32 × ph_T} (H : f_Slave_chooseLast Γ φ this p0 p1 p2 = some q) : jc w M_Slave_chooseLast [.ref this, va_rf p0, .int p1, .int p2] (pic Γ φ) n x 0 0 (fq Γ n (.inl (some (.int q.1))) q.2) := by
  refine jc.of (by simp only [jent_r, jent_i, jent_l, jent_a, jent_0]; exact Nat.le_of_ble_eq_true rfl) ?_
  have hls : jents [.ref this, va_rf p0, .int p1, .int p2] (jm_nL M_Slave_chooseLast) = [some (.ref this), some (va_rf p0), some (.int p1), some (.int p2), none, none] := by simp only [jents, jent_r, jent_i, jent_l, jent_a, jent_0]; rfl
  rw [hls]
  clear hls
  unfold f_Slave_chooseLast at H
  refine J_iconst (v := -1) d_Slave_chooseLast_0 (by decide) ?_
  refine J_istore d_Slave_chooseLast_1 (Nat.le_of_ble_eq_true rfl) ?_
  refine J.ls (ls' := [some (.ref this), some (va_rf p0), some (.int p1), some (.int p2), some (.int (-1 : Int32)), none]) rfl ?_
  refine J_iconst (v := 0) d_Slave_chooseLast_3 (by decide) ?_
  refine J_istore d_Slave_chooseLast_4 (Nat.le_of_ble_eq_true rfl) ?_
  refine J.ls (ls' := [some (.ref this), some (va_rf p0), some (.int p1), some (.int p2), some (.int (-1 : Int32)), some (.int (0 : Int32))]) rfl ?_
  refine J.drop [true, true, true, true, true, true] rfl ?_
  exact p_Slave_chooseLast_L6 hw hG  _ H
theorem ln_Slave_choose : (parseMethodDescriptor y_Slave_choose.desc).map (fun q => q.parameters.length) = some 3 := by decide +kernel
def f_Slave_choose_L53 (Γ : gm_T)  (φ : ph_T) (y0 : Int32) : Option (Int32 × ph_T) :=
  some (y0, φ)
set_option maxRecDepth 100000 in
set_option maxHeartbeats 4000000 in
theorem p_Slave_choose_L53 {w : jw_T} (hw : jok w) {Γ : gm_T} {n : Nat} (hG : gd w Γ n)  {x : Bool} {φ : ph_T} {y0 : Int32} {q : Int32 × ph_T} (H : f_Slave_choose_L53 Γ  φ y0 = some q) : J w M_Slave_choose 53 [none, none, none, none] [.int y0] (pic Γ φ) n x 0 0 (fq Γ n (.inl (some (.int q.1))) q.2) := by
  unfold f_Slave_choose_L53 at H
  have H := Option.some.inj H
  subst H
  exact J_iret (st := []) d_Slave_choose_53 rfl rfl ⟨rfl, rfl, rfl⟩
def f_Slave_choose_L46 (Γ : gm_T)  (φ : ph_T) (x0 : Nat) (x1 : Option Nat) (x2 : Int32) (x3 : Int32) : Option (Int32 × ph_T) :=
  @ite _ (Γ x0 = .inr 8) _ (
  Option.bind (f_Slave_chooseLast Γ φ x0 x1 x2 x3) fun q2 =>
  f_Slave_choose_L53 Γ  q2.2 q2.1
  ) none
set_option maxRecDepth 100000 in
set_option maxHeartbeats 4000000 in
theorem p_Slave_choose_L46 {w : jw_T} (hw : jok w) {Γ : gm_T} {n : Nat} (hG : gd w Γ n)  {x : Bool} {φ : ph_T} {x0 : Nat} {x1 : Option Nat} {x2 : Int32} {x3 : Int32} {q : Int32 × ph_T} (H : f_Slave_choose_L46 Γ  φ x0 x1 x2 x3 = some q) : J w M_Slave_choose 46 [some (.ref x0), some (va_rf x1), some (.int x2), some (.int x3)] [] (pic Γ φ) n x 0 0 (fq Γ n (.inl (some (.int q.1))) q.2) := by
  unfold f_Slave_choose_L46 at H
  refine J_aload_n d_Slave_choose_46 rfl ?_
  refine J_aload_nO d_Slave_choose_47 rfl ?_
  refine J_iload_n d_Slave_choose_48 rfl ?_
  refine J_iload_n d_Slave_choose_49 rfl ?_
  have g1 : Γ x0 = .inr 8 := by
    apply Classical.byContradiction
    intro q9
    rw [if_neg q9] at H
    cases H
  rw [if_pos g1] at H
  obtain ⟨q2, hq2, H⟩ := Option.bind_eq_some_iff.mp H
  refine J_callV (kc := 0) (ks := 0) (kc' := 0) (ks' := 0) (a := x0) (ci := 8) (as := [va_rf x1, .int x2, .int x3]) (st := []) (mf_Slave_chooseLast hw) (mv_Slave_138 hw) d_Slave_choose_50 ln_Slave_chooseLast (by decide) (by first | exact Nat.le_of_ble_eq_true rfl | (simp only [List.map_cons, List.map_nil, List.sum_cons, List.sum_nil, va_rf_cat]; exact Nat.le_of_ble_eq_true rfl)) rfl ((hG _).1 _ g1 (by decide)).1 ((hG _).1 _ g1 (by decide)).2 (by unfold pic; rw [g1]; rfl) (jcl_at hw rfl) rfl (p_Slave_chooseLast hw hG hq2) ?_ (fun E h' n' x' e1 => by cases e1.1)
  intro v9 h9 n9 x9 e9
  obtain ⟨e91, e92, e93⟩ := e9
  cases e91
  subst e92
  subst e93
  clear x
  rename Bool => x
  show J _ _ _ _ (_ :: _) _ _ _ _ _ _
  refine J.drop [false, false, false, false] rfl ?_
  exact p_Slave_choose_L53 hw hG  H
def f_Slave_choose_L25 (Γ : gm_T)  (φ : ph_T) (y0 : Int32) : Option (Int32 × ph_T) :=
  some (y0, φ)
set_option maxRecDepth 100000 in
set_option maxHeartbeats 4000000 in
theorem p_Slave_choose_L25 {w : jw_T} (hw : jok w) {Γ : gm_T} {n : Nat} (hG : gd w Γ n)  {x : Bool} {φ : ph_T} {y0 : Int32} {q : Int32 × ph_T} (H : f_Slave_choose_L25 Γ  φ y0 = some q) : J w M_Slave_choose 25 [none, none, none, none] [.int y0] (pic Γ φ) n x 0 0 (fq Γ n (.inl (some (.int q.1))) q.2) := by
  unfold f_Slave_choose_L25 at H
  have H := Option.some.inj H
  subst H
  exact J_iret (st := []) d_Slave_choose_25 rfl rfl ⟨rfl, rfl, rfl⟩
def f_Slave_choose (Γ : gm_T) (φ : ph_T) (this : Nat) (p0 : Option Nat) (p1 : Int32) (p2 : Int32) : Option (Int32 × ph_T) :=
  @ite _ (Γ this = .inr 8) _ (
  if (φ.1 this 7) = 0 then
    Option.bind p0 fun a7 =>
    @ite _ (Γ a7 = .inr 1) _ (
    Option.bind (f_Line_at Γ φ a7 (0 : Int32)) fun q9 =>
    Option.bind (f_Slave_isRipe Γ q9.2 this q9.1 p2) fun q10 =>
    if q10.1 = 0 then
      f_Slave_choose_L25 Γ  q10.2 (-1 : Int32)
    else
      f_Slave_choose_L25 Γ  q10.2 (0 : Int32)
    ) none
  else
    if (φ.1 this 7) = (2 : Int32) then
      if p1 = 0 then
        f_Slave_choose_L46 Γ  φ this p0 p1 p2
      else
        Option.bind (f_Slave_chooseNext Γ φ this p2) fun q4 =>
        f_Slave_choose_L53 Γ  q4.2 q4.1
    else
      f_Slave_choose_L46 Γ  φ this p0 p1 p2
  ) none
set_option maxRecDepth 100000 in
set_option maxHeartbeats 4000000 in
theorem p_Slave_choose {w : jw_T} (hw : jok w) {Γ : gm_T} {n : Nat} (hG : gd w Γ n) {x : Bool} {φ : ph_T} {this : Nat} {p0 : Option Nat} {p1 : Int32} {p2 : Int32} {q : Int32 × ph_T} (H : f_Slave_choose Γ φ this p0 p1 p2 = some q) : jc w M_Slave_choose [.ref this, va_rf p0, .int p1, .int p2] (pic Γ φ) n x 0 0 (fq Γ n (.inl (some (.int q.1))) q.2) := by
  refine jc.of (by simp only [jent_r, jent_i, jent_l, jent_a, jent_0]; exact Nat.le_of_ble_eq_true rfl) ?_
  have hls : jents [.ref this, va_rf p0, .int p1, .int p2] (jm_nL M_Slave_choose) = [some (.ref this), some (va_rf p0), some (.int p1), some (.int p2)] := by simp only [jents, jent_r, jent_i, jent_l, jent_a, jent_0]; rfl
  rw [hls]
  clear hls
  unfold f_Slave_choose at H
  refine J_aload_n d_Slave_choose_0 rfl ?_
  have g3 : Γ this = .inr 8 := by
    apply Classical.byContradiction
    intro q9
    rw [if_neg q9] at H
    cases H
  rw [if_pos g3] at H
  refine F_getI (ci := 8) (k := 7) hG (cf_Slave hw) (fl_Slave_60 hw) (by decide) (by decide) rfl d_Slave_choose_1 g3 ?_
  refine J_if_ne (tgt := 26) d_Slave_choose_4 (by decide) ?_ ?_
  · intro c12
    rw [if_neg c12] at H
    refine J_aload_n d_Slave_choose_26 rfl ?_
    refine F_getI (ci := 8) (k := 7) hG (cf_Slave hw) (fl_Slave_60 hw) (by decide) (by decide) rfl d_Slave_choose_27 g3 ?_
    refine J_iconst (v := 2) d_Slave_choose_30 (by decide) ?_
    refine J_icmp_ne (tgt := 46) d_Slave_choose_31 (by decide) ?_ ?_
    · intro c6
      rw [if_neg c6] at H
      refine J.drop [true, true, true, true] rfl ?_
      exact p_Slave_choose_L46 hw hG  H
    · intro c6
      rw [if_pos c6] at H
      refine J_iload_n d_Slave_choose_34 rfl ?_
      refine J_if_eq (tgt := 46) d_Slave_choose_35 (by decide) ?_ ?_
      · intro c5
        rw [if_pos c5] at H
        refine J.drop [true, true, true, true] rfl ?_
        exact p_Slave_choose_L46 hw hG  H
      · intro c5
        rw [if_neg c5] at H
        refine J_aload_n d_Slave_choose_38 rfl ?_
        refine J_iload_n d_Slave_choose_39 rfl ?_
        obtain ⟨q4, hq4, H⟩ := Option.bind_eq_some_iff.mp H
        refine J_callV (kc := 0) (ks := 0) (kc' := 0) (ks' := 0) (a := this) (ci := 8) (as := [.int p2]) (st := []) (mf_Slave_chooseNext hw) (mv_Slave_134 hw) d_Slave_choose_40 ln_Slave_chooseNext (by decide) (by first | exact Nat.le_of_ble_eq_true rfl | (simp only [List.map_cons, List.map_nil, List.sum_cons, List.sum_nil, va_rf_cat]; exact Nat.le_of_ble_eq_true rfl)) rfl ((hG _).1 _ g3 (by decide)).1 ((hG _).1 _ g3 (by decide)).2 (by unfold pic; rw [g3]; rfl) (jcl_at hw rfl) rfl (p_Slave_chooseNext hw hG hq4) ?_ (fun E h' n' x' e1 => by cases e1.1)
        intro v9 h9 n9 x9 e9
        obtain ⟨e91, e92, e93⟩ := e9
        cases e91
        subst e92
        subst e93
        clear x
        rename Bool => x
        show J _ _ _ _ (_ :: _) _ _ _ _ _ _
        refine J_goto (tgt := 53) d_Slave_choose_43 (by decide) ?_
        refine J.drop [false, false, false, false] rfl ?_
        exact p_Slave_choose_L53 hw hG  H
  · intro c12
    rw [if_pos c12] at H
    refine J_aload_n d_Slave_choose_7 rfl ?_
    refine J_aload_nO d_Slave_choose_8 rfl ?_
    refine J_iconst (v := 0) d_Slave_choose_9 (by decide) ?_
    obtain ⟨a7, ha7, H⟩ := Option.bind_eq_some_iff.mp H
    rw [j_rf ha7]
    have g8 : Γ a7 = .inr 1 := by
      apply Classical.byContradiction
      intro q9
      rw [if_neg q9] at H
      cases H
    rw [if_pos g8] at H
    obtain ⟨q9, hq9, H⟩ := Option.bind_eq_some_iff.mp H
    refine J_callV (kc := 0) (ks := 0) (kc' := 0) (ks' := 0) (a := a7) (ci := 1) (as := [.int (0 : Int32)]) (st := [.ref this]) (mf_Line_at hw) (mv_Slave_88 hw) d_Slave_choose_10 ln_Line_at (by decide) (by first | exact Nat.le_of_ble_eq_true rfl | (simp only [List.map_cons, List.map_nil, List.sum_cons, List.sum_nil, va_rf_cat]; exact Nat.le_of_ble_eq_true rfl)) rfl ((hG _).1 _ g8 (by decide)).1 ((hG _).1 _ g8 (by decide)).2 (by unfold pic; rw [g8]; rfl) (jcl_at hw rfl) rfl (p_Line_at hw hG hq9) ?_ (fun E h' n' x' e1 => by cases e1.1)
    intro v9 h9 n9 x9 e9
    obtain ⟨e91, e92, e93⟩ := e9
    cases e91
    subst e92
    subst e93
    clear x
    rename Bool => x
    show J _ _ _ _ (_ :: _) _ _ _ _ _ _
    refine J_iload_n d_Slave_choose_13 rfl ?_
    obtain ⟨q10, hq10, H⟩ := Option.bind_eq_some_iff.mp H
    refine J_callV (kc := 0) (ks := 0) (kc' := 0) (ks' := 0) (a := this) (ci := 8) (as := [va_rf q9.1, .int p2]) (st := []) (mf_Slave_isRipe hw) (mv_Slave_130 hw) d_Slave_choose_14 ln_Slave_isRipe (by decide) (by first | exact Nat.le_of_ble_eq_true rfl | (simp only [List.map_cons, List.map_nil, List.sum_cons, List.sum_nil, va_rf_cat]; exact Nat.le_of_ble_eq_true rfl)) rfl ((hG _).1 _ g3 (by decide)).1 ((hG _).1 _ g3 (by decide)).2 (by unfold pic; rw [g3]; rfl) (jcl_at hw rfl) rfl (p_Slave_isRipe hw hG hq10) ?_ (fun E h' n' x' e1 => by cases e1.1)
    intro v9 h9 n9 x9 e9
    obtain ⟨e91, e92, e93⟩ := e9
    cases e91
    subst e92
    subst e93
    clear x
    rename Bool => x
    show J _ _ _ _ (_ :: _) _ _ _ _ _ _
    refine J_if_eq (tgt := 24) d_Slave_choose_17 (by decide) ?_ ?_
    · intro c11
      rw [if_pos c11] at H
      refine J_iconst (v := -1) d_Slave_choose_24 (by decide) ?_
      refine J.drop [false, false, false, false] rfl ?_
      exact p_Slave_choose_L25 hw hG  H
    · intro c11
      rw [if_neg c11] at H
      refine J_iconst (v := 0) d_Slave_choose_20 (by decide) ?_
      refine J_goto (tgt := 25) d_Slave_choose_21 (by decide) ?_
      refine J.drop [false, false, false, false] rfl ?_
      exact p_Slave_choose_L25 hw hG  H
theorem ln_Bus_answerRest : (parseMethodDescriptor y_Bus_answerRest.desc).map (fun q => q.parameters.length) = some 3 := by decide +kernel
def f_Bus_answerRest_L17 (Γ : gm_T)  (φ : ph_T) (y0 : Int32) (y1 : Int32) : Option (Int32 × ph_T) :=
  some ((y1 + y0), φ)
set_option maxRecDepth 100000 in
set_option maxHeartbeats 4000000 in
theorem p_Bus_answerRest_L17 {w : jw_T} (hw : jok w) {Γ : gm_T} {n : Nat} (hG : gd w Γ n)  {x : Bool} {φ : ph_T} {y0 : Int32} {y1 : Int32} {q : Int32 × ph_T} (H : f_Bus_answerRest_L17 Γ  φ y0 y1 = some q) : J w M_Bus_answerRest 17 [none, none, none] [.int y0, .int y1] (pic Γ φ) n x 0 0 (fq Γ n (.inl (some (.int q.1))) q.2) := by
  unfold f_Bus_answerRest_L17 at H
  refine J_iadd d_Bus_answerRest_17 ?_
  have H := Option.some.inj H
  subst H
  exact J_iret (st := []) d_Bus_answerRest_18 rfl rfl ⟨rfl, rfl, rfl⟩
def f_Bus_answerRest (Γ : gm_T) (φ : ph_T) (p0 : Int32) (p1 : Int32) (p2 : Int32) : Option (Int32 × ph_T) :=
  if p2 = 0 then
    f_Bus_answerRest_L17 Γ  φ (0 : Int32) (p0 + ((64 : Int32) * p1))
  else
    f_Bus_answerRest_L17 Γ  φ (256 : Int32) (p0 + ((64 : Int32) * p1))
set_option maxRecDepth 100000 in
set_option maxHeartbeats 4000000 in
theorem p_Bus_answerRest {w : jw_T} (hw : jok w) {Γ : gm_T} {n : Nat} (hG : gd w Γ n) {x : Bool} {φ : ph_T} {p0 : Int32} {p1 : Int32} {p2 : Int32} {q : Int32 × ph_T} (H : f_Bus_answerRest Γ φ p0 p1 p2 = some q) : jc w M_Bus_answerRest [.int p0, .int p1, .int p2] (pic Γ φ) n x 0 0 (fq Γ n (.inl (some (.int q.1))) q.2) := by
  refine jc.of (by simp only [jent_r, jent_i, jent_l, jent_a, jent_0]; exact Nat.le_of_ble_eq_true rfl) ?_
  have hls : jents [.int p0, .int p1, .int p2] (jm_nL M_Bus_answerRest) = [some (.int p0), some (.int p1), some (.int p2)] := by simp only [jents, jent_r, jent_i, jent_l, jent_a, jent_0]; rfl
  rw [hls]
  clear hls
  unfold f_Bus_answerRest at H
  refine J_iload_n d_Bus_answerRest_0 rfl ?_
  refine J_bipush (v := 64) d_Bus_answerRest_1 (by decide) ?_
  refine J_iload_n d_Bus_answerRest_3 rfl ?_
  refine J_imul d_Bus_answerRest_4 ?_
  refine J_iadd d_Bus_answerRest_5 ?_
  refine J_iload_n d_Bus_answerRest_6 rfl ?_
  refine J_if_eq (tgt := 16) d_Bus_answerRest_7 (by decide) ?_ ?_
  · intro c1
    rw [if_pos c1] at H
    refine J_iconst (v := 0) d_Bus_answerRest_16 (by decide) ?_
    refine J.drop [false, false, false] rfl ?_
    exact p_Bus_answerRest_L17 hw hG  H
  · intro c1
    rw [if_neg c1] at H
    refine J_sipush (v := 256) d_Bus_answerRest_10 (by decide) ?_
    refine J_goto (tgt := 17) d_Bus_answerRest_13 (by decide) ?_
    refine J.drop [false, false, false] rfl ?_
    exact p_Bus_answerRest_L17 hw hG  H
theorem ln_Slave_sendAnswer : (parseMethodDescriptor y_Slave_sendAnswer.desc).map (fun q => q.parameters.length) = some 2 := by decide +kernel
def f_Slave_sendAnswer_L25 (Γ : gm_T)  (φ : ph_T) : Option (Unit × ph_T) :=
  some ((), φ)
set_option maxRecDepth 100000 in
set_option maxHeartbeats 4000000 in
theorem p_Slave_sendAnswer_L25 {w : jw_T} (hw : jok w) {Γ : gm_T} {n : Nat} (hG : gd w Γ n)  {x : Bool} {φ : ph_T} {q : Unit × ph_T} (H : f_Slave_sendAnswer_L25 Γ  φ  = some q) : J w M_Slave_sendAnswer 25 [none, none] [] (pic Γ φ) n x 0 0 (fq Γ n (.inl none) q.2) := by
  unfold f_Slave_sendAnswer_L25 at H
  have H := Option.some.inj H
  subst H
  exact J_vret (st := []) d_Slave_sendAnswer_25 rfl ⟨rfl, rfl, rfl⟩
def f_Slave_sendAnswer (Γ : gm_T) (φ : ph_T) (p0 : Option Nat) (p1 : Option Nat) : Option (Unit × ph_T) :=
  if p1 = none then
    f_Slave_sendAnswer_L25 Γ  φ 
  else
    Option.bind p1 fun a1 =>
    @ite _ (Γ a1 = .inr 0) _ (
    Option.bind (f_Burst_idOf Γ φ (φ.2.1 a1 0)) fun q3 =>
    Option.bind (f_Bus_answerRest Γ q3.2 q3.1 (q3.2.1 a1 5) (0 : Int32)) fun q4 =>
    Option.bind p0 fun a5 =>
    @ite _ (Γ a5 = .inr 5) _ (
    Option.bind (f_Port_send Γ q4.2 a5 (2 : Int32) (0 : Int64) q4.1) fun q7 =>
    f_Slave_sendAnswer_L25 Γ  q7.2 
    ) none
    ) none
set_option maxRecDepth 100000 in
set_option maxHeartbeats 4000000 in
theorem p_Slave_sendAnswer {w : jw_T} (hw : jok w) {Γ : gm_T} {n : Nat} (hG : gd w Γ n) {x : Bool} {φ : ph_T} {p0 : Option Nat} {p1 : Option Nat} {q : Unit × ph_T} (H : f_Slave_sendAnswer Γ φ p0 p1 = some q) : jc w M_Slave_sendAnswer [va_rf p0, va_rf p1] (pic Γ φ) n x 0 0 (fq Γ n (.inl none) q.2) := by
  refine jc.of (by simp only [jent_r, jent_i, jent_l, jent_a, jent_0]; exact Nat.le_of_ble_eq_true rfl) ?_
  have hls : jents [va_rf p0, va_rf p1] (jm_nL M_Slave_sendAnswer) = [some (va_rf p0), some (va_rf p1)] := by simp only [jents, jent_r, jent_i, jent_l, jent_a, jent_0]; rfl
  rw [hls]
  clear hls
  unfold f_Slave_sendAnswer at H
  refine J_aload_nO d_Slave_sendAnswer_0 rfl ?_
  refine J_ifnullO (r := p1) (tgt := 25) d_Slave_sendAnswer_1 (by decide) ?_ ?_
  · intro c8
    rw [if_pos c8] at H
    refine J.drop [false, false] rfl ?_
    exact p_Slave_sendAnswer_L25 hw hG  H
  · intro c8
    rw [if_neg c8] at H
    refine J_aload_nO d_Slave_sendAnswer_4 rfl ?_
    refine J_iconst (v := 2) d_Slave_sendAnswer_5 (by decide) ?_
    refine J_lconst (v := 0) d_Slave_sendAnswer_6 (by decide) ?_
    refine J_aload_nO d_Slave_sendAnswer_7 rfl ?_
    obtain ⟨a1, ha1, H⟩ := Option.bind_eq_some_iff.mp H
    rw [j_rf ha1]
    have g2 : Γ a1 = .inr 0 := by
      apply Classical.byContradiction
      intro q9
      rw [if_neg q9] at H
      cases H
    rw [if_pos g2] at H
    refine F_getL (ci := 0) (k := 0) hG (cf_Burst hw) (fl_Slave_99 hw) (by decide) (by decide) rfl d_Slave_sendAnswer_8 g2 ?_
    obtain ⟨q3, hq3, H⟩ := Option.bind_eq_some_iff.mp H
    refine J_callS (kc := 0) (ks := 0) (kc' := 0) (ks' := 0) (as := [.long (φ.2.1 a1 0)]) (st := [.long (0 : Int64), .int (2 : Int32), va_rf p0]) (mf_Burst_idOf hw) (ms_Slave_105 hw) d_Slave_sendAnswer_11 ln_Burst_idOf (by decide) (by first | exact Nat.le_of_ble_eq_true rfl | (simp only [List.map_cons, List.map_nil, List.sum_cons, List.sum_nil, va_rf_cat]; exact Nat.le_of_ble_eq_true rfl)) rfl (p_Burst_idOf hw hG hq3) ?_ (fun E h' n' x' e1 => by cases e1.1)
    intro v9 h9 n9 x9 e9
    obtain ⟨e91, e92, e93⟩ := e9
    cases e91
    subst e92
    subst e93
    clear x
    rename Bool => x
    show J _ _ _ _ (_ :: _) _ _ _ _ _ _
    refine J_aload_n d_Slave_sendAnswer_14 rfl ?_
    refine F_getI (ci := 0) (k := 5) hG (cf_Burst hw) (fl_Slave_109 hw) (by decide) (by decide) rfl d_Slave_sendAnswer_15 g2 ?_
    refine J_iconst (v := 0) d_Slave_sendAnswer_18 (by decide) ?_
    obtain ⟨q4, hq4, H⟩ := Option.bind_eq_some_iff.mp H
    refine J_callS (kc := 0) (ks := 0) (kc' := 0) (ks' := 0) (as := [.int q3.1, .int (q3.2.1 a1 5), .int (0 : Int32)]) (st := [.long (0 : Int64), .int (2 : Int32), va_rf p0]) (mf_Bus_answerRest hw) (ms_Slave_112 hw) d_Slave_sendAnswer_19 ln_Bus_answerRest (by decide) (by first | exact Nat.le_of_ble_eq_true rfl | (simp only [List.map_cons, List.map_nil, List.sum_cons, List.sum_nil, va_rf_cat]; exact Nat.le_of_ble_eq_true rfl)) rfl (p_Bus_answerRest hw hG hq4) ?_ (fun E h' n' x' e1 => by cases e1.1)
    intro v9 h9 n9 x9 e9
    obtain ⟨e91, e92, e93⟩ := e9
    cases e91
    subst e92
    subst e93
    clear x
    rename Bool => x
    show J _ _ _ _ (_ :: _) _ _ _ _ _ _
    obtain ⟨a5, ha5, H⟩ := Option.bind_eq_some_iff.mp H
    rw [j_rf ha5]
    have g6 : Γ a5 = .inr 5 := by
      apply Classical.byContradiction
      intro q9
      rw [if_neg q9] at H
      cases H
    rw [if_pos g6] at H
    obtain ⟨q7, hq7, H⟩ := Option.bind_eq_some_iff.mp H
    refine J_callV (kc := 0) (ks := 0) (kc' := 0) (ks' := 0) (a := a5) (ci := 5) (as := [.int (2 : Int32), .long (0 : Int64), .int q4.1]) (st := []) (mf_Port_send hw) (mv_Slave_116 hw) d_Slave_sendAnswer_22 ln_Port_send (by decide) (by first | exact Nat.le_of_ble_eq_true rfl | (simp only [List.map_cons, List.map_nil, List.sum_cons, List.sum_nil, va_rf_cat]; exact Nat.le_of_ble_eq_true rfl)) rfl ((hG _).1 _ g6 (by decide)).1 ((hG _).1 _ g6 (by decide)).2 (by unfold pic; rw [g6]; rfl) (jcl_at hw rfl) rfl (p_Port_send hw hG hq7) ?_ (fun E h' n' x' e1 => by cases e1.1)
    intro v9 h9 n9 x9 e9
    obtain ⟨e91, e92, e93⟩ := e9
    cases e91
    subst e92
    subst e93
    clear x
    rename Bool => x
    show J _ _ _ _ [] _ _ _ _ _ _
    refine J.drop [false, false] rfl ?_
    exact p_Slave_sendAnswer_L25 hw hG  H
theorem ln_Slave_sendReadBeat : (parseMethodDescriptor y_Slave_sendReadBeat.desc).map (fun q => q.parameters.length) = some 2 := by decide +kernel
def f_Slave_sendReadBeat_L36 (Γ : gm_T)  (φ : ph_T) : Option (Unit × ph_T) :=
  some ((), φ)
set_option maxRecDepth 100000 in
set_option maxHeartbeats 4000000 in
theorem p_Slave_sendReadBeat_L36 {w : jw_T} (hw : jok w) {Γ : gm_T} {n : Nat} (hG : gd w Γ n)  {x : Bool} {φ : ph_T} {q : Unit × ph_T} (H : f_Slave_sendReadBeat_L36 Γ  φ  = some q) : J w M_Slave_sendReadBeat 36 [none, none] [] (pic Γ φ) n x 0 0 (fq Γ n (.inl none) q.2) := by
  unfold f_Slave_sendReadBeat_L36 at H
  have H := Option.some.inj H
  subst H
  exact J_vret (st := []) d_Slave_sendReadBeat_36 rfl ⟨rfl, rfl, rfl⟩
def f_Slave_sendReadBeat (Γ : gm_T) (φ : ph_T) (p0 : Option Nat) (p1 : Option Nat) : Option (Unit × ph_T) :=
  if p1 = none then
    f_Slave_sendReadBeat_L36 Γ  φ 
  else
    Option.bind p1 fun a1 =>
    @ite _ (Γ a1 = .inr 0) _ (
    if (16 : Int32) ≤ (φ.1 a1 3) then
      f_Slave_sendReadBeat_L36 Γ  φ 
    else
      Option.bind (φ.2.2 a1 6) fun a3 =>
      Option.bind (gA Γ a3 1) fun N4 =>
      Option.bind (ix (φ.1 a1 3) N4) fun k5 =>
      Option.bind (φ.2.2 a1 7) fun a6 =>
      Option.bind (gA Γ a6 0) fun N7 =>
      Option.bind (ix (φ.1 a1 3) N7) fun k8 =>
      Option.bind p0 fun a9 =>
      @ite _ (Γ a9 = .inr 5) _ (
      Option.bind (f_Port_send Γ φ a9 (4 : Int32) (φ.2.1 a3 k5) (φ.1 a6 k8)) fun q11 =>
      f_Slave_sendReadBeat_L36 Γ  q11.2 
      ) none
    ) none
set_option maxRecDepth 100000 in
set_option maxHeartbeats 4000000 in
theorem p_Slave_sendReadBeat {w : jw_T} (hw : jok w) {Γ : gm_T} {n : Nat} (hG : gd w Γ n) {x : Bool} {φ : ph_T} {p0 : Option Nat} {p1 : Option Nat} {q : Unit × ph_T} (H : f_Slave_sendReadBeat Γ φ p0 p1 = some q) : jc w M_Slave_sendReadBeat [va_rf p0, va_rf p1] (pic Γ φ) n x 0 0 (fq Γ n (.inl none) q.2) := by
  refine jc.of (by simp only [jent_r, jent_i, jent_l, jent_a, jent_0]; exact Nat.le_of_ble_eq_true rfl) ?_
  have hls : jents [va_rf p0, va_rf p1] (jm_nL M_Slave_sendReadBeat) = [some (va_rf p0), some (va_rf p1)] := by simp only [jents, jent_r, jent_i, jent_l, jent_a, jent_0]; rfl
  rw [hls]
  clear hls
  unfold f_Slave_sendReadBeat at H
  refine J_aload_nO d_Slave_sendReadBeat_0 rfl ?_
  refine J_ifnullO (r := p1) (tgt := 36) d_Slave_sendReadBeat_1 (by decide) ?_ ?_
  · intro c13
    rw [if_pos c13] at H
    refine J.drop [false, false] rfl ?_
    exact p_Slave_sendReadBeat_L36 hw hG  H
  · intro c13
    rw [if_neg c13] at H
    refine J_aload_nO d_Slave_sendReadBeat_4 rfl ?_
    obtain ⟨a1, ha1, H⟩ := Option.bind_eq_some_iff.mp H
    rw [j_rf ha1]
    have g2 : Γ a1 = .inr 0 := by
      apply Classical.byContradiction
      intro q9
      rw [if_neg q9] at H
      cases H
    rw [if_pos g2] at H
    refine F_getI (ci := 0) (k := 3) hG (cf_Burst hw) (fl_Slave_120 hw) (by decide) (by decide) rfl d_Slave_sendReadBeat_5 g2 ?_
    refine J_bipush (v := 16) d_Slave_sendReadBeat_8 (by decide) ?_
    refine J_icmp_ge (tgt := 36) d_Slave_sendReadBeat_10 (by decide) ?_ ?_
    · intro c12
      rw [if_pos c12] at H
      refine J.drop [false, false] rfl ?_
      exact p_Slave_sendReadBeat_L36 hw hG  H
    · intro c12
      rw [if_neg c12] at H
      refine J_aload_nO d_Slave_sendReadBeat_13 rfl ?_
      refine J_iconst (v := 4) d_Slave_sendReadBeat_14 (by decide) ?_
      refine J_aload_n d_Slave_sendReadBeat_15 rfl ?_
      refine F_getR (ci := 0) (k := 6) hG (cf_Burst hw) (fl_Slave_123 hw) (by decide) (by decide) rfl d_Slave_sendReadBeat_16 g2 ?_
      refine J_aload_n d_Slave_sendReadBeat_19 rfl ?_
      refine F_getI (ci := 0) (k := 3) hG (cf_Burst hw) (fl_Slave_120 hw) (by decide) (by decide) rfl d_Slave_sendReadBeat_20 g2 ?_
      obtain ⟨a3, ha3, H⟩ := Option.bind_eq_some_iff.mp H
      rw [j_rf ha3]
      obtain ⟨N4, hN4, H⟩ := Option.bind_eq_some_iff.mp H
      obtain ⟨k5, hk5, H⟩ := Option.bind_eq_some_iff.mp H
      refine F_lald k5 hw hG d_Slave_sendReadBeat_23 (gA_some hN4) (ix_some hk5) ?_
      refine J_aload_n d_Slave_sendReadBeat_24 rfl ?_
      refine F_getR (ci := 0) (k := 7) hG (cf_Burst hw) (fl_Slave_127 hw) (by decide) (by decide) rfl d_Slave_sendReadBeat_25 g2 ?_
      refine J_aload_n d_Slave_sendReadBeat_28 rfl ?_
      refine F_getI (ci := 0) (k := 3) hG (cf_Burst hw) (fl_Slave_120 hw) (by decide) (by decide) rfl d_Slave_sendReadBeat_29 g2 ?_
      obtain ⟨a6, ha6, H⟩ := Option.bind_eq_some_iff.mp H
      rw [j_rf ha6]
      obtain ⟨N7, hN7, H⟩ := Option.bind_eq_some_iff.mp H
      obtain ⟨k8, hk8, H⟩ := Option.bind_eq_some_iff.mp H
      refine F_iald k8 hw hG d_Slave_sendReadBeat_32 (gA_some hN7) (ix_some hk8) ?_
      obtain ⟨a9, ha9, H⟩ := Option.bind_eq_some_iff.mp H
      rw [j_rf ha9]
      have g10 : Γ a9 = .inr 5 := by
        apply Classical.byContradiction
        intro q9
        rw [if_neg q9] at H
        cases H
      rw [if_pos g10] at H
      obtain ⟨q11, hq11, H⟩ := Option.bind_eq_some_iff.mp H
      refine J_callV (kc := 0) (ks := 0) (kc' := 0) (ks' := 0) (a := a9) (ci := 5) (as := [.int (4 : Int32), .long (φ.2.1 a3 k5), .int (φ.1 a6 k8)]) (st := []) (mf_Port_send hw) (mv_Slave_116 hw) d_Slave_sendReadBeat_33 ln_Port_send (by decide) (by first | exact Nat.le_of_ble_eq_true rfl | (simp only [List.map_cons, List.map_nil, List.sum_cons, List.sum_nil, va_rf_cat]; exact Nat.le_of_ble_eq_true rfl)) rfl ((hG _).1 _ g10 (by decide)).1 ((hG _).1 _ g10 (by decide)).2 (by unfold pic; rw [g10]; rfl) (jcl_at hw rfl) rfl (p_Port_send hw hG hq11) ?_ (fun E h' n' x' e1 => by cases e1.1)
      intro v9 h9 n9 x9 e9
      obtain ⟨e91, e92, e93⟩ := e9
      cases e91
      subst e92
      subst e93
      clear x
      rename Bool => x
      show J _ _ _ _ [] _ _ _ _ _ _
      refine J.drop [false, false] rfl ?_
      exact p_Slave_sendReadBeat_L36 hw hG  H
theorem ln_Slave_tell : (parseMethodDescriptor y_Slave_tell.desc).map (fun q => q.parameters.length) = some 2 := by decide +kernel
def f_Slave_tell_L213 (Γ : gm_T)  (φ : ph_T) : Option (Unit × ph_T) :=
  some ((), φ)
set_option maxRecDepth 100000 in
set_option maxHeartbeats 4000000 in
theorem p_Slave_tell_L213 {w : jw_T} (hw : jok w) {Γ : gm_T} {n : Nat} (hG : gd w Γ n)  {x : Bool} {φ : ph_T} {q : Unit × ph_T} (H : f_Slave_tell_L213 Γ  φ  = some q) : J w M_Slave_tell 213 [none, none, none] [] (pic Γ φ) n x 0 0 (fq Γ n (.inl none) q.2) := by
  unfold f_Slave_tell_L213 at H
  have H := Option.some.inj H
  subst H
  exact J_vret (st := []) d_Slave_tell_213 rfl ⟨rfl, rfl, rfl⟩
def f_Slave_tell_L195 (Γ : gm_T)  (φ : ph_T) (x0 : Nat) (x1 : Option Nat) (y0 : Int32) (y1 : Nat) : Option (Unit × ph_T) :=
  @ite _ (Γ y1 = .inr 8) _ (
  @ite _ (Γ x0 = .inr 8) _ (
  Option.bind (φ.2.2 x0 3) fun a3 =>
  @ite _ (Γ a3 = .inr 1) _ (
  Option.bind (f_Line_at Γ (uI φ y1 9 y0) a3 ((uI φ y1 9 y0).1 x0 9)) fun q5 =>
  Option.bind (f_Slave_sendReadBeat Γ q5.2 x1 q5.1) fun q6 =>
  f_Slave_tell_L213 Γ  q6.2 
  ) none
  ) none
  ) none
set_option maxRecDepth 100000 in
set_option maxHeartbeats 4000000 in
theorem p_Slave_tell_L195 {w : jw_T} (hw : jok w) {Γ : gm_T} {n : Nat} (hG : gd w Γ n)  {x : Bool} {φ : ph_T} {x0 : Nat} {x1 : Option Nat} {y0 : Int32} {y1 : Nat} {q : Unit × ph_T} (H : f_Slave_tell_L195 Γ  φ x0 x1 y0 y1 = some q) : J w M_Slave_tell 195 [some (.ref x0), some (va_rf x1), none] [.int y0, .ref y1] (pic Γ φ) n x 0 0 (fq Γ n (.inl none) q.2) := by
  unfold f_Slave_tell_L195 at H
  have g1 : Γ y1 = .inr 8 := by
    apply Classical.byContradiction
    intro q9
    rw [if_neg q9] at H
    cases H
  rw [if_pos g1] at H
  refine F_putI (ci := 8) (k := 9) hG (cf_Slave hw) (fl_Slave_37 hw) (by decide) (by decide) rfl d_Slave_tell_195 rfl rfl rfl g1 ?_
  refine J_aload_nO d_Slave_tell_198 rfl ?_
  refine J_aload_n d_Slave_tell_199 rfl ?_
  have g2 : Γ x0 = .inr 8 := by
    apply Classical.byContradiction
    intro q9
    rw [if_neg q9] at H
    cases H
  rw [if_pos g2] at H
  refine F_getR (ci := 8) (k := 3) hG (cf_Slave hw) (fl_Slave_24 hw) (by decide) (by decide) rfl d_Slave_tell_200 g2 ?_
  show J _ _ _ _ (va_rf (φ.2.2 x0 3) :: _) _ _ _ _ _ _
  refine J_aload_n d_Slave_tell_203 rfl ?_
  refine F_getI (ci := 8) (k := 9) hG (cf_Slave hw) (fl_Slave_37 hw) (by decide) (by decide) rfl d_Slave_tell_204 g2 ?_
  obtain ⟨a3, ha3, H⟩ := Option.bind_eq_some_iff.mp H
  rw [j_rf ha3]
  have g4 : Γ a3 = .inr 1 := by
    apply Classical.byContradiction
    intro q9
    rw [if_neg q9] at H
    cases H
  rw [if_pos g4] at H
  obtain ⟨q5, hq5, H⟩ := Option.bind_eq_some_iff.mp H
  refine J_callV (kc := 0) (ks := 0) (kc' := 0) (ks' := 0) (a := a3) (ci := 1) (as := [.int ((uI φ y1 9 y0).1 x0 9)]) (st := [va_rf x1]) (mf_Line_at hw) (mv_Slave_88 hw) d_Slave_tell_207 ln_Line_at (by decide) (by first | exact Nat.le_of_ble_eq_true rfl | (simp only [List.map_cons, List.map_nil, List.sum_cons, List.sum_nil, va_rf_cat]; exact Nat.le_of_ble_eq_true rfl)) rfl ((hG _).1 _ g4 (by decide)).1 ((hG _).1 _ g4 (by decide)).2 (by unfold pic; rw [g4]; rfl) (jcl_at hw rfl) rfl (p_Line_at hw hG hq5) ?_ (fun E h' n' x' e1 => by cases e1.1)
  intro v9 h9 n9 x9 e9
  obtain ⟨e91, e92, e93⟩ := e9
  cases e91
  subst e92
  subst e93
  clear x
  rename Bool => x
  show J _ _ _ _ (_ :: _) _ _ _ _ _ _
  obtain ⟨q6, hq6, H⟩ := Option.bind_eq_some_iff.mp H
  refine J_callS (kc := 0) (ks := 0) (kc' := 0) (ks' := 0) (as := [va_rf x1, va_rf q5.1]) (st := []) (mf_Slave_sendReadBeat hw) (ms_Slave_96 hw) d_Slave_tell_210 ln_Slave_sendReadBeat (by decide) (by first | exact Nat.le_of_ble_eq_true rfl | (simp only [List.map_cons, List.map_nil, List.sum_cons, List.sum_nil, va_rf_cat]; exact Nat.le_of_ble_eq_true rfl)) rfl (p_Slave_sendReadBeat hw hG hq6) ?_ (fun E h' n' x' e1 => by cases e1.1)
  intro v9 h9 n9 x9 e9
  obtain ⟨e91, e92, e93⟩ := e9
  cases e91
  subst e92
  subst e93
  clear x
  rename Bool => x
  show J _ _ _ _ [] _ _ _ _ _ _
  refine J.drop [false, false, false] rfl ?_
  exact p_Slave_tell_L213 hw hG  H
def f_Slave_tell_L158 (Γ : gm_T)  (φ : ph_T) (x0 : Nat) (x1 : Option Nat) (x2 : Int32) : Option (Unit × ph_T) :=
  Option.bind x1 fun a7 =>
  @ite _ (Γ a7 = .inr 5) _ (
  Option.bind (φ.2.2 a7 2) fun a9 =>
  Option.bind (gA Γ a9 2) fun N10 =>
  Option.bind (ix (4 : Int32) N10) fun k11 =>
  if (φ.1 a9 k11) = 0 then
    @ite _ (Γ x0 = .inr 8) _ (
    Option.bind (φ.2.2 x0 1) fun a13 =>
    Option.bind (gA Γ a13 0) fun N14 =>
    Option.bind (ix (4 : Int32) N14) fun k15 =>
    Option.bind (f_Bus_isOn Γ φ (φ.1 a13 k15) x2) fun q16 =>
    if q16.1 = 0 then
      f_Slave_tell_L195 Γ  q16.2 x0 (some a7) (-1 : Int32) x0
    else
      Option.bind (f_Slave_choose Γ q16.2 x0 (q16.2.2.2 x0 3) (1 : Int32) x2) fun q17 =>
      f_Slave_tell_L195 Γ  q17.2 x0 (some a7) q17.1 x0
    ) none
  else
    f_Slave_tell_L213 Γ  φ 
  ) none
set_option maxRecDepth 100000 in
set_option maxHeartbeats 4000000 in
theorem p_Slave_tell_L158 {w : jw_T} (hw : jok w) {Γ : gm_T} {n : Nat} (hG : gd w Γ n)  {x : Bool} {φ : ph_T} {x0 : Nat} {x1 : Option Nat} {x2 : Int32} {q : Unit × ph_T} (H : f_Slave_tell_L158 Γ  φ x0 x1 x2 = some q) : J w M_Slave_tell 158 [some (.ref x0), some (va_rf x1), some (.int x2)] [] (pic Γ φ) n x 0 0 (fq Γ n (.inl none) q.2) := by
  unfold f_Slave_tell_L158 at H
  refine J_aload_nO d_Slave_tell_158 rfl ?_
  obtain ⟨a7, ha7, H⟩ := Option.bind_eq_some_iff.mp H
  rw [j_rf ha7]
  have g8 : Γ a7 = .inr 5 := by
    apply Classical.byContradiction
    intro q9
    rw [if_neg q9] at H
    cases H
  rw [if_pos g8] at H
  refine F_getR (ci := 5) (k := 2) hG (cf_Port hw) (fl_Slave_81 hw) (by decide) (by decide) rfl d_Slave_tell_159 g8 ?_
  refine J_iconst (v := 4) d_Slave_tell_162 (by decide) ?_
  obtain ⟨a9, ha9, H⟩ := Option.bind_eq_some_iff.mp H
  rw [j_rf ha9]
  obtain ⟨N10, hN10, H⟩ := Option.bind_eq_some_iff.mp H
  obtain ⟨k11, hk11, H⟩ := Option.bind_eq_some_iff.mp H
  refine F_zald k11 hw hG d_Slave_tell_163 (gA_some hN10) (ix_some hk11) ?_
  refine J_if_ne (tgt := 213) d_Slave_tell_164 (by decide) ?_ ?_
  · intro c19
    rw [if_neg c19] at H
    refine J.drop [false, false, false] rfl ?_
    exact p_Slave_tell_L213 hw hG  H
  · intro c19
    rw [if_pos c19] at H
    refine J_aload_n d_Slave_tell_167 rfl ?_
    refine J_aload_n d_Slave_tell_168 rfl ?_
    have g12 : Γ x0 = .inr 8 := by
      apply Classical.byContradiction
      intro q9
      rw [if_neg q9] at H
      cases H
    rw [if_pos g12] at H
    refine F_getR (ci := 8) (k := 1) hG (cf_Slave hw) (fl_Slave_9 hw) (by decide) (by decide) rfl d_Slave_tell_169 g12 ?_
    refine J_iconst (v := 4) d_Slave_tell_172 (by decide) ?_
    obtain ⟨a13, ha13, H⟩ := Option.bind_eq_some_iff.mp H
    rw [j_rf ha13]
    obtain ⟨N14, hN14, H⟩ := Option.bind_eq_some_iff.mp H
    obtain ⟨k15, hk15, H⟩ := Option.bind_eq_some_iff.mp H
    refine F_iald k15 hw hG d_Slave_tell_173 (gA_some hN14) (ix_some hk15) ?_
    refine J_iload_n d_Slave_tell_174 rfl ?_
    obtain ⟨q16, hq16, H⟩ := Option.bind_eq_some_iff.mp H
    refine J_callS (kc := 0) (ks := 0) (kc' := 0) (ks' := 0) (as := [.int (φ.1 a13 k15), .int x2]) (st := [.ref x0]) (mf_Bus_isOn hw) (ms_Slave_69 hw) d_Slave_tell_175 ln_Bus_isOn (by decide) (by first | exact Nat.le_of_ble_eq_true rfl | (simp only [List.map_cons, List.map_nil, List.sum_cons, List.sum_nil, va_rf_cat]; exact Nat.le_of_ble_eq_true rfl)) rfl (p_Bus_isOn hw hG hq16) ?_ (fun E h' n' x' e1 => by cases e1.1)
    intro v9 h9 n9 x9 e9
    obtain ⟨e91, e92, e93⟩ := e9
    cases e91
    subst e92
    subst e93
    clear x
    rename Bool => x
    show J _ _ _ _ (_ :: _) _ _ _ _ _ _
    refine J_if_eq (tgt := 194) d_Slave_tell_178 (by decide) ?_ ?_
    · intro c18
      rw [if_pos c18] at H
      refine J_iconst (v := -1) d_Slave_tell_194 (by decide) ?_
      refine J.drop [true, true, false] rfl ?_
      exact p_Slave_tell_L195 hw hG  H
    · intro c18
      rw [if_neg c18] at H
      refine J_aload_n d_Slave_tell_181 rfl ?_
      refine J_aload_n d_Slave_tell_182 rfl ?_
      refine F_getR (ci := 8) (k := 3) hG (cf_Slave hw) (fl_Slave_24 hw) (by decide) (by decide) rfl d_Slave_tell_183 g12 ?_
      refine J_iconst (v := 1) d_Slave_tell_186 (by decide) ?_
      refine J_iload_n d_Slave_tell_187 rfl ?_
      obtain ⟨q17, hq17, H⟩ := Option.bind_eq_some_iff.mp H
      refine J_callV (kc := 0) (ks := 0) (kc' := 0) (ks' := 0) (a := x0) (ci := 8) (as := [va_rf (q16.2.2.2 x0 3), .int (1 : Int32), .int x2]) (st := [.ref x0]) (mf_Slave_choose hw) (mv_Slave_84 hw) d_Slave_tell_188 ln_Slave_choose (by decide) (by first | exact Nat.le_of_ble_eq_true rfl | (simp only [List.map_cons, List.map_nil, List.sum_cons, List.sum_nil, va_rf_cat]; exact Nat.le_of_ble_eq_true rfl)) rfl ((hG _).1 _ g12 (by decide)).1 ((hG _).1 _ g12 (by decide)).2 (by unfold pic; rw [g12]; rfl) (jcl_at hw rfl) rfl (p_Slave_choose hw hG hq17) ?_ (fun E h' n' x' e1 => by cases e1.1)
      intro v9 h9 n9 x9 e9
      obtain ⟨e91, e92, e93⟩ := e9
      cases e91
      subst e92
      subst e93
      clear x
      rename Bool => x
      show J _ _ _ _ (_ :: _) _ _ _ _ _ _
      refine J_goto (tgt := 195) d_Slave_tell_191 (by decide) ?_
      refine J.drop [true, true, false] rfl ?_
      exact p_Slave_tell_L195 hw hG  H
def f_Slave_tell_L140 (Γ : gm_T)  (φ : ph_T) (x0 : Nat) (x1 : Option Nat) (x2 : Int32) (y0 : Int32) (y1 : Nat) : Option (Unit × ph_T) :=
  @ite _ (Γ y1 = .inr 8) _ (
  @ite _ (Γ x0 = .inr 8) _ (
  Option.bind (φ.2.2 x0 2) fun a22 =>
  @ite _ (Γ a22 = .inr 1) _ (
  Option.bind (f_Line_at Γ (uI φ y1 8 y0) a22 ((uI φ y1 8 y0).1 x0 8)) fun q24 =>
  Option.bind (f_Slave_sendAnswer Γ q24.2 x1 q24.1) fun q25 =>
  f_Slave_tell_L158 Γ  q25.2 x0 x1 x2
  ) none
  ) none
  ) none
set_option maxRecDepth 100000 in
set_option maxHeartbeats 4000000 in
theorem p_Slave_tell_L140 {w : jw_T} (hw : jok w) {Γ : gm_T} {n : Nat} (hG : gd w Γ n)  {x : Bool} {φ : ph_T} {x0 : Nat} {x1 : Option Nat} {x2 : Int32} {y0 : Int32} {y1 : Nat} {q : Unit × ph_T} (H : f_Slave_tell_L140 Γ  φ x0 x1 x2 y0 y1 = some q) : J w M_Slave_tell 140 [some (.ref x0), some (va_rf x1), some (.int x2)] [.int y0, .ref y1] (pic Γ φ) n x 0 0 (fq Γ n (.inl none) q.2) := by
  unfold f_Slave_tell_L140 at H
  have g20 : Γ y1 = .inr 8 := by
    apply Classical.byContradiction
    intro q9
    rw [if_neg q9] at H
    cases H
  rw [if_pos g20] at H
  refine F_putI (ci := 8) (k := 8) hG (cf_Slave hw) (fl_Slave_33 hw) (by decide) (by decide) rfl d_Slave_tell_140 rfl rfl rfl g20 ?_
  refine J_aload_nO d_Slave_tell_143 rfl ?_
  refine J_aload_n d_Slave_tell_144 rfl ?_
  have g21 : Γ x0 = .inr 8 := by
    apply Classical.byContradiction
    intro q9
    rw [if_neg q9] at H
    cases H
  rw [if_pos g21] at H
  refine F_getR (ci := 8) (k := 2) hG (cf_Slave hw) (fl_Slave_20 hw) (by decide) (by decide) rfl d_Slave_tell_145 g21 ?_
  show J _ _ _ _ (va_rf (φ.2.2 x0 2) :: _) _ _ _ _ _ _
  refine J_aload_n d_Slave_tell_148 rfl ?_
  refine F_getI (ci := 8) (k := 8) hG (cf_Slave hw) (fl_Slave_33 hw) (by decide) (by decide) rfl d_Slave_tell_149 g21 ?_
  obtain ⟨a22, ha22, H⟩ := Option.bind_eq_some_iff.mp H
  rw [j_rf ha22]
  have g23 : Γ a22 = .inr 1 := by
    apply Classical.byContradiction
    intro q9
    rw [if_neg q9] at H
    cases H
  rw [if_pos g23] at H
  obtain ⟨q24, hq24, H⟩ := Option.bind_eq_some_iff.mp H
  refine J_callV (kc := 0) (ks := 0) (kc' := 0) (ks' := 0) (a := a22) (ci := 1) (as := [.int ((uI φ y1 8 y0).1 x0 8)]) (st := [va_rf x1]) (mf_Line_at hw) (mv_Slave_88 hw) d_Slave_tell_152 ln_Line_at (by decide) (by first | exact Nat.le_of_ble_eq_true rfl | (simp only [List.map_cons, List.map_nil, List.sum_cons, List.sum_nil, va_rf_cat]; exact Nat.le_of_ble_eq_true rfl)) rfl ((hG _).1 _ g23 (by decide)).1 ((hG _).1 _ g23 (by decide)).2 (by unfold pic; rw [g23]; rfl) (jcl_at hw rfl) rfl (p_Line_at hw hG hq24) ?_ (fun E h' n' x' e1 => by cases e1.1)
  intro v9 h9 n9 x9 e9
  obtain ⟨e91, e92, e93⟩ := e9
  cases e91
  subst e92
  subst e93
  clear x
  rename Bool => x
  show J _ _ _ _ (_ :: _) _ _ _ _ _ _
  obtain ⟨q25, hq25, H⟩ := Option.bind_eq_some_iff.mp H
  refine J_callS (kc := 0) (ks := 0) (kc' := 0) (ks' := 0) (as := [va_rf x1, va_rf q24.1]) (st := []) (mf_Slave_sendAnswer hw) (ms_Slave_92 hw) d_Slave_tell_155 ln_Slave_sendAnswer (by decide) (by first | exact Nat.le_of_ble_eq_true rfl | (simp only [List.map_cons, List.map_nil, List.sum_cons, List.sum_nil, va_rf_cat]; exact Nat.le_of_ble_eq_true rfl)) rfl (p_Slave_sendAnswer hw hG hq25) ?_ (fun E h' n' x' e1 => by cases e1.1)
  intro v9 h9 n9 x9 e9
  obtain ⟨e91, e92, e93⟩ := e9
  cases e91
  subst e92
  subst e93
  clear x
  rename Bool => x
  show J _ _ _ _ [] _ _ _ _ _ _
  refine J.drop [true, true, true] rfl ?_
  exact p_Slave_tell_L158 hw hG  H
def f_Slave_tell_L102 (Γ : gm_T)  (φ : ph_T) (x0 : Nat) (x1 : Option Nat) (x2 : Int32) (y0 : Int32) (y1 : Int32) (y2 : Option Nat) : Option (Unit × ph_T) :=
  Option.bind y2 fun a26 =>
  Option.bind (gA Γ a26 2) fun N27 =>
  Option.bind (ix y1 N27) fun k28 =>
  @ite _ (y0 = 0 ∨ y0 = 1) _ (
  Option.bind x1 fun a30 =>
  @ite _ (Γ a30 = .inr 5) _ (
  Option.bind (φ.2.2 a30 2) fun a32 =>
  Option.bind (gA Γ a32 2) fun N33 =>
  Option.bind (ix (2 : Int32) N33) fun k34 =>
  if ((uI φ a26 k28 y0).1 a32 k34) = 0 then
    @ite _ (Γ x0 = .inr 8) _ (
    Option.bind (φ.2.2 x0 1) fun a36 =>
    Option.bind (gA Γ a36 0) fun N37 =>
    Option.bind (ix (2 : Int32) N37) fun k38 =>
    Option.bind (f_Bus_isOn Γ (uI φ a26 k28 y0) ((uI φ a26 k28 y0).1 a36 k38) x2) fun q39 =>
    if q39.1 = 0 then
      f_Slave_tell_L140 Γ  q39.2 x0 (some a30) x2 (-1 : Int32) x0
    else
      Option.bind (f_Slave_choose Γ q39.2 x0 (q39.2.2.2 x0 2) (0 : Int32) x2) fun q40 =>
      f_Slave_tell_L140 Γ  q40.2 x0 (some a30) x2 q40.1 x0
    ) none
  else
    f_Slave_tell_L158 Γ  (uI φ a26 k28 y0) x0 (some a30) x2
  ) none
  ) none
set_option maxRecDepth 100000 in
set_option maxHeartbeats 4000000 in
theorem p_Slave_tell_L102 {w : jw_T} (hw : jok w) {Γ : gm_T} {n : Nat} (hG : gd w Γ n)  {x : Bool} {φ : ph_T} {x0 : Nat} {x1 : Option Nat} {x2 : Int32} {y0 : Int32} {y1 : Int32} {y2 : Option Nat} {q : Unit × ph_T} (H : f_Slave_tell_L102 Γ  φ x0 x1 x2 y0 y1 y2 = some q) : J w M_Slave_tell 102 [some (.ref x0), some (va_rf x1), some (.int x2)] [.int y0, .int y1, va_rf y2] (pic Γ φ) n x 0 0 (fq Γ n (.inl none) q.2) := by
  unfold f_Slave_tell_L102 at H
  obtain ⟨a26, ha26, H⟩ := Option.bind_eq_some_iff.mp H
  rw [j_rf ha26]
  obtain ⟨N27, hN27, H⟩ := Option.bind_eq_some_iff.mp H
  obtain ⟨k28, hk28, H⟩ := Option.bind_eq_some_iff.mp H
  have z29 : y0 = 0 ∨ y0 = 1 := by
    apply Classical.byContradiction
    intro q9
    rw [if_neg q9] at H
    cases H
  rw [if_pos z29] at H
  refine F_zast k28 hw hG d_Slave_tell_102 (gA_some hN27) (ix_some hk28) z29 ?_
  refine J_aload_nO d_Slave_tell_103 rfl ?_
  obtain ⟨a30, ha30, H⟩ := Option.bind_eq_some_iff.mp H
  rw [j_rf ha30]
  have g31 : Γ a30 = .inr 5 := by
    apply Classical.byContradiction
    intro q9
    rw [if_neg q9] at H
    cases H
  rw [if_pos g31] at H
  refine F_getR (ci := 5) (k := 2) hG (cf_Port hw) (fl_Slave_81 hw) (by decide) (by decide) rfl d_Slave_tell_104 g31 ?_
  show J _ _ _ _ (va_rf (φ.2.2 a30 2) :: _) _ _ _ _ _ _
  refine J_iconst (v := 2) d_Slave_tell_107 (by decide) ?_
  obtain ⟨a32, ha32, H⟩ := Option.bind_eq_some_iff.mp H
  rw [j_rf ha32]
  obtain ⟨N33, hN33, H⟩ := Option.bind_eq_some_iff.mp H
  obtain ⟨k34, hk34, H⟩ := Option.bind_eq_some_iff.mp H
  refine F_zald k34 hw hG d_Slave_tell_108 (gA_some hN33) (ix_some hk34) ?_
  refine J_if_ne (tgt := 158) d_Slave_tell_109 (by decide) ?_ ?_
  · intro c42
    rw [if_neg c42] at H
    refine J.drop [true, true, true] rfl ?_
    exact p_Slave_tell_L158 hw hG  H
  · intro c42
    rw [if_pos c42] at H
    refine J_aload_n d_Slave_tell_112 rfl ?_
    refine J_aload_n d_Slave_tell_113 rfl ?_
    have g35 : Γ x0 = .inr 8 := by
      apply Classical.byContradiction
      intro q9
      rw [if_neg q9] at H
      cases H
    rw [if_pos g35] at H
    refine F_getR (ci := 8) (k := 1) hG (cf_Slave hw) (fl_Slave_9 hw) (by decide) (by decide) rfl d_Slave_tell_114 g35 ?_
    show J _ _ _ _ (va_rf (φ.2.2 x0 1) :: _) _ _ _ _ _ _
    refine J_iconst (v := 2) d_Slave_tell_117 (by decide) ?_
    obtain ⟨a36, ha36, H⟩ := Option.bind_eq_some_iff.mp H
    rw [j_rf ha36]
    obtain ⟨N37, hN37, H⟩ := Option.bind_eq_some_iff.mp H
    obtain ⟨k38, hk38, H⟩ := Option.bind_eq_some_iff.mp H
    refine F_iald k38 hw hG d_Slave_tell_118 (gA_some hN37) (ix_some hk38) ?_
    refine J_iload_n d_Slave_tell_119 rfl ?_
    obtain ⟨q39, hq39, H⟩ := Option.bind_eq_some_iff.mp H
    refine J_callS (kc := 0) (ks := 0) (kc' := 0) (ks' := 0) (as := [.int ((uI φ a26 k28 y0).1 a36 k38), .int x2]) (st := [.ref x0]) (mf_Bus_isOn hw) (ms_Slave_69 hw) d_Slave_tell_120 ln_Bus_isOn (by decide) (by first | exact Nat.le_of_ble_eq_true rfl | (simp only [List.map_cons, List.map_nil, List.sum_cons, List.sum_nil, va_rf_cat]; exact Nat.le_of_ble_eq_true rfl)) rfl (p_Bus_isOn hw hG hq39) ?_ (fun E h' n' x' e1 => by cases e1.1)
    intro v9 h9 n9 x9 e9
    obtain ⟨e91, e92, e93⟩ := e9
    cases e91
    subst e92
    subst e93
    clear x
    rename Bool => x
    show J _ _ _ _ (_ :: _) _ _ _ _ _ _
    refine J_if_eq (tgt := 139) d_Slave_tell_123 (by decide) ?_ ?_
    · intro c41
      rw [if_pos c41] at H
      refine J_iconst (v := -1) d_Slave_tell_139 (by decide) ?_
      refine J.drop [true, true, true] rfl ?_
      exact p_Slave_tell_L140 hw hG  H
    · intro c41
      rw [if_neg c41] at H
      refine J_aload_n d_Slave_tell_126 rfl ?_
      refine J_aload_n d_Slave_tell_127 rfl ?_
      refine F_getR (ci := 8) (k := 2) hG (cf_Slave hw) (fl_Slave_20 hw) (by decide) (by decide) rfl d_Slave_tell_128 g35 ?_
      refine J_iconst (v := 0) d_Slave_tell_131 (by decide) ?_
      refine J_iload_n d_Slave_tell_132 rfl ?_
      obtain ⟨q40, hq40, H⟩ := Option.bind_eq_some_iff.mp H
      refine J_callV (kc := 0) (ks := 0) (kc' := 0) (ks' := 0) (a := x0) (ci := 8) (as := [va_rf (q39.2.2.2 x0 2), .int (0 : Int32), .int x2]) (st := [.ref x0]) (mf_Slave_choose hw) (mv_Slave_84 hw) d_Slave_tell_133 ln_Slave_choose (by decide) (by first | exact Nat.le_of_ble_eq_true rfl | (simp only [List.map_cons, List.map_nil, List.sum_cons, List.sum_nil, va_rf_cat]; exact Nat.le_of_ble_eq_true rfl)) rfl ((hG _).1 _ g35 (by decide)).1 ((hG _).1 _ g35 (by decide)).2 (by unfold pic; rw [g35]; rfl) (jcl_at hw rfl) rfl (p_Slave_choose hw hG hq40) ?_ (fun E h' n' x' e1 => by cases e1.1)
      intro v9 h9 n9 x9 e9
      obtain ⟨e91, e92, e93⟩ := e9
      cases e91
      subst e92
      subst e93
      clear x
      rename Bool => x
      show J _ _ _ _ (_ :: _) _ _ _ _ _ _
      refine J_goto (tgt := 140) d_Slave_tell_136 (by decide) ?_
      refine J.drop [true, true, true] rfl ?_
      exact p_Slave_tell_L140 hw hG  H
def f_Slave_tell_L101 (Γ : gm_T)  (φ : ph_T) (x0 : Nat) (x1 : Option Nat) (x2 : Int32) (y0 : Int32) (y1 : Option Nat) : Option (Unit × ph_T) :=
  f_Slave_tell_L102 Γ  φ x0 x1 x2 (0 : Int32) y0 y1
set_option maxRecDepth 100000 in
set_option maxHeartbeats 4000000 in
theorem p_Slave_tell_L101 {w : jw_T} (hw : jok w) {Γ : gm_T} {n : Nat} (hG : gd w Γ n)  {x : Bool} {φ : ph_T} {x0 : Nat} {x1 : Option Nat} {x2 : Int32} {y0 : Int32} {y1 : Option Nat} {q : Unit × ph_T} (H : f_Slave_tell_L101 Γ  φ x0 x1 x2 y0 y1 = some q) : J w M_Slave_tell 101 [some (.ref x0), some (va_rf x1), some (.int x2)] [.int y0, va_rf y1] (pic Γ φ) n x 0 0 (fq Γ n (.inl none) q.2) := by
  unfold f_Slave_tell_L101 at H
  refine J_iconst (v := 0) d_Slave_tell_101 (by decide) ?_
  refine J.drop [true, true, true] rfl ?_
  exact p_Slave_tell_L102 hw hG  H
def f_Slave_tell_L68 (Γ : gm_T)  (φ : ph_T) (x0 : Nat) (x1 : Option Nat) (x2 : Int32) (y0 : Int32) (y1 : Int32) (y2 : Option Nat) : Option (Unit × ph_T) :=
  Option.bind y2 fun a43 =>
  Option.bind (gA Γ a43 2) fun N44 =>
  Option.bind (ix y1 N44) fun k45 =>
  @ite _ (y0 = 0 ∨ y0 = 1) _ (
  Option.bind x1 fun a47 =>
  @ite _ (Γ a47 = .inr 5) _ (
  @ite _ (Γ x0 = .inr 8) _ (
  Option.bind (φ.2.2 x0 1) fun a50 =>
  Option.bind (gA Γ a50 0) fun N51 =>
  Option.bind (ix (3 : Int32) N51) fun k52 =>
  Option.bind (f_Bus_isOn Γ (uI φ a43 k45 y0) ((uI φ a43 k45 y0).1 a50 k52) x2) fun q53 =>
  if q53.1 = 0 then
    f_Slave_tell_L101 Γ  q53.2 x0 (some a47) x2 (3 : Int32) (φ.2.2 a47 1)
  else
    Option.bind (q53.2.2.2 x0 3) fun a54 =>
    @ite _ (Γ a54 = .inr 1) _ (
    Option.bind (f_Line_hasRoom Γ q53.2 a54) fun q56 =>
    if q56.1 = 0 then
      f_Slave_tell_L101 Γ  q56.2 x0 (some a47) x2 (3 : Int32) (φ.2.2 a47 1)
    else
      f_Slave_tell_L102 Γ  q56.2 x0 (some a47) x2 (1 : Int32) (3 : Int32) (φ.2.2 a47 1)
    ) none
  ) none
  ) none
  ) none
set_option maxRecDepth 100000 in
set_option maxHeartbeats 4000000 in
theorem p_Slave_tell_L68 {w : jw_T} (hw : jok w) {Γ : gm_T} {n : Nat} (hG : gd w Γ n)  {x : Bool} {φ : ph_T} {x0 : Nat} {x1 : Option Nat} {x2 : Int32} {y0 : Int32} {y1 : Int32} {y2 : Option Nat} {q : Unit × ph_T} (H : f_Slave_tell_L68 Γ  φ x0 x1 x2 y0 y1 y2 = some q) : J w M_Slave_tell 68 [some (.ref x0), some (va_rf x1), some (.int x2)] [.int y0, .int y1, va_rf y2] (pic Γ φ) n x 0 0 (fq Γ n (.inl none) q.2) := by
  unfold f_Slave_tell_L68 at H
  obtain ⟨a43, ha43, H⟩ := Option.bind_eq_some_iff.mp H
  rw [j_rf ha43]
  obtain ⟨N44, hN44, H⟩ := Option.bind_eq_some_iff.mp H
  obtain ⟨k45, hk45, H⟩ := Option.bind_eq_some_iff.mp H
  have z46 : y0 = 0 ∨ y0 = 1 := by
    apply Classical.byContradiction
    intro q9
    rw [if_neg q9] at H
    cases H
  rw [if_pos z46] at H
  refine F_zast k45 hw hG d_Slave_tell_68 (gA_some hN44) (ix_some hk45) z46 ?_
  refine J_aload_nO d_Slave_tell_69 rfl ?_
  obtain ⟨a47, ha47, H⟩ := Option.bind_eq_some_iff.mp H
  rw [j_rf ha47]
  have g48 : Γ a47 = .inr 5 := by
    apply Classical.byContradiction
    intro q9
    rw [if_neg q9] at H
    cases H
  rw [if_pos g48] at H
  refine F_getR (ci := 5) (k := 1) hG (cf_Port hw) (fl_Slave_63 hw) (by decide) (by decide) rfl d_Slave_tell_70 g48 ?_
  show J _ _ _ _ (va_rf (φ.2.2 a47 1) :: _) _ _ _ _ _ _
  refine J_iconst (v := 3) d_Slave_tell_73 (by decide) ?_
  refine J_aload_n d_Slave_tell_74 rfl ?_
  have g49 : Γ x0 = .inr 8 := by
    apply Classical.byContradiction
    intro q9
    rw [if_neg q9] at H
    cases H
  rw [if_pos g49] at H
  refine F_getR (ci := 8) (k := 1) hG (cf_Slave hw) (fl_Slave_9 hw) (by decide) (by decide) rfl d_Slave_tell_75 g49 ?_
  show J _ _ _ _ (va_rf (φ.2.2 x0 1) :: _) _ _ _ _ _ _
  refine J_iconst (v := 3) d_Slave_tell_78 (by decide) ?_
  obtain ⟨a50, ha50, H⟩ := Option.bind_eq_some_iff.mp H
  rw [j_rf ha50]
  obtain ⟨N51, hN51, H⟩ := Option.bind_eq_some_iff.mp H
  obtain ⟨k52, hk52, H⟩ := Option.bind_eq_some_iff.mp H
  refine F_iald k52 hw hG d_Slave_tell_79 (gA_some hN51) (ix_some hk52) ?_
  refine J_iload_n d_Slave_tell_80 rfl ?_
  obtain ⟨q53, hq53, H⟩ := Option.bind_eq_some_iff.mp H
  refine J_callS (kc := 0) (ks := 0) (kc' := 0) (ks' := 0) (as := [.int ((uI φ a43 k45 y0).1 a50 k52), .int x2]) (st := [.int (3 : Int32), va_rf (φ.2.2 a47 1)]) (mf_Bus_isOn hw) (ms_Slave_69 hw) d_Slave_tell_81 ln_Bus_isOn (by decide) (by first | exact Nat.le_of_ble_eq_true rfl | (simp only [List.map_cons, List.map_nil, List.sum_cons, List.sum_nil, va_rf_cat]; exact Nat.le_of_ble_eq_true rfl)) rfl (p_Bus_isOn hw hG hq53) ?_ (fun E h' n' x' e1 => by cases e1.1)
  intro v9 h9 n9 x9 e9
  obtain ⟨e91, e92, e93⟩ := e9
  cases e91
  subst e92
  subst e93
  clear x
  rename Bool => x
  show J _ _ _ _ (_ :: _) _ _ _ _ _ _
  refine J_if_eq (tgt := 101) d_Slave_tell_84 (by decide) ?_ ?_
  · intro c58
    rw [if_pos c58] at H
    refine J.drop [true, true, true] rfl ?_
    exact p_Slave_tell_L101 hw hG  H
  · intro c58
    rw [if_neg c58] at H
    refine J_aload_n d_Slave_tell_87 rfl ?_
    refine F_getR (ci := 8) (k := 3) hG (cf_Slave hw) (fl_Slave_24 hw) (by decide) (by decide) rfl d_Slave_tell_88 g49 ?_
    obtain ⟨a54, ha54, H⟩ := Option.bind_eq_some_iff.mp H
    rw [j_rf ha54]
    have g55 : Γ a54 = .inr 1 := by
      apply Classical.byContradiction
      intro q9
      rw [if_neg q9] at H
      cases H
    rw [if_pos g55] at H
    obtain ⟨q56, hq56, H⟩ := Option.bind_eq_some_iff.mp H
    refine J_callV (kc := 0) (ks := 0) (kc' := 0) (ks' := 0) (a := a54) (ci := 1) (as := []) (st := [.int (3 : Int32), va_rf (φ.2.2 a47 1)]) (mf_Line_hasRoom hw) (mv_Slave_73 hw) d_Slave_tell_91 ln_Line_hasRoom (by decide) (by first | exact Nat.le_of_ble_eq_true rfl | (simp only [List.map_cons, List.map_nil, List.sum_cons, List.sum_nil, va_rf_cat]; exact Nat.le_of_ble_eq_true rfl)) rfl ((hG _).1 _ g55 (by decide)).1 ((hG _).1 _ g55 (by decide)).2 (by unfold pic; rw [g55]; rfl) (jcl_at hw rfl) rfl (p_Line_hasRoom hw hG hq56) ?_ (fun E h' n' x' e1 => by cases e1.1)
    intro v9 h9 n9 x9 e9
    obtain ⟨e91, e92, e93⟩ := e9
    cases e91
    subst e92
    subst e93
    clear x
    rename Bool => x
    show J _ _ _ _ (_ :: _) _ _ _ _ _ _
    refine J_if_eq (tgt := 101) d_Slave_tell_94 (by decide) ?_ ?_
    · intro c57
      rw [if_pos c57] at H
      refine J.drop [true, true, true] rfl ?_
      exact p_Slave_tell_L101 hw hG  H
    · intro c57
      rw [if_neg c57] at H
      refine J_iconst (v := 1) d_Slave_tell_97 (by decide) ?_
      refine J_goto (tgt := 102) d_Slave_tell_98 (by decide) ?_
      refine J.drop [true, true, true] rfl ?_
      exact p_Slave_tell_L102 hw hG  H
def f_Slave_tell_L67 (Γ : gm_T)  (φ : ph_T) (x0 : Nat) (x1 : Option Nat) (x2 : Int32) (y0 : Int32) (y1 : Option Nat) : Option (Unit × ph_T) :=
  f_Slave_tell_L68 Γ  φ x0 x1 x2 (0 : Int32) y0 y1
set_option maxRecDepth 100000 in
set_option maxHeartbeats 4000000 in
theorem p_Slave_tell_L67 {w : jw_T} (hw : jok w) {Γ : gm_T} {n : Nat} (hG : gd w Γ n)  {x : Bool} {φ : ph_T} {x0 : Nat} {x1 : Option Nat} {x2 : Int32} {y0 : Int32} {y1 : Option Nat} {q : Unit × ph_T} (H : f_Slave_tell_L67 Γ  φ x0 x1 x2 y0 y1 = some q) : J w M_Slave_tell 67 [some (.ref x0), some (va_rf x1), some (.int x2)] [.int y0, va_rf y1] (pic Γ φ) n x 0 0 (fq Γ n (.inl none) q.2) := by
  unfold f_Slave_tell_L67 at H
  refine J_iconst (v := 0) d_Slave_tell_67 (by decide) ?_
  refine J.drop [true, true, true] rfl ?_
  exact p_Slave_tell_L68 hw hG  H
def f_Slave_tell_L33 (Γ : gm_T)  (φ : ph_T) (x0 : Nat) (x1 : Option Nat) (x2 : Int32) (y0 : Int32) (y1 : Int32) (y2 : Option Nat) : Option (Unit × ph_T) :=
  Option.bind y2 fun a59 =>
  Option.bind (gA Γ a59 2) fun N60 =>
  Option.bind (ix y1 N60) fun k61 =>
  @ite _ (y0 = 0 ∨ y0 = 1) _ (
  Option.bind x1 fun a63 =>
  @ite _ (Γ a63 = .inr 5) _ (
  @ite _ (Γ x0 = .inr 8) _ (
  Option.bind (φ.2.2 x0 1) fun a66 =>
  Option.bind (gA Γ a66 0) fun N67 =>
  Option.bind (ix (1 : Int32) N67) fun k68 =>
  Option.bind (f_Bus_isOn Γ (uI φ a59 k61 y0) ((uI φ a59 k61 y0).1 a66 k68) x2) fun q69 =>
  if q69.1 = 0 then
    f_Slave_tell_L67 Γ  q69.2 x0 (some a63) x2 (1 : Int32) (φ.2.2 a63 1)
  else
    Option.bind (q69.2.2.2 x0 2) fun a70 =>
    @ite _ (Γ a70 = .inr 1) _ (
    Option.bind (f_Line_firstUnended Γ q69.2 a70) fun q72 =>
    if q72.1 = (-1 : Int32) then
      f_Slave_tell_L67 Γ  q72.2 x0 (some a63) x2 (1 : Int32) (φ.2.2 a63 1)
    else
      f_Slave_tell_L68 Γ  q72.2 x0 (some a63) x2 (1 : Int32) (1 : Int32) (φ.2.2 a63 1)
    ) none
  ) none
  ) none
  ) none
set_option maxRecDepth 100000 in
set_option maxHeartbeats 4000000 in
theorem p_Slave_tell_L33 {w : jw_T} (hw : jok w) {Γ : gm_T} {n : Nat} (hG : gd w Γ n)  {x : Bool} {φ : ph_T} {x0 : Nat} {x1 : Option Nat} {x2 : Int32} {y0 : Int32} {y1 : Int32} {y2 : Option Nat} {q : Unit × ph_T} (H : f_Slave_tell_L33 Γ  φ x0 x1 x2 y0 y1 y2 = some q) : J w M_Slave_tell 33 [some (.ref x0), some (va_rf x1), some (.int x2)] [.int y0, .int y1, va_rf y2] (pic Γ φ) n x 0 0 (fq Γ n (.inl none) q.2) := by
  unfold f_Slave_tell_L33 at H
  obtain ⟨a59, ha59, H⟩ := Option.bind_eq_some_iff.mp H
  rw [j_rf ha59]
  obtain ⟨N60, hN60, H⟩ := Option.bind_eq_some_iff.mp H
  obtain ⟨k61, hk61, H⟩ := Option.bind_eq_some_iff.mp H
  have z62 : y0 = 0 ∨ y0 = 1 := by
    apply Classical.byContradiction
    intro q9
    rw [if_neg q9] at H
    cases H
  rw [if_pos z62] at H
  refine F_zast k61 hw hG d_Slave_tell_33 (gA_some hN60) (ix_some hk61) z62 ?_
  refine J_aload_nO d_Slave_tell_34 rfl ?_
  obtain ⟨a63, ha63, H⟩ := Option.bind_eq_some_iff.mp H
  rw [j_rf ha63]
  have g64 : Γ a63 = .inr 5 := by
    apply Classical.byContradiction
    intro q9
    rw [if_neg q9] at H
    cases H
  rw [if_pos g64] at H
  refine F_getR (ci := 5) (k := 1) hG (cf_Port hw) (fl_Slave_63 hw) (by decide) (by decide) rfl d_Slave_tell_35 g64 ?_
  show J _ _ _ _ (va_rf (φ.2.2 a63 1) :: _) _ _ _ _ _ _
  refine J_iconst (v := 1) d_Slave_tell_38 (by decide) ?_
  refine J_aload_n d_Slave_tell_39 rfl ?_
  have g65 : Γ x0 = .inr 8 := by
    apply Classical.byContradiction
    intro q9
    rw [if_neg q9] at H
    cases H
  rw [if_pos g65] at H
  refine F_getR (ci := 8) (k := 1) hG (cf_Slave hw) (fl_Slave_9 hw) (by decide) (by decide) rfl d_Slave_tell_40 g65 ?_
  show J _ _ _ _ (va_rf (φ.2.2 x0 1) :: _) _ _ _ _ _ _
  refine J_iconst (v := 1) d_Slave_tell_43 (by decide) ?_
  obtain ⟨a66, ha66, H⟩ := Option.bind_eq_some_iff.mp H
  rw [j_rf ha66]
  obtain ⟨N67, hN67, H⟩ := Option.bind_eq_some_iff.mp H
  obtain ⟨k68, hk68, H⟩ := Option.bind_eq_some_iff.mp H
  refine F_iald k68 hw hG d_Slave_tell_44 (gA_some hN67) (ix_some hk68) ?_
  refine J_iload_n d_Slave_tell_45 rfl ?_
  obtain ⟨q69, hq69, H⟩ := Option.bind_eq_some_iff.mp H
  refine J_callS (kc := 0) (ks := 0) (kc' := 0) (ks' := 0) (as := [.int ((uI φ a59 k61 y0).1 a66 k68), .int x2]) (st := [.int (1 : Int32), va_rf (φ.2.2 a63 1)]) (mf_Bus_isOn hw) (ms_Slave_69 hw) d_Slave_tell_46 ln_Bus_isOn (by decide) (by first | exact Nat.le_of_ble_eq_true rfl | (simp only [List.map_cons, List.map_nil, List.sum_cons, List.sum_nil, va_rf_cat]; exact Nat.le_of_ble_eq_true rfl)) rfl (p_Bus_isOn hw hG hq69) ?_ (fun E h' n' x' e1 => by cases e1.1)
  intro v9 h9 n9 x9 e9
  obtain ⟨e91, e92, e93⟩ := e9
  cases e91
  subst e92
  subst e93
  clear x
  rename Bool => x
  show J _ _ _ _ (_ :: _) _ _ _ _ _ _
  refine J_if_eq (tgt := 67) d_Slave_tell_49 (by decide) ?_ ?_
  · intro c74
    rw [if_pos c74] at H
    refine J.drop [true, true, true] rfl ?_
    exact p_Slave_tell_L67 hw hG  H
  · intro c74
    rw [if_neg c74] at H
    refine J_aload_n d_Slave_tell_52 rfl ?_
    refine F_getR (ci := 8) (k := 2) hG (cf_Slave hw) (fl_Slave_20 hw) (by decide) (by decide) rfl d_Slave_tell_53 g65 ?_
    obtain ⟨a70, ha70, H⟩ := Option.bind_eq_some_iff.mp H
    rw [j_rf ha70]
    have g71 : Γ a70 = .inr 1 := by
      apply Classical.byContradiction
      intro q9
      rw [if_neg q9] at H
      cases H
    rw [if_pos g71] at H
    obtain ⟨q72, hq72, H⟩ := Option.bind_eq_some_iff.mp H
    refine J_callV (kc := 0) (ks := 0) (kc' := 0) (ks' := 0) (a := a70) (ci := 1) (as := []) (st := [.int (1 : Int32), va_rf (φ.2.2 a63 1)]) (mf_Line_firstUnended hw) (mv_Slave_77 hw) d_Slave_tell_56 ln_Line_firstUnended (by decide) (by first | exact Nat.le_of_ble_eq_true rfl | (simp only [List.map_cons, List.map_nil, List.sum_cons, List.sum_nil, va_rf_cat]; exact Nat.le_of_ble_eq_true rfl)) rfl ((hG _).1 _ g71 (by decide)).1 ((hG _).1 _ g71 (by decide)).2 (by unfold pic; rw [g71]; rfl) (jcl_at hw rfl) rfl (p_Line_firstUnended hw hG hq72) ?_ (fun E h' n' x' e1 => by cases e1.1)
    intro v9 h9 n9 x9 e9
    obtain ⟨e91, e92, e93⟩ := e9
    cases e91
    subst e92
    subst e93
    clear x
    rename Bool => x
    show J _ _ _ _ (_ :: _) _ _ _ _ _ _
    refine J_iconst (v := -1) d_Slave_tell_59 (by decide) ?_
    refine J_icmp_eq (tgt := 67) d_Slave_tell_60 (by decide) ?_ ?_
    · intro c73
      rw [if_pos c73] at H
      refine J.drop [true, true, true] rfl ?_
      exact p_Slave_tell_L67 hw hG  H
    · intro c73
      rw [if_neg c73] at H
      refine J_iconst (v := 1) d_Slave_tell_63 (by decide) ?_
      refine J_goto (tgt := 68) d_Slave_tell_64 (by decide) ?_
      refine J.drop [true, true, true] rfl ?_
      exact p_Slave_tell_L68 hw hG  H
def f_Slave_tell_L32 (Γ : gm_T)  (φ : ph_T) (x0 : Nat) (x1 : Option Nat) (x2 : Int32) (y0 : Int32) (y1 : Option Nat) : Option (Unit × ph_T) :=
  f_Slave_tell_L33 Γ  φ x0 x1 x2 (0 : Int32) y0 y1
set_option maxRecDepth 100000 in
set_option maxHeartbeats 4000000 in
theorem p_Slave_tell_L32 {w : jw_T} (hw : jok w) {Γ : gm_T} {n : Nat} (hG : gd w Γ n)  {x : Bool} {φ : ph_T} {x0 : Nat} {x1 : Option Nat} {x2 : Int32} {y0 : Int32} {y1 : Option Nat} {q : Unit × ph_T} (H : f_Slave_tell_L32 Γ  φ x0 x1 x2 y0 y1 = some q) : J w M_Slave_tell 32 [some (.ref x0), some (va_rf x1), some (.int x2)] [.int y0, va_rf y1] (pic Γ φ) n x 0 0 (fq Γ n (.inl none) q.2) := by
  unfold f_Slave_tell_L32 at H
  refine J_iconst (v := 0) d_Slave_tell_32 (by decide) ?_
  refine J.drop [true, true, true] rfl ?_
  exact p_Slave_tell_L33 hw hG  H
def f_Slave_tell (Γ : gm_T) (φ : ph_T) (this : Nat) (p0 : Option Nat) (p1 : Int32) : Option (Unit × ph_T) :=
  Option.bind p0 fun a75 =>
  @ite _ (Γ a75 = .inr 5) _ (
  @ite _ (Γ this = .inr 8) _ (
  Option.bind (φ.2.2 this 1) fun a78 =>
  Option.bind (gA Γ a78 0) fun N79 =>
  Option.bind (ix (0 : Int32) N79) fun k80 =>
  Option.bind (f_Bus_isOn Γ φ (φ.1 a78 k80) p1) fun q81 =>
  if q81.1 = 0 then
    f_Slave_tell_L32 Γ  q81.2 this (some a75) p1 (0 : Int32) (φ.2.2 a75 1)
  else
    Option.bind (q81.2.2.2 this 2) fun a82 =>
    @ite _ (Γ a82 = .inr 1) _ (
    Option.bind (f_Line_hasRoom Γ q81.2 a82) fun q84 =>
    if q84.1 = 0 then
      f_Slave_tell_L32 Γ  q84.2 this (some a75) p1 (0 : Int32) (φ.2.2 a75 1)
    else
      f_Slave_tell_L33 Γ  q84.2 this (some a75) p1 (1 : Int32) (0 : Int32) (φ.2.2 a75 1)
    ) none
  ) none
  ) none
set_option maxRecDepth 100000 in
set_option maxHeartbeats 4000000 in
theorem p_Slave_tell {w : jw_T} (hw : jok w) {Γ : gm_T} {n : Nat} (hG : gd w Γ n) {x : Bool} {φ : ph_T} {this : Nat} {p0 : Option Nat} {p1 : Int32} {q : Unit × ph_T} (H : f_Slave_tell Γ φ this p0 p1 = some q) : jc w M_Slave_tell [.ref this, va_rf p0, .int p1] (pic Γ φ) n x 0 0 (fq Γ n (.inl none) q.2) := by
  refine jc.of (by simp only [jent_r, jent_i, jent_l, jent_a, jent_0]; exact Nat.le_of_ble_eq_true rfl) ?_
  have hls : jents [.ref this, va_rf p0, .int p1] (jm_nL M_Slave_tell) = [some (.ref this), some (va_rf p0), some (.int p1)] := by simp only [jents, jent_r, jent_i, jent_l, jent_a, jent_0]; rfl
  rw [hls]
  clear hls
  unfold f_Slave_tell at H
  refine J_aload_nO d_Slave_tell_0 rfl ?_
  obtain ⟨a75, ha75, H⟩ := Option.bind_eq_some_iff.mp H
  rw [j_rf ha75]
  have g76 : Γ a75 = .inr 5 := by
    apply Classical.byContradiction
    intro q9
    rw [if_neg q9] at H
    cases H
  rw [if_pos g76] at H
  refine F_getR (ci := 5) (k := 1) hG (cf_Port hw) (fl_Slave_63 hw) (by decide) (by decide) rfl d_Slave_tell_1 g76 ?_
  refine J_iconst (v := 0) d_Slave_tell_4 (by decide) ?_
  refine J_aload_n d_Slave_tell_5 rfl ?_
  have g77 : Γ this = .inr 8 := by
    apply Classical.byContradiction
    intro q9
    rw [if_neg q9] at H
    cases H
  rw [if_pos g77] at H
  refine F_getR (ci := 8) (k := 1) hG (cf_Slave hw) (fl_Slave_9 hw) (by decide) (by decide) rfl d_Slave_tell_6 g77 ?_
  refine J_iconst (v := 0) d_Slave_tell_9 (by decide) ?_
  obtain ⟨a78, ha78, H⟩ := Option.bind_eq_some_iff.mp H
  rw [j_rf ha78]
  obtain ⟨N79, hN79, H⟩ := Option.bind_eq_some_iff.mp H
  obtain ⟨k80, hk80, H⟩ := Option.bind_eq_some_iff.mp H
  refine F_iald k80 hw hG d_Slave_tell_10 (gA_some hN79) (ix_some hk80) ?_
  refine J_iload_n d_Slave_tell_11 rfl ?_
  obtain ⟨q81, hq81, H⟩ := Option.bind_eq_some_iff.mp H
  refine J_callS (kc := 0) (ks := 0) (kc' := 0) (ks' := 0) (as := [.int (φ.1 a78 k80), .int p1]) (st := [.int (0 : Int32), va_rf (φ.2.2 a75 1)]) (mf_Bus_isOn hw) (ms_Slave_69 hw) d_Slave_tell_12 ln_Bus_isOn (by decide) (by first | exact Nat.le_of_ble_eq_true rfl | (simp only [List.map_cons, List.map_nil, List.sum_cons, List.sum_nil, va_rf_cat]; exact Nat.le_of_ble_eq_true rfl)) rfl (p_Bus_isOn hw hG hq81) ?_ (fun E h' n' x' e1 => by cases e1.1)
  intro v9 h9 n9 x9 e9
  obtain ⟨e91, e92, e93⟩ := e9
  cases e91
  subst e92
  subst e93
  clear x
  rename Bool => x
  show J _ _ _ _ (_ :: _) _ _ _ _ _ _
  refine J_if_eq (tgt := 32) d_Slave_tell_15 (by decide) ?_ ?_
  · intro c86
    rw [if_pos c86] at H
    refine J.drop [true, true, true] rfl ?_
    exact p_Slave_tell_L32 hw hG  H
  · intro c86
    rw [if_neg c86] at H
    refine J_aload_n d_Slave_tell_18 rfl ?_
    refine F_getR (ci := 8) (k := 2) hG (cf_Slave hw) (fl_Slave_20 hw) (by decide) (by decide) rfl d_Slave_tell_19 g77 ?_
    obtain ⟨a82, ha82, H⟩ := Option.bind_eq_some_iff.mp H
    rw [j_rf ha82]
    have g83 : Γ a82 = .inr 1 := by
      apply Classical.byContradiction
      intro q9
      rw [if_neg q9] at H
      cases H
    rw [if_pos g83] at H
    obtain ⟨q84, hq84, H⟩ := Option.bind_eq_some_iff.mp H
    refine J_callV (kc := 0) (ks := 0) (kc' := 0) (ks' := 0) (a := a82) (ci := 1) (as := []) (st := [.int (0 : Int32), va_rf (φ.2.2 a75 1)]) (mf_Line_hasRoom hw) (mv_Slave_73 hw) d_Slave_tell_22 ln_Line_hasRoom (by decide) (by first | exact Nat.le_of_ble_eq_true rfl | (simp only [List.map_cons, List.map_nil, List.sum_cons, List.sum_nil, va_rf_cat]; exact Nat.le_of_ble_eq_true rfl)) rfl ((hG _).1 _ g83 (by decide)).1 ((hG _).1 _ g83 (by decide)).2 (by unfold pic; rw [g83]; rfl) (jcl_at hw rfl) rfl (p_Line_hasRoom hw hG hq84) ?_ (fun E h' n' x' e1 => by cases e1.1)
    intro v9 h9 n9 x9 e9
    obtain ⟨e91, e92, e93⟩ := e9
    cases e91
    subst e92
    subst e93
    clear x
    rename Bool => x
    show J _ _ _ _ (_ :: _) _ _ _ _ _ _
    refine J_if_eq (tgt := 32) d_Slave_tell_25 (by decide) ?_ ?_
    · intro c85
      rw [if_pos c85] at H
      refine J.drop [true, true, true] rfl ?_
      exact p_Slave_tell_L32 hw hG  H
    · intro c85
      rw [if_neg c85] at H
      refine J_iconst (v := 1) d_Slave_tell_28 (by decide) ?_
      refine J_goto (tgt := 33) d_Slave_tell_29 (by decide) ?_
      refine J.drop [true, true, true] rfl ?_
      exact p_Slave_tell_L33 hw hG  H
theorem ln_Switch_ofTarget : (parseMethodDescriptor y_Switch_ofTarget.desc).map (fun q => q.parameters.length) = some 2 := by decide +kernel
def f_Switch_ofTarget (Γ : gm_T) (φ : ph_T) (this : Nat) (p0 : Int32) (p1 : Int32) : Option (Option Nat × ph_T) :=
  @ite _ (Γ this = .inr 10) _ (
  Option.bind (φ.2.2 this 5) fun a2 =>
  Option.bind (gA Γ a2 3) fun N3 =>
  Option.bind (ix ((p0 * (5 : Int32)) + p1) N3) fun k4 =>
  some ((φ.2.2 a2 k4), φ)
  ) none
set_option maxRecDepth 100000 in
set_option maxHeartbeats 4000000 in
theorem p_Switch_ofTarget {w : jw_T} (hw : jok w) {Γ : gm_T} {n : Nat} (hG : gd w Γ n) {x : Bool} {φ : ph_T} {this : Nat} {p0 : Int32} {p1 : Int32} {q : Option Nat × ph_T} (H : f_Switch_ofTarget Γ φ this p0 p1 = some q) : jc w M_Switch_ofTarget [.ref this, .int p0, .int p1] (pic Γ φ) n x 0 0 (fq Γ n (.inl (some (va_rf q.1))) q.2) := by
  refine jc.of (by simp only [jent_r, jent_i, jent_l, jent_a, jent_0]; exact Nat.le_of_ble_eq_true rfl) ?_
  have hls : jents [.ref this, .int p0, .int p1] (jm_nL M_Switch_ofTarget) = [some (.ref this), some (.int p0), some (.int p1)] := by simp only [jents, jent_r, jent_i, jent_l, jent_a, jent_0]; rfl
  rw [hls]
  clear hls
  unfold f_Switch_ofTarget at H
  refine J_aload_n d_Switch_ofTarget_0 rfl ?_
  have g1 : Γ this = .inr 10 := by
    apply Classical.byContradiction
    intro q9
    rw [if_neg q9] at H
    cases H
  rw [if_pos g1] at H
  refine F_getR (ci := 10) (k := 5) hG (cf_Switch hw) (fl_Switch_33 hw) (by decide) (by decide) rfl d_Switch_ofTarget_1 g1 ?_
  refine J_iload_n d_Switch_ofTarget_4 rfl ?_
  refine J_iconst (v := 5) d_Switch_ofTarget_5 (by decide) ?_
  refine J_imul d_Switch_ofTarget_6 ?_
  refine J_iload_n d_Switch_ofTarget_7 rfl ?_
  refine J_iadd d_Switch_ofTarget_8 ?_
  obtain ⟨a2, ha2, H⟩ := Option.bind_eq_some_iff.mp H
  rw [j_rf ha2]
  obtain ⟨N3, hN3, H⟩ := Option.bind_eq_some_iff.mp H
  obtain ⟨k4, hk4, H⟩ := Option.bind_eq_some_iff.mp H
  refine F_aald k4 hw hG (t := 3) rfl (by decide) d_Switch_ofTarget_9 (gA_some hN3) (ix_some hk4) ?_
  have H := Option.some.inj H
  subst H
  exact J_aret (st := []) d_Switch_ofTarget_10 rfl (Or.inl ⟨_, rfl⟩) (by first | exact Or.inr ⟨_, rfl⟩ | (generalize (φ.2.2 a2 k4) = r9; cases r9; exact Or.inl rfl; exact Or.inr ⟨_, rfl⟩)) ⟨rfl, rfl, rfl⟩
theorem ln_Switch_tellSlave : (parseMethodDescriptor y_Switch_tellSlave.desc).map (fun q => q.parameters.length) = some 2 := by decide +kernel
def f_Switch_tellSlave_L27 (Γ : gm_T) (Kc2 : ph_T → Nat → Option Nat → Int32 → Int32 → Option (Unit × ph_T)) (φ : ph_T) (x0 : Nat) (x1 : Option Nat) (x2 : Int32) (x3 : Int32) (y0 : Int32) (y1 : Option Nat) (y2 : Int32) (y3 : Option Nat) : Option (Unit × ph_T) :=
  Option.bind (f_Switch_tellRow Γ φ y3 y2 y1 y0) fun q1 =>
  Kc2 q1.2 x0 x1 x2 (x3 + (1 : Int32))
set_option maxRecDepth 100000 in
set_option maxHeartbeats 4000000 in
theorem p_Switch_tellSlave_L27 {w : jw_T} (hw : jok w) {Γ : gm_T} {n : Nat} (hG : gd w Γ n) {Kc2 : ph_T → Nat → Option Nat → Int32 → Int32 → Option (Unit × ph_T)} (hKc2 : ∀ {x : Bool} {φ : ph_T} {x0 : Nat} {x1 : Option Nat} {x2 : Int32} {x3 : Int32} {q : Unit × ph_T}, Kc2 φ x0 x1 x2 x3 = some q → J w M_Switch_tellSlave 2 [some (.ref x0), some (va_rf x1), some (.int x2), some (.int x3)] [] (pic Γ φ) n x 0 0 (fq Γ n (.inl none) q.2)) {x : Bool} {φ : ph_T} {x0 : Nat} {x1 : Option Nat} {x2 : Int32} {x3 : Int32} {y0 : Int32} {y1 : Option Nat} {y2 : Int32} {y3 : Option Nat} {q : Unit × ph_T} (H : f_Switch_tellSlave_L27 Γ Kc2 φ x0 x1 x2 x3 y0 y1 y2 y3 = some q) : J w M_Switch_tellSlave 27 [some (.ref x0), some (va_rf x1), some (.int x2), some (.int x3)] [.int y0, va_rf y1, .int y2, va_rf y3] (pic Γ φ) n x 0 0 (fq Γ n (.inl none) q.2) := by
  unfold f_Switch_tellSlave_L27 at H
  obtain ⟨q1, hq1, H⟩ := Option.bind_eq_some_iff.mp H
  refine J_callS (kc := 0) (ks := 0) (kc' := 0) (ks' := 0) (as := [va_rf y3, .int y2, va_rf y1, .int y0]) (st := []) (mf_Switch_tellRow hw) (ms_Switch_115 hw) d_Switch_tellSlave_27 ln_Switch_tellRow (by decide) (by first | exact Nat.le_of_ble_eq_true rfl | (simp only [List.map_cons, List.map_nil, List.sum_cons, List.sum_nil, va_rf_cat]; exact Nat.le_of_ble_eq_true rfl)) rfl (p_Switch_tellRow hw hG hq1) ?_ (fun E h' n' x' e1 => by cases e1.1)
  intro v9 h9 n9 x9 e9
  obtain ⟨e91, e92, e93⟩ := e9
  cases e91
  subst e92
  subst e93
  clear x
  rename Bool => x
  show J _ _ _ _ [] _ _ _ _ _ _
  refine J_iinc (v := x3 + 1) d_Switch_tellSlave_30 rfl (by rw [show Int32.ofInt 1 = (1 : Int32) from by decide]) ?_
  refine J.ls (ls' := [some (.ref x0), some (va_rf x1), some (.int x2), some (.int (x3 + (1 : Int32)))]) rfl ?_
  refine J_goto (tgt := 2) d_Switch_tellSlave_33 (by decide) ?_
  refine J.drop [true, true, true, true] rfl ?_
  exact hKc2 H
def f_Switch_tellSlave_L2 (Γ : gm_T)  : Nat → ph_T → Nat → Option Nat → Int32 → Int32 → Option (Unit × ph_T)
  | 0, _, _, _, _, _ => none
  | fu + 1, φ, x0, x1, x2, x3 =>
    if (5 : Int32) ≤ x3 then
      some ((), φ)
    else
      @ite _ (Γ x0 = .inr 10) _ (
      Option.bind (f_Switch_ofTarget Γ φ x0 x2 x3) fun q3 =>
      Option.bind (f_Bus_toSlave Γ q3.2 x3) fun q4 =>
      if q4.1 = 0 then
        f_Switch_tellSlave_L27 Γ (f_Switch_tellSlave_L2 Γ  fu) q4.2 x0 x1 x2 x3 (1 : Int32) q3.1 x3 x1
      else
        f_Switch_tellSlave_L27 Γ (f_Switch_tellSlave_L2 Γ  fu) q4.2 x0 x1 x2 x3 (0 : Int32) q3.1 x3 x1
      ) none
set_option maxRecDepth 100000 in
set_option maxHeartbeats 4000000 in
theorem p_Switch_tellSlave_L2 {w : jw_T} (hw : jok w) {Γ : gm_T} {n : Nat} (hG : gd w Γ n)  : ∀ (fu : Nat) {x : Bool} {φ : ph_T} {x0 : Nat} {x1 : Option Nat} {x2 : Int32} {x3 : Int32} {q : Unit × ph_T}, f_Switch_tellSlave_L2 Γ  fu φ x0 x1 x2 x3 = some q → J w M_Switch_tellSlave 2 [some (.ref x0), some (va_rf x1), some (.int x2), some (.int x3)] [] (pic Γ φ) n x 0 0 (fq Γ n (.inl none) q.2) := by
  intro fu
  induction fu with
  | zero =>
    intro x φ x0 x1 x2 x3 q H
    cases H
  | succ fu ih =>
    intro x φ x0 x1 x2 x3 q H
    unfold f_Switch_tellSlave_L2 at H
    refine J_iload_n d_Switch_tellSlave_2 rfl ?_
    refine J_iconst (v := 5) d_Switch_tellSlave_3 (by decide) ?_
    refine J_icmp_ge (tgt := 36) d_Switch_tellSlave_4 (by decide) ?_ ?_
    · intro c6
      rw [if_pos c6] at H
      have H := Option.some.inj H
      subst H
      exact J_vret (st := []) d_Switch_tellSlave_36 rfl ⟨rfl, rfl, rfl⟩
    · intro c6
      rw [if_neg c6] at H
      refine J_aload_nO d_Switch_tellSlave_7 rfl ?_
      refine J_iload_n d_Switch_tellSlave_8 rfl ?_
      refine J_aload_n d_Switch_tellSlave_9 rfl ?_
      refine J_iload_n d_Switch_tellSlave_10 rfl ?_
      refine J_iload_n d_Switch_tellSlave_11 rfl ?_
      have g2 : Γ x0 = .inr 10 := by
        apply Classical.byContradiction
        intro q9
        rw [if_neg q9] at H
        cases H
      rw [if_pos g2] at H
      obtain ⟨q3, hq3, H⟩ := Option.bind_eq_some_iff.mp H
      refine J_callV (kc := 0) (ks := 0) (kc' := 0) (ks' := 0) (a := x0) (ci := 10) (as := [.int x2, .int x3]) (st := [.int x3, va_rf x1]) (mf_Switch_ofTarget hw) (mv_Switch_119 hw) d_Switch_tellSlave_12 ln_Switch_ofTarget (by decide) (by first | exact Nat.le_of_ble_eq_true rfl | (simp only [List.map_cons, List.map_nil, List.sum_cons, List.sum_nil, va_rf_cat]; exact Nat.le_of_ble_eq_true rfl)) rfl ((hG _).1 _ g2 (by decide)).1 ((hG _).1 _ g2 (by decide)).2 (by unfold pic; rw [g2]; rfl) (jcl_at hw rfl) rfl (p_Switch_ofTarget hw hG hq3) ?_ (fun E h' n' x' e1 => by cases e1.1)
      intro v9 h9 n9 x9 e9
      obtain ⟨e91, e92, e93⟩ := e9
      cases e91
      subst e92
      subst e93
      clear x
      rename Bool => x
      show J _ _ _ _ (_ :: _) _ _ _ _ _ _
      refine J_iload_n d_Switch_tellSlave_15 rfl ?_
      obtain ⟨q4, hq4, H⟩ := Option.bind_eq_some_iff.mp H
      refine J_callS (kc := 0) (ks := 0) (kc' := 0) (ks' := 0) (as := [.int x3]) (st := [va_rf q3.1, .int x3, va_rf x1]) (mf_Bus_toSlave hw) (ms_Switch_111 hw) d_Switch_tellSlave_16 ln_Bus_toSlave (by decide) (by first | exact Nat.le_of_ble_eq_true rfl | (simp only [List.map_cons, List.map_nil, List.sum_cons, List.sum_nil, va_rf_cat]; exact Nat.le_of_ble_eq_true rfl)) rfl (p_Bus_toSlave hw hG hq4) ?_ (fun E h' n' x' e1 => by cases e1.1)
      intro v9 h9 n9 x9 e9
      obtain ⟨e91, e92, e93⟩ := e9
      cases e91
      subst e92
      subst e93
      clear x
      rename Bool => x
      show J _ _ _ _ (_ :: _) _ _ _ _ _ _
      refine J_if_ne (tgt := 26) d_Switch_tellSlave_19 (by decide) ?_ ?_
      · intro c5
        rw [if_neg c5] at H
        refine J_iconst (v := 0) d_Switch_tellSlave_26 (by decide) ?_
        refine J.drop [true, true, true, true] rfl ?_
        exact p_Switch_tellSlave_L27 hw hG ih H
      · intro c5
        rw [if_pos c5] at H
        refine J_iconst (v := 1) d_Switch_tellSlave_22 (by decide) ?_
        refine J_goto (tgt := 27) d_Switch_tellSlave_23 (by decide) ?_
        refine J.drop [true, true, true, true] rfl ?_
        exact p_Switch_tellSlave_L27 hw hG ih H
def f_Switch_tellSlave (Γ : gm_T) (φ : ph_T) (this : Nat) (p0 : Option Nat) (p1 : Int32) : Option (Unit × ph_T) :=
  f_Switch_tellSlave_L2 Γ  jF φ this p0 p1 (0 : Int32)
set_option maxRecDepth 100000 in
set_option maxHeartbeats 4000000 in
theorem p_Switch_tellSlave {w : jw_T} (hw : jok w) {Γ : gm_T} {n : Nat} (hG : gd w Γ n) {x : Bool} {φ : ph_T} {this : Nat} {p0 : Option Nat} {p1 : Int32} {q : Unit × ph_T} (H : f_Switch_tellSlave Γ φ this p0 p1 = some q) : jc w M_Switch_tellSlave [.ref this, va_rf p0, .int p1] (pic Γ φ) n x 0 0 (fq Γ n (.inl none) q.2) := by
  refine jc.of (by simp only [jent_r, jent_i, jent_l, jent_a, jent_0]; exact Nat.le_of_ble_eq_true rfl) ?_
  have hls : jents [.ref this, va_rf p0, .int p1] (jm_nL M_Switch_tellSlave) = [some (.ref this), some (va_rf p0), some (.int p1), none] := by simp only [jents, jent_r, jent_i, jent_l, jent_a, jent_0]; rfl
  rw [hls]
  clear hls
  unfold f_Switch_tellSlave at H
  refine J_iconst (v := 0) d_Switch_tellSlave_0 (by decide) ?_
  refine J_istore_n d_Switch_tellSlave_1 (Nat.le_of_ble_eq_true rfl) ?_
  refine J.ls (ls' := [some (.ref this), some (va_rf p0), some (.int p1), some (.int (0 : Int32))]) rfl ?_
  refine J.drop [true, true, true, true] rfl ?_
  exact p_Switch_tellSlave_L2 hw hG  _ H
theorem ln_Row_put : (parseMethodDescriptor y_Row_put.desc).map (fun q => q.parameters.length) = some 3 := by decide +kernel
def f_Row_put_L48 (Γ : gm_T)  (φ : ph_T) : Option (Unit × ph_T) :=
  some ((), φ)
set_option maxRecDepth 100000 in
set_option maxHeartbeats 4000000 in
theorem p_Row_put_L48 {w : jw_T} (hw : jok w) {Γ : gm_T} {n : Nat} (hG : gd w Γ n)  {x : Bool} {φ : ph_T} {q : Unit × ph_T} (H : f_Row_put_L48 Γ  φ  = some q) : J w M_Row_put 48 [none, none, none, none, none] [] (pic Γ φ) n x 0 0 (fq Γ n (.inl none) q.2) := by
  unfold f_Row_put_L48 at H
  have H := Option.some.inj H
  subst H
  exact J_vret (st := []) d_Row_put_48 rfl ⟨rfl, rfl, rfl⟩
def f_Row_put (Γ : gm_T) (φ : ph_T) (this : Nat) (p0 : Int64) (p1 : Int32) (p2 : Int32) : Option (Unit × ph_T) :=
  @ite _ (Γ this = .inr 3) _ (
  Option.bind (f_Row_hasRoom Γ φ this) fun q2 =>
  if q2.1 = 0 then
    f_Row_put_L48 Γ  q2.2 
  else
    Option.bind (q2.2.2.2 this 0) fun a3 =>
    Option.bind (gA Γ a3 1) fun N4 =>
    Option.bind (ix (q2.2.1 this 3) N4) fun k5 =>
    Option.bind (q2.2.2.2 this 1) fun a6 =>
    Option.bind (gA Γ a6 0) fun N7 =>
    Option.bind (ix (q2.2.1 this 3) N7) fun k8 =>
    Option.bind (q2.2.2.2 this 2) fun a9 =>
    Option.bind (gA Γ a9 0) fun N10 =>
    Option.bind (ix ((uI (uL q2.2 a3 k5 p0) a6 k8 p1).1 this 3) N10) fun k11 =>
    f_Row_put_L48 Γ  (uI (uI (uI (uL q2.2 a3 k5 p0) a6 k8 p1) a9 k11 p2) this 3 (((uI (uI (uL q2.2 a3 k5 p0) a6 k8 p1) a9 k11 p2).1 this 3) + (1 : Int32))) 
  ) none
set_option maxRecDepth 100000 in
set_option maxHeartbeats 4000000 in
theorem p_Row_put {w : jw_T} (hw : jok w) {Γ : gm_T} {n : Nat} (hG : gd w Γ n) {x : Bool} {φ : ph_T} {this : Nat} {p0 : Int64} {p1 : Int32} {p2 : Int32} {q : Unit × ph_T} (H : f_Row_put Γ φ this p0 p1 p2 = some q) : jc w M_Row_put [.ref this, .long p0, .int p1, .int p2] (pic Γ φ) n x 0 0 (fq Γ n (.inl none) q.2) := by
  refine jc.of (by simp only [jent_r, jent_i, jent_l, jent_a, jent_0]; exact Nat.le_of_ble_eq_true rfl) ?_
  have hls : jents [.ref this, .long p0, .int p1, .int p2] (jm_nL M_Row_put) = [some (.ref this), some (.long p0), none, some (.int p1), some (.int p2)] := by simp only [jents, jent_r, jent_i, jent_l, jent_a, jent_0]; rfl
  rw [hls]
  clear hls
  unfold f_Row_put at H
  refine J_aload_n d_Row_put_0 rfl ?_
  have g1 : Γ this = .inr 3 := by
    apply Classical.byContradiction
    intro q9
    rw [if_neg q9] at H
    cases H
  rw [if_pos g1] at H
  obtain ⟨q2, hq2, H⟩ := Option.bind_eq_some_iff.mp H
  refine J_callV (kc := 0) (ks := 0) (kc' := 0) (ks' := 0) (a := this) (ci := 3) (as := []) (st := []) (mf_Row_hasRoom hw) (mv_Row_24 hw) d_Row_put_1 ln_Row_hasRoom (by decide) (by first | exact Nat.le_of_ble_eq_true rfl | (simp only [List.map_cons, List.map_nil, List.sum_cons, List.sum_nil, va_rf_cat]; exact Nat.le_of_ble_eq_true rfl)) rfl ((hG _).1 _ g1 (by decide)).1 ((hG _).1 _ g1 (by decide)).2 (by unfold pic; rw [g1]; rfl) (jcl_at hw rfl) rfl (p_Row_hasRoom hw hG hq2) ?_ (fun E h' n' x' e1 => by cases e1.1)
  intro v9 h9 n9 x9 e9
  obtain ⟨e91, e92, e93⟩ := e9
  cases e91
  subst e92
  subst e93
  clear x
  rename Bool => x
  show J _ _ _ _ (_ :: _) _ _ _ _ _ _
  refine J_if_eq (tgt := 48) d_Row_put_4 (by decide) ?_ ?_
  · intro c12
    rw [if_pos c12] at H
    refine J.drop [false, false, false, false, false] rfl ?_
    exact p_Row_put_L48 hw hG  H
  · intro c12
    rw [if_neg c12] at H
    refine J_aload_n d_Row_put_7 rfl ?_
    refine F_getR (ci := 3) (k := 0) hG (cf_Row hw) (fl_Row_7 hw) (by decide) (by decide) rfl d_Row_put_8 g1 ?_
    refine J_aload_n d_Row_put_11 rfl ?_
    refine F_getI (ci := 3) (k := 3) hG (cf_Row hw) (fl_Row_20 hw) (by decide) (by decide) rfl d_Row_put_12 g1 ?_
    refine J_lload_n d_Row_put_15 rfl ?_
    obtain ⟨a3, ha3, H⟩ := Option.bind_eq_some_iff.mp H
    rw [j_rf ha3]
    obtain ⟨N4, hN4, H⟩ := Option.bind_eq_some_iff.mp H
    obtain ⟨k5, hk5, H⟩ := Option.bind_eq_some_iff.mp H
    refine F_last k5 hw hG d_Row_put_16 (gA_some hN4) (ix_some hk5) ?_
    refine J_aload_n d_Row_put_17 rfl ?_
    refine F_getR (ci := 3) (k := 1) hG (cf_Row hw) (fl_Row_13 hw) (by decide) (by decide) rfl d_Row_put_18 g1 ?_
    show J _ _ _ _ (va_rf (q2.2.2.2 this 1) :: _) _ _ _ _ _ _
    refine J_aload_n d_Row_put_21 rfl ?_
    refine F_getI (ci := 3) (k := 3) hG (cf_Row hw) (fl_Row_20 hw) (by decide) (by decide) rfl d_Row_put_22 g1 ?_
    show J _ _ _ _ (.int (q2.2.1 this 3) :: _) _ _ _ _ _ _
    refine J_iload_n d_Row_put_25 rfl ?_
    obtain ⟨a6, ha6, H⟩ := Option.bind_eq_some_iff.mp H
    rw [j_rf ha6]
    obtain ⟨N7, hN7, H⟩ := Option.bind_eq_some_iff.mp H
    obtain ⟨k8, hk8, H⟩ := Option.bind_eq_some_iff.mp H
    refine F_iast k8 hw hG d_Row_put_26 (gA_some hN7) (ix_some hk8) ?_
    refine J_aload_n d_Row_put_27 rfl ?_
    refine F_getR (ci := 3) (k := 2) hG (cf_Row hw) (fl_Row_17 hw) (by decide) (by decide) rfl d_Row_put_28 g1 ?_
    show J _ _ _ _ (va_rf (q2.2.2.2 this 2) :: _) _ _ _ _ _ _
    refine J_aload_n d_Row_put_31 rfl ?_
    refine F_getI (ci := 3) (k := 3) hG (cf_Row hw) (fl_Row_20 hw) (by decide) (by decide) rfl d_Row_put_32 g1 ?_
    refine J_iload d_Row_put_35 rfl ?_
    obtain ⟨a9, ha9, H⟩ := Option.bind_eq_some_iff.mp H
    rw [j_rf ha9]
    obtain ⟨N10, hN10, H⟩ := Option.bind_eq_some_iff.mp H
    obtain ⟨k11, hk11, H⟩ := Option.bind_eq_some_iff.mp H
    refine F_iast k11 hw hG d_Row_put_37 (gA_some hN10) (ix_some hk11) ?_
    refine J_aload_n d_Row_put_38 rfl ?_
    refine J_dup d_Row_put_39 rfl ?_
    refine F_getI (ci := 3) (k := 3) hG (cf_Row hw) (fl_Row_20 hw) (by decide) (by decide) rfl d_Row_put_40 g1 ?_
    refine J_iconst (v := 1) d_Row_put_43 (by decide) ?_
    refine J_iadd d_Row_put_44 ?_
    refine F_putI (ci := 3) (k := 3) hG (cf_Row hw) (fl_Row_20 hw) (by decide) (by decide) rfl d_Row_put_45 rfl rfl rfl g1 ?_
    refine J.drop [false, false, false, false, false] rfl ?_
    exact p_Row_put_L48 hw hG  H
theorem ln_Row_drop : (parseMethodDescriptor y_Row_drop.desc).map (fun q => q.parameters.length) = some 0 := by decide +kernel
def f_Row_drop_L75 (Γ : gm_T)  (φ : ph_T) : Option (Unit × ph_T) :=
  some ((), φ)
set_option maxRecDepth 100000 in
set_option maxHeartbeats 4000000 in
theorem p_Row_drop_L75 {w : jw_T} (hw : jok w) {Γ : gm_T} {n : Nat} (hG : gd w Γ n)  {x : Bool} {φ : ph_T} {q : Unit × ph_T} (H : f_Row_drop_L75 Γ  φ  = some q) : J w M_Row_drop 75 [none, none] [] (pic Γ φ) n x 0 0 (fq Γ n (.inl none) q.2) := by
  unfold f_Row_drop_L75 at H
  have H := Option.some.inj H
  subst H
  exact J_vret (st := []) d_Row_drop_75 rfl ⟨rfl, rfl, rfl⟩
def f_Row_drop_L2 (Γ : gm_T)  : Nat → ph_T → Nat → Int32 → Option (Unit × ph_T)
  | 0, _, _, _ => none
  | fu + 1, φ, x0, x1 =>
    @ite _ (Γ x0 = .inr 3) _ (
    if (φ.1 x0 3) ≤ x1 then
      if (φ.1 x0 3) ≤ 0 then
        f_Row_drop_L75 Γ  φ 
      else
        f_Row_drop_L75 Γ  (uI φ x0 3 ((φ.1 x0 3) - (1 : Int32))) 
    else
      Option.bind (φ.2.2 x0 0) fun a3 =>
      Option.bind (gA Γ a3 1) fun N4 =>
      Option.bind (ix x1 N4) fun k5 =>
      Option.bind (gA Γ a3 1) fun N6 =>
      Option.bind (ix (x1 - (1 : Int32)) N6) fun k7 =>
      Option.bind (φ.2.2 x0 1) fun a8 =>
      Option.bind (gA Γ a8 0) fun N9 =>
      Option.bind (ix x1 N9) fun k10 =>
      Option.bind (gA Γ a8 0) fun N11 =>
      Option.bind (ix (x1 - (1 : Int32)) N11) fun k12 =>
      Option.bind (φ.2.2 x0 2) fun a13 =>
      Option.bind (gA Γ a13 0) fun N14 =>
      Option.bind (ix x1 N14) fun k15 =>
      Option.bind (gA Γ a13 0) fun N16 =>
      Option.bind (ix (x1 - (1 : Int32)) N16) fun k17 =>
      (f_Row_drop_L2 Γ  fu) (uI (uI (uL φ a3 k7 (φ.2.1 a3 k5)) a8 k12 (φ.1 a8 k10)) a13 k17 ((uI (uL φ a3 k7 (φ.2.1 a3 k5)) a8 k12 (φ.1 a8 k10)).1 a13 k15)) x0 (x1 + (1 : Int32))
    ) none
set_option maxRecDepth 100000 in
set_option maxHeartbeats 4000000 in
theorem p_Row_drop_L2 {w : jw_T} (hw : jok w) {Γ : gm_T} {n : Nat} (hG : gd w Γ n)  : ∀ (fu : Nat) {x : Bool} {φ : ph_T} {x0 : Nat} {x1 : Int32} {q : Unit × ph_T}, f_Row_drop_L2 Γ  fu φ x0 x1 = some q → J w M_Row_drop 2 [some (.ref x0), some (.int x1)] [] (pic Γ φ) n x 0 0 (fq Γ n (.inl none) q.2) := by
  intro fu
  induction fu with
  | zero =>
    intro x φ x0 x1 q H
    cases H
  | succ fu ih =>
    intro x φ x0 x1 q H
    unfold f_Row_drop_L2 at H
    refine J_iload_n d_Row_drop_2 rfl ?_
    refine J_aload_n d_Row_drop_3 rfl ?_
    have g1 : Γ x0 = .inr 3 := by
      apply Classical.byContradiction
      intro q9
      rw [if_neg q9] at H
      cases H
    rw [if_pos g1] at H
    refine F_getI (ci := 3) (k := 3) hG (cf_Row hw) (fl_Row_20 hw) (by decide) (by decide) rfl d_Row_drop_4 g1 ?_
    refine J_icmp_ge (tgt := 58) d_Row_drop_7 (by decide) ?_ ?_
    · intro c18
      rw [if_pos c18] at H
      refine J_aload_n d_Row_drop_58 rfl ?_
      refine F_getI (ci := 3) (k := 3) hG (cf_Row hw) (fl_Row_20 hw) (by decide) (by decide) rfl d_Row_drop_59 g1 ?_
      refine J_if_le (tgt := 75) d_Row_drop_62 (by decide) ?_ ?_
      · intro c2
        rw [if_pos c2] at H
        refine J.drop [false, false] rfl ?_
        exact p_Row_drop_L75 hw hG  H
      · intro c2
        rw [if_neg c2] at H
        refine J_aload_n d_Row_drop_65 rfl ?_
        refine J_dup d_Row_drop_66 rfl ?_
        refine F_getI (ci := 3) (k := 3) hG (cf_Row hw) (fl_Row_20 hw) (by decide) (by decide) rfl d_Row_drop_67 g1 ?_
        refine J_iconst (v := 1) d_Row_drop_70 (by decide) ?_
        refine J_isub d_Row_drop_71 ?_
        refine F_putI (ci := 3) (k := 3) hG (cf_Row hw) (fl_Row_20 hw) (by decide) (by decide) rfl d_Row_drop_72 rfl rfl rfl g1 ?_
        refine J.drop [false, false] rfl ?_
        exact p_Row_drop_L75 hw hG  H
    · intro c18
      rw [if_neg c18] at H
      refine J_aload_n d_Row_drop_10 rfl ?_
      refine F_getR (ci := 3) (k := 0) hG (cf_Row hw) (fl_Row_7 hw) (by decide) (by decide) rfl d_Row_drop_11 g1 ?_
      refine J_iload_n d_Row_drop_14 rfl ?_
      refine J_iconst (v := 1) d_Row_drop_15 (by decide) ?_
      refine J_isub d_Row_drop_16 ?_
      refine J_aload_n d_Row_drop_17 rfl ?_
      refine F_getR (ci := 3) (k := 0) hG (cf_Row hw) (fl_Row_7 hw) (by decide) (by decide) rfl d_Row_drop_18 g1 ?_
      refine J_iload_n d_Row_drop_21 rfl ?_
      obtain ⟨a3, ha3, H⟩ := Option.bind_eq_some_iff.mp H
      rw [j_rf ha3]
      obtain ⟨N4, hN4, H⟩ := Option.bind_eq_some_iff.mp H
      obtain ⟨k5, hk5, H⟩ := Option.bind_eq_some_iff.mp H
      refine F_lald k5 hw hG d_Row_drop_22 (gA_some hN4) (ix_some hk5) ?_
      obtain ⟨N6, hN6, H⟩ := Option.bind_eq_some_iff.mp H
      obtain ⟨k7, hk7, H⟩ := Option.bind_eq_some_iff.mp H
      refine F_last k7 hw hG d_Row_drop_23 (gA_some hN6) (ix_some hk7) ?_
      refine J_aload_n d_Row_drop_24 rfl ?_
      refine F_getR (ci := 3) (k := 1) hG (cf_Row hw) (fl_Row_13 hw) (by decide) (by decide) rfl d_Row_drop_25 g1 ?_
      show J _ _ _ _ (va_rf (φ.2.2 x0 1) :: _) _ _ _ _ _ _
      refine J_iload_n d_Row_drop_28 rfl ?_
      refine J_iconst (v := 1) d_Row_drop_29 (by decide) ?_
      refine J_isub d_Row_drop_30 ?_
      refine J_aload_n d_Row_drop_31 rfl ?_
      refine F_getR (ci := 3) (k := 1) hG (cf_Row hw) (fl_Row_13 hw) (by decide) (by decide) rfl d_Row_drop_32 g1 ?_
      show J _ _ _ _ (va_rf (φ.2.2 x0 1) :: _) _ _ _ _ _ _
      refine J_iload_n d_Row_drop_35 rfl ?_
      obtain ⟨a8, ha8, H⟩ := Option.bind_eq_some_iff.mp H
      rw [j_rf ha8]
      obtain ⟨N9, hN9, H⟩ := Option.bind_eq_some_iff.mp H
      obtain ⟨k10, hk10, H⟩ := Option.bind_eq_some_iff.mp H
      refine F_iald k10 hw hG d_Row_drop_36 (gA_some hN9) (ix_some hk10) ?_
      show J _ _ _ _ (.int (φ.1 a8 k10) :: _) _ _ _ _ _ _
      obtain ⟨N11, hN11, H⟩ := Option.bind_eq_some_iff.mp H
      obtain ⟨k12, hk12, H⟩ := Option.bind_eq_some_iff.mp H
      refine F_iast k12 hw hG d_Row_drop_37 (gA_some hN11) (ix_some hk12) ?_
      refine J_aload_n d_Row_drop_38 rfl ?_
      refine F_getR (ci := 3) (k := 2) hG (cf_Row hw) (fl_Row_17 hw) (by decide) (by decide) rfl d_Row_drop_39 g1 ?_
      show J _ _ _ _ (va_rf (φ.2.2 x0 2) :: _) _ _ _ _ _ _
      refine J_iload_n d_Row_drop_42 rfl ?_
      refine J_iconst (v := 1) d_Row_drop_43 (by decide) ?_
      refine J_isub d_Row_drop_44 ?_
      refine J_aload_n d_Row_drop_45 rfl ?_
      refine F_getR (ci := 3) (k := 2) hG (cf_Row hw) (fl_Row_17 hw) (by decide) (by decide) rfl d_Row_drop_46 g1 ?_
      show J _ _ _ _ (va_rf (φ.2.2 x0 2) :: _) _ _ _ _ _ _
      refine J_iload_n d_Row_drop_49 rfl ?_
      obtain ⟨a13, ha13, H⟩ := Option.bind_eq_some_iff.mp H
      rw [j_rf ha13]
      obtain ⟨N14, hN14, H⟩ := Option.bind_eq_some_iff.mp H
      obtain ⟨k15, hk15, H⟩ := Option.bind_eq_some_iff.mp H
      refine F_iald k15 hw hG d_Row_drop_50 (gA_some hN14) (ix_some hk15) ?_
      obtain ⟨N16, hN16, H⟩ := Option.bind_eq_some_iff.mp H
      obtain ⟨k17, hk17, H⟩ := Option.bind_eq_some_iff.mp H
      refine F_iast k17 hw hG d_Row_drop_51 (gA_some hN16) (ix_some hk17) ?_
      refine J_iinc (v := x1 + 1) d_Row_drop_52 rfl (by rw [show Int32.ofInt 1 = (1 : Int32) from by decide]) ?_
      refine J.ls (ls' := [some (.ref x0), some (.int (x1 + (1 : Int32)))]) rfl ?_
      refine J_goto (tgt := 2) d_Row_drop_55 (by decide) ?_
      refine J.drop [true, true] rfl ?_
      exact ih H
def f_Row_drop (Γ : gm_T) (φ : ph_T) (this : Nat) : Option (Unit × ph_T) :=
  f_Row_drop_L2 Γ  jF φ this (1 : Int32)
set_option maxRecDepth 100000 in
set_option maxHeartbeats 4000000 in
theorem p_Row_drop {w : jw_T} (hw : jok w) {Γ : gm_T} {n : Nat} (hG : gd w Γ n) {x : Bool} {φ : ph_T} {this : Nat} {q : Unit × ph_T} (H : f_Row_drop Γ φ this = some q) : jc w M_Row_drop [.ref this] (pic Γ φ) n x 0 0 (fq Γ n (.inl none) q.2) := by
  refine jc.of (by simp only [jent_r, jent_i, jent_l, jent_a, jent_0]; exact Nat.le_of_ble_eq_true rfl) ?_
  have hls : jents [.ref this] (jm_nL M_Row_drop) = [some (.ref this), none] := by simp only [jents, jent_r, jent_i, jent_l, jent_a, jent_0]; rfl
  rw [hls]
  clear hls
  unfold f_Row_drop at H
  refine J_iconst (v := 1) d_Row_drop_0 (by decide) ?_
  refine J_istore_n d_Row_drop_1 (Nat.le_of_ble_eq_true rfl) ?_
  refine J.ls (ls' := [some (.ref this), some (.int (1 : Int32))]) rfl ?_
  refine J.drop [true, true] rfl ?_
  exact p_Row_drop_L2 hw hG  _ H
theorem ln_Switch_passRow : (parseMethodDescriptor y_Switch_passRow.desc).map (fun q => q.parameters.length) = some 5 := by decide +kernel
def f_Switch_passRow_L29 (Γ : gm_T)  (φ : ph_T) : Option (Unit × ph_T) :=
  some ((), φ)
set_option maxRecDepth 100000 in
set_option maxHeartbeats 4000000 in
theorem p_Switch_passRow_L29 {w : jw_T} (hw : jok w) {Γ : gm_T} {n : Nat} (hG : gd w Γ n)  {x : Bool} {φ : ph_T} {q : Unit × ph_T} (H : f_Switch_passRow_L29 Γ  φ  = some q) : J w M_Switch_passRow 29 [none, none, none, none, none] [] (pic Γ φ) n x 0 0 (fq Γ n (.inl none) q.2) := by
  unfold f_Switch_passRow_L29 at H
  have H := Option.some.inj H
  subst H
  exact J_vret (st := []) d_Switch_passRow_29 rfl ⟨rfl, rfl, rfl⟩
def f_Switch_passRow (Γ : gm_T) (φ : ph_T) (p0 : Option Nat) (p1 : Int32) (p2 : Option Nat) (p3 : Int32) (p4 : Int32) : Option (Unit × ph_T) :=
  if p3 = 0 then
    Option.bind p2 fun a1 =>
    @ite _ (Γ a1 = .inr 3) _ (
    Option.bind (f_Row_drop Γ φ a1) fun q3 =>
    f_Switch_passRow_L29 Γ  q3.2 
    ) none
  else
    Option.bind p0 fun a4 =>
    @ite _ (Γ a4 = .inr 5) _ (
    Option.bind (φ.2.2 a4 3) fun a6 =>
    Option.bind (gA Γ a6 1) fun N7 =>
    Option.bind (ix p1 N7) fun k8 =>
    Option.bind (φ.2.2 a4 4) fun a9 =>
    Option.bind (gA Γ a9 0) fun N10 =>
    Option.bind (ix p1 N10) fun k11 =>
    Option.bind p2 fun a12 =>
    @ite _ (Γ a12 = .inr 3) _ (
    Option.bind (f_Row_put Γ φ a12 (φ.2.1 a6 k8) (φ.1 a9 k11) p4) fun q14 =>
    f_Switch_passRow_L29 Γ  q14.2 
    ) none
    ) none
set_option maxRecDepth 100000 in
set_option maxHeartbeats 4000000 in
theorem p_Switch_passRow {w : jw_T} (hw : jok w) {Γ : gm_T} {n : Nat} (hG : gd w Γ n) {x : Bool} {φ : ph_T} {p0 : Option Nat} {p1 : Int32} {p2 : Option Nat} {p3 : Int32} {p4 : Int32} {q : Unit × ph_T} (H : f_Switch_passRow Γ φ p0 p1 p2 p3 p4 = some q) : jc w M_Switch_passRow [va_rf p0, .int p1, va_rf p2, .int p3, .int p4] (pic Γ φ) n x 0 0 (fq Γ n (.inl none) q.2) := by
  refine jc.of (by simp only [jent_r, jent_i, jent_l, jent_a, jent_0]; exact Nat.le_of_ble_eq_true rfl) ?_
  have hls : jents [va_rf p0, .int p1, va_rf p2, .int p3, .int p4] (jm_nL M_Switch_passRow) = [some (va_rf p0), some (.int p1), some (va_rf p2), some (.int p3), some (.int p4)] := by simp only [jents, jent_r, jent_i, jent_l, jent_a, jent_0]; rfl
  rw [hls]
  clear hls
  unfold f_Switch_passRow at H
  refine J_iload_n d_Switch_passRow_0 rfl ?_
  refine J_if_eq (tgt := 25) d_Switch_passRow_1 (by decide) ?_ ?_
  · intro c15
    rw [if_pos c15] at H
    refine J_aload_nO d_Switch_passRow_25 rfl ?_
    obtain ⟨a1, ha1, H⟩ := Option.bind_eq_some_iff.mp H
    rw [j_rf ha1]
    have g2 : Γ a1 = .inr 3 := by
      apply Classical.byContradiction
      intro q9
      rw [if_neg q9] at H
      cases H
    rw [if_pos g2] at H
    obtain ⟨q3, hq3, H⟩ := Option.bind_eq_some_iff.mp H
    refine J_callV (kc := 0) (ks := 0) (kc' := 0) (ks' := 0) (a := a1) (ci := 3) (as := []) (st := []) (mf_Row_drop hw) (mv_Switch_161 hw) d_Switch_passRow_26 ln_Row_drop (by decide) (by first | exact Nat.le_of_ble_eq_true rfl | (simp only [List.map_cons, List.map_nil, List.sum_cons, List.sum_nil, va_rf_cat]; exact Nat.le_of_ble_eq_true rfl)) rfl ((hG _).1 _ g2 (by decide)).1 ((hG _).1 _ g2 (by decide)).2 (by unfold pic; rw [g2]; rfl) (jcl_at hw rfl) rfl (p_Row_drop hw hG hq3) ?_ (fun E h' n' x' e1 => by cases e1.1)
    intro v9 h9 n9 x9 e9
    obtain ⟨e91, e92, e93⟩ := e9
    cases e91
    subst e92
    subst e93
    clear x
    rename Bool => x
    show J _ _ _ _ [] _ _ _ _ _ _
    refine J.drop [false, false, false, false, false] rfl ?_
    exact p_Switch_passRow_L29 hw hG  H
  · intro c15
    rw [if_neg c15] at H
    refine J_aload_nO d_Switch_passRow_4 rfl ?_
    refine J_aload_nO d_Switch_passRow_5 rfl ?_
    obtain ⟨a4, ha4, H⟩ := Option.bind_eq_some_iff.mp H
    rw [j_rf ha4]
    have g5 : Γ a4 = .inr 5 := by
      apply Classical.byContradiction
      intro q9
      rw [if_neg q9] at H
      cases H
    rw [if_pos g5] at H
    refine F_getR (ci := 5) (k := 3) hG (cf_Port hw) (fl_Switch_150 hw) (by decide) (by decide) rfl d_Switch_passRow_6 g5 ?_
    refine J_iload_n d_Switch_passRow_9 rfl ?_
    obtain ⟨a6, ha6, H⟩ := Option.bind_eq_some_iff.mp H
    rw [j_rf ha6]
    obtain ⟨N7, hN7, H⟩ := Option.bind_eq_some_iff.mp H
    obtain ⟨k8, hk8, H⟩ := Option.bind_eq_some_iff.mp H
    refine F_lald k8 hw hG d_Switch_passRow_10 (gA_some hN7) (ix_some hk8) ?_
    refine J_aload_n d_Switch_passRow_11 rfl ?_
    refine F_getR (ci := 5) (k := 4) hG (cf_Port hw) (fl_Switch_154 hw) (by decide) (by decide) rfl d_Switch_passRow_12 g5 ?_
    refine J_iload_n d_Switch_passRow_15 rfl ?_
    obtain ⟨a9, ha9, H⟩ := Option.bind_eq_some_iff.mp H
    rw [j_rf ha9]
    obtain ⟨N10, hN10, H⟩ := Option.bind_eq_some_iff.mp H
    obtain ⟨k11, hk11, H⟩ := Option.bind_eq_some_iff.mp H
    refine F_iald k11 hw hG d_Switch_passRow_16 (gA_some hN10) (ix_some hk11) ?_
    refine J_iload d_Switch_passRow_17 rfl ?_
    obtain ⟨a12, ha12, H⟩ := Option.bind_eq_some_iff.mp H
    rw [j_rf ha12]
    have g13 : Γ a12 = .inr 3 := by
      apply Classical.byContradiction
      intro q9
      rw [if_neg q9] at H
      cases H
    rw [if_pos g13] at H
    obtain ⟨q14, hq14, H⟩ := Option.bind_eq_some_iff.mp H
    refine J_callV (kc := 0) (ks := 0) (kc' := 0) (ks' := 0) (a := a12) (ci := 3) (as := [.long (φ.2.1 a6 k8), .int (φ.1 a9 k11), .int p4]) (st := []) (mf_Row_put hw) (mv_Switch_157 hw) d_Switch_passRow_19 ln_Row_put (by decide) (by first | exact Nat.le_of_ble_eq_true rfl | (simp only [List.map_cons, List.map_nil, List.sum_cons, List.sum_nil, va_rf_cat]; exact Nat.le_of_ble_eq_true rfl)) rfl ((hG _).1 _ g13 (by decide)).1 ((hG _).1 _ g13 (by decide)).2 (by unfold pic; rw [g13]; rfl) (jcl_at hw rfl) rfl (p_Row_put hw hG hq14) ?_ (fun E h' n' x' e1 => by cases e1.1)
    intro v9 h9 n9 x9 e9
    obtain ⟨e91, e92, e93⟩ := e9
    cases e91
    subst e92
    subst e93
    clear x
    rename Bool => x
    show J _ _ _ _ [] _ _ _ _ _ _
    refine J_goto (tgt := 29) d_Switch_passRow_22 (by decide) ?_
    refine J.drop [false, false, false, false, false] rfl ?_
    exact p_Switch_passRow_L29 hw hG  H
theorem ln_Switch_passMaster : (parseMethodDescriptor y_Switch_passMaster.desc).map (fun q => q.parameters.length) = some 4 := by decide +kernel
def f_Switch_passMaster (Γ : gm_T) (φ : ph_T) (this : Nat) (p0 : Option Nat) (p1 : Int32) (p2 : Int32) (p3 : Int32) : Option (Unit × ph_T) :=
  @ite _ (Γ this = .inr 10) _ (
  Option.bind (f_Switch_ofMaster Γ φ this p1 p2) fun q2 =>
  Option.bind (f_Bus_toSlave Γ q2.2 p2) fun q3 =>
  Option.bind (f_Switch_passRow Γ q3.2 p0 p2 q2.1 q3.1 p3) fun q4 =>
  some ((), q4.2)
  ) none
set_option maxRecDepth 100000 in
set_option maxHeartbeats 4000000 in
theorem p_Switch_passMaster {w : jw_T} (hw : jok w) {Γ : gm_T} {n : Nat} (hG : gd w Γ n) {x : Bool} {φ : ph_T} {this : Nat} {p0 : Option Nat} {p1 : Int32} {p2 : Int32} {p3 : Int32} {q : Unit × ph_T} (H : f_Switch_passMaster Γ φ this p0 p1 p2 p3 = some q) : jc w M_Switch_passMaster [.ref this, va_rf p0, .int p1, .int p2, .int p3] (pic Γ φ) n x 0 0 (fq Γ n (.inl none) q.2) := by
  refine jc.of (by simp only [jent_r, jent_i, jent_l, jent_a, jent_0]; exact Nat.le_of_ble_eq_true rfl) ?_
  have hls : jents [.ref this, va_rf p0, .int p1, .int p2, .int p3] (jm_nL M_Switch_passMaster) = [some (.ref this), some (va_rf p0), some (.int p1), some (.int p2), some (.int p3)] := by simp only [jents, jent_r, jent_i, jent_l, jent_a, jent_0]; rfl
  rw [hls]
  clear hls
  unfold f_Switch_passMaster at H
  refine J_aload_nO d_Switch_passMaster_0 rfl ?_
  refine J_iload_n d_Switch_passMaster_1 rfl ?_
  refine J_aload_n d_Switch_passMaster_2 rfl ?_
  refine J_iload_n d_Switch_passMaster_3 rfl ?_
  refine J_iload_n d_Switch_passMaster_4 rfl ?_
  have g1 : Γ this = .inr 10 := by
    apply Classical.byContradiction
    intro q9
    rw [if_neg q9] at H
    cases H
  rw [if_pos g1] at H
  obtain ⟨q2, hq2, H⟩ := Option.bind_eq_some_iff.mp H
  refine J_callV (kc := 0) (ks := 0) (kc' := 0) (ks' := 0) (a := this) (ci := 10) (as := [.int p1, .int p2]) (st := [.int p2, va_rf p0]) (mf_Switch_ofMaster hw) (mv_Switch_107 hw) d_Switch_passMaster_5 ln_Switch_ofMaster (by decide) (by first | exact Nat.le_of_ble_eq_true rfl | (simp only [List.map_cons, List.map_nil, List.sum_cons, List.sum_nil, va_rf_cat]; exact Nat.le_of_ble_eq_true rfl)) rfl ((hG _).1 _ g1 (by decide)).1 ((hG _).1 _ g1 (by decide)).2 (by unfold pic; rw [g1]; rfl) (jcl_at hw rfl) rfl (p_Switch_ofMaster hw hG hq2) ?_ (fun E h' n' x' e1 => by cases e1.1)
  intro v9 h9 n9 x9 e9
  obtain ⟨e91, e92, e93⟩ := e9
  cases e91
  subst e92
  subst e93
  clear x
  rename Bool => x
  show J _ _ _ _ (_ :: _) _ _ _ _ _ _
  refine J_iload_n d_Switch_passMaster_8 rfl ?_
  obtain ⟨q3, hq3, H⟩ := Option.bind_eq_some_iff.mp H
  refine J_callS (kc := 0) (ks := 0) (kc' := 0) (ks' := 0) (as := [.int p2]) (st := [va_rf q2.1, .int p2, va_rf p0]) (mf_Bus_toSlave hw) (ms_Switch_111 hw) d_Switch_passMaster_9 ln_Bus_toSlave (by decide) (by first | exact Nat.le_of_ble_eq_true rfl | (simp only [List.map_cons, List.map_nil, List.sum_cons, List.sum_nil, va_rf_cat]; exact Nat.le_of_ble_eq_true rfl)) rfl (p_Bus_toSlave hw hG hq3) ?_ (fun E h' n' x' e1 => by cases e1.1)
  intro v9 h9 n9 x9 e9
  obtain ⟨e91, e92, e93⟩ := e9
  cases e91
  subst e92
  subst e93
  clear x
  rename Bool => x
  show J _ _ _ _ (_ :: _) _ _ _ _ _ _
  refine J_iload d_Switch_passMaster_12 rfl ?_
  obtain ⟨q4, hq4, H⟩ := Option.bind_eq_some_iff.mp H
  refine J_callS (kc := 0) (ks := 0) (kc' := 0) (ks' := 0) (as := [va_rf p0, .int p2, va_rf q2.1, .int q3.1, .int p3]) (st := []) (mf_Switch_passRow hw) (ms_Switch_146 hw) d_Switch_passMaster_14 ln_Switch_passRow (by decide) (by first | exact Nat.le_of_ble_eq_true rfl | (simp only [List.map_cons, List.map_nil, List.sum_cons, List.sum_nil, va_rf_cat]; exact Nat.le_of_ble_eq_true rfl)) rfl (p_Switch_passRow hw hG hq4) ?_ (fun E h' n' x' e1 => by cases e1.1)
  intro v9 h9 n9 x9 e9
  obtain ⟨e91, e92, e93⟩ := e9
  cases e91
  subst e92
  subst e93
  clear x
  rename Bool => x
  show J _ _ _ _ [] _ _ _ _ _ _
  have H := Option.some.inj H
  subst H
  exact J_vret (st := []) d_Switch_passMaster_17 rfl ⟨rfl, rfl, rfl⟩
theorem ln_Master_stamp : (parseMethodDescriptor y_Master_stamp.desc).map (fun q => q.parameters.length) = some 2 := by decide +kernel
def f_Master_stamp (Γ : gm_T) (φ : ph_T) (p0 : Option Nat) (p1 : Int32) : Option (Int32 × ph_T) :=
  if p0 = none then
    some ((0 : Int32), φ)
  else
    Option.bind p0 fun a1 =>
    @ite _ (Γ a1 = .inr 6) _ (
    some ((1 : Int32), (uI φ a1 3 p1))
    ) none
set_option maxRecDepth 100000 in
set_option maxHeartbeats 4000000 in
theorem p_Master_stamp {w : jw_T} (hw : jok w) {Γ : gm_T} {n : Nat} (hG : gd w Γ n) {x : Bool} {φ : ph_T} {p0 : Option Nat} {p1 : Int32} {q : Int32 × ph_T} (H : f_Master_stamp Γ φ p0 p1 = some q) : jc w M_Master_stamp [va_rf p0, .int p1] (pic Γ φ) n x 0 0 (fq Γ n (.inl (some (.int q.1))) q.2) := by
  refine jc.of (by simp only [jent_r, jent_i, jent_l, jent_a, jent_0]; exact Nat.le_of_ble_eq_true rfl) ?_
  have hls : jents [va_rf p0, .int p1] (jm_nL M_Master_stamp) = [some (va_rf p0), some (.int p1)] := by simp only [jents, jent_r, jent_i, jent_l, jent_a, jent_0]; rfl
  rw [hls]
  clear hls
  unfold f_Master_stamp at H
  refine J_aload_nO d_Master_stamp_0 rfl ?_
  refine J_ifnonnullO (r := p0) (tgt := 6) d_Master_stamp_1 (by decide) ?_ ?_
  · intro c3
    rw [if_neg c3] at H
    refine J_aload_nO d_Master_stamp_6 rfl ?_
    refine J_iload_n d_Master_stamp_7 rfl ?_
    obtain ⟨a1, ha1, H⟩ := Option.bind_eq_some_iff.mp H
    rw [j_rf ha1]
    have g2 : Γ a1 = .inr 6 := by
      apply Classical.byContradiction
      intro q9
      rw [if_neg q9] at H
      cases H
    rw [if_pos g2] at H
    refine F_putI (ci := 6) (k := 3) hG (cf_Request hw) (fl_Master_100 hw) (by decide) (by decide) rfl d_Master_stamp_8 rfl rfl rfl g2 ?_
    refine J_iconst (v := 1) d_Master_stamp_11 (by decide) ?_
    have H := Option.some.inj H
    subst H
    exact J_iret (st := []) d_Master_stamp_12 rfl rfl ⟨rfl, rfl, rfl⟩
  · intro c3
    rw [if_pos c3] at H
    refine J_iconst (v := 0) d_Master_stamp_4 (by decide) ?_
    have H := Option.some.inj H
    subst H
    exact J_iret (st := []) d_Master_stamp_5 rfl rfl ⟨rfl, rfl, rfl⟩
theorem ln_Master_feed : (parseMethodDescriptor y_Master_feed.desc).map (fun q => q.parameters.length) = some 1 := by decide +kernel
def f_Master_feed_L48 (Γ : gm_T)  (φ : ph_T) : Option (Unit × ph_T) :=
  some ((), φ)
set_option maxRecDepth 100000 in
set_option maxHeartbeats 4000000 in
theorem p_Master_feed_L48 {w : jw_T} (hw : jok w) {Γ : gm_T} {n : Nat} (hG : gd w Γ n)  {x : Bool} {φ : ph_T} {q : Unit × ph_T} (H : f_Master_feed_L48 Γ  φ  = some q) : J w M_Master_feed 48 [none, none] [] (pic Γ φ) n x 0 0 (fq Γ n (.inl none) q.2) := by
  unfold f_Master_feed_L48 at H
  have H := Option.some.inj H
  subst H
  exact J_vret (st := []) d_Master_feed_48 rfl ⟨rfl, rfl, rfl⟩
def f_Master_feed (Γ : gm_T) (φ : ph_T) (this : Nat) (p0 : Option Nat) : Option (Unit × ph_T) :=
  if p0 = none then
    some ((), φ)
  else
    Option.bind p0 fun a1 =>
    @ite _ (Γ a1 = .inr 6) _ (
    Option.bind (φ.2.2 a1 0) fun a3 =>
    @ite _ (Γ a3 = .inr 0) _ (
    Option.bind (f_Burst_lengthOf Γ (uI φ a3 3 ((φ.1 a3 3) + (1 : Int32))) (φ.2.1 a3 0)) fun q5 =>
    if ((uI φ a3 3 ((φ.1 a3 3) + (1 : Int32))).1 a3 3) < q5.1 then
      f_Master_feed_L48 Γ  q5.2 
    else
      @ite _ (Γ this = .inr 7) _ (
      f_Master_feed_L48 Γ  (uI q5.2 this 8 ((q5.2.1 this 8) + (1 : Int32))) 
      ) none
    ) none
    ) none
set_option maxRecDepth 100000 in
set_option maxHeartbeats 4000000 in
theorem p_Master_feed {w : jw_T} (hw : jok w) {Γ : gm_T} {n : Nat} (hG : gd w Γ n) {x : Bool} {φ : ph_T} {this : Nat} {p0 : Option Nat} {q : Unit × ph_T} (H : f_Master_feed Γ φ this p0 = some q) : jc w M_Master_feed [.ref this, va_rf p0] (pic Γ φ) n x 0 0 (fq Γ n (.inl none) q.2) := by
  refine jc.of (by simp only [jent_r, jent_i, jent_l, jent_a, jent_0]; exact Nat.le_of_ble_eq_true rfl) ?_
  have hls : jents [.ref this, va_rf p0] (jm_nL M_Master_feed) = [some (.ref this), some (va_rf p0)] := by simp only [jents, jent_r, jent_i, jent_l, jent_a, jent_0]; rfl
  rw [hls]
  clear hls
  unfold f_Master_feed at H
  refine J_aload_nO d_Master_feed_0 rfl ?_
  refine J_ifnonnullO (r := p0) (tgt := 5) d_Master_feed_1 (by decide) ?_ ?_
  · intro c8
    rw [if_neg c8] at H
    refine J_aload_nO d_Master_feed_5 rfl ?_
    obtain ⟨a1, ha1, H⟩ := Option.bind_eq_some_iff.mp H
    rw [j_rf ha1]
    have g2 : Γ a1 = .inr 6 := by
      apply Classical.byContradiction
      intro q9
      rw [if_neg q9] at H
      cases H
    rw [if_pos g2] at H
    refine F_getR (ci := 6) (k := 0) hG (cf_Request hw) (fl_Master_86 hw) (by decide) (by decide) rfl d_Master_feed_6 g2 ?_
    refine J_dup d_Master_feed_9 (va_rf_cat _) ?_
    obtain ⟨a3, ha3, H⟩ := Option.bind_eq_some_iff.mp H
    rw [j_rf ha3]
    have g4 : Γ a3 = .inr 0 := by
      apply Classical.byContradiction
      intro q9
      rw [if_neg q9] at H
      cases H
    rw [if_pos g4] at H
    refine F_getI (ci := 0) (k := 3) hG (cf_Burst hw) (fl_Master_103 hw) (by decide) (by decide) rfl d_Master_feed_10 g4 ?_
    refine J_iconst (v := 1) d_Master_feed_13 (by decide) ?_
    refine J_iadd d_Master_feed_14 ?_
    refine F_putI (ci := 0) (k := 3) hG (cf_Burst hw) (fl_Master_103 hw) (by decide) (by decide) rfl d_Master_feed_15 rfl rfl rfl g4 ?_
    refine J_aload_n d_Master_feed_18 rfl ?_
    refine F_getR (ci := 6) (k := 0) hG (cf_Request hw) (fl_Master_86 hw) (by decide) (by decide) rfl d_Master_feed_19 g2 ?_
    show J _ _ _ _ (va_rf (φ.2.2 a1 0) :: _) _ _ _ _ _ _
    try rw [j_rf ha3]
    refine F_getI (ci := 0) (k := 3) hG (cf_Burst hw) (fl_Master_103 hw) (by decide) (by decide) rfl d_Master_feed_22 g4 ?_
    refine J_aload_n d_Master_feed_25 rfl ?_
    refine F_getR (ci := 6) (k := 0) hG (cf_Request hw) (fl_Master_86 hw) (by decide) (by decide) rfl d_Master_feed_26 g2 ?_
    show J _ _ _ _ (va_rf (φ.2.2 a1 0) :: _) _ _ _ _ _ _
    try rw [j_rf ha3]
    refine F_getL (ci := 0) (k := 0) hG (cf_Burst hw) (fl_Master_90 hw) (by decide) (by decide) rfl d_Master_feed_29 g4 ?_
    show J _ _ _ _ (.long (φ.2.1 a3 0) :: _) _ _ _ _ _ _
    obtain ⟨q5, hq5, H⟩ := Option.bind_eq_some_iff.mp H
    refine J_callS (kc := 0) (ks := 0) (kc' := 0) (ks' := 0) (as := [.long (φ.2.1 a3 0)]) (st := [.int ((uI φ a3 3 ((φ.1 a3 3) + (1 : Int32))).1 a3 3)]) (mf_Burst_lengthOf hw) (ms_Master_137 hw) d_Master_feed_32 ln_Burst_lengthOf (by decide) (by first | exact Nat.le_of_ble_eq_true rfl | (simp only [List.map_cons, List.map_nil, List.sum_cons, List.sum_nil, va_rf_cat]; exact Nat.le_of_ble_eq_true rfl)) rfl (p_Burst_lengthOf hw hG hq5) ?_ (fun E h' n' x' e1 => by cases e1.1)
    intro v9 h9 n9 x9 e9
    obtain ⟨e91, e92, e93⟩ := e9
    cases e91
    subst e92
    subst e93
    clear x
    rename Bool => x
    show J _ _ _ _ (_ :: _) _ _ _ _ _ _
    refine J_icmp_lt (tgt := 48) d_Master_feed_35 (by decide) ?_ ?_
    · intro c7
      rw [if_pos c7] at H
      refine J.drop [false, false] rfl ?_
      exact p_Master_feed_L48 hw hG  H
    · intro c7
      rw [if_neg c7] at H
      refine J_aload_n d_Master_feed_38 rfl ?_
      refine J_dup d_Master_feed_39 rfl ?_
      have g6 : Γ this = .inr 7 := by
        apply Classical.byContradiction
        intro q9
        rw [if_neg q9] at H
        cases H
      rw [if_pos g6] at H
      refine F_getI (ci := 7) (k := 8) hG (cf_Master hw) (fl_Master_48 hw) (by decide) (by decide) rfl d_Master_feed_40 g6 ?_
      refine J_iconst (v := 1) d_Master_feed_43 (by decide) ?_
      refine J_iadd d_Master_feed_44 ?_
      refine F_putI (ci := 7) (k := 8) hG (cf_Master hw) (fl_Master_48 hw) (by decide) (by decide) rfl d_Master_feed_45 rfl rfl rfl g6 ?_
      refine J.drop [false, false] rfl ?_
      exact p_Master_feed_L48 hw hG  H
  · intro c8
    rw [if_pos c8] at H
    have H := Option.some.inj H
    subst H
    exact J_vret (st := []) d_Master_feed_4 rfl ⟨rfl, rfl, rfl⟩
theorem ln_Master_unanswered : (parseMethodDescriptor y_Master_unanswered.desc).map (fun q => q.parameters.length) = some 3 := by decide +kernel
def f_Master_unanswered_L56 (Γ : gm_T)  (φ : ph_T) : Option (Option Nat × ph_T) :=
  some (none, φ)
set_option maxRecDepth 100000 in
set_option maxHeartbeats 4000000 in
theorem p_Master_unanswered_L56 {w : jw_T} (hw : jok w) {Γ : gm_T} {n : Nat} (hG : gd w Γ n)  {x : Bool} {φ : ph_T} {q : Option Nat × ph_T} (H : f_Master_unanswered_L56 Γ  φ  = some q) : J w M_Master_unanswered 56 [none, none, none, none, none] [] (pic Γ φ) n x 0 0 (fq Γ n (.inl (some (va_rf q.1))) q.2) := by
  unfold f_Master_unanswered_L56 at H
  refine J_null d_Master_unanswered_56 ?_
  show J _ _ _ _ (va_rf none :: _) _ _ _ _ _ _
  have H := Option.some.inj H
  subst H
  exact J_aret (st := []) d_Master_unanswered_57 rfl (Or.inl ⟨_, rfl⟩) (by first | exact Or.inr ⟨_, rfl⟩ | (generalize none = r9; cases r9; exact Or.inl rfl; exact Or.inr ⟨_, rfl⟩)) ⟨rfl, rfl, rfl⟩
def f_Master_unanswered_L50 (Γ : gm_T) (Kc2 : ph_T → Option Nat → Int32 → Int32 → Int32 → Option (Option Nat × ph_T)) (φ : ph_T) (x0 : Option Nat) (x1 : Int32) (x2 : Int32) (x3 : Int32) : Option (Option Nat × ph_T) :=
  Kc2 φ x0 x1 x2 (x3 + (1 : Int32))
set_option maxRecDepth 100000 in
set_option maxHeartbeats 4000000 in
theorem p_Master_unanswered_L50 {w : jw_T} (hw : jok w) {Γ : gm_T} {n : Nat} (hG : gd w Γ n) {Kc2 : ph_T → Option Nat → Int32 → Int32 → Int32 → Option (Option Nat × ph_T)} (hKc2 : ∀ {x : Bool} {φ : ph_T} {x0 : Option Nat} {x1 : Int32} {x2 : Int32} {x3 : Int32} {q : Option Nat × ph_T}, Kc2 φ x0 x1 x2 x3 = some q → J w M_Master_unanswered 2 [some (va_rf x0), some (.int x1), some (.int x2), some (.int x3), none] [] (pic Γ φ) n x 0 0 (fq Γ n (.inl (some (va_rf q.1))) q.2)) {x : Bool} {φ : ph_T} {x0 : Option Nat} {x1 : Int32} {x2 : Int32} {x3 : Int32} {q : Option Nat × ph_T} (H : f_Master_unanswered_L50 Γ Kc2 φ x0 x1 x2 x3 = some q) : J w M_Master_unanswered 50 [some (va_rf x0), some (.int x1), some (.int x2), some (.int x3), none] [] (pic Γ φ) n x 0 0 (fq Γ n (.inl (some (va_rf q.1))) q.2) := by
  unfold f_Master_unanswered_L50 at H
  refine J_iinc (v := x3 + 1) d_Master_unanswered_50 rfl (by rw [show Int32.ofInt 1 = (1 : Int32) from by decide]) ?_
  refine J.ls (ls' := [some (va_rf x0), some (.int x1), some (.int x2), some (.int (x3 + (1 : Int32))), none]) rfl ?_
  refine J_goto (tgt := 2) d_Master_unanswered_53 (by decide) ?_
  refine J.drop [true, true, true, true, false] rfl ?_
  exact hKc2 H
def f_Master_unanswered_L2 (Γ : gm_T)  : Nat → ph_T → Option Nat → Int32 → Int32 → Int32 → Option (Option Nat × ph_T)
  | 0, _, _, _, _, _ => none
  | fu + 1, φ, x0, x1, x2, x3 =>
    if x1 ≤ x3 then
      f_Master_unanswered_L56 Γ  φ 
    else
      Option.bind x0 fun a1 =>
      Option.bind (gA Γ a1 6) fun N2 =>
      if (nI N2) ≤ x3 then
        f_Master_unanswered_L56 Γ  φ 
      else
        Option.bind (gA Γ a1 6) fun N3 =>
        Option.bind (ix x3 N3) fun k4 =>
        if (φ.2.2 a1 k4) = none then
          f_Master_unanswered_L50 Γ (f_Master_unanswered_L2 Γ  fu) φ (some a1) x1 x2 x3
        else
          Option.bind (φ.2.2 a1 k4) fun a5 =>
          @ite _ (Γ a5 = .inr 6) _ (
          if (φ.1 a5 4) = (-1 : Int32) then
            Option.bind (φ.2.2 a5 0) fun a7 =>
            @ite _ (Γ a7 = .inr 0) _ (
            Option.bind (f_Burst_idOf Γ φ (φ.2.1 a7 0)) fun q9 =>
            if q9.1 = x2 then
              some ((some a5), q9.2)
            else
              f_Master_unanswered_L50 Γ (f_Master_unanswered_L2 Γ  fu) q9.2 (some a1) x1 x2 x3
            ) none
          else
            f_Master_unanswered_L50 Γ (f_Master_unanswered_L2 Γ  fu) φ (some a1) x1 x2 x3
          ) none
set_option maxRecDepth 100000 in
set_option maxHeartbeats 4000000 in
theorem p_Master_unanswered_L2 {w : jw_T} (hw : jok w) {Γ : gm_T} {n : Nat} (hG : gd w Γ n)  : ∀ (fu : Nat) {x : Bool} {φ : ph_T} {x0 : Option Nat} {x1 : Int32} {x2 : Int32} {x3 : Int32} {q : Option Nat × ph_T}, f_Master_unanswered_L2 Γ  fu φ x0 x1 x2 x3 = some q → J w M_Master_unanswered 2 [some (va_rf x0), some (.int x1), some (.int x2), some (.int x3), none] [] (pic Γ φ) n x 0 0 (fq Γ n (.inl (some (va_rf q.1))) q.2) := by
  intro fu
  induction fu with
  | zero =>
    intro x φ x0 x1 x2 x3 q H
    cases H
  | succ fu ih =>
    intro x φ x0 x1 x2 x3 q H
    unfold f_Master_unanswered_L2 at H
    refine J_iload_n d_Master_unanswered_2 rfl ?_
    refine J_iload_n d_Master_unanswered_3 rfl ?_
    refine J_icmp_ge (tgt := 56) d_Master_unanswered_4 (by decide) ?_ ?_
    · intro c14
      rw [if_pos c14] at H
      refine J.drop [false, false, false, false, false] rfl ?_
      exact p_Master_unanswered_L56 hw hG  H
    · intro c14
      rw [if_neg c14] at H
      refine J_iload_n d_Master_unanswered_7 rfl ?_
      refine J_aload_nO d_Master_unanswered_8 rfl ?_
      obtain ⟨a1, ha1, H⟩ := Option.bind_eq_some_iff.mp H
      rw [j_rf ha1]
      obtain ⟨N2, hN2, H⟩ := Option.bind_eq_some_iff.mp H
      refine F_alen hw hG (t := 6) rfl d_Master_unanswered_9 (gA_some hN2) ?_
      refine J_icmp_ge (tgt := 56) d_Master_unanswered_10 (by decide) ?_ ?_
      · intro c13
        rw [if_pos c13] at H
        refine J.drop [false, false, false, false, false] rfl ?_
        exact p_Master_unanswered_L56 hw hG  H
      · intro c13
        rw [if_neg c13] at H
        refine J_aload_n d_Master_unanswered_13 rfl ?_
        refine J_iload_n d_Master_unanswered_14 rfl ?_
        obtain ⟨N3, hN3, H⟩ := Option.bind_eq_some_iff.mp H
        obtain ⟨k4, hk4, H⟩ := Option.bind_eq_some_iff.mp H
        refine F_aald k4 hw hG (t := 6) rfl (by decide) d_Master_unanswered_15 (gA_some hN3) (ix_some hk4) ?_
        refine J_astoreO d_Master_unanswered_16 (Nat.le_of_ble_eq_true rfl) ?_
        refine J.ls (ls' := [some (.ref a1), some (.int x1), some (.int x2), some (.int x3), some (va_rf (φ.2.2 a1 k4))]) rfl ?_
        refine J_aloadO d_Master_unanswered_18 rfl ?_
        refine J_ifnullO (r := (φ.2.2 a1 k4)) (tgt := 50) d_Master_unanswered_20 (by decide) ?_ ?_
        · intro c12
          rw [if_pos c12] at H
          refine J.drop [true, true, true, true, false] rfl ?_
          exact p_Master_unanswered_L50 hw hG ih H
        · intro c12
          rw [if_neg c12] at H
          refine J_aloadO d_Master_unanswered_23 rfl ?_
          obtain ⟨a5, ha5, H⟩ := Option.bind_eq_some_iff.mp H
          rw [j_rf ha5]
          have g6 : Γ a5 = .inr 6 := by
            apply Classical.byContradiction
            intro q9
            rw [if_neg q9] at H
            cases H
          rw [if_pos g6] at H
          refine F_getI (ci := 6) (k := 4) hG (cf_Request hw) (fl_Master_141 hw) (by decide) (by decide) rfl d_Master_unanswered_25 g6 ?_
          refine J_iconst (v := -1) d_Master_unanswered_28 (by decide) ?_
          refine J_icmp_ne (tgt := 50) d_Master_unanswered_29 (by decide) ?_ ?_
          · intro c11
            rw [if_neg c11] at H
            refine J.drop [true, true, true, true, false] rfl ?_
            exact p_Master_unanswered_L50 hw hG ih H
          · intro c11
            rw [if_pos c11] at H
            refine J_aload d_Master_unanswered_32 rfl ?_
            refine F_getR (ci := 6) (k := 0) hG (cf_Request hw) (fl_Master_86 hw) (by decide) (by decide) rfl d_Master_unanswered_34 g6 ?_
            obtain ⟨a7, ha7, H⟩ := Option.bind_eq_some_iff.mp H
            rw [j_rf ha7]
            have g8 : Γ a7 = .inr 0 := by
              apply Classical.byContradiction
              intro q9
              rw [if_neg q9] at H
              cases H
            rw [if_pos g8] at H
            refine F_getL (ci := 0) (k := 0) hG (cf_Burst hw) (fl_Master_90 hw) (by decide) (by decide) rfl d_Master_unanswered_37 g8 ?_
            obtain ⟨q9, hq9, H⟩ := Option.bind_eq_some_iff.mp H
            refine J_callS (kc := 0) (ks := 0) (kc' := 0) (ks' := 0) (as := [.long (φ.2.1 a7 0)]) (st := []) (mf_Burst_idOf hw) (ms_Master_144 hw) d_Master_unanswered_40 ln_Burst_idOf (by decide) (by first | exact Nat.le_of_ble_eq_true rfl | (simp only [List.map_cons, List.map_nil, List.sum_cons, List.sum_nil, va_rf_cat]; exact Nat.le_of_ble_eq_true rfl)) rfl (p_Burst_idOf hw hG hq9) ?_ (fun E h' n' x' e1 => by cases e1.1)
            intro v9 h9 n9 x9 e9
            obtain ⟨e91, e92, e93⟩ := e9
            cases e91
            subst e92
            subst e93
            clear x
            rename Bool => x
            show J _ _ _ _ (_ :: _) _ _ _ _ _ _
            refine J_iload_n d_Master_unanswered_43 rfl ?_
            refine J_icmp_ne (tgt := 50) d_Master_unanswered_44 (by decide) ?_ ?_
            · intro c10
              rw [if_neg c10] at H
              refine J.drop [true, true, true, true, false] rfl ?_
              exact p_Master_unanswered_L50 hw hG ih H
            · intro c10
              rw [if_pos c10] at H
              refine J_aload d_Master_unanswered_47 rfl ?_
              have H := Option.some.inj H
              subst H
              exact J_aret (st := []) d_Master_unanswered_49 rfl (Or.inl ⟨_, rfl⟩) (by first | exact Or.inr ⟨_, rfl⟩ | (generalize (some a5) = r9; cases r9; exact Or.inl rfl; exact Or.inr ⟨_, rfl⟩)) ⟨rfl, rfl, rfl⟩
def f_Master_unanswered (Γ : gm_T) (φ : ph_T) (p0 : Option Nat) (p1 : Int32) (p2 : Int32) : Option (Option Nat × ph_T) :=
  f_Master_unanswered_L2 Γ  jF φ p0 p1 p2 (0 : Int32)
set_option maxRecDepth 100000 in
set_option maxHeartbeats 4000000 in
theorem p_Master_unanswered {w : jw_T} (hw : jok w) {Γ : gm_T} {n : Nat} (hG : gd w Γ n) {x : Bool} {φ : ph_T} {p0 : Option Nat} {p1 : Int32} {p2 : Int32} {q : Option Nat × ph_T} (H : f_Master_unanswered Γ φ p0 p1 p2 = some q) : jc w M_Master_unanswered [va_rf p0, .int p1, .int p2] (pic Γ φ) n x 0 0 (fq Γ n (.inl (some (va_rf q.1))) q.2) := by
  refine jc.of (by simp only [jent_r, jent_i, jent_l, jent_a, jent_0]; exact Nat.le_of_ble_eq_true rfl) ?_
  have hls : jents [va_rf p0, .int p1, .int p2] (jm_nL M_Master_unanswered) = [some (va_rf p0), some (.int p1), some (.int p2), none, none] := by simp only [jents, jent_r, jent_i, jent_l, jent_a, jent_0]; rfl
  rw [hls]
  clear hls
  unfold f_Master_unanswered at H
  refine J_iconst (v := 0) d_Master_unanswered_0 (by decide) ?_
  refine J_istore_n d_Master_unanswered_1 (Nat.le_of_ble_eq_true rfl) ?_
  refine J.ls (ls' := [some (va_rf p0), some (.int p1), some (.int p2), some (.int (0 : Int32)), none]) rfl ?_
  refine J.drop [true, true, true, true, false] rfl ?_
  exact p_Master_unanswered_L2 hw hG  _ H
theorem ln_Master_finish : (parseMethodDescriptor y_Master_finish.desc).map (fun q => q.parameters.length) = some 2 := by decide +kernel
def f_Master_finish (Γ : gm_T) (φ : ph_T) (this : Nat) (p0 : Option Nat) (p1 : Int32) : Option (Unit × ph_T) :=
  Option.bind p0 fun a1 =>
  @ite _ (Γ a1 = .inr 6) _ (
  @ite _ (Γ this = .inr 7) _ (
  some ((), (uI (uI φ a1 4 p1) this 9 (((uI φ a1 4 p1).1 this 9) - (1 : Int32))))
  ) none
  ) none
set_option maxRecDepth 100000 in
set_option maxHeartbeats 4000000 in
theorem p_Master_finish {w : jw_T} (hw : jok w) {Γ : gm_T} {n : Nat} (hG : gd w Γ n) {x : Bool} {φ : ph_T} {this : Nat} {p0 : Option Nat} {p1 : Int32} {q : Unit × ph_T} (H : f_Master_finish Γ φ this p0 p1 = some q) : jc w M_Master_finish [.ref this, va_rf p0, .int p1] (pic Γ φ) n x 0 0 (fq Γ n (.inl none) q.2) := by
  refine jc.of (by simp only [jent_r, jent_i, jent_l, jent_a, jent_0]; exact Nat.le_of_ble_eq_true rfl) ?_
  have hls : jents [.ref this, va_rf p0, .int p1] (jm_nL M_Master_finish) = [some (.ref this), some (va_rf p0), some (.int p1)] := by simp only [jents, jent_r, jent_i, jent_l, jent_a, jent_0]; rfl
  rw [hls]
  clear hls
  unfold f_Master_finish at H
  refine J_aload_nO d_Master_finish_0 rfl ?_
  refine J_iload_n d_Master_finish_1 rfl ?_
  obtain ⟨a1, ha1, H⟩ := Option.bind_eq_some_iff.mp H
  rw [j_rf ha1]
  have g2 : Γ a1 = .inr 6 := by
    apply Classical.byContradiction
    intro q9
    rw [if_neg q9] at H
    cases H
  rw [if_pos g2] at H
  refine F_putI (ci := 6) (k := 4) hG (cf_Request hw) (fl_Master_141 hw) (by decide) (by decide) rfl d_Master_finish_2 rfl rfl rfl g2 ?_
  refine J_aload_n d_Master_finish_5 rfl ?_
  refine J_dup d_Master_finish_6 rfl ?_
  have g3 : Γ this = .inr 7 := by
    apply Classical.byContradiction
    intro q9
    rw [if_neg q9] at H
    cases H
  rw [if_pos g3] at H
  refine F_getI (ci := 7) (k := 9) hG (cf_Master hw) (fl_Master_51 hw) (by decide) (by decide) rfl d_Master_finish_7 g3 ?_
  refine J_iconst (v := 1) d_Master_finish_10 (by decide) ?_
  refine J_isub d_Master_finish_11 ?_
  refine F_putI (ci := 7) (k := 9) hG (cf_Master hw) (fl_Master_51 hw) (by decide) (by decide) rfl d_Master_finish_12 rfl rfl rfl g3 ?_
  have H := Option.some.inj H
  subst H
  exact J_vret (st := []) d_Master_finish_15 rfl ⟨rfl, rfl, rfl⟩
theorem ln_Master_takeAnswer : (parseMethodDescriptor y_Master_takeAnswer.desc).map (fun q => q.parameters.length) = some 3 := by decide +kernel
def f_Master_takeAnswer_L18 (Γ : gm_T)  (φ : ph_T) : Option (Unit × ph_T) :=
  some ((), φ)
set_option maxRecDepth 100000 in
set_option maxHeartbeats 4000000 in
theorem p_Master_takeAnswer_L18 {w : jw_T} (hw : jok w) {Γ : gm_T} {n : Nat} (hG : gd w Γ n)  {x : Bool} {φ : ph_T} {q : Unit × ph_T} (H : f_Master_takeAnswer_L18 Γ  φ  = some q) : J w M_Master_takeAnswer 18 [none, none, none, none] [] (pic Γ φ) n x 0 0 (fq Γ n (.inl none) q.2) := by
  unfold f_Master_takeAnswer_L18 at H
  have H := Option.some.inj H
  subst H
  exact J_vret (st := []) d_Master_takeAnswer_18 rfl ⟨rfl, rfl, rfl⟩
def f_Master_takeAnswer (Γ : gm_T) (φ : ph_T) (this : Nat) (p0 : Option Nat) (p1 : Int32) (p2 : Int32) : Option (Unit × ph_T) :=
  if p0 = none then
    f_Master_takeAnswer_L18 Γ  φ 
  else
    Option.bind (f_Bus_restResponse Γ φ p1) fun q1 =>
    Option.bind p0 fun a2 =>
    @ite _ (Γ a2 = .inr 6) _ (
    @ite _ (Γ this = .inr 7) _ (
    Option.bind (f_Master_finish Γ (uI q1.2 a2 5 q1.1) this (some a2) p2) fun q5 =>
    f_Master_takeAnswer_L18 Γ  q5.2 
    ) none
    ) none
set_option maxRecDepth 100000 in
set_option maxHeartbeats 4000000 in
theorem p_Master_takeAnswer {w : jw_T} (hw : jok w) {Γ : gm_T} {n : Nat} (hG : gd w Γ n) {x : Bool} {φ : ph_T} {this : Nat} {p0 : Option Nat} {p1 : Int32} {p2 : Int32} {q : Unit × ph_T} (H : f_Master_takeAnswer Γ φ this p0 p1 p2 = some q) : jc w M_Master_takeAnswer [.ref this, va_rf p0, .int p1, .int p2] (pic Γ φ) n x 0 0 (fq Γ n (.inl none) q.2) := by
  refine jc.of (by simp only [jent_r, jent_i, jent_l, jent_a, jent_0]; exact Nat.le_of_ble_eq_true rfl) ?_
  have hls : jents [.ref this, va_rf p0, .int p1, .int p2] (jm_nL M_Master_takeAnswer) = [some (.ref this), some (va_rf p0), some (.int p1), some (.int p2)] := by simp only [jents, jent_r, jent_i, jent_l, jent_a, jent_0]; rfl
  rw [hls]
  clear hls
  unfold f_Master_takeAnswer at H
  refine J_aload_nO d_Master_takeAnswer_0 rfl ?_
  refine J_ifnullO (r := p0) (tgt := 18) d_Master_takeAnswer_1 (by decide) ?_ ?_
  · intro c6
    rw [if_pos c6] at H
    refine J.drop [false, false, false, false] rfl ?_
    exact p_Master_takeAnswer_L18 hw hG  H
  · intro c6
    rw [if_neg c6] at H
    refine J_aload_nO d_Master_takeAnswer_4 rfl ?_
    refine J_iload_n d_Master_takeAnswer_5 rfl ?_
    obtain ⟨q1, hq1, H⟩ := Option.bind_eq_some_iff.mp H
    refine J_callS (kc := 0) (ks := 0) (kc' := 0) (ks' := 0) (as := [.int p1]) (st := [va_rf p0]) (mf_Bus_restResponse hw) (ms_Master_147 hw) d_Master_takeAnswer_6 ln_Bus_restResponse (by decide) (by first | exact Nat.le_of_ble_eq_true rfl | (simp only [List.map_cons, List.map_nil, List.sum_cons, List.sum_nil, va_rf_cat]; exact Nat.le_of_ble_eq_true rfl)) rfl (p_Bus_restResponse hw hG hq1) ?_ (fun E h' n' x' e1 => by cases e1.1)
    intro v9 h9 n9 x9 e9
    obtain ⟨e91, e92, e93⟩ := e9
    cases e91
    subst e92
    subst e93
    clear x
    rename Bool => x
    show J _ _ _ _ (_ :: _) _ _ _ _ _ _
    obtain ⟨a2, ha2, H⟩ := Option.bind_eq_some_iff.mp H
    rw [j_rf ha2]
    have g3 : Γ a2 = .inr 6 := by
      apply Classical.byContradiction
      intro q9
      rw [if_neg q9] at H
      cases H
    rw [if_pos g3] at H
    refine F_putI (ci := 6) (k := 5) hG (cf_Request hw) (fl_Master_150 hw) (by decide) (by decide) rfl d_Master_takeAnswer_9 rfl rfl rfl g3 ?_
    refine J_aload_n d_Master_takeAnswer_12 rfl ?_
    refine J_aload_n d_Master_takeAnswer_13 rfl ?_
    refine J_iload_n d_Master_takeAnswer_14 rfl ?_
    have g4 : Γ this = .inr 7 := by
      apply Classical.byContradiction
      intro q9
      rw [if_neg q9] at H
      cases H
    rw [if_pos g4] at H
    obtain ⟨q5, hq5, H⟩ := Option.bind_eq_some_iff.mp H
    refine J_callV (kc := 0) (ks := 0) (kc' := 0) (ks' := 0) (a := this) (ci := 7) (as := [.ref a2, .int p2]) (st := []) (mf_Master_finish hw) (mv_Master_153 hw) d_Master_takeAnswer_15 ln_Master_finish (by decide) (by first | exact Nat.le_of_ble_eq_true rfl | (simp only [List.map_cons, List.map_nil, List.sum_cons, List.sum_nil, va_rf_cat]; exact Nat.le_of_ble_eq_true rfl)) rfl ((hG _).1 _ g4 (by decide)).1 ((hG _).1 _ g4 (by decide)).2 (by unfold pic; rw [g4]; rfl) (jcl_at hw rfl) rfl (p_Master_finish hw hG hq5) ?_ (fun E h' n' x' e1 => by cases e1.1)
    intro v9 h9 n9 x9 e9
    obtain ⟨e91, e92, e93⟩ := e9
    cases e91
    subst e92
    subst e93
    clear x
    rename Bool => x
    show J _ _ _ _ [] _ _ _ _ _ _
    refine J.drop [false, false, false, false] rfl ?_
    exact p_Master_takeAnswer_L18 hw hG  H
theorem ln_Master_takeBeat : (parseMethodDescriptor y_Master_takeBeat.desc).map (fun q => q.parameters.length) = some 3 := by decide +kernel
def f_Master_takeBeat_L70 (Γ : gm_T)  (φ : ph_T) : Option (Unit × ph_T) :=
  some ((), φ)
set_option maxRecDepth 100000 in
set_option maxHeartbeats 4000000 in
theorem p_Master_takeBeat_L70 {w : jw_T} (hw : jok w) {Γ : gm_T} {n : Nat} (hG : gd w Γ n)  {x : Bool} {φ : ph_T} {q : Unit × ph_T} (H : f_Master_takeBeat_L70 Γ  φ  = some q) : J w M_Master_takeBeat 70 [none, none, none, none] [] (pic Γ φ) n x 0 0 (fq Γ n (.inl none) q.2) := by
  unfold f_Master_takeBeat_L70 at H
  have H := Option.some.inj H
  subst H
  exact J_vret (st := []) d_Master_takeBeat_70 rfl ⟨rfl, rfl, rfl⟩
def f_Master_takeBeat (Γ : gm_T) (φ : ph_T) (this : Nat) (p0 : Option Nat) (p1 : Option Nat) (p2 : Int32) : Option (Unit × ph_T) :=
  if p0 = none then
    some ((), φ)
  else
    Option.bind p0 fun a1 =>
    @ite _ (Γ a1 = .inr 6) _ (
    Option.bind p1 fun a3 =>
    @ite _ (Γ a3 = .inr 5) _ (
    Option.bind (φ.2.2 a3 3) fun a5 =>
    Option.bind (gA Γ a5 1) fun N6 =>
    Option.bind (ix (4 : Int32) N6) fun k7 =>
    Option.bind (φ.2.2 a3 4) fun a8 =>
    Option.bind (gA Γ a8 0) fun N9 =>
    Option.bind (ix (4 : Int32) N9) fun k10 =>
    Option.bind (φ.2.2 a1 0) fun a11 =>
    @ite _ (Γ a11 = .inr 0) _ (
    Option.bind (f_Burst_takeBeat Γ φ a11 (φ.2.1 a5 k7) (φ.1 a8 k10)) fun q13 =>
    Option.bind (q13.2.2.2 a3 4) fun a14 =>
    Option.bind (gA Γ a14 0) fun N15 =>
    Option.bind (ix (4 : Int32) N15) fun k16 =>
    Option.bind (f_Bus_restResponse Γ q13.2 (q13.2.1 a14 k16)) fun q17 =>
    Option.bind (f_Math_max Γ q17.2 (q13.2.1 a1 5) q17.1) fun q18 =>
    Option.bind (q18.2.2.2 a1 0) fun a19 =>
    @ite _ (Γ a19 = .inr 0) _ (
    Option.bind (f_Burst_lengthOf Γ (uI q18.2 a1 5 q18.1) (q18.2.2.1 a19 0)) fun q21 =>
    if ((uI q18.2 a1 5 q18.1).1 a19 3) < q21.1 then
      f_Master_takeBeat_L70 Γ  q21.2 
    else
      @ite _ (Γ this = .inr 7) _ (
      Option.bind (f_Master_finish Γ q21.2 this (some a1) p2) fun q23 =>
      f_Master_takeBeat_L70 Γ  q23.2 
      ) none
    ) none
    ) none
    ) none
    ) none
set_option maxRecDepth 100000 in
set_option maxHeartbeats 4000000 in
theorem p_Master_takeBeat {w : jw_T} (hw : jok w) {Γ : gm_T} {n : Nat} (hG : gd w Γ n) {x : Bool} {φ : ph_T} {this : Nat} {p0 : Option Nat} {p1 : Option Nat} {p2 : Int32} {q : Unit × ph_T} (H : f_Master_takeBeat Γ φ this p0 p1 p2 = some q) : jc w M_Master_takeBeat [.ref this, va_rf p0, va_rf p1, .int p2] (pic Γ φ) n x 0 0 (fq Γ n (.inl none) q.2) := by
  refine jc.of (by simp only [jent_r, jent_i, jent_l, jent_a, jent_0]; exact Nat.le_of_ble_eq_true rfl) ?_
  have hls : jents [.ref this, va_rf p0, va_rf p1, .int p2] (jm_nL M_Master_takeBeat) = [some (.ref this), some (va_rf p0), some (va_rf p1), some (.int p2)] := by simp only [jents, jent_r, jent_i, jent_l, jent_a, jent_0]; rfl
  rw [hls]
  clear hls
  unfold f_Master_takeBeat at H
  refine J_aload_nO d_Master_takeBeat_0 rfl ?_
  refine J_ifnonnullO (r := p0) (tgt := 5) d_Master_takeBeat_1 (by decide) ?_ ?_
  · intro c25
    rw [if_neg c25] at H
    refine J_aload_nO d_Master_takeBeat_5 rfl ?_
    obtain ⟨a1, ha1, H⟩ := Option.bind_eq_some_iff.mp H
    rw [j_rf ha1]
    have g2 : Γ a1 = .inr 6 := by
      apply Classical.byContradiction
      intro q9
      rw [if_neg q9] at H
      cases H
    rw [if_pos g2] at H
    refine F_getR (ci := 6) (k := 0) hG (cf_Request hw) (fl_Master_86 hw) (by decide) (by decide) rfl d_Master_takeBeat_6 g2 ?_
    refine J_aload_nO d_Master_takeBeat_9 rfl ?_
    obtain ⟨a3, ha3, H⟩ := Option.bind_eq_some_iff.mp H
    rw [j_rf ha3]
    have g4 : Γ a3 = .inr 5 := by
      apply Classical.byContradiction
      intro q9
      rw [if_neg q9] at H
      cases H
    rw [if_pos g4] at H
    refine F_getR (ci := 5) (k := 3) hG (cf_Port hw) (fl_Master_157 hw) (by decide) (by decide) rfl d_Master_takeBeat_10 g4 ?_
    refine J_iconst (v := 4) d_Master_takeBeat_13 (by decide) ?_
    obtain ⟨a5, ha5, H⟩ := Option.bind_eq_some_iff.mp H
    rw [j_rf ha5]
    obtain ⟨N6, hN6, H⟩ := Option.bind_eq_some_iff.mp H
    obtain ⟨k7, hk7, H⟩ := Option.bind_eq_some_iff.mp H
    refine F_lald k7 hw hG d_Master_takeBeat_14 (gA_some hN6) (ix_some hk7) ?_
    refine J_aload_n d_Master_takeBeat_15 rfl ?_
    refine F_getR (ci := 5) (k := 4) hG (cf_Port hw) (fl_Master_121 hw) (by decide) (by decide) rfl d_Master_takeBeat_16 g4 ?_
    refine J_iconst (v := 4) d_Master_takeBeat_19 (by decide) ?_
    obtain ⟨a8, ha8, H⟩ := Option.bind_eq_some_iff.mp H
    rw [j_rf ha8]
    obtain ⟨N9, hN9, H⟩ := Option.bind_eq_some_iff.mp H
    obtain ⟨k10, hk10, H⟩ := Option.bind_eq_some_iff.mp H
    refine F_iald k10 hw hG d_Master_takeBeat_20 (gA_some hN9) (ix_some hk10) ?_
    obtain ⟨a11, ha11, H⟩ := Option.bind_eq_some_iff.mp H
    rw [j_rf ha11]
    have g12 : Γ a11 = .inr 0 := by
      apply Classical.byContradiction
      intro q9
      rw [if_neg q9] at H
      cases H
    rw [if_pos g12] at H
    obtain ⟨q13, hq13, H⟩ := Option.bind_eq_some_iff.mp H
    refine J_callV (kc := 0) (ks := 0) (kc' := 0) (ks' := 0) (a := a11) (ci := 0) (as := [.long (φ.2.1 a5 k7), .int (φ.1 a8 k10)]) (st := []) (mf_Burst_takeBeat hw) (mv_Master_160 hw) d_Master_takeBeat_21 ln_Burst_takeBeat (by decide) (by first | exact Nat.le_of_ble_eq_true rfl | (simp only [List.map_cons, List.map_nil, List.sum_cons, List.sum_nil, va_rf_cat]; exact Nat.le_of_ble_eq_true rfl)) rfl ((hG _).1 _ g12 (by decide)).1 ((hG _).1 _ g12 (by decide)).2 (by unfold pic; rw [g12]; rfl) (jcl_at hw rfl) rfl (p_Burst_takeBeat hw hG hq13) ?_ (fun E h' n' x' e1 => by cases e1.1)
    intro v9 h9 n9 x9 e9
    obtain ⟨e91, e92, e93⟩ := e9
    cases e91
    subst e92
    subst e93
    clear x
    rename Bool => x
    show J _ _ _ _ [] _ _ _ _ _ _
    refine J_aload_n d_Master_takeBeat_24 rfl ?_
    refine J_aload_n d_Master_takeBeat_25 rfl ?_
    refine F_getI (ci := 6) (k := 5) hG (cf_Request hw) (fl_Master_150 hw) (by decide) (by decide) rfl d_Master_takeBeat_26 g2 ?_
    refine J_aload_n d_Master_takeBeat_29 rfl ?_
    refine F_getR (ci := 5) (k := 4) hG (cf_Port hw) (fl_Master_121 hw) (by decide) (by decide) rfl d_Master_takeBeat_30 g4 ?_
    refine J_iconst (v := 4) d_Master_takeBeat_33 (by decide) ?_
    obtain ⟨a14, ha14, H⟩ := Option.bind_eq_some_iff.mp H
    rw [j_rf ha14]
    obtain ⟨N15, hN15, H⟩ := Option.bind_eq_some_iff.mp H
    obtain ⟨k16, hk16, H⟩ := Option.bind_eq_some_iff.mp H
    refine F_iald k16 hw hG d_Master_takeBeat_34 (gA_some hN15) (ix_some hk16) ?_
    obtain ⟨q17, hq17, H⟩ := Option.bind_eq_some_iff.mp H
    refine J_callS (kc := 0) (ks := 0) (kc' := 0) (ks' := 0) (as := [.int (q13.2.1 a14 k16)]) (st := [.int (q13.2.1 a1 5), .ref a1]) (mf_Bus_restResponse hw) (ms_Master_147 hw) d_Master_takeBeat_35 ln_Bus_restResponse (by decide) (by first | exact Nat.le_of_ble_eq_true rfl | (simp only [List.map_cons, List.map_nil, List.sum_cons, List.sum_nil, va_rf_cat]; exact Nat.le_of_ble_eq_true rfl)) rfl (p_Bus_restResponse hw hG hq17) ?_ (fun E h' n' x' e1 => by cases e1.1)
    intro v9 h9 n9 x9 e9
    obtain ⟨e91, e92, e93⟩ := e9
    cases e91
    subst e92
    subst e93
    clear x
    rename Bool => x
    show J _ _ _ _ (_ :: _) _ _ _ _ _ _
    obtain ⟨q18, hq18, H⟩ := Option.bind_eq_some_iff.mp H
    refine J_callS (kc := 0) (ks := 0) (kc' := 0) (ks' := 0) (as := [.int (q13.2.1 a1 5), .int q17.1]) (st := [.ref a1]) (mf_Math_max hw) (ms_Master_163 hw) d_Master_takeBeat_38 ln_Math_max (by decide) (by first | exact Nat.le_of_ble_eq_true rfl | (simp only [List.map_cons, List.map_nil, List.sum_cons, List.sum_nil, va_rf_cat]; exact Nat.le_of_ble_eq_true rfl)) rfl (p_Math_max hw hG hq18) ?_ (fun E h' n' x' e1 => by cases e1.1)
    intro v9 h9 n9 x9 e9
    obtain ⟨e91, e92, e93⟩ := e9
    cases e91
    subst e92
    subst e93
    clear x
    rename Bool => x
    show J _ _ _ _ (_ :: _) _ _ _ _ _ _
    refine F_putI (ci := 6) (k := 5) hG (cf_Request hw) (fl_Master_150 hw) (by decide) (by decide) rfl d_Master_takeBeat_41 rfl rfl rfl g2 ?_
    refine J_aload_n d_Master_takeBeat_44 rfl ?_
    refine F_getR (ci := 6) (k := 0) hG (cf_Request hw) (fl_Master_86 hw) (by decide) (by decide) rfl d_Master_takeBeat_45 g2 ?_
    show J _ _ _ _ (va_rf (q18.2.2.2 a1 0) :: _) _ _ _ _ _ _
    obtain ⟨a19, ha19, H⟩ := Option.bind_eq_some_iff.mp H
    rw [j_rf ha19]
    have g20 : Γ a19 = .inr 0 := by
      apply Classical.byContradiction
      intro q9
      rw [if_neg q9] at H
      cases H
    rw [if_pos g20] at H
    refine F_getI (ci := 0) (k := 3) hG (cf_Burst hw) (fl_Master_103 hw) (by decide) (by decide) rfl d_Master_takeBeat_48 g20 ?_
    refine J_aload_n d_Master_takeBeat_51 rfl ?_
    refine F_getR (ci := 6) (k := 0) hG (cf_Request hw) (fl_Master_86 hw) (by decide) (by decide) rfl d_Master_takeBeat_52 g2 ?_
    show J _ _ _ _ (va_rf (q18.2.2.2 a1 0) :: _) _ _ _ _ _ _
    try rw [j_rf ha19]
    refine F_getL (ci := 0) (k := 0) hG (cf_Burst hw) (fl_Master_90 hw) (by decide) (by decide) rfl d_Master_takeBeat_55 g20 ?_
    show J _ _ _ _ (.long (q18.2.2.1 a19 0) :: _) _ _ _ _ _ _
    obtain ⟨q21, hq21, H⟩ := Option.bind_eq_some_iff.mp H
    refine J_callS (kc := 0) (ks := 0) (kc' := 0) (ks' := 0) (as := [.long (q18.2.2.1 a19 0)]) (st := [.int ((uI q18.2 a1 5 q18.1).1 a19 3)]) (mf_Burst_lengthOf hw) (ms_Master_137 hw) d_Master_takeBeat_58 ln_Burst_lengthOf (by decide) (by first | exact Nat.le_of_ble_eq_true rfl | (simp only [List.map_cons, List.map_nil, List.sum_cons, List.sum_nil, va_rf_cat]; exact Nat.le_of_ble_eq_true rfl)) rfl (p_Burst_lengthOf hw hG hq21) ?_ (fun E h' n' x' e1 => by cases e1.1)
    intro v9 h9 n9 x9 e9
    obtain ⟨e91, e92, e93⟩ := e9
    cases e91
    subst e92
    subst e93
    clear x
    rename Bool => x
    show J _ _ _ _ (_ :: _) _ _ _ _ _ _
    refine J_icmp_lt (tgt := 70) d_Master_takeBeat_61 (by decide) ?_ ?_
    · intro c24
      rw [if_pos c24] at H
      refine J.drop [false, false, false, false] rfl ?_
      exact p_Master_takeBeat_L70 hw hG  H
    · intro c24
      rw [if_neg c24] at H
      refine J_aload_n d_Master_takeBeat_64 rfl ?_
      refine J_aload_n d_Master_takeBeat_65 rfl ?_
      refine J_iload_n d_Master_takeBeat_66 rfl ?_
      have g22 : Γ this = .inr 7 := by
        apply Classical.byContradiction
        intro q9
        rw [if_neg q9] at H
        cases H
      rw [if_pos g22] at H
      obtain ⟨q23, hq23, H⟩ := Option.bind_eq_some_iff.mp H
      refine J_callV (kc := 0) (ks := 0) (kc' := 0) (ks' := 0) (a := this) (ci := 7) (as := [.ref a1, .int p2]) (st := []) (mf_Master_finish hw) (mv_Master_153 hw) d_Master_takeBeat_67 ln_Master_finish (by decide) (by first | exact Nat.le_of_ble_eq_true rfl | (simp only [List.map_cons, List.map_nil, List.sum_cons, List.sum_nil, va_rf_cat]; exact Nat.le_of_ble_eq_true rfl)) rfl ((hG _).1 _ g22 (by decide)).1 ((hG _).1 _ g22 (by decide)).2 (by unfold pic; rw [g22]; rfl) (jcl_at hw rfl) rfl (p_Master_finish hw hG hq23) ?_ (fun E h' n' x' e1 => by cases e1.1)
      intro v9 h9 n9 x9 e9
      obtain ⟨e91, e92, e93⟩ := e9
      cases e91
      subst e92
      subst e93
      clear x
      rename Bool => x
      show J _ _ _ _ [] _ _ _ _ _ _
      refine J.drop [false, false, false, false] rfl ?_
      exact p_Master_takeBeat_L70 hw hG  H
  · intro c25
    rw [if_pos c25] at H
    have H := Option.some.inj H
    subst H
    exact J_vret (st := []) d_Master_takeBeat_4 rfl ⟨rfl, rfl, rfl⟩
theorem ln_Master_pass : (parseMethodDescriptor y_Master_pass.desc).map (fun q => q.parameters.length) = some 3 := by decide +kernel
def f_Master_pass_L176 (Γ : gm_T)  (φ : ph_T) : Option (Unit × ph_T) :=
  some ((), φ)
set_option maxRecDepth 100000 in
set_option maxHeartbeats 4000000 in
theorem p_Master_pass_L176 {w : jw_T} (hw : jok w) {Γ : gm_T} {n : Nat} (hG : gd w Γ n)  {x : Bool} {φ : ph_T} {q : Unit × ph_T} (H : f_Master_pass_L176 Γ  φ  = some q) : J w M_Master_pass 176 [none, none, none, none] [] (pic Γ φ) n x 0 0 (fq Γ n (.inl none) q.2) := by
  unfold f_Master_pass_L176 at H
  have H := Option.some.inj H
  subst H
  exact J_vret (st := []) d_Master_pass_176 rfl ⟨rfl, rfl, rfl⟩
def f_Master_pass (Γ : gm_T) (φ : ph_T) (this : Nat) (p0 : Option Nat) (p1 : Int32) (p2 : Int32) : Option (Unit × ph_T) :=
  if p1 = 0 then
    @ite _ (Γ this = .inr 7) _ (
    Option.bind (f_Master_at Γ φ (φ.2.2 this 2) (φ.1 this 6) (φ.1 this 4)) fun q2 =>
    Option.bind (f_Master_stamp Γ q2.2 q2.1 p2) fun q3 =>
    f_Master_pass_L176 Γ  (uI q3.2 this 6 ((φ.1 this 6) + q3.1)) 
    ) none
  else
    if p1 = 1 then
      @ite _ (Γ this = .inr 7) _ (
      Option.bind (f_Master_at Γ φ (φ.2.2 this 2) (φ.1 this 8) (φ.1 this 4)) fun q5 =>
      Option.bind (f_Master_feed Γ q5.2 this q5.1) fun q6 =>
      f_Master_pass_L176 Γ  q6.2 
      ) none
    else
      if p1 = 2 then
        @ite _ (Γ this = .inr 7) _ (
        Option.bind p0 fun a8 =>
        @ite _ (Γ a8 = .inr 5) _ (
        Option.bind (φ.2.2 a8 4) fun a10 =>
        Option.bind (gA Γ a10 0) fun N11 =>
        Option.bind (ix (2 : Int32) N11) fun k12 =>
        Option.bind (f_Bus_restId Γ φ (φ.1 a10 k12)) fun q13 =>
        Option.bind (f_Master_unanswered Γ q13.2 (φ.2.2 this 2) (φ.1 this 6) q13.1) fun q14 =>
        Option.bind (q14.2.2.2 a8 4) fun a15 =>
        Option.bind (gA Γ a15 0) fun N16 =>
        Option.bind (ix (2 : Int32) N16) fun k17 =>
        Option.bind (f_Master_takeAnswer Γ q14.2 this q14.1 (q14.2.1 a15 k17) p2) fun q18 =>
        f_Master_pass_L176 Γ  q18.2 
        ) none
        ) none
      else
        if p1 = 3 then
          @ite _ (Γ this = .inr 7) _ (
          Option.bind (f_Master_at Γ φ (φ.2.2 this 3) (φ.1 this 7) (φ.1 this 5)) fun q20 =>
          Option.bind (f_Master_stamp Γ q20.2 q20.1 p2) fun q21 =>
          f_Master_pass_L176 Γ  (uI q21.2 this 7 ((φ.1 this 7) + q21.1)) 
          ) none
        else
          @ite _ (Γ this = .inr 7) _ (
          Option.bind p0 fun a23 =>
          @ite _ (Γ a23 = .inr 5) _ (
          Option.bind (φ.2.2 a23 4) fun a25 =>
          Option.bind (gA Γ a25 0) fun N26 =>
          Option.bind (ix (4 : Int32) N26) fun k27 =>
          Option.bind (f_Bus_restId Γ φ (φ.1 a25 k27)) fun q28 =>
          Option.bind (f_Master_unanswered Γ q28.2 (φ.2.2 this 3) (φ.1 this 7) q28.1) fun q29 =>
          Option.bind (f_Master_takeBeat Γ q29.2 this q29.1 (some a23) p2) fun q30 =>
          f_Master_pass_L176 Γ  q30.2 
          ) none
          ) none
set_option maxRecDepth 100000 in
set_option maxHeartbeats 4000000 in
theorem p_Master_pass {w : jw_T} (hw : jok w) {Γ : gm_T} {n : Nat} (hG : gd w Γ n) {x : Bool} {φ : ph_T} {this : Nat} {p0 : Option Nat} {p1 : Int32} {p2 : Int32} {q : Unit × ph_T} (H : f_Master_pass Γ φ this p0 p1 p2 = some q) : jc w M_Master_pass [.ref this, va_rf p0, .int p1, .int p2] (pic Γ φ) n x 0 0 (fq Γ n (.inl none) q.2) := by
  refine jc.of (by simp only [jent_r, jent_i, jent_l, jent_a, jent_0]; exact Nat.le_of_ble_eq_true rfl) ?_
  have hls : jents [.ref this, va_rf p0, .int p1, .int p2] (jm_nL M_Master_pass) = [some (.ref this), some (va_rf p0), some (.int p1), some (.int p2)] := by simp only [jents, jent_r, jent_i, jent_l, jent_a, jent_0]; rfl
  rw [hls]
  clear hls
  unfold f_Master_pass at H
  refine J_iload_n d_Master_pass_0 rfl ?_
  by_cases c31 : p1 = 0
  · rw [if_pos c31] at H
    refine J_table (off := 31) (tgt := 32) d_Master_pass_1 (by rw [c31]; decide) (by decide) ?_
    refine J_aload_n d_Master_pass_32 rfl ?_
    refine J_dup d_Master_pass_33 rfl ?_
    have g1 : Γ this = .inr 7 := by
      apply Classical.byContradiction
      intro q9
      rw [if_neg q9] at H
      cases H
    rw [if_pos g1] at H
    refine F_getI (ci := 7) (k := 6) hG (cf_Master hw) (fl_Master_42 hw) (by decide) (by decide) rfl d_Master_pass_34 g1 ?_
    refine J_aload_n d_Master_pass_37 rfl ?_
    refine F_getR (ci := 7) (k := 2) hG (cf_Master hw) (fl_Master_17 hw) (by decide) (by decide) rfl d_Master_pass_38 g1 ?_
    refine J_aload_n d_Master_pass_41 rfl ?_
    refine F_getI (ci := 7) (k := 6) hG (cf_Master hw) (fl_Master_42 hw) (by decide) (by decide) rfl d_Master_pass_42 g1 ?_
    refine J_aload_n d_Master_pass_45 rfl ?_
    refine F_getI (ci := 7) (k := 4) hG (cf_Master hw) (fl_Master_35 hw) (by decide) (by decide) rfl d_Master_pass_46 g1 ?_
    obtain ⟨q2, hq2, H⟩ := Option.bind_eq_some_iff.mp H
    refine J_callS (kc := 0) (ks := 0) (kc' := 0) (ks' := 0) (as := [va_rf (φ.2.2 this 2), .int (φ.1 this 6), .int (φ.1 this 4)]) (st := [.int (φ.1 this 6), .ref this]) (mf_Master_at hw) (ms_Master_61 hw) d_Master_pass_49 ln_Master_at (by decide) (by first | exact Nat.le_of_ble_eq_true rfl | (simp only [List.map_cons, List.map_nil, List.sum_cons, List.sum_nil, va_rf_cat]; exact Nat.le_of_ble_eq_true rfl)) rfl (p_Master_at hw hG hq2) ?_ (fun E h' n' x' e1 => by cases e1.1)
    intro v9 h9 n9 x9 e9
    obtain ⟨e91, e92, e93⟩ := e9
    cases e91
    subst e92
    subst e93
    clear x
    rename Bool => x
    show J _ _ _ _ (_ :: _) _ _ _ _ _ _
    refine J_iload_n d_Master_pass_52 rfl ?_
    obtain ⟨q3, hq3, H⟩ := Option.bind_eq_some_iff.mp H
    refine J_callS (kc := 0) (ks := 0) (kc' := 0) (ks' := 0) (as := [va_rf q2.1, .int p2]) (st := [.int (φ.1 this 6), .ref this]) (mf_Master_stamp hw) (ms_Master_113 hw) d_Master_pass_53 ln_Master_stamp (by decide) (by first | exact Nat.le_of_ble_eq_true rfl | (simp only [List.map_cons, List.map_nil, List.sum_cons, List.sum_nil, va_rf_cat]; exact Nat.le_of_ble_eq_true rfl)) rfl (p_Master_stamp hw hG hq3) ?_ (fun E h' n' x' e1 => by cases e1.1)
    intro v9 h9 n9 x9 e9
    obtain ⟨e91, e92, e93⟩ := e9
    cases e91
    subst e92
    subst e93
    clear x
    rename Bool => x
    show J _ _ _ _ (_ :: _) _ _ _ _ _ _
    refine J_iadd d_Master_pass_56 ?_
    refine F_putI (ci := 7) (k := 6) hG (cf_Master hw) (fl_Master_42 hw) (by decide) (by decide) rfl d_Master_pass_57 rfl rfl rfl g1 ?_
    refine J_goto (tgt := 176) d_Master_pass_60 (by decide) ?_
    refine J.drop [false, false, false, false] rfl ?_
    exact p_Master_pass_L176 hw hG  H
  · rw [if_neg c31] at H
    by_cases c32 : p1 = 1
    · rw [if_pos c32] at H
      refine J_table (off := 62) (tgt := 63) d_Master_pass_1 (by rw [c32]; decide) (by decide) ?_
      refine J_aload_n d_Master_pass_63 rfl ?_
      refine J_aload_n d_Master_pass_64 rfl ?_
      have g4 : Γ this = .inr 7 := by
        apply Classical.byContradiction
        intro q9
        rw [if_neg q9] at H
        cases H
      rw [if_pos g4] at H
      refine F_getR (ci := 7) (k := 2) hG (cf_Master hw) (fl_Master_17 hw) (by decide) (by decide) rfl d_Master_pass_65 g4 ?_
      refine J_aload_n d_Master_pass_68 rfl ?_
      refine F_getI (ci := 7) (k := 8) hG (cf_Master hw) (fl_Master_48 hw) (by decide) (by decide) rfl d_Master_pass_69 g4 ?_
      refine J_aload_n d_Master_pass_72 rfl ?_
      refine F_getI (ci := 7) (k := 4) hG (cf_Master hw) (fl_Master_35 hw) (by decide) (by decide) rfl d_Master_pass_73 g4 ?_
      obtain ⟨q5, hq5, H⟩ := Option.bind_eq_some_iff.mp H
      refine J_callS (kc := 0) (ks := 0) (kc' := 0) (ks' := 0) (as := [va_rf (φ.2.2 this 2), .int (φ.1 this 8), .int (φ.1 this 4)]) (st := [.ref this]) (mf_Master_at hw) (ms_Master_61 hw) d_Master_pass_76 ln_Master_at (by decide) (by first | exact Nat.le_of_ble_eq_true rfl | (simp only [List.map_cons, List.map_nil, List.sum_cons, List.sum_nil, va_rf_cat]; exact Nat.le_of_ble_eq_true rfl)) rfl (p_Master_at hw hG hq5) ?_ (fun E h' n' x' e1 => by cases e1.1)
      intro v9 h9 n9 x9 e9
      obtain ⟨e91, e92, e93⟩ := e9
      cases e91
      subst e92
      subst e93
      clear x
      rename Bool => x
      show J _ _ _ _ (_ :: _) _ _ _ _ _ _
      obtain ⟨q6, hq6, H⟩ := Option.bind_eq_some_iff.mp H
      refine J_callV (kc := 0) (ks := 0) (kc' := 0) (ks' := 0) (a := this) (ci := 7) (as := [va_rf q5.1]) (st := []) (mf_Master_feed hw) (mv_Master_117 hw) d_Master_pass_79 ln_Master_feed (by decide) (by first | exact Nat.le_of_ble_eq_true rfl | (simp only [List.map_cons, List.map_nil, List.sum_cons, List.sum_nil, va_rf_cat]; exact Nat.le_of_ble_eq_true rfl)) rfl ((hG _).1 _ g4 (by decide)).1 ((hG _).1 _ g4 (by decide)).2 (by unfold pic; rw [g4]; rfl) (jcl_at hw rfl) rfl (p_Master_feed hw hG hq6) ?_ (fun E h' n' x' e1 => by cases e1.1)
      intro v9 h9 n9 x9 e9
      obtain ⟨e91, e92, e93⟩ := e9
      cases e91
      subst e92
      subst e93
      clear x
      rename Bool => x
      show J _ _ _ _ [] _ _ _ _ _ _
      refine J_goto (tgt := 176) d_Master_pass_82 (by decide) ?_
      refine J.drop [false, false, false, false] rfl ?_
      exact p_Master_pass_L176 hw hG  H
    · rw [if_neg c32] at H
      by_cases c33 : p1 = 2
      · rw [if_pos c33] at H
        refine J_table (off := 84) (tgt := 85) d_Master_pass_1 (by rw [c33]; decide) (by decide) ?_
        refine J_aload_n d_Master_pass_85 rfl ?_
        refine J_aload_n d_Master_pass_86 rfl ?_
        have g7 : Γ this = .inr 7 := by
          apply Classical.byContradiction
          intro q9
          rw [if_neg q9] at H
          cases H
        rw [if_pos g7] at H
        refine F_getR (ci := 7) (k := 2) hG (cf_Master hw) (fl_Master_17 hw) (by decide) (by decide) rfl d_Master_pass_87 g7 ?_
        refine J_aload_n d_Master_pass_90 rfl ?_
        refine F_getI (ci := 7) (k := 6) hG (cf_Master hw) (fl_Master_42 hw) (by decide) (by decide) rfl d_Master_pass_91 g7 ?_
        refine J_aload_nO d_Master_pass_94 rfl ?_
        obtain ⟨a8, ha8, H⟩ := Option.bind_eq_some_iff.mp H
        rw [j_rf ha8]
        have g9 : Γ a8 = .inr 5 := by
          apply Classical.byContradiction
          intro q9
          rw [if_neg q9] at H
          cases H
        rw [if_pos g9] at H
        refine F_getR (ci := 5) (k := 4) hG (cf_Port hw) (fl_Master_121 hw) (by decide) (by decide) rfl d_Master_pass_95 g9 ?_
        refine J_iconst (v := 2) d_Master_pass_98 (by decide) ?_
        obtain ⟨a10, ha10, H⟩ := Option.bind_eq_some_iff.mp H
        rw [j_rf ha10]
        obtain ⟨N11, hN11, H⟩ := Option.bind_eq_some_iff.mp H
        obtain ⟨k12, hk12, H⟩ := Option.bind_eq_some_iff.mp H
        refine F_iald k12 hw hG d_Master_pass_99 (gA_some hN11) (ix_some hk12) ?_
        obtain ⟨q13, hq13, H⟩ := Option.bind_eq_some_iff.mp H
        refine J_callS (kc := 0) (ks := 0) (kc' := 0) (ks' := 0) (as := [.int (φ.1 a10 k12)]) (st := [.int (φ.1 this 6), va_rf (φ.2.2 this 2), .ref this]) (mf_Bus_restId hw) (ms_Master_122 hw) d_Master_pass_100 ln_Bus_restId (by decide) (by first | exact Nat.le_of_ble_eq_true rfl | (simp only [List.map_cons, List.map_nil, List.sum_cons, List.sum_nil, va_rf_cat]; exact Nat.le_of_ble_eq_true rfl)) rfl (p_Bus_restId hw hG hq13) ?_ (fun E h' n' x' e1 => by cases e1.1)
        intro v9 h9 n9 x9 e9
        obtain ⟨e91, e92, e93⟩ := e9
        cases e91
        subst e92
        subst e93
        clear x
        rename Bool => x
        show J _ _ _ _ (_ :: _) _ _ _ _ _ _
        obtain ⟨q14, hq14, H⟩ := Option.bind_eq_some_iff.mp H
        refine J_callS (kc := 0) (ks := 0) (kc' := 0) (ks' := 0) (as := [va_rf (φ.2.2 this 2), .int (φ.1 this 6), .int q13.1]) (st := [.ref this]) (mf_Master_unanswered hw) (ms_Master_126 hw) d_Master_pass_103 ln_Master_unanswered (by decide) (by first | exact Nat.le_of_ble_eq_true rfl | (simp only [List.map_cons, List.map_nil, List.sum_cons, List.sum_nil, va_rf_cat]; exact Nat.le_of_ble_eq_true rfl)) rfl (p_Master_unanswered hw hG hq14) ?_ (fun E h' n' x' e1 => by cases e1.1)
        intro v9 h9 n9 x9 e9
        obtain ⟨e91, e92, e93⟩ := e9
        cases e91
        subst e92
        subst e93
        clear x
        rename Bool => x
        show J _ _ _ _ (_ :: _) _ _ _ _ _ _
        refine J_aload_n d_Master_pass_106 rfl ?_
        refine F_getR (ci := 5) (k := 4) hG (cf_Port hw) (fl_Master_121 hw) (by decide) (by decide) rfl d_Master_pass_107 g9 ?_
        refine J_iconst (v := 2) d_Master_pass_110 (by decide) ?_
        obtain ⟨a15, ha15, H⟩ := Option.bind_eq_some_iff.mp H
        rw [j_rf ha15]
        obtain ⟨N16, hN16, H⟩ := Option.bind_eq_some_iff.mp H
        obtain ⟨k17, hk17, H⟩ := Option.bind_eq_some_iff.mp H
        refine F_iald k17 hw hG d_Master_pass_111 (gA_some hN16) (ix_some hk17) ?_
        refine J_iload_n d_Master_pass_112 rfl ?_
        obtain ⟨q18, hq18, H⟩ := Option.bind_eq_some_iff.mp H
        refine J_callV (kc := 0) (ks := 0) (kc' := 0) (ks' := 0) (a := this) (ci := 7) (as := [va_rf q14.1, .int (q14.2.1 a15 k17), .int p2]) (st := []) (mf_Master_takeAnswer hw) (mv_Master_129 hw) d_Master_pass_113 ln_Master_takeAnswer (by decide) (by first | exact Nat.le_of_ble_eq_true rfl | (simp only [List.map_cons, List.map_nil, List.sum_cons, List.sum_nil, va_rf_cat]; exact Nat.le_of_ble_eq_true rfl)) rfl ((hG _).1 _ g7 (by decide)).1 ((hG _).1 _ g7 (by decide)).2 (by unfold pic; rw [g7]; rfl) (jcl_at hw rfl) rfl (p_Master_takeAnswer hw hG hq18) ?_ (fun E h' n' x' e1 => by cases e1.1)
        intro v9 h9 n9 x9 e9
        obtain ⟨e91, e92, e93⟩ := e9
        cases e91
        subst e92
        subst e93
        clear x
        rename Bool => x
        show J _ _ _ _ [] _ _ _ _ _ _
        refine J_goto (tgt := 176) d_Master_pass_116 (by decide) ?_
        refine J.drop [false, false, false, false] rfl ?_
        exact p_Master_pass_L176 hw hG  H
      · rw [if_neg c33] at H
        by_cases c34 : p1 = 3
        · rw [if_pos c34] at H
          refine J_table (off := 118) (tgt := 119) d_Master_pass_1 (by rw [c34]; decide) (by decide) ?_
          refine J_aload_n d_Master_pass_119 rfl ?_
          refine J_dup d_Master_pass_120 rfl ?_
          have g19 : Γ this = .inr 7 := by
            apply Classical.byContradiction
            intro q9
            rw [if_neg q9] at H
            cases H
          rw [if_pos g19] at H
          refine F_getI (ci := 7) (k := 7) hG (cf_Master hw) (fl_Master_45 hw) (by decide) (by decide) rfl d_Master_pass_121 g19 ?_
          refine J_aload_n d_Master_pass_124 rfl ?_
          refine F_getR (ci := 7) (k := 3) hG (cf_Master hw) (fl_Master_21 hw) (by decide) (by decide) rfl d_Master_pass_125 g19 ?_
          refine J_aload_n d_Master_pass_128 rfl ?_
          refine F_getI (ci := 7) (k := 7) hG (cf_Master hw) (fl_Master_45 hw) (by decide) (by decide) rfl d_Master_pass_129 g19 ?_
          refine J_aload_n d_Master_pass_132 rfl ?_
          refine F_getI (ci := 7) (k := 5) hG (cf_Master hw) (fl_Master_39 hw) (by decide) (by decide) rfl d_Master_pass_133 g19 ?_
          obtain ⟨q20, hq20, H⟩ := Option.bind_eq_some_iff.mp H
          refine J_callS (kc := 0) (ks := 0) (kc' := 0) (ks' := 0) (as := [va_rf (φ.2.2 this 3), .int (φ.1 this 7), .int (φ.1 this 5)]) (st := [.int (φ.1 this 7), .ref this]) (mf_Master_at hw) (ms_Master_61 hw) d_Master_pass_136 ln_Master_at (by decide) (by first | exact Nat.le_of_ble_eq_true rfl | (simp only [List.map_cons, List.map_nil, List.sum_cons, List.sum_nil, va_rf_cat]; exact Nat.le_of_ble_eq_true rfl)) rfl (p_Master_at hw hG hq20) ?_ (fun E h' n' x' e1 => by cases e1.1)
          intro v9 h9 n9 x9 e9
          obtain ⟨e91, e92, e93⟩ := e9
          cases e91
          subst e92
          subst e93
          clear x
          rename Bool => x
          show J _ _ _ _ (_ :: _) _ _ _ _ _ _
          refine J_iload_n d_Master_pass_139 rfl ?_
          obtain ⟨q21, hq21, H⟩ := Option.bind_eq_some_iff.mp H
          refine J_callS (kc := 0) (ks := 0) (kc' := 0) (ks' := 0) (as := [va_rf q20.1, .int p2]) (st := [.int (φ.1 this 7), .ref this]) (mf_Master_stamp hw) (ms_Master_113 hw) d_Master_pass_140 ln_Master_stamp (by decide) (by first | exact Nat.le_of_ble_eq_true rfl | (simp only [List.map_cons, List.map_nil, List.sum_cons, List.sum_nil, va_rf_cat]; exact Nat.le_of_ble_eq_true rfl)) rfl (p_Master_stamp hw hG hq21) ?_ (fun E h' n' x' e1 => by cases e1.1)
          intro v9 h9 n9 x9 e9
          obtain ⟨e91, e92, e93⟩ := e9
          cases e91
          subst e92
          subst e93
          clear x
          rename Bool => x
          show J _ _ _ _ (_ :: _) _ _ _ _ _ _
          refine J_iadd d_Master_pass_143 ?_
          refine F_putI (ci := 7) (k := 7) hG (cf_Master hw) (fl_Master_45 hw) (by decide) (by decide) rfl d_Master_pass_144 rfl rfl rfl g19 ?_
          refine J_goto (tgt := 176) d_Master_pass_147 (by decide) ?_
          refine J.drop [false, false, false, false] rfl ?_
          exact p_Master_pass_L176 hw hG  H
        · rw [if_neg c34] at H
          refine J_table (off := 149) (tgt := 150) d_Master_pass_1 (by
              rw [if_pos (by
                apply Classical.byContradiction
                intro h9
                have h8 : (p1).toInt = 0 ∨ (p1).toInt = 1 ∨ (p1).toInt = 2 ∨ (p1).toInt = 3 := by omega
                rcases h8 with h8 | h8 | h8 | h8
                · exact c31 (j_inj (by rw [h8]; decide))
                · exact c32 (j_inj (by rw [h8]; decide))
                · exact c33 (j_inj (by rw [h8]; decide))
                · exact c34 (j_inj (by rw [h8]; decide)))]) (by decide) ?_
          refine J_aload_n d_Master_pass_150 rfl ?_
          refine J_aload_n d_Master_pass_151 rfl ?_
          have g22 : Γ this = .inr 7 := by
            apply Classical.byContradiction
            intro q9
            rw [if_neg q9] at H
            cases H
          rw [if_pos g22] at H
          refine F_getR (ci := 7) (k := 3) hG (cf_Master hw) (fl_Master_21 hw) (by decide) (by decide) rfl d_Master_pass_152 g22 ?_
          refine J_aload_n d_Master_pass_155 rfl ?_
          refine F_getI (ci := 7) (k := 7) hG (cf_Master hw) (fl_Master_45 hw) (by decide) (by decide) rfl d_Master_pass_156 g22 ?_
          refine J_aload_nO d_Master_pass_159 rfl ?_
          obtain ⟨a23, ha23, H⟩ := Option.bind_eq_some_iff.mp H
          rw [j_rf ha23]
          have g24 : Γ a23 = .inr 5 := by
            apply Classical.byContradiction
            intro q9
            rw [if_neg q9] at H
            cases H
          rw [if_pos g24] at H
          refine F_getR (ci := 5) (k := 4) hG (cf_Port hw) (fl_Master_121 hw) (by decide) (by decide) rfl d_Master_pass_160 g24 ?_
          refine J_iconst (v := 4) d_Master_pass_163 (by decide) ?_
          obtain ⟨a25, ha25, H⟩ := Option.bind_eq_some_iff.mp H
          rw [j_rf ha25]
          obtain ⟨N26, hN26, H⟩ := Option.bind_eq_some_iff.mp H
          obtain ⟨k27, hk27, H⟩ := Option.bind_eq_some_iff.mp H
          refine F_iald k27 hw hG d_Master_pass_164 (gA_some hN26) (ix_some hk27) ?_
          obtain ⟨q28, hq28, H⟩ := Option.bind_eq_some_iff.mp H
          refine J_callS (kc := 0) (ks := 0) (kc' := 0) (ks' := 0) (as := [.int (φ.1 a25 k27)]) (st := [.int (φ.1 this 7), va_rf (φ.2.2 this 3), .ref this]) (mf_Bus_restId hw) (ms_Master_122 hw) d_Master_pass_165 ln_Bus_restId (by decide) (by first | exact Nat.le_of_ble_eq_true rfl | (simp only [List.map_cons, List.map_nil, List.sum_cons, List.sum_nil, va_rf_cat]; exact Nat.le_of_ble_eq_true rfl)) rfl (p_Bus_restId hw hG hq28) ?_ (fun E h' n' x' e1 => by cases e1.1)
          intro v9 h9 n9 x9 e9
          obtain ⟨e91, e92, e93⟩ := e9
          cases e91
          subst e92
          subst e93
          clear x
          rename Bool => x
          show J _ _ _ _ (_ :: _) _ _ _ _ _ _
          obtain ⟨q29, hq29, H⟩ := Option.bind_eq_some_iff.mp H
          refine J_callS (kc := 0) (ks := 0) (kc' := 0) (ks' := 0) (as := [va_rf (φ.2.2 this 3), .int (φ.1 this 7), .int q28.1]) (st := [.ref this]) (mf_Master_unanswered hw) (ms_Master_126 hw) d_Master_pass_168 ln_Master_unanswered (by decide) (by first | exact Nat.le_of_ble_eq_true rfl | (simp only [List.map_cons, List.map_nil, List.sum_cons, List.sum_nil, va_rf_cat]; exact Nat.le_of_ble_eq_true rfl)) rfl (p_Master_unanswered hw hG hq29) ?_ (fun E h' n' x' e1 => by cases e1.1)
          intro v9 h9 n9 x9 e9
          obtain ⟨e91, e92, e93⟩ := e9
          cases e91
          subst e92
          subst e93
          clear x
          rename Bool => x
          show J _ _ _ _ (_ :: _) _ _ _ _ _ _
          refine J_aload_n d_Master_pass_171 rfl ?_
          refine J_iload_n d_Master_pass_172 rfl ?_
          obtain ⟨q30, hq30, H⟩ := Option.bind_eq_some_iff.mp H
          refine J_callV (kc := 0) (ks := 0) (kc' := 0) (ks' := 0) (a := this) (ci := 7) (as := [va_rf q29.1, .ref a23, .int p2]) (st := []) (mf_Master_takeBeat hw) (mv_Master_133 hw) d_Master_pass_173 ln_Master_takeBeat (by decide) (by first | exact Nat.le_of_ble_eq_true rfl | (simp only [List.map_cons, List.map_nil, List.sum_cons, List.sum_nil, va_rf_cat]; exact Nat.le_of_ble_eq_true rfl)) rfl ((hG _).1 _ g22 (by decide)).1 ((hG _).1 _ g22 (by decide)).2 (by unfold pic; rw [g22]; rfl) (jcl_at hw rfl) rfl (p_Master_takeBeat hw hG hq30) ?_ (fun E h' n' x' e1 => by cases e1.1)
          intro v9 h9 n9 x9 e9
          obtain ⟨e91, e92, e93⟩ := e9
          cases e91
          subst e92
          subst e93
          clear x
          rename Bool => x
          show J _ _ _ _ [] _ _ _ _ _ _
          refine J.drop [false, false, false, false] rfl ?_
          exact p_Master_pass_L176 hw hG  H
