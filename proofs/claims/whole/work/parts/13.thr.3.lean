theorem ln_Bus_content : (parseMethodDescriptor y_Bus_content.desc).map (fun q => q.parameters.length) = some 3 := by decide +kernel
def f_Bus_content (Γ : gm_T) (φ : ph_T) (this : Nat) (p0 : Int32) (p1 : Int32) (p2 : Int32) : Option ((Int64 ⊕ String) × ph_T) :=
  @ite _ (Γ this = .inr 11) _ (
  bT (f_Bus_portAt Γ φ this p0 p1) fun v3 φ4 =>
  bT (f_Bus_needIndex Γ φ4 p2 (5 : Int32)) fun v7 φ8 =>
  Option.bind v3 fun a10 =>
  @ite _ (Γ a10 = .inr 5) _ (
  Option.bind (φ8.2.2 a10 3) fun a12 =>
  Option.bind (gA Γ a12 1) fun N13 =>
  Option.bind (ix p2 N13) fun k14 =>
  some (.inl ((φ8.2.1 a12 k14)), φ8)
  ) none
  ) none
set_option maxRecDepth 100000 in
set_option maxHeartbeats 4000000 in
theorem p_Bus_content {w : jw_T} (hw : jok w) {Γ : gm_T} {n : Nat} (hG : gd w Γ n) {x : Bool} {φ : ph_T} {this : Nat} {p0 : Int32} {p1 : Int32} {p2 : Int32} {q : (Int64 ⊕ String) × ph_T} (H : f_Bus_content Γ φ this p0 p1 p2 = some q) : jc w M_Bus_content [.ref this, .int p0, .int p1, .int p2] (pic Γ φ) n x (kt q.1) (6 * kt q.1) (fq Γ n (rsL q.1) q.2) := by
  refine jc.of (by simp only [jent_r, jent_i, jent_l, jent_a, jent_0]; exact Nat.le_of_ble_eq_true rfl) ?_
  have hls : jents [.ref this, .int p0, .int p1, .int p2] (jm_nL M_Bus_content) = [some (.ref this), some (.int p0), some (.int p1), some (.int p2), none] := by simp only [jents, jent_r, jent_i, jent_l, jent_a, jent_0]; rfl
  rw [hls]
  clear hls
  unfold f_Bus_content at H
  refine J_aload_n d_Bus_content_0 rfl ?_
  refine J_iload_n d_Bus_content_1 rfl ?_
  refine J_iload_n d_Bus_content_2 rfl ?_
  have g1 : Γ this = .inr 11 := by
    apply Classical.byContradiction
    intro q9
    rw [if_neg q9] at H
    cases H
  rw [if_pos g1] at H
  rcases bT_some H with ⟨E5, φ4, hq2, H⟩ | ⟨v3, φ4, hq2, H⟩
  · subst H
    show J _ _ _ _ _ _ _ _ (1 + 0) (6 + 0) _
    refine J_callV (kc := 0) (ks := 0) (kc' := 1) (ks' := 6) (a := this) (ci := 11) (as := [.int p0, .int p1]) (st := []) (mf_Bus_portAt hw) (mv_Bus_214 hw) d_Bus_content_3 ln_Bus_portAt (by decide) (by first | exact Nat.le_of_ble_eq_true rfl | (simp only [List.map_cons, List.map_nil, List.sum_cons, List.sum_nil, va_rf_cat]; exact Nat.le_of_ble_eq_true rfl)) rfl ((hG _).1 _ g1 (by decide)).1 ((hG _).1 _ g1 (by decide)).2 (by unfold pic; rw [g1]; rfl) (jcl_at hw rfl) rfl (p_Bus_portAt hw hG hq2) (fun v9 h9 n9 x9 e9 => fq_nr e9) ?_
    intro E99 h9 n9 x9 e9
    obtain ⟨e91, e92, e93⟩ := e9
    have e91 := (Sum.inr.inj (show Sum.inr E99 = Sum.inr E5 from e91)).symm
    subst e91
    subst e92
    subst e93
    exact JT.out rfl ⟨rfl, rfl, rfl⟩
  refine J.kk (Nat.zero_add _) (Nat.zero_add _) ?_
  refine J_callV (kc := kt q.1) (ks := 6 * kt q.1) (kc' := 0) (ks' := 0) (a := this) (ci := 11) (as := [.int p0, .int p1]) (st := []) (mf_Bus_portAt hw) (mv_Bus_214 hw) d_Bus_content_3 ln_Bus_portAt (by decide) (by first | exact Nat.le_of_ble_eq_true rfl | (simp only [List.map_cons, List.map_nil, List.sum_cons, List.sum_nil, va_rf_cat]; exact Nat.le_of_ble_eq_true rfl)) rfl ((hG _).1 _ g1 (by decide)).1 ((hG _).1 _ g1 (by decide)).2 (by unfold pic; rw [g1]; rfl) (jcl_at hw rfl) rfl (p_Bus_portAt hw hG hq2) ?_ (fun E9 h9 n9 x9 e9 => fq_nt e9)
  intro v9 h9 n9 x9 e9
  obtain ⟨e91, e92, e93⟩ := e9
  have e91 := Sum.inl.inj (show Sum.inl v9 = Sum.inl (some (va_rf v3)) from e91)
  subst e91
  subst e92
  subst e93
  clear x
  rename Bool => x
  show J _ _ _ _ (_ :: _) _ _ _ _ _ _
  refine J_astoreO d_Bus_content_6 (Nat.le_of_ble_eq_true rfl) ?_
  refine J.ls (ls' := [some (.ref this), some (.int p0), some (.int p1), some (.int p2), some (va_rf v3)]) rfl ?_
  refine J_iload_n d_Bus_content_8 rfl ?_
  refine J_iconst (v := 5) d_Bus_content_9 (by decide) ?_
  rcases bT_some H with ⟨E9, φ8, hq6, H⟩ | ⟨v7, φ8, hq6, H⟩
  · subst H
    show J _ _ _ _ _ _ _ _ (1 + 0) (6 + 0) _
    refine J_callS (kc := 0) (ks := 0) (kc' := 1) (ks' := 6) (as := [.int p2, .int (5 : Int32)]) (st := []) (mf_Bus_needIndex hw) (ms_Bus_65 hw) d_Bus_content_10 ln_Bus_needIndex (by decide) (by first | exact Nat.le_of_ble_eq_true rfl | (simp only [List.map_cons, List.map_nil, List.sum_cons, List.sum_nil, va_rf_cat]; exact Nat.le_of_ble_eq_true rfl)) rfl (p_Bus_needIndex hw hG hq6) (fun v9 h9 n9 x9 e9 => fq_nr e9) ?_
    intro E99 h9 n9 x9 e9
    obtain ⟨e91, e92, e93⟩ := e9
    have e91 := (Sum.inr.inj (show Sum.inr E99 = Sum.inr E9 from e91)).symm
    subst e91
    subst e92
    subst e93
    exact JT.out rfl ⟨rfl, rfl, rfl⟩
  refine J.kk (Nat.zero_add _) (Nat.zero_add _) ?_
  refine J_callS (kc := kt q.1) (ks := 6 * kt q.1) (kc' := 0) (ks' := 0) (as := [.int p2, .int (5 : Int32)]) (st := []) (mf_Bus_needIndex hw) (ms_Bus_65 hw) d_Bus_content_10 ln_Bus_needIndex (by decide) (by first | exact Nat.le_of_ble_eq_true rfl | (simp only [List.map_cons, List.map_nil, List.sum_cons, List.sum_nil, va_rf_cat]; exact Nat.le_of_ble_eq_true rfl)) rfl (p_Bus_needIndex hw hG hq6) ?_ (fun E9 h9 n9 x9 e9 => fq_nt e9)
  intro v9 h9 n9 x9 e9
  obtain ⟨e91, e92, e93⟩ := e9
  have e91 := Sum.inl.inj (show Sum.inl v9 = Sum.inl none from e91)
  subst e91
  subst e92
  subst e93
  clear x
  rename Bool => x
  show J _ _ _ _ [] _ _ _ _ _ _
  refine J_aloadO d_Bus_content_13 rfl ?_
  obtain ⟨a10, ha10, H⟩ := Option.bind_eq_some_iff.mp H
  rw [j_rf ha10]
  have g11 : Γ a10 = .inr 5 := by
    apply Classical.byContradiction
    intro q9
    rw [if_neg q9] at H
    cases H
  rw [if_pos g11] at H
  refine F_getR (ci := 5) (k := 3) hG (cf_Port hw) (fl_Bus_228 hw) (by decide) (by decide) rfl d_Bus_content_15 g11 ?_
  refine J_iload_n d_Bus_content_18 rfl ?_
  obtain ⟨a12, ha12, H⟩ := Option.bind_eq_some_iff.mp H
  rw [j_rf ha12]
  obtain ⟨N13, hN13, H⟩ := Option.bind_eq_some_iff.mp H
  obtain ⟨k14, hk14, H⟩ := Option.bind_eq_some_iff.mp H
  refine F_lald k14 hw hG d_Bus_content_19 (gA_some hN13) (ix_some hk14) ?_
  have H := Option.some.inj H
  subst H
  show J _ _ _ _ _ _ _ _ 0 0 _
  exact J_lret (st := []) d_Bus_content_20 rfl ⟨rfl, rfl, rfl⟩
theorem ln_Law_content : (parseMethodDescriptor y_Law_content.desc).map (fun q => q.parameters.length) = some 5 := by decide +kernel
def f_Law_content (Γ : gm_T) (φ : ph_T) (p0 : Option Nat) (p1 : Int32) (p2 : Int32) (p3 : Int32) (p4 : Option Nat) : Option (Int32 × ph_T) :=
  Option.bind p0 fun a1 =>
  @ite _ (Γ a1 = .inr 11) _ (
  bC (f_Bus_content Γ φ a1 p1 p2 p3) (fun E6 φ5 =>
    if E6 = "java/lang/IndexOutOfBoundsException" then
      some ((1 : Int32), φ5)
 else none) fun v4 φ5 =>
  Option.bind p4 fun a9 =>
  Option.bind (gA Γ a9 1) fun N10 =>
  Option.bind (ix (0 : Int32) N10) fun k11 =>
  some ((0 : Int32), (uL φ5 a9 k11 v4))
  ) none
set_option maxRecDepth 100000 in
set_option maxHeartbeats 4000000 in
theorem p_Law_content {w : jw_T} (hw : jok w) {Γ : gm_T} {n : Nat} (hG : gd w Γ n) {x : Bool} {φ : ph_T} {p0 : Option Nat} {p1 : Int32} {p2 : Int32} {p3 : Int32} {p4 : Option Nat} {q : Int32 × ph_T} (H : f_Law_content Γ φ p0 p1 p2 p3 p4 = some q) : jc w M_Law_content [va_rf p0, .int p1, .int p2, .int p3, va_rf p4] (pic Γ φ) n x 1 6 (fq Γ n (.inl (some (.int q.1))) q.2) := by
  refine jc.of (by simp only [jent_r, jent_i, jent_l, jent_a, jent_0]; exact Nat.le_of_ble_eq_true rfl) ?_
  have hls : jents [va_rf p0, .int p1, .int p2, .int p3, va_rf p4] (jm_nL M_Law_content) = [some (va_rf p0), some (.int p1), some (.int p2), some (.int p3), some (va_rf p4), none] := by simp only [jents, jent_r, jent_i, jent_l, jent_a, jent_0]; rfl
  rw [hls]
  clear hls
  unfold f_Law_content at H
  refine J_aloadO d_Law_content_0 rfl ?_
  refine J_iconst (v := 0) d_Law_content_2 (by decide) ?_
  refine J_aload_nO d_Law_content_3 rfl ?_
  refine J_iload_n d_Law_content_4 rfl ?_
  refine J_iload_n d_Law_content_5 rfl ?_
  refine J_iload_n d_Law_content_6 rfl ?_
  obtain ⟨a1, ha1, H⟩ := Option.bind_eq_some_iff.mp H
  rw [j_rf ha1]
  have g2 : Γ a1 = .inr 11 := by
    apply Classical.byContradiction
    intro q9
    rw [if_neg q9] at H
    cases H
  rw [if_pos g2] at H
  rcases bC_some H with ⟨E6, φ5, hq3, H⟩ | ⟨v4, φ5, hq3, H⟩
  · refine J_callV (kc := 0) (ks := 0) (kc' := 1) (ks' := 6) (a := a1) (ci := 11) (as := [.int p1, .int p2, .int p3]) (st := [.int (0 : Int32), va_rf p4]) (mf_Bus_content hw) (mv_Law_75 hw) d_Law_content_7 ln_Bus_content (by decide) (by first | exact Nat.le_of_ble_eq_true rfl | (simp only [List.map_cons, List.map_nil, List.sum_cons, List.sum_nil, va_rf_cat]; exact Nat.le_of_ble_eq_true rfl)) rfl ((hG _).1 _ g2 (by decide)).1 ((hG _).1 _ g2 (by decide)).2 (by unfold pic; rw [g2]; rfl) (jcl_at hw rfl) rfl (p_Bus_content hw hG hq3) (fun v9 h9 n9 x9 e9 => fq_nr e9) ?_
    intro E99 h9 n9 x9 e9
    obtain ⟨e91, e92, e93⟩ := e9
    have e91 := (Sum.inr.inj (show Sum.inr E99 = Sum.inr E6 from e91)).symm
    subst e91
    subst e92
    subst e93
    by_cases c8 : E6 = "java/lang/IndexOutOfBoundsException"
    · subst c8
      rw [if_pos rfl] at H
      refine JT.catch (name := "java/lang/IndexOutOfBoundsException") [] [] rfl ⟨by decide, by decide⟩ (by decide) (tb3 hw (i := 79) (by decide +kernel)) (tb3 hw (i := 90) (by decide +kernel)) (fun r9 hr9 => by cases hr9) (fun r7 => ?_)
      refine J_astore d_Law_content_14 (Nat.le_of_ble_eq_true rfl) ?_
      refine J.ls (ls' := [some (.ref a1), some (.int p1), some (.int p2), some (.int p3), some (va_rf p4), some (.ref r7)]) (jst1_o (i := 4) (r := p4) rfl) ?_
      refine J_iconst (v := 1) d_Law_content_16 (by decide) ?_
      have H := Option.some.inj H
      subst H
      exact J_iret (st := []) d_Law_content_17 rfl rfl ⟨rfl, rfl, rfl⟩
    rw [if_neg c8] at H
    cases H
  refine J.more (kc := 0) (ks := 0) (Nat.zero_le _) (Nat.zero_le _) ?_
  refine J_callV (kc := 0) (ks := 0) (kc' := 0) (ks' := 0) (a := a1) (ci := 11) (as := [.int p1, .int p2, .int p3]) (st := [.int (0 : Int32), va_rf p4]) (mf_Bus_content hw) (mv_Law_75 hw) d_Law_content_7 ln_Bus_content (by decide) (by first | exact Nat.le_of_ble_eq_true rfl | (simp only [List.map_cons, List.map_nil, List.sum_cons, List.sum_nil, va_rf_cat]; exact Nat.le_of_ble_eq_true rfl)) rfl ((hG _).1 _ g2 (by decide)).1 ((hG _).1 _ g2 (by decide)).2 (by unfold pic; rw [g2]; rfl) (jcl_at hw rfl) rfl (p_Bus_content hw hG hq3) ?_ (fun E9 h9 n9 x9 e9 => fq_nt e9)
  intro v9 h9 n9 x9 e9
  obtain ⟨e91, e92, e93⟩ := e9
  have e91 := Sum.inl.inj (show Sum.inl v9 = Sum.inl (some (.long v4)) from e91)
  subst e91
  subst e92
  subst e93
  clear x
  rename Bool => x
  show J _ _ _ _ (_ :: _) _ _ _ _ _ _
  obtain ⟨a9, ha9, H⟩ := Option.bind_eq_some_iff.mp H
  rw [j_rf ha9]
  obtain ⟨N10, hN10, H⟩ := Option.bind_eq_some_iff.mp H
  obtain ⟨k11, hk11, H⟩ := Option.bind_eq_some_iff.mp H
  refine F_last k11 hw hG d_Law_content_10 (gA_some hN10) (ix_some hk11) ?_
  refine J_goto (tgt := 18) d_Law_content_11 (by decide) ?_
  refine J_iconst (v := 0) d_Law_content_18 (by decide) ?_
  have H := Option.some.inj H
  subst H
  exact J_iret (st := []) d_Law_content_19 rfl rfl ⟨rfl, rfl, rfl⟩
theorem ln_Bus_port : (parseMethodDescriptor y_Bus_port.desc).map (fun q => q.parameters.length) = some 3 := by decide +kernel
def f_Bus_port (Γ : gm_T) (φ : ph_T) (this : Nat) (p0 : Int32) (p1 : Int32) (p2 : Int32) : Option ((Int32 ⊕ String) × ph_T) :=
  @ite _ (Γ this = .inr 11) _ (
  bT (f_Bus_portAt Γ φ this p0 p1) fun v3 φ4 =>
  bT (f_Bus_needNumber Γ φ4 p2 (0 : Int32) (7 : Int32)) fun v7 φ8 =>
  if (5 : Int32) ≤ p2 then
    Option.bind v3 fun a10 =>
    @ite _ (Γ a10 = .inr 5) _ (
    Option.bind (φ8.2.2 a10 6) fun a12 =>
    @ite _ (Γ a12 = .inr 4) _ (
    Option.bind (f_Monitor_faultPart Γ φ8 a12 (p2 - (5 : Int32))) fun q14 =>
    some (.inl (q14.1), q14.2)
    ) none
    ) none
  else
    Option.bind v3 fun a15 =>
    @ite _ (Γ a15 = .inr 5) _ (
    Option.bind (φ8.2.2 a15 5) fun a17 =>
    Option.bind (gA Γ a17 0) fun N18 =>
    Option.bind (ix p2 N18) fun k19 =>
    some (.inl ((φ8.1 a17 k19)), φ8)
    ) none
  ) none
set_option maxRecDepth 100000 in
set_option maxHeartbeats 4000000 in
theorem p_Bus_port {w : jw_T} (hw : jok w) {Γ : gm_T} {n : Nat} (hG : gd w Γ n) {x : Bool} {φ : ph_T} {this : Nat} {p0 : Int32} {p1 : Int32} {p2 : Int32} {q : (Int32 ⊕ String) × ph_T} (H : f_Bus_port Γ φ this p0 p1 p2 = some q) : jc w M_Bus_port [.ref this, .int p0, .int p1, .int p2] (pic Γ φ) n x (kt q.1) (6 * kt q.1) (fq Γ n (rsI q.1) q.2) := by
  refine jc.of (by simp only [jent_r, jent_i, jent_l, jent_a, jent_0]; exact Nat.le_of_ble_eq_true rfl) ?_
  have hls : jents [.ref this, .int p0, .int p1, .int p2] (jm_nL M_Bus_port) = [some (.ref this), some (.int p0), some (.int p1), some (.int p2), none] := by simp only [jents, jent_r, jent_i, jent_l, jent_a, jent_0]; rfl
  rw [hls]
  clear hls
  unfold f_Bus_port at H
  refine J_aload_n d_Bus_port_0 rfl ?_
  refine J_iload_n d_Bus_port_1 rfl ?_
  refine J_iload_n d_Bus_port_2 rfl ?_
  have g1 : Γ this = .inr 11 := by
    apply Classical.byContradiction
    intro q9
    rw [if_neg q9] at H
    cases H
  rw [if_pos g1] at H
  rcases bT_some H with ⟨E5, φ4, hq2, H⟩ | ⟨v3, φ4, hq2, H⟩
  · subst H
    show J _ _ _ _ _ _ _ _ (1 + 0) (6 + 0) _
    refine J_callV (kc := 0) (ks := 0) (kc' := 1) (ks' := 6) (a := this) (ci := 11) (as := [.int p0, .int p1]) (st := []) (mf_Bus_portAt hw) (mv_Bus_214 hw) d_Bus_port_3 ln_Bus_portAt (by decide) (by first | exact Nat.le_of_ble_eq_true rfl | (simp only [List.map_cons, List.map_nil, List.sum_cons, List.sum_nil, va_rf_cat]; exact Nat.le_of_ble_eq_true rfl)) rfl ((hG _).1 _ g1 (by decide)).1 ((hG _).1 _ g1 (by decide)).2 (by unfold pic; rw [g1]; rfl) (jcl_at hw rfl) rfl (p_Bus_portAt hw hG hq2) (fun v9 h9 n9 x9 e9 => fq_nr e9) ?_
    intro E99 h9 n9 x9 e9
    obtain ⟨e91, e92, e93⟩ := e9
    have e91 := (Sum.inr.inj (show Sum.inr E99 = Sum.inr E5 from e91)).symm
    subst e91
    subst e92
    subst e93
    exact JT.out rfl ⟨rfl, rfl, rfl⟩
  refine J.kk (Nat.zero_add _) (Nat.zero_add _) ?_
  refine J_callV (kc := kt q.1) (ks := 6 * kt q.1) (kc' := 0) (ks' := 0) (a := this) (ci := 11) (as := [.int p0, .int p1]) (st := []) (mf_Bus_portAt hw) (mv_Bus_214 hw) d_Bus_port_3 ln_Bus_portAt (by decide) (by first | exact Nat.le_of_ble_eq_true rfl | (simp only [List.map_cons, List.map_nil, List.sum_cons, List.sum_nil, va_rf_cat]; exact Nat.le_of_ble_eq_true rfl)) rfl ((hG _).1 _ g1 (by decide)).1 ((hG _).1 _ g1 (by decide)).2 (by unfold pic; rw [g1]; rfl) (jcl_at hw rfl) rfl (p_Bus_portAt hw hG hq2) ?_ (fun E9 h9 n9 x9 e9 => fq_nt e9)
  intro v9 h9 n9 x9 e9
  obtain ⟨e91, e92, e93⟩ := e9
  have e91 := Sum.inl.inj (show Sum.inl v9 = Sum.inl (some (va_rf v3)) from e91)
  subst e91
  subst e92
  subst e93
  clear x
  rename Bool => x
  show J _ _ _ _ (_ :: _) _ _ _ _ _ _
  refine J_astoreO d_Bus_port_6 (Nat.le_of_ble_eq_true rfl) ?_
  refine J.ls (ls' := [some (.ref this), some (.int p0), some (.int p1), some (.int p2), some (va_rf v3)]) rfl ?_
  refine J_iload_n d_Bus_port_8 rfl ?_
  refine J_iconst (v := 0) d_Bus_port_9 (by decide) ?_
  refine J_bipush (v := 7) d_Bus_port_10 (by decide) ?_
  rcases bT_some H with ⟨E9, φ8, hq6, H⟩ | ⟨v7, φ8, hq6, H⟩
  · subst H
    show J _ _ _ _ _ _ _ _ (1 + 0) (6 + 0) _
    refine J_callS (kc := 0) (ks := 0) (kc' := 1) (ks' := 6) (as := [.int p2, .int (0 : Int32), .int (7 : Int32)]) (st := []) (mf_Bus_needNumber hw) (ms_Bus_84 hw) d_Bus_port_12 ln_Bus_needNumber (by decide) (by first | exact Nat.le_of_ble_eq_true rfl | (simp only [List.map_cons, List.map_nil, List.sum_cons, List.sum_nil, va_rf_cat]; exact Nat.le_of_ble_eq_true rfl)) rfl (p_Bus_needNumber hw hG hq6) (fun v9 h9 n9 x9 e9 => fq_nr e9) ?_
    intro E99 h9 n9 x9 e9
    obtain ⟨e91, e92, e93⟩ := e9
    have e91 := (Sum.inr.inj (show Sum.inr E99 = Sum.inr E9 from e91)).symm
    subst e91
    subst e92
    subst e93
    exact JT.out rfl ⟨rfl, rfl, rfl⟩
  refine J.kk (Nat.zero_add _) (Nat.zero_add _) ?_
  refine J_callS (kc := kt q.1) (ks := 6 * kt q.1) (kc' := 0) (ks' := 0) (as := [.int p2, .int (0 : Int32), .int (7 : Int32)]) (st := []) (mf_Bus_needNumber hw) (ms_Bus_84 hw) d_Bus_port_12 ln_Bus_needNumber (by decide) (by first | exact Nat.le_of_ble_eq_true rfl | (simp only [List.map_cons, List.map_nil, List.sum_cons, List.sum_nil, va_rf_cat]; exact Nat.le_of_ble_eq_true rfl)) rfl (p_Bus_needNumber hw hG hq6) ?_ (fun E9 h9 n9 x9 e9 => fq_nt e9)
  intro v9 h9 n9 x9 e9
  obtain ⟨e91, e92, e93⟩ := e9
  have e91 := Sum.inl.inj (show Sum.inl v9 = Sum.inl none from e91)
  subst e91
  subst e92
  subst e93
  clear x
  rename Bool => x
  show J _ _ _ _ [] _ _ _ _ _ _
  refine J_iload_n d_Bus_port_15 rfl ?_
  refine J_iconst (v := 5) d_Bus_port_16 (by decide) ?_
  refine J_icmp_ge (tgt := 28) d_Bus_port_17 (by decide) ?_ ?_
  · intro c20
    rw [if_pos c20] at H
    refine J_aloadO d_Bus_port_28 rfl ?_
    obtain ⟨a10, ha10, H⟩ := Option.bind_eq_some_iff.mp H
    rw [j_rf ha10]
    have g11 : Γ a10 = .inr 5 := by
      apply Classical.byContradiction
      intro q9
      rw [if_neg q9] at H
      cases H
    rw [if_pos g11] at H
    refine F_getR (ci := 5) (k := 6) hG (cf_Port hw) (fl_Bus_234 hw) (by decide) (by decide) rfl d_Bus_port_30 g11 ?_
    refine J_iload_n d_Bus_port_33 rfl ?_
    refine J_iconst (v := 5) d_Bus_port_34 (by decide) ?_
    refine J_isub d_Bus_port_35 ?_
    obtain ⟨a12, ha12, H⟩ := Option.bind_eq_some_iff.mp H
    rw [j_rf ha12]
    have g13 : Γ a12 = .inr 4 := by
      apply Classical.byContradiction
      intro q9
      rw [if_neg q9] at H
      cases H
    rw [if_pos g13] at H
    obtain ⟨q14, hq14, H⟩ := Option.bind_eq_some_iff.mp H
    refine J.kk (Nat.zero_add _) (Nat.zero_add _) ?_
    refine J_callV (kc := kt q.1) (ks := 6 * kt q.1) (kc' := 0) (ks' := 0) (a := a12) (ci := 4) (as := [.int (p2 - (5 : Int32))]) (st := []) (mf_Monitor_faultPart hw) (mv_Bus_238 hw) d_Bus_port_36 ln_Monitor_faultPart (by decide) (by first | exact Nat.le_of_ble_eq_true rfl | (simp only [List.map_cons, List.map_nil, List.sum_cons, List.sum_nil, va_rf_cat]; exact Nat.le_of_ble_eq_true rfl)) rfl ((hG _).1 _ g13 (by decide)).1 ((hG _).1 _ g13 (by decide)).2 (by unfold pic; rw [g13]; rfl) (jcl_at hw rfl) rfl (p_Monitor_faultPart hw hG hq14) ?_ (fun E h' n' x' e1 => by cases e1.1)
    intro v9 h9 n9 x9 e9
    obtain ⟨e91, e92, e93⟩ := e9
    cases e91
    subst e92
    subst e93
    clear x
    rename Bool => x
    show J _ _ _ _ (_ :: _) _ _ _ _ _ _
    have H := Option.some.inj H
    subst H
    show J _ _ _ _ _ _ _ _ 0 0 _
    exact J_iret (st := []) d_Bus_port_39 rfl rfl ⟨rfl, rfl, rfl⟩
  · intro c20
    rw [if_neg c20] at H
    refine J_aloadO d_Bus_port_20 rfl ?_
    obtain ⟨a15, ha15, H⟩ := Option.bind_eq_some_iff.mp H
    rw [j_rf ha15]
    have g16 : Γ a15 = .inr 5 := by
      apply Classical.byContradiction
      intro q9
      rw [if_neg q9] at H
      cases H
    rw [if_pos g16] at H
    refine F_getR (ci := 5) (k := 5) hG (cf_Port hw) (fl_Bus_231 hw) (by decide) (by decide) rfl d_Bus_port_22 g16 ?_
    refine J_iload_n d_Bus_port_25 rfl ?_
    obtain ⟨a17, ha17, H⟩ := Option.bind_eq_some_iff.mp H
    rw [j_rf ha17]
    obtain ⟨N18, hN18, H⟩ := Option.bind_eq_some_iff.mp H
    obtain ⟨k19, hk19, H⟩ := Option.bind_eq_some_iff.mp H
    refine F_iald k19 hw hG d_Bus_port_26 (gA_some hN18) (ix_some hk19) ?_
    have H := Option.some.inj H
    subst H
    show J _ _ _ _ _ _ _ _ 0 0 _
    exact J_iret (st := []) d_Bus_port_27 rfl rfl ⟨rfl, rfl, rfl⟩
theorem ln_Law_port : (parseMethodDescriptor y_Law_port.desc).map (fun q => q.parameters.length) = some 5 := by decide +kernel
def f_Law_port (Γ : gm_T) (φ : ph_T) (p0 : Option Nat) (p1 : Int32) (p2 : Int32) (p3 : Int32) (p4 : Option Nat) : Option (Int32 × ph_T) :=
  Option.bind p0 fun a1 =>
  @ite _ (Γ a1 = .inr 11) _ (
  bC (f_Bus_port Γ φ a1 p1 p2 p3) (fun E6 φ5 =>
    if E6 = "java/lang/IndexOutOfBoundsException" then
      some ((1 : Int32), φ5)
 else if E6 = "java/lang/IllegalArgumentException" then
      some ((2 : Int32), φ5)
 else none) fun v4 φ5 =>
  Option.bind p4 fun a11 =>
  Option.bind (gA Γ a11 1) fun N12 =>
  Option.bind (ix (0 : Int32) N12) fun k13 =>
  some ((0 : Int32), (uL φ5 a11 k13 (Int32.toInt64 v4)))
  ) none
set_option maxRecDepth 100000 in
set_option maxHeartbeats 4000000 in
theorem p_Law_port {w : jw_T} (hw : jok w) {Γ : gm_T} {n : Nat} (hG : gd w Γ n) {x : Bool} {φ : ph_T} {p0 : Option Nat} {p1 : Int32} {p2 : Int32} {p3 : Int32} {p4 : Option Nat} {q : Int32 × ph_T} (H : f_Law_port Γ φ p0 p1 p2 p3 p4 = some q) : jc w M_Law_port [va_rf p0, .int p1, .int p2, .int p3, va_rf p4] (pic Γ φ) n x 1 6 (fq Γ n (.inl (some (.int q.1))) q.2) := by
  refine jc.of (by simp only [jent_r, jent_i, jent_l, jent_a, jent_0]; exact Nat.le_of_ble_eq_true rfl) ?_
  have hls : jents [va_rf p0, .int p1, .int p2, .int p3, va_rf p4] (jm_nL M_Law_port) = [some (va_rf p0), some (.int p1), some (.int p2), some (.int p3), some (va_rf p4), none] := by simp only [jents, jent_r, jent_i, jent_l, jent_a, jent_0]; rfl
  rw [hls]
  clear hls
  unfold f_Law_port at H
  refine J_aloadO d_Law_port_0 rfl ?_
  refine J_iconst (v := 0) d_Law_port_2 (by decide) ?_
  refine J_aload_nO d_Law_port_3 rfl ?_
  refine J_iload_n d_Law_port_4 rfl ?_
  refine J_iload_n d_Law_port_5 rfl ?_
  refine J_iload_n d_Law_port_6 rfl ?_
  obtain ⟨a1, ha1, H⟩ := Option.bind_eq_some_iff.mp H
  rw [j_rf ha1]
  have g2 : Γ a1 = .inr 11 := by
    apply Classical.byContradiction
    intro q9
    rw [if_neg q9] at H
    cases H
  rw [if_pos g2] at H
  rcases bC_some H with ⟨E6, φ5, hq3, H⟩ | ⟨v4, φ5, hq3, H⟩
  · refine J_callV (kc := 0) (ks := 0) (kc' := 1) (ks' := 6) (a := a1) (ci := 11) (as := [.int p1, .int p2, .int p3]) (st := [.int (0 : Int32), va_rf p4]) (mf_Bus_port hw) (mv_Law_79 hw) d_Law_port_7 ln_Bus_port (by decide) (by first | exact Nat.le_of_ble_eq_true rfl | (simp only [List.map_cons, List.map_nil, List.sum_cons, List.sum_nil, va_rf_cat]; exact Nat.le_of_ble_eq_true rfl)) rfl ((hG _).1 _ g2 (by decide)).1 ((hG _).1 _ g2 (by decide)).2 (by unfold pic; rw [g2]; rfl) (jcl_at hw rfl) rfl (p_Bus_port hw hG hq3) (fun v9 h9 n9 x9 e9 => fq_nr e9) ?_
    intro E99 h9 n9 x9 e9
    obtain ⟨e91, e92, e93⟩ := e9
    have e91 := (Sum.inr.inj (show Sum.inr E99 = Sum.inr E6 from e91)).symm
    subst e91
    subst e92
    subst e93
    by_cases c8 : E6 = "java/lang/IndexOutOfBoundsException"
    · subst c8
      rw [if_pos rfl] at H
      refine JT.catch (name := "java/lang/IndexOutOfBoundsException") [] [(0, 12, 19, 21)] rfl ⟨by decide, by decide⟩ (by decide) (tb3 hw (i := 79) (by decide +kernel)) (tb3 hw (i := 90) (by decide +kernel)) (fun r9 hr9 => by cases hr9) (fun r7 => ?_)
      refine J_astore d_Law_port_15 (Nat.le_of_ble_eq_true rfl) ?_
      refine J.ls (ls' := [some (.ref a1), some (.int p1), some (.int p2), some (.int p3), some (va_rf p4), some (.ref r7)]) (jst1_o (i := 4) (r := p4) rfl) ?_
      refine J_iconst (v := 1) d_Law_port_17 (by decide) ?_
      have H := Option.some.inj H
      subst H
      exact J_iret (st := []) d_Law_port_18 rfl rfl ⟨rfl, rfl, rfl⟩
    rw [if_neg c8] at H
    by_cases c10 : E6 = "java/lang/IllegalArgumentException"
    · subst c10
      rw [if_pos rfl] at H
      refine JT.catch (name := "java/lang/IllegalArgumentException") [(0, 12, 15, 13)] [] rfl ⟨by decide, by decide⟩ (by decide) (tb3 hw (i := 176) (by decide +kernel)) (tb3 hw (i := 186) (by decide +kernel)) (fun r9 hr9 => by
          simp only [List.mem_cons, List.not_mem_nil, or_false] at hr9
          rcases hr9 with rfl
          · exact ⟨by decide, "java/lang/IndexOutOfBoundsException", tb3 hw (i := 79) (by decide +kernel), jnc_mem hw (by decide)⟩) (fun r9 => ?_)
      refine J_astore d_Law_port_19 (Nat.le_of_ble_eq_true rfl) ?_
      refine J.ls (ls' := [some (.ref a1), some (.int p1), some (.int p2), some (.int p3), some (va_rf p4), some (.ref r9)]) (jst1_o (i := 4) (r := p4) rfl) ?_
      refine J_iconst (v := 2) d_Law_port_21 (by decide) ?_
      have H := Option.some.inj H
      subst H
      exact J_iret (st := []) d_Law_port_22 rfl rfl ⟨rfl, rfl, rfl⟩
    rw [if_neg c10] at H
    cases H
  refine J.more (kc := 0) (ks := 0) (Nat.zero_le _) (Nat.zero_le _) ?_
  refine J_callV (kc := 0) (ks := 0) (kc' := 0) (ks' := 0) (a := a1) (ci := 11) (as := [.int p1, .int p2, .int p3]) (st := [.int (0 : Int32), va_rf p4]) (mf_Bus_port hw) (mv_Law_79 hw) d_Law_port_7 ln_Bus_port (by decide) (by first | exact Nat.le_of_ble_eq_true rfl | (simp only [List.map_cons, List.map_nil, List.sum_cons, List.sum_nil, va_rf_cat]; exact Nat.le_of_ble_eq_true rfl)) rfl ((hG _).1 _ g2 (by decide)).1 ((hG _).1 _ g2 (by decide)).2 (by unfold pic; rw [g2]; rfl) (jcl_at hw rfl) rfl (p_Bus_port hw hG hq3) ?_ (fun E9 h9 n9 x9 e9 => fq_nt e9)
  intro v9 h9 n9 x9 e9
  obtain ⟨e91, e92, e93⟩ := e9
  have e91 := Sum.inl.inj (show Sum.inl v9 = Sum.inl (some (.int v4)) from e91)
  subst e91
  subst e92
  subst e93
  clear x
  rename Bool => x
  show J _ _ _ _ (_ :: _) _ _ _ _ _ _
  refine J_i2l d_Law_port_10 ?_
  obtain ⟨a11, ha11, H⟩ := Option.bind_eq_some_iff.mp H
  rw [j_rf ha11]
  obtain ⟨N12, hN12, H⟩ := Option.bind_eq_some_iff.mp H
  obtain ⟨k13, hk13, H⟩ := Option.bind_eq_some_iff.mp H
  refine F_last k13 hw hG d_Law_port_11 (gA_some hN12) (ix_some hk13) ?_
  refine J_goto (tgt := 23) d_Law_port_12 (by decide) ?_
  refine J_iconst (v := 0) d_Law_port_23 (by decide) ?_
  have H := Option.some.inj H
  subst H
  exact J_iret (st := []) d_Law_port_24 rfl rfl ⟨rfl, rfl, rfl⟩
theorem ln_Bus_target : (parseMethodDescriptor y_Bus_target.desc).map (fun q => q.parameters.length) = some 2 := by decide +kernel
def f_Bus_target_L89 (Γ : gm_T)  (φ : ph_T) (y0 : Int32) : Option ((Int32 ⊕ String) × ph_T) :=
  some (.inl (y0), φ)
set_option maxRecDepth 100000 in
set_option maxHeartbeats 4000000 in
theorem p_Bus_target_L89 {w : jw_T} (hw : jok w) {Γ : gm_T} {n : Nat} (hG : gd w Γ n)  {x : Bool} {φ : ph_T} {y0 : Int32} {q : (Int32 ⊕ String) × ph_T} (H : f_Bus_target_L89 Γ  φ y0 = some q) : J w M_Bus_target 89 [none, none, none] [.int y0] (pic Γ φ) n x (kt q.1) (6 * kt q.1) (fq Γ n (rsI q.1) q.2) := by
  unfold f_Bus_target_L89 at H
  have H := Option.some.inj H
  subst H
  show J _ _ _ _ _ _ _ _ 0 0 _
  exact J_iret (st := []) d_Bus_target_89 rfl rfl ⟨rfl, rfl, rfl⟩
def f_Bus_target (Γ : gm_T) (φ : ph_T) (this : Nat) (p0 : Int32) (p1 : Int32) : Option ((Int32 ⊕ String) × ph_T) :=
  @ite _ (Γ this = .inr 11) _ (
  Option.bind (φ.2.2 this 3) fun a2 =>
  Option.bind (gA Γ a2 9) fun N3 =>
  bT (f_Bus_needIndex Γ φ p0 ((nI N3) + (1 : Int32))) fun v5 φ6 =>
  bT (f_Bus_needNumber Γ φ6 p1 (0 : Int32) (3 : Int32)) fun v9 φ10 =>
  if p1 = 0 then
    Option.bind (φ10.2.2 this 1) fun a32 =>
    @ite _ (Γ a32 = .inr 10) _ (
    Option.bind (f_Switch_underWayTo Γ φ10 a32 p0 (0 : Int32)) fun q34 =>
    some (.inl (q34.1), q34.2)
    ) none
  else
    if p1 = (1 : Int32) then
      Option.bind (φ10.2.2 this 1) fun a28 =>
      @ite _ (Γ a28 = .inr 10) _ (
      Option.bind (f_Switch_underWayTo Γ φ10 a28 p0 (3 : Int32)) fun q30 =>
      some (.inl (q30.1), q30.2)
      ) none
    else
      Option.bind (φ10.2.2 this 3) fun a12 =>
      Option.bind (gA Γ a12 9) fun N13 =>
      if p0 = (nI N13) then
        some (.inl ((0 : Int32)), φ10)
      else
        if p1 = (2 : Int32) then
          Option.bind (gA Γ a12 9) fun N20 =>
          Option.bind (ix p0 N20) fun k21 =>
          Option.bind (φ10.2.2 a12 k21) fun a22 =>
          @ite _ (Γ a22 = .inr 8) _ (
          Option.bind (φ10.2.2 a22 2) fun a24 =>
          @ite _ (Γ a24 = .inr 1) _ (
          f_Bus_target_L89 Γ  φ10 (φ10.1 a24 1)
          ) none
          ) none
        else
          Option.bind (gA Γ a12 9) fun N14 =>
          Option.bind (ix p0 N14) fun k15 =>
          Option.bind (φ10.2.2 a12 k15) fun a16 =>
          @ite _ (Γ a16 = .inr 8) _ (
          Option.bind (φ10.2.2 a16 3) fun a18 =>
          @ite _ (Γ a18 = .inr 1) _ (
          f_Bus_target_L89 Γ  φ10 (φ10.1 a18 1)
          ) none
          ) none
  ) none
set_option maxRecDepth 100000 in
set_option maxHeartbeats 4000000 in
theorem p_Bus_target {w : jw_T} (hw : jok w) {Γ : gm_T} {n : Nat} (hG : gd w Γ n) {x : Bool} {φ : ph_T} {this : Nat} {p0 : Int32} {p1 : Int32} {q : (Int32 ⊕ String) × ph_T} (H : f_Bus_target Γ φ this p0 p1 = some q) : jc w M_Bus_target [.ref this, .int p0, .int p1] (pic Γ φ) n x (kt q.1) (6 * kt q.1) (fq Γ n (rsI q.1) q.2) := by
  refine jc.of (by simp only [jent_r, jent_i, jent_l, jent_a, jent_0]; exact Nat.le_of_ble_eq_true rfl) ?_
  have hls : jents [.ref this, .int p0, .int p1] (jm_nL M_Bus_target) = [some (.ref this), some (.int p0), some (.int p1)] := by simp only [jents, jent_r, jent_i, jent_l, jent_a, jent_0]; rfl
  rw [hls]
  clear hls
  unfold f_Bus_target at H
  refine J_iload_n d_Bus_target_0 rfl ?_
  refine J_aload_n d_Bus_target_1 rfl ?_
  have g1 : Γ this = .inr 11 := by
    apply Classical.byContradiction
    intro q9
    rw [if_neg q9] at H
    cases H
  rw [if_pos g1] at H
  refine F_getR (ci := 11) (k := 3) hG (cf_Bus hw) (fl_Bus_45 hw) (by decide) (by decide) rfl d_Bus_target_2 g1 ?_
  obtain ⟨a2, ha2, H⟩ := Option.bind_eq_some_iff.mp H
  rw [j_rf ha2]
  obtain ⟨N3, hN3, H⟩ := Option.bind_eq_some_iff.mp H
  refine F_alen hw hG (t := 9) rfl d_Bus_target_5 (gA_some hN3) ?_
  refine J_iconst (v := 1) d_Bus_target_6 (by decide) ?_
  refine J_iadd d_Bus_target_7 ?_
  rcases bT_some H with ⟨E7, φ6, hq4, H⟩ | ⟨v5, φ6, hq4, H⟩
  · subst H
    show J _ _ _ _ _ _ _ _ (1 + 0) (6 + 0) _
    refine J_callS (kc := 0) (ks := 0) (kc' := 1) (ks' := 6) (as := [.int p0, .int ((nI N3) + (1 : Int32))]) (st := []) (mf_Bus_needIndex hw) (ms_Bus_65 hw) d_Bus_target_8 ln_Bus_needIndex (by decide) (by first | exact Nat.le_of_ble_eq_true rfl | (simp only [List.map_cons, List.map_nil, List.sum_cons, List.sum_nil, va_rf_cat]; exact Nat.le_of_ble_eq_true rfl)) rfl (p_Bus_needIndex hw hG hq4) (fun v9 h9 n9 x9 e9 => fq_nr e9) ?_
    intro E99 h9 n9 x9 e9
    obtain ⟨e91, e92, e93⟩ := e9
    have e91 := (Sum.inr.inj (show Sum.inr E99 = Sum.inr E7 from e91)).symm
    subst e91
    subst e92
    subst e93
    exact JT.out rfl ⟨rfl, rfl, rfl⟩
  refine J.kk (Nat.zero_add _) (Nat.zero_add _) ?_
  refine J_callS (kc := kt q.1) (ks := 6 * kt q.1) (kc' := 0) (ks' := 0) (as := [.int p0, .int ((nI N3) + (1 : Int32))]) (st := []) (mf_Bus_needIndex hw) (ms_Bus_65 hw) d_Bus_target_8 ln_Bus_needIndex (by decide) (by first | exact Nat.le_of_ble_eq_true rfl | (simp only [List.map_cons, List.map_nil, List.sum_cons, List.sum_nil, va_rf_cat]; exact Nat.le_of_ble_eq_true rfl)) rfl (p_Bus_needIndex hw hG hq4) ?_ (fun E9 h9 n9 x9 e9 => fq_nt e9)
  intro v9 h9 n9 x9 e9
  obtain ⟨e91, e92, e93⟩ := e9
  have e91 := Sum.inl.inj (show Sum.inl v9 = Sum.inl none from e91)
  subst e91
  subst e92
  subst e93
  clear x
  rename Bool => x
  show J _ _ _ _ [] _ _ _ _ _ _
  refine J_iload_n d_Bus_target_11 rfl ?_
  refine J_iconst (v := 0) d_Bus_target_12 (by decide) ?_
  refine J_iconst (v := 3) d_Bus_target_13 (by decide) ?_
  rcases bT_some H with ⟨E11, φ10, hq8, H⟩ | ⟨v9, φ10, hq8, H⟩
  · subst H
    show J _ _ _ _ _ _ _ _ (1 + 0) (6 + 0) _
    refine J_callS (kc := 0) (ks := 0) (kc' := 1) (ks' := 6) (as := [.int p1, .int (0 : Int32), .int (3 : Int32)]) (st := []) (mf_Bus_needNumber hw) (ms_Bus_84 hw) d_Bus_target_14 ln_Bus_needNumber (by decide) (by first | exact Nat.le_of_ble_eq_true rfl | (simp only [List.map_cons, List.map_nil, List.sum_cons, List.sum_nil, va_rf_cat]; exact Nat.le_of_ble_eq_true rfl)) rfl (p_Bus_needNumber hw hG hq8) (fun v9 h9 n9 x9 e9 => fq_nr e9) ?_
    intro E99 h9 n9 x9 e9
    obtain ⟨e91, e92, e93⟩ := e9
    have e91 := (Sum.inr.inj (show Sum.inr E99 = Sum.inr E11 from e91)).symm
    subst e91
    subst e92
    subst e93
    exact JT.out rfl ⟨rfl, rfl, rfl⟩
  refine J.kk (Nat.zero_add _) (Nat.zero_add _) ?_
  refine J_callS (kc := kt q.1) (ks := 6 * kt q.1) (kc' := 0) (ks' := 0) (as := [.int p1, .int (0 : Int32), .int (3 : Int32)]) (st := []) (mf_Bus_needNumber hw) (ms_Bus_84 hw) d_Bus_target_14 ln_Bus_needNumber (by decide) (by first | exact Nat.le_of_ble_eq_true rfl | (simp only [List.map_cons, List.map_nil, List.sum_cons, List.sum_nil, va_rf_cat]; exact Nat.le_of_ble_eq_true rfl)) rfl (p_Bus_needNumber hw hG hq8) ?_ (fun E9 h9 n9 x9 e9 => fq_nt e9)
  intro v9 h9 n9 x9 e9
  obtain ⟨e91, e92, e93⟩ := e9
  have e91 := Sum.inl.inj (show Sum.inl v9 = Sum.inl none from e91)
  subst e91
  subst e92
  subst e93
  clear x
  rename Bool => x
  show J _ _ _ _ [] _ _ _ _ _ _
  refine J_iload_n d_Bus_target_17 rfl ?_
  refine J_if_ne (tgt := 31) d_Bus_target_18 (by decide) ?_ ?_
  · intro c35
    rw [if_neg c35] at H
    refine J_iload_n d_Bus_target_31 rfl ?_
    refine J_iconst (v := 1) d_Bus_target_32 (by decide) ?_
    refine J_icmp_ne (tgt := 46) d_Bus_target_33 (by decide) ?_ ?_
    · intro c31
      rw [if_neg c31] at H
      refine J_iload_n d_Bus_target_46 rfl ?_
      refine J_aload_n d_Bus_target_47 rfl ?_
      refine F_getR (ci := 11) (k := 3) hG (cf_Bus hw) (fl_Bus_45 hw) (by decide) (by decide) rfl d_Bus_target_48 g1 ?_
      obtain ⟨a12, ha12, H⟩ := Option.bind_eq_some_iff.mp H
      rw [j_rf ha12]
      obtain ⟨N13, hN13, H⟩ := Option.bind_eq_some_iff.mp H
      refine F_alen hw hG (t := 9) rfl d_Bus_target_51 (gA_some hN13) ?_
      refine J_icmp_ne (tgt := 57) d_Bus_target_52 (by decide) ?_ ?_
      · intro c27
        rw [if_neg c27] at H
        refine J_iload_n d_Bus_target_57 rfl ?_
        refine J_iconst (v := 2) d_Bus_target_58 (by decide) ?_
        refine J_icmp_ne (tgt := 77) d_Bus_target_59 (by decide) ?_ ?_
        · intro c26
          rw [if_neg c26] at H
          refine J_aload_n d_Bus_target_77 rfl ?_
          refine F_getR (ci := 11) (k := 3) hG (cf_Bus hw) (fl_Bus_45 hw) (by decide) (by decide) rfl d_Bus_target_78 g1 ?_
          refine J_iload_n d_Bus_target_81 rfl ?_
          try rw [j_rf ha12]
          obtain ⟨N14, hN14, H⟩ := Option.bind_eq_some_iff.mp H
          obtain ⟨k15, hk15, H⟩ := Option.bind_eq_some_iff.mp H
          refine F_aald k15 hw hG (t := 9) rfl (by decide) d_Bus_target_82 (gA_some hN14) (ix_some hk15) ?_
          obtain ⟨a16, ha16, H⟩ := Option.bind_eq_some_iff.mp H
          rw [j_rf ha16]
          have g17 : Γ a16 = .inr 8 := by
            apply Classical.byContradiction
            intro q9
            rw [if_neg q9] at H
            cases H
          rw [if_pos g17] at H
          refine F_getR (ci := 8) (k := 3) hG (cf_Slave hw) (fl_Bus_255 hw) (by decide) (by decide) rfl d_Bus_target_83 g17 ?_
          obtain ⟨a18, ha18, H⟩ := Option.bind_eq_some_iff.mp H
          rw [j_rf ha18]
          have g19 : Γ a18 = .inr 1 := by
            apply Classical.byContradiction
            intro q9
            rw [if_neg q9] at H
            cases H
          rw [if_pos g19] at H
          refine F_getI (ci := 1) (k := 1) hG (cf_Line hw) (fl_Bus_250 hw) (by decide) (by decide) rfl d_Bus_target_86 g19 ?_
          refine J.drop [false, false, false] rfl ?_
          exact p_Bus_target_L89 hw hG  H
        · intro c26
          rw [if_pos c26] at H
          refine J_aload_n d_Bus_target_62 rfl ?_
          refine F_getR (ci := 11) (k := 3) hG (cf_Bus hw) (fl_Bus_45 hw) (by decide) (by decide) rfl d_Bus_target_63 g1 ?_
          refine J_iload_n d_Bus_target_66 rfl ?_
          try rw [j_rf ha12]
          obtain ⟨N20, hN20, H⟩ := Option.bind_eq_some_iff.mp H
          obtain ⟨k21, hk21, H⟩ := Option.bind_eq_some_iff.mp H
          refine F_aald k21 hw hG (t := 9) rfl (by decide) d_Bus_target_67 (gA_some hN20) (ix_some hk21) ?_
          obtain ⟨a22, ha22, H⟩ := Option.bind_eq_some_iff.mp H
          rw [j_rf ha22]
          have g23 : Γ a22 = .inr 8 := by
            apply Classical.byContradiction
            intro q9
            rw [if_neg q9] at H
            cases H
          rw [if_pos g23] at H
          refine F_getR (ci := 8) (k := 2) hG (cf_Slave hw) (fl_Bus_246 hw) (by decide) (by decide) rfl d_Bus_target_68 g23 ?_
          obtain ⟨a24, ha24, H⟩ := Option.bind_eq_some_iff.mp H
          rw [j_rf ha24]
          have g25 : Γ a24 = .inr 1 := by
            apply Classical.byContradiction
            intro q9
            rw [if_neg q9] at H
            cases H
          rw [if_pos g25] at H
          refine F_getI (ci := 1) (k := 1) hG (cf_Line hw) (fl_Bus_250 hw) (by decide) (by decide) rfl d_Bus_target_71 g25 ?_
          refine J_goto (tgt := 89) d_Bus_target_74 (by decide) ?_
          refine J.drop [false, false, false] rfl ?_
          exact p_Bus_target_L89 hw hG  H
      · intro c27
        rw [if_pos c27] at H
        refine J_iconst (v := 0) d_Bus_target_55 (by decide) ?_
        have H := Option.some.inj H
        subst H
        show J _ _ _ _ _ _ _ _ 0 0 _
        exact J_iret (st := []) d_Bus_target_56 rfl rfl ⟨rfl, rfl, rfl⟩
    · intro c31
      rw [if_pos c31] at H
      refine J_aload_n d_Bus_target_36 rfl ?_
      refine F_getR (ci := 11) (k := 1) hG (cf_Bus hw) (fl_Bus_25 hw) (by decide) (by decide) rfl d_Bus_target_37 g1 ?_
      refine J_iload_n d_Bus_target_40 rfl ?_
      refine J_iconst (v := 3) d_Bus_target_41 (by decide) ?_
      obtain ⟨a28, ha28, H⟩ := Option.bind_eq_some_iff.mp H
      rw [j_rf ha28]
      have g29 : Γ a28 = .inr 10 := by
        apply Classical.byContradiction
        intro q9
        rw [if_neg q9] at H
        cases H
      rw [if_pos g29] at H
      obtain ⟨q30, hq30, H⟩ := Option.bind_eq_some_iff.mp H
      refine J.kk (Nat.zero_add _) (Nat.zero_add _) ?_
      refine J_callV (kc := kt q.1) (ks := 6 * kt q.1) (kc' := 0) (ks' := 0) (a := a28) (ci := 10) (as := [.int p0, .int (3 : Int32)]) (st := []) (mf_Switch_underWayTo hw) (mv_Bus_243 hw) d_Bus_target_42 ln_Switch_underWayTo (by decide) (by first | exact Nat.le_of_ble_eq_true rfl | (simp only [List.map_cons, List.map_nil, List.sum_cons, List.sum_nil, va_rf_cat]; exact Nat.le_of_ble_eq_true rfl)) rfl ((hG _).1 _ g29 (by decide)).1 ((hG _).1 _ g29 (by decide)).2 (by unfold pic; rw [g29]; rfl) (jcl_at hw rfl) rfl (p_Switch_underWayTo hw hG hq30) ?_ (fun E h' n' x' e1 => by cases e1.1)
      intro v9 h9 n9 x9 e9
      obtain ⟨e91, e92, e93⟩ := e9
      cases e91
      subst e92
      subst e93
      clear x
      rename Bool => x
      show J _ _ _ _ (_ :: _) _ _ _ _ _ _
      have H := Option.some.inj H
      subst H
      show J _ _ _ _ _ _ _ _ 0 0 _
      exact J_iret (st := []) d_Bus_target_45 rfl rfl ⟨rfl, rfl, rfl⟩
  · intro c35
    rw [if_pos c35] at H
    refine J_aload_n d_Bus_target_21 rfl ?_
    refine F_getR (ci := 11) (k := 1) hG (cf_Bus hw) (fl_Bus_25 hw) (by decide) (by decide) rfl d_Bus_target_22 g1 ?_
    refine J_iload_n d_Bus_target_25 rfl ?_
    refine J_iconst (v := 0) d_Bus_target_26 (by decide) ?_
    obtain ⟨a32, ha32, H⟩ := Option.bind_eq_some_iff.mp H
    rw [j_rf ha32]
    have g33 : Γ a32 = .inr 10 := by
      apply Classical.byContradiction
      intro q9
      rw [if_neg q9] at H
      cases H
    rw [if_pos g33] at H
    obtain ⟨q34, hq34, H⟩ := Option.bind_eq_some_iff.mp H
    refine J.kk (Nat.zero_add _) (Nat.zero_add _) ?_
    refine J_callV (kc := kt q.1) (ks := 6 * kt q.1) (kc' := 0) (ks' := 0) (a := a32) (ci := 10) (as := [.int p0, .int (0 : Int32)]) (st := []) (mf_Switch_underWayTo hw) (mv_Bus_243 hw) d_Bus_target_27 ln_Switch_underWayTo (by decide) (by first | exact Nat.le_of_ble_eq_true rfl | (simp only [List.map_cons, List.map_nil, List.sum_cons, List.sum_nil, va_rf_cat]; exact Nat.le_of_ble_eq_true rfl)) rfl ((hG _).1 _ g33 (by decide)).1 ((hG _).1 _ g33 (by decide)).2 (by unfold pic; rw [g33]; rfl) (jcl_at hw rfl) rfl (p_Switch_underWayTo hw hG hq34) ?_ (fun E h' n' x' e1 => by cases e1.1)
    intro v9 h9 n9 x9 e9
    obtain ⟨e91, e92, e93⟩ := e9
    cases e91
    subst e92
    subst e93
    clear x
    rename Bool => x
    show J _ _ _ _ (_ :: _) _ _ _ _ _ _
    have H := Option.some.inj H
    subst H
    show J _ _ _ _ _ _ _ _ 0 0 _
    exact J_iret (st := []) d_Bus_target_30 rfl rfl ⟨rfl, rfl, rfl⟩
theorem ln_Law_target : (parseMethodDescriptor y_Law_target.desc).map (fun q => q.parameters.length) = some 4 := by decide +kernel
def f_Law_target (Γ : gm_T) (φ : ph_T) (p0 : Option Nat) (p1 : Int32) (p2 : Int32) (p3 : Option Nat) : Option (Int32 × ph_T) :=
  Option.bind p0 fun a1 =>
  @ite _ (Γ a1 = .inr 11) _ (
  bC (f_Bus_target Γ φ a1 p1 p2) (fun E6 φ5 =>
    if E6 = "java/lang/IndexOutOfBoundsException" then
      some ((1 : Int32), φ5)
 else if E6 = "java/lang/IllegalArgumentException" then
      some ((2 : Int32), φ5)
 else none) fun v4 φ5 =>
  Option.bind p3 fun a11 =>
  Option.bind (gA Γ a11 1) fun N12 =>
  Option.bind (ix (0 : Int32) N12) fun k13 =>
  some ((0 : Int32), (uL φ5 a11 k13 (Int32.toInt64 v4)))
  ) none
set_option maxRecDepth 100000 in
set_option maxHeartbeats 4000000 in
theorem p_Law_target {w : jw_T} (hw : jok w) {Γ : gm_T} {n : Nat} (hG : gd w Γ n) {x : Bool} {φ : ph_T} {p0 : Option Nat} {p1 : Int32} {p2 : Int32} {p3 : Option Nat} {q : Int32 × ph_T} (H : f_Law_target Γ φ p0 p1 p2 p3 = some q) : jc w M_Law_target [va_rf p0, .int p1, .int p2, va_rf p3] (pic Γ φ) n x 1 6 (fq Γ n (.inl (some (.int q.1))) q.2) := by
  refine jc.of (by simp only [jent_r, jent_i, jent_l, jent_a, jent_0]; exact Nat.le_of_ble_eq_true rfl) ?_
  have hls : jents [va_rf p0, .int p1, .int p2, va_rf p3] (jm_nL M_Law_target) = [some (va_rf p0), some (.int p1), some (.int p2), some (va_rf p3), none] := by simp only [jents, jent_r, jent_i, jent_l, jent_a, jent_0]; rfl
  rw [hls]
  clear hls
  unfold f_Law_target at H
  refine J_aload_nO d_Law_target_0 rfl ?_
  refine J_iconst (v := 0) d_Law_target_1 (by decide) ?_
  refine J_aload_nO d_Law_target_2 rfl ?_
  refine J_iload_n d_Law_target_3 rfl ?_
  refine J_iload_n d_Law_target_4 rfl ?_
  obtain ⟨a1, ha1, H⟩ := Option.bind_eq_some_iff.mp H
  rw [j_rf ha1]
  have g2 : Γ a1 = .inr 11 := by
    apply Classical.byContradiction
    intro q9
    rw [if_neg q9] at H
    cases H
  rw [if_pos g2] at H
  rcases bC_some H with ⟨E6, φ5, hq3, H⟩ | ⟨v4, φ5, hq3, H⟩
  · refine J_callV (kc := 0) (ks := 0) (kc' := 1) (ks' := 6) (a := a1) (ci := 11) (as := [.int p1, .int p2]) (st := [.int (0 : Int32), va_rf p3]) (mf_Bus_target hw) (mv_Law_82 hw) d_Law_target_5 ln_Bus_target (by decide) (by first | exact Nat.le_of_ble_eq_true rfl | (simp only [List.map_cons, List.map_nil, List.sum_cons, List.sum_nil, va_rf_cat]; exact Nat.le_of_ble_eq_true rfl)) rfl ((hG _).1 _ g2 (by decide)).1 ((hG _).1 _ g2 (by decide)).2 (by unfold pic; rw [g2]; rfl) (jcl_at hw rfl) rfl (p_Bus_target hw hG hq3) (fun v9 h9 n9 x9 e9 => fq_nr e9) ?_
    intro E99 h9 n9 x9 e9
    obtain ⟨e91, e92, e93⟩ := e9
    have e91 := (Sum.inr.inj (show Sum.inr E99 = Sum.inr E6 from e91)).symm
    subst e91
    subst e92
    subst e93
    by_cases c8 : E6 = "java/lang/IndexOutOfBoundsException"
    · subst c8
      rw [if_pos rfl] at H
      refine JT.catch (name := "java/lang/IndexOutOfBoundsException") [] [(0, 10, 17, 21)] rfl ⟨by decide, by decide⟩ (by decide) (tb3 hw (i := 79) (by decide +kernel)) (tb3 hw (i := 90) (by decide +kernel)) (fun r9 hr9 => by cases hr9) (fun r7 => ?_)
      refine J_astore d_Law_target_13 (Nat.le_of_ble_eq_true rfl) ?_
      refine J.ls (ls' := [some (.ref a1), some (.int p1), some (.int p2), some (va_rf p3), some (.ref r7)]) (jst1_o (i := 3) (r := p3) rfl) ?_
      refine J_iconst (v := 1) d_Law_target_15 (by decide) ?_
      have H := Option.some.inj H
      subst H
      exact J_iret (st := []) d_Law_target_16 rfl rfl ⟨rfl, rfl, rfl⟩
    rw [if_neg c8] at H
    by_cases c10 : E6 = "java/lang/IllegalArgumentException"
    · subst c10
      rw [if_pos rfl] at H
      refine JT.catch (name := "java/lang/IllegalArgumentException") [(0, 10, 13, 13)] [] rfl ⟨by decide, by decide⟩ (by decide) (tb3 hw (i := 176) (by decide +kernel)) (tb3 hw (i := 186) (by decide +kernel)) (fun r9 hr9 => by
          simp only [List.mem_cons, List.not_mem_nil, or_false] at hr9
          rcases hr9 with rfl
          · exact ⟨by decide, "java/lang/IndexOutOfBoundsException", tb3 hw (i := 79) (by decide +kernel), jnc_mem hw (by decide)⟩) (fun r9 => ?_)
      refine J_astore d_Law_target_17 (Nat.le_of_ble_eq_true rfl) ?_
      refine J.ls (ls' := [some (.ref a1), some (.int p1), some (.int p2), some (va_rf p3), some (.ref r9)]) (jst1_o (i := 3) (r := p3) rfl) ?_
      refine J_iconst (v := 2) d_Law_target_19 (by decide) ?_
      have H := Option.some.inj H
      subst H
      exact J_iret (st := []) d_Law_target_20 rfl rfl ⟨rfl, rfl, rfl⟩
    rw [if_neg c10] at H
    cases H
  refine J.more (kc := 0) (ks := 0) (Nat.zero_le _) (Nat.zero_le _) ?_
  refine J_callV (kc := 0) (ks := 0) (kc' := 0) (ks' := 0) (a := a1) (ci := 11) (as := [.int p1, .int p2]) (st := [.int (0 : Int32), va_rf p3]) (mf_Bus_target hw) (mv_Law_82 hw) d_Law_target_5 ln_Bus_target (by decide) (by first | exact Nat.le_of_ble_eq_true rfl | (simp only [List.map_cons, List.map_nil, List.sum_cons, List.sum_nil, va_rf_cat]; exact Nat.le_of_ble_eq_true rfl)) rfl ((hG _).1 _ g2 (by decide)).1 ((hG _).1 _ g2 (by decide)).2 (by unfold pic; rw [g2]; rfl) (jcl_at hw rfl) rfl (p_Bus_target hw hG hq3) ?_ (fun E9 h9 n9 x9 e9 => fq_nt e9)
  intro v9 h9 n9 x9 e9
  obtain ⟨e91, e92, e93⟩ := e9
  have e91 := Sum.inl.inj (show Sum.inl v9 = Sum.inl (some (.int v4)) from e91)
  subst e91
  subst e92
  subst e93
  clear x
  rename Bool => x
  show J _ _ _ _ (_ :: _) _ _ _ _ _ _
  refine J_i2l d_Law_target_8 ?_
  obtain ⟨a11, ha11, H⟩ := Option.bind_eq_some_iff.mp H
  rw [j_rf ha11]
  obtain ⟨N12, hN12, H⟩ := Option.bind_eq_some_iff.mp H
  obtain ⟨k13, hk13, H⟩ := Option.bind_eq_some_iff.mp H
  refine F_last k13 hw hG d_Law_target_9 (gA_some hN12) (ix_some hk13) ?_
  refine J_goto (tgt := 21) d_Law_target_10 (by decide) ?_
  refine J_iconst (v := 0) d_Law_target_21 (by decide) ?_
  have H := Option.some.inj H
  subst H
  exact J_iret (st := []) d_Law_target_22 rfl rfl ⟨rfl, rfl, rfl⟩
theorem ln_Bus_right : (parseMethodDescriptor y_Bus_right.desc).map (fun q => q.parameters.length) = some 2 := by decide +kernel
def f_Bus_right (Γ : gm_T) (φ : ph_T) (this : Nat) (p0 : Int32) (p1 : Int32) : Option ((Int32 ⊕ String) × ph_T) :=
  @ite _ (Γ this = .inr 11) _ (
  Option.bind (φ.2.2 this 3) fun a2 =>
  Option.bind (gA Γ a2 9) fun N3 =>
  bT (f_Bus_needIndex Γ φ p0 (nI N3)) fun v5 φ6 =>
  bT (f_Bus_needNumber Γ φ6 p1 (0 : Int32) (63 : Int32)) fun v9 φ10 =>
  Option.bind (φ10.2.2 this 3) fun a12 =>
  Option.bind (gA Γ a12 9) fun N13 =>
  Option.bind (ix p0 N13) fun k14 =>
  Option.bind (φ10.2.2 a12 k14) fun a15 =>
  @ite _ (Γ a15 = .inr 8) _ (
  Option.bind (φ10.2.2 a15 4) fun a17 =>
  Option.bind (gA Γ a17 0) fun N18 =>
  Option.bind (ix p1 N18) fun k19 =>
  some (.inl ((φ10.1 a17 k19)), φ10)
  ) none
  ) none
set_option maxRecDepth 100000 in
set_option maxHeartbeats 4000000 in
theorem p_Bus_right {w : jw_T} (hw : jok w) {Γ : gm_T} {n : Nat} (hG : gd w Γ n) {x : Bool} {φ : ph_T} {this : Nat} {p0 : Int32} {p1 : Int32} {q : (Int32 ⊕ String) × ph_T} (H : f_Bus_right Γ φ this p0 p1 = some q) : jc w M_Bus_right [.ref this, .int p0, .int p1] (pic Γ φ) n x (kt q.1) (6 * kt q.1) (fq Γ n (rsI q.1) q.2) := by
  refine jc.of (by simp only [jent_r, jent_i, jent_l, jent_a, jent_0]; exact Nat.le_of_ble_eq_true rfl) ?_
  have hls : jents [.ref this, .int p0, .int p1] (jm_nL M_Bus_right) = [some (.ref this), some (.int p0), some (.int p1)] := by simp only [jents, jent_r, jent_i, jent_l, jent_a, jent_0]; rfl
  rw [hls]
  clear hls
  unfold f_Bus_right at H
  refine J_iload_n d_Bus_right_0 rfl ?_
  refine J_aload_n d_Bus_right_1 rfl ?_
  have g1 : Γ this = .inr 11 := by
    apply Classical.byContradiction
    intro q9
    rw [if_neg q9] at H
    cases H
  rw [if_pos g1] at H
  refine F_getR (ci := 11) (k := 3) hG (cf_Bus hw) (fl_Bus_45 hw) (by decide) (by decide) rfl d_Bus_right_2 g1 ?_
  obtain ⟨a2, ha2, H⟩ := Option.bind_eq_some_iff.mp H
  rw [j_rf ha2]
  obtain ⟨N3, hN3, H⟩ := Option.bind_eq_some_iff.mp H
  refine F_alen hw hG (t := 9) rfl d_Bus_right_5 (gA_some hN3) ?_
  rcases bT_some H with ⟨E7, φ6, hq4, H⟩ | ⟨v5, φ6, hq4, H⟩
  · subst H
    show J _ _ _ _ _ _ _ _ (1 + 0) (6 + 0) _
    refine J_callS (kc := 0) (ks := 0) (kc' := 1) (ks' := 6) (as := [.int p0, .int (nI N3)]) (st := []) (mf_Bus_needIndex hw) (ms_Bus_65 hw) d_Bus_right_6 ln_Bus_needIndex (by decide) (by first | exact Nat.le_of_ble_eq_true rfl | (simp only [List.map_cons, List.map_nil, List.sum_cons, List.sum_nil, va_rf_cat]; exact Nat.le_of_ble_eq_true rfl)) rfl (p_Bus_needIndex hw hG hq4) (fun v9 h9 n9 x9 e9 => fq_nr e9) ?_
    intro E99 h9 n9 x9 e9
    obtain ⟨e91, e92, e93⟩ := e9
    have e91 := (Sum.inr.inj (show Sum.inr E99 = Sum.inr E7 from e91)).symm
    subst e91
    subst e92
    subst e93
    exact JT.out rfl ⟨rfl, rfl, rfl⟩
  refine J.kk (Nat.zero_add _) (Nat.zero_add _) ?_
  refine J_callS (kc := kt q.1) (ks := 6 * kt q.1) (kc' := 0) (ks' := 0) (as := [.int p0, .int (nI N3)]) (st := []) (mf_Bus_needIndex hw) (ms_Bus_65 hw) d_Bus_right_6 ln_Bus_needIndex (by decide) (by first | exact Nat.le_of_ble_eq_true rfl | (simp only [List.map_cons, List.map_nil, List.sum_cons, List.sum_nil, va_rf_cat]; exact Nat.le_of_ble_eq_true rfl)) rfl (p_Bus_needIndex hw hG hq4) ?_ (fun E9 h9 n9 x9 e9 => fq_nt e9)
  intro v9 h9 n9 x9 e9
  obtain ⟨e91, e92, e93⟩ := e9
  have e91 := Sum.inl.inj (show Sum.inl v9 = Sum.inl none from e91)
  subst e91
  subst e92
  subst e93
  clear x
  rename Bool => x
  show J _ _ _ _ [] _ _ _ _ _ _
  refine J_iload_n d_Bus_right_9 rfl ?_
  refine J_iconst (v := 0) d_Bus_right_10 (by decide) ?_
  refine J_bipush (v := 63) d_Bus_right_11 (by decide) ?_
  rcases bT_some H with ⟨E11, φ10, hq8, H⟩ | ⟨v9, φ10, hq8, H⟩
  · subst H
    show J _ _ _ _ _ _ _ _ (1 + 0) (6 + 0) _
    refine J_callS (kc := 0) (ks := 0) (kc' := 1) (ks' := 6) (as := [.int p1, .int (0 : Int32), .int (63 : Int32)]) (st := []) (mf_Bus_needNumber hw) (ms_Bus_84 hw) d_Bus_right_13 ln_Bus_needNumber (by decide) (by first | exact Nat.le_of_ble_eq_true rfl | (simp only [List.map_cons, List.map_nil, List.sum_cons, List.sum_nil, va_rf_cat]; exact Nat.le_of_ble_eq_true rfl)) rfl (p_Bus_needNumber hw hG hq8) (fun v9 h9 n9 x9 e9 => fq_nr e9) ?_
    intro E99 h9 n9 x9 e9
    obtain ⟨e91, e92, e93⟩ := e9
    have e91 := (Sum.inr.inj (show Sum.inr E99 = Sum.inr E11 from e91)).symm
    subst e91
    subst e92
    subst e93
    exact JT.out rfl ⟨rfl, rfl, rfl⟩
  refine J.kk (Nat.zero_add _) (Nat.zero_add _) ?_
  refine J_callS (kc := kt q.1) (ks := 6 * kt q.1) (kc' := 0) (ks' := 0) (as := [.int p1, .int (0 : Int32), .int (63 : Int32)]) (st := []) (mf_Bus_needNumber hw) (ms_Bus_84 hw) d_Bus_right_13 ln_Bus_needNumber (by decide) (by first | exact Nat.le_of_ble_eq_true rfl | (simp only [List.map_cons, List.map_nil, List.sum_cons, List.sum_nil, va_rf_cat]; exact Nat.le_of_ble_eq_true rfl)) rfl (p_Bus_needNumber hw hG hq8) ?_ (fun E9 h9 n9 x9 e9 => fq_nt e9)
  intro v9 h9 n9 x9 e9
  obtain ⟨e91, e92, e93⟩ := e9
  have e91 := Sum.inl.inj (show Sum.inl v9 = Sum.inl none from e91)
  subst e91
  subst e92
  subst e93
  clear x
  rename Bool => x
  show J _ _ _ _ [] _ _ _ _ _ _
  refine J_aload_n d_Bus_right_16 rfl ?_
  refine F_getR (ci := 11) (k := 3) hG (cf_Bus hw) (fl_Bus_45 hw) (by decide) (by decide) rfl d_Bus_right_17 g1 ?_
  refine J_iload_n d_Bus_right_20 rfl ?_
  obtain ⟨a12, ha12, H⟩ := Option.bind_eq_some_iff.mp H
  rw [j_rf ha12]
  obtain ⟨N13, hN13, H⟩ := Option.bind_eq_some_iff.mp H
  obtain ⟨k14, hk14, H⟩ := Option.bind_eq_some_iff.mp H
  refine F_aald k14 hw hG (t := 9) rfl (by decide) d_Bus_right_21 (gA_some hN13) (ix_some hk14) ?_
  obtain ⟨a15, ha15, H⟩ := Option.bind_eq_some_iff.mp H
  rw [j_rf ha15]
  have g16 : Γ a15 = .inr 8 := by
    apply Classical.byContradiction
    intro q9
    rw [if_neg q9] at H
    cases H
  rw [if_pos g16] at H
  refine F_getR (ci := 8) (k := 4) hG (cf_Slave hw) (fl_Bus_258 hw) (by decide) (by decide) rfl d_Bus_right_22 g16 ?_
  refine J_iload_n d_Bus_right_25 rfl ?_
  obtain ⟨a17, ha17, H⟩ := Option.bind_eq_some_iff.mp H
  rw [j_rf ha17]
  obtain ⟨N18, hN18, H⟩ := Option.bind_eq_some_iff.mp H
  obtain ⟨k19, hk19, H⟩ := Option.bind_eq_some_iff.mp H
  refine F_iald k19 hw hG d_Bus_right_26 (gA_some hN18) (ix_some hk19) ?_
  have H := Option.some.inj H
  subst H
  show J _ _ _ _ _ _ _ _ 0 0 _
  exact J_iret (st := []) d_Bus_right_27 rfl rfl ⟨rfl, rfl, rfl⟩
theorem ln_Law_right : (parseMethodDescriptor y_Law_right.desc).map (fun q => q.parameters.length) = some 4 := by decide +kernel
def f_Law_right (Γ : gm_T) (φ : ph_T) (p0 : Option Nat) (p1 : Int32) (p2 : Int32) (p3 : Option Nat) : Option (Int32 × ph_T) :=
  Option.bind p0 fun a1 =>
  @ite _ (Γ a1 = .inr 11) _ (
  bC (f_Bus_right Γ φ a1 p1 p2) (fun E6 φ5 =>
    if E6 = "java/lang/IndexOutOfBoundsException" then
      some ((1 : Int32), φ5)
 else if E6 = "java/lang/IllegalArgumentException" then
      some ((2 : Int32), φ5)
 else none) fun v4 φ5 =>
  Option.bind p3 fun a11 =>
  Option.bind (gA Γ a11 1) fun N12 =>
  Option.bind (ix (0 : Int32) N12) fun k13 =>
  some ((0 : Int32), (uL φ5 a11 k13 (Int32.toInt64 v4)))
  ) none
set_option maxRecDepth 100000 in
set_option maxHeartbeats 4000000 in
theorem p_Law_right {w : jw_T} (hw : jok w) {Γ : gm_T} {n : Nat} (hG : gd w Γ n) {x : Bool} {φ : ph_T} {p0 : Option Nat} {p1 : Int32} {p2 : Int32} {p3 : Option Nat} {q : Int32 × ph_T} (H : f_Law_right Γ φ p0 p1 p2 p3 = some q) : jc w M_Law_right [va_rf p0, .int p1, .int p2, va_rf p3] (pic Γ φ) n x 1 6 (fq Γ n (.inl (some (.int q.1))) q.2) := by
  refine jc.of (by simp only [jent_r, jent_i, jent_l, jent_a, jent_0]; exact Nat.le_of_ble_eq_true rfl) ?_
  have hls : jents [va_rf p0, .int p1, .int p2, va_rf p3] (jm_nL M_Law_right) = [some (va_rf p0), some (.int p1), some (.int p2), some (va_rf p3), none] := by simp only [jents, jent_r, jent_i, jent_l, jent_a, jent_0]; rfl
  rw [hls]
  clear hls
  unfold f_Law_right at H
  refine J_aload_nO d_Law_right_0 rfl ?_
  refine J_iconst (v := 0) d_Law_right_1 (by decide) ?_
  refine J_aload_nO d_Law_right_2 rfl ?_
  refine J_iload_n d_Law_right_3 rfl ?_
  refine J_iload_n d_Law_right_4 rfl ?_
  obtain ⟨a1, ha1, H⟩ := Option.bind_eq_some_iff.mp H
  rw [j_rf ha1]
  have g2 : Γ a1 = .inr 11 := by
    apply Classical.byContradiction
    intro q9
    rw [if_neg q9] at H
    cases H
  rw [if_pos g2] at H
  rcases bC_some H with ⟨E6, φ5, hq3, H⟩ | ⟨v4, φ5, hq3, H⟩
  · refine J_callV (kc := 0) (ks := 0) (kc' := 1) (ks' := 6) (a := a1) (ci := 11) (as := [.int p1, .int p2]) (st := [.int (0 : Int32), va_rf p3]) (mf_Bus_right hw) (mv_Law_85 hw) d_Law_right_5 ln_Bus_right (by decide) (by first | exact Nat.le_of_ble_eq_true rfl | (simp only [List.map_cons, List.map_nil, List.sum_cons, List.sum_nil, va_rf_cat]; exact Nat.le_of_ble_eq_true rfl)) rfl ((hG _).1 _ g2 (by decide)).1 ((hG _).1 _ g2 (by decide)).2 (by unfold pic; rw [g2]; rfl) (jcl_at hw rfl) rfl (p_Bus_right hw hG hq3) (fun v9 h9 n9 x9 e9 => fq_nr e9) ?_
    intro E99 h9 n9 x9 e9
    obtain ⟨e91, e92, e93⟩ := e9
    have e91 := (Sum.inr.inj (show Sum.inr E99 = Sum.inr E6 from e91)).symm
    subst e91
    subst e92
    subst e93
    by_cases c8 : E6 = "java/lang/IndexOutOfBoundsException"
    · subst c8
      rw [if_pos rfl] at H
      refine JT.catch (name := "java/lang/IndexOutOfBoundsException") [] [(0, 10, 17, 21)] rfl ⟨by decide, by decide⟩ (by decide) (tb3 hw (i := 79) (by decide +kernel)) (tb3 hw (i := 90) (by decide +kernel)) (fun r9 hr9 => by cases hr9) (fun r7 => ?_)
      refine J_astore d_Law_right_13 (Nat.le_of_ble_eq_true rfl) ?_
      refine J.ls (ls' := [some (.ref a1), some (.int p1), some (.int p2), some (va_rf p3), some (.ref r7)]) (jst1_o (i := 3) (r := p3) rfl) ?_
      refine J_iconst (v := 1) d_Law_right_15 (by decide) ?_
      have H := Option.some.inj H
      subst H
      exact J_iret (st := []) d_Law_right_16 rfl rfl ⟨rfl, rfl, rfl⟩
    rw [if_neg c8] at H
    by_cases c10 : E6 = "java/lang/IllegalArgumentException"
    · subst c10
      rw [if_pos rfl] at H
      refine JT.catch (name := "java/lang/IllegalArgumentException") [(0, 10, 13, 13)] [] rfl ⟨by decide, by decide⟩ (by decide) (tb3 hw (i := 176) (by decide +kernel)) (tb3 hw (i := 186) (by decide +kernel)) (fun r9 hr9 => by
          simp only [List.mem_cons, List.not_mem_nil, or_false] at hr9
          rcases hr9 with rfl
          · exact ⟨by decide, "java/lang/IndexOutOfBoundsException", tb3 hw (i := 79) (by decide +kernel), jnc_mem hw (by decide)⟩) (fun r9 => ?_)
      refine J_astore d_Law_right_17 (Nat.le_of_ble_eq_true rfl) ?_
      refine J.ls (ls' := [some (.ref a1), some (.int p1), some (.int p2), some (va_rf p3), some (.ref r9)]) (jst1_o (i := 3) (r := p3) rfl) ?_
      refine J_iconst (v := 2) d_Law_right_19 (by decide) ?_
      have H := Option.some.inj H
      subst H
      exact J_iret (st := []) d_Law_right_20 rfl rfl ⟨rfl, rfl, rfl⟩
    rw [if_neg c10] at H
    cases H
  refine J.more (kc := 0) (ks := 0) (Nat.zero_le _) (Nat.zero_le _) ?_
  refine J_callV (kc := 0) (ks := 0) (kc' := 0) (ks' := 0) (a := a1) (ci := 11) (as := [.int p1, .int p2]) (st := [.int (0 : Int32), va_rf p3]) (mf_Bus_right hw) (mv_Law_85 hw) d_Law_right_5 ln_Bus_right (by decide) (by first | exact Nat.le_of_ble_eq_true rfl | (simp only [List.map_cons, List.map_nil, List.sum_cons, List.sum_nil, va_rf_cat]; exact Nat.le_of_ble_eq_true rfl)) rfl ((hG _).1 _ g2 (by decide)).1 ((hG _).1 _ g2 (by decide)).2 (by unfold pic; rw [g2]; rfl) (jcl_at hw rfl) rfl (p_Bus_right hw hG hq3) ?_ (fun E9 h9 n9 x9 e9 => fq_nt e9)
  intro v9 h9 n9 x9 e9
  obtain ⟨e91, e92, e93⟩ := e9
  have e91 := Sum.inl.inj (show Sum.inl v9 = Sum.inl (some (.int v4)) from e91)
  subst e91
  subst e92
  subst e93
  clear x
  rename Bool => x
  show J _ _ _ _ (_ :: _) _ _ _ _ _ _
  refine J_i2l d_Law_right_8 ?_
  obtain ⟨a11, ha11, H⟩ := Option.bind_eq_some_iff.mp H
  rw [j_rf ha11]
  obtain ⟨N12, hN12, H⟩ := Option.bind_eq_some_iff.mp H
  obtain ⟨k13, hk13, H⟩ := Option.bind_eq_some_iff.mp H
  refine F_last k13 hw hG d_Law_right_9 (gA_some hN12) (ix_some hk13) ?_
  refine J_goto (tgt := 21) d_Law_right_10 (by decide) ?_
  refine J_iconst (v := 0) d_Law_right_21 (by decide) ?_
  have H := Option.some.inj H
  subst H
  exact J_iret (st := []) d_Law_right_22 rfl rfl ⟨rfl, rfl, rfl⟩
theorem ln_Bus_see : (parseMethodDescriptor y_Bus_see.desc).map (fun q => q.parameters.length) = some 5 := by decide +kernel
def f_Bus_see_L72 (Γ : gm_T)  (φ : ph_T) (y0 : Int32) (y1 : Int32) (y2 : Option Nat) : Option ((Unit ⊕ String) × ph_T) :=
  Option.bind y2 fun a1 =>
  Option.bind (gA Γ a1 2) fun N2 =>
  Option.bind (ix y1 N2) fun k3 =>
  @ite _ (y0 = 0 ∨ y0 = 1) _ (
  some (.inl (()), (uI φ a1 k3 y0))
  ) none
set_option maxRecDepth 100000 in
set_option maxHeartbeats 4000000 in
theorem p_Bus_see_L72 {w : jw_T} (hw : jok w) {Γ : gm_T} {n : Nat} (hG : gd w Γ n)  {x : Bool} {φ : ph_T} {y0 : Int32} {y1 : Int32} {y2 : Option Nat} {q : (Unit ⊕ String) × ph_T} (H : f_Bus_see_L72 Γ  φ y0 y1 y2 = some q) : J w M_Bus_see 72 [none, none, none, none, none, none, none, none] [.int y0, .int y1, va_rf y2] (pic Γ φ) n x (kt q.1) (6 * kt q.1) (fq Γ n (rsV q.1) q.2) := by
  unfold f_Bus_see_L72 at H
  obtain ⟨a1, ha1, H⟩ := Option.bind_eq_some_iff.mp H
  rw [j_rf ha1]
  obtain ⟨N2, hN2, H⟩ := Option.bind_eq_some_iff.mp H
  obtain ⟨k3, hk3, H⟩ := Option.bind_eq_some_iff.mp H
  have z4 : y0 = 0 ∨ y0 = 1 := by
    apply Classical.byContradiction
    intro q9
    rw [if_neg q9] at H
    cases H
  rw [if_pos z4] at H
  refine F_zast k3 hw hG d_Bus_see_72 (gA_some hN2) (ix_some hk3) z4 ?_
  have H := Option.some.inj H
  subst H
  show J _ _ _ _ _ _ _ _ 0 0 _
  exact J_vret (st := []) d_Bus_see_73 rfl ⟨rfl, rfl, rfl⟩
def f_Bus_see_L55 (Γ : gm_T)  (φ : ph_T) (x2 : Int32) (x3 : Int32) (x7 : Option Nat) : Option ((Unit ⊕ String) × ph_T) :=
  Option.bind x7 fun a5 =>
  @ite _ (Γ a5 = .inr 5) _ (
  if (x3 &&& (2 : Int32)) = 0 then
    f_Bus_see_L72 Γ  φ (0 : Int32) x2 (φ.2.2 a5 1)
  else
    f_Bus_see_L72 Γ  φ (1 : Int32) x2 (φ.2.2 a5 1)
  ) none
set_option maxRecDepth 100000 in
set_option maxHeartbeats 4000000 in
theorem p_Bus_see_L55 {w : jw_T} (hw : jok w) {Γ : gm_T} {n : Nat} (hG : gd w Γ n)  {x : Bool} {φ : ph_T} {x2 : Int32} {x3 : Int32} {x7 : Option Nat} {q : (Unit ⊕ String) × ph_T} (H : f_Bus_see_L55 Γ  φ x2 x3 x7 = some q) : J w M_Bus_see 55 [none, none, some (.int x2), some (.int x3), none, none, none, some (va_rf x7)] [] (pic Γ φ) n x (kt q.1) (6 * kt q.1) (fq Γ n (rsV q.1) q.2) := by
  unfold f_Bus_see_L55 at H
  refine J_aloadO d_Bus_see_55 rfl ?_
  obtain ⟨a5, ha5, H⟩ := Option.bind_eq_some_iff.mp H
  rw [j_rf ha5]
  have g6 : Γ a5 = .inr 5 := by
    apply Classical.byContradiction
    intro q9
    rw [if_neg q9] at H
    cases H
  rw [if_pos g6] at H
  refine F_getR (ci := 5) (k := 1) hG (cf_Port hw) (fl_Bus_222 hw) (by decide) (by decide) rfl d_Bus_see_57 g6 ?_
  refine J_iload_n d_Bus_see_60 rfl ?_
  refine J_iload_n d_Bus_see_61 rfl ?_
  refine J_iconst (v := 2) d_Bus_see_62 (by decide) ?_
  refine J_iand d_Bus_see_63 ?_
  refine J_if_eq (tgt := 71) d_Bus_see_64 (by decide) ?_ ?_
  · intro c7
    rw [if_pos c7] at H
    refine J_iconst (v := 0) d_Bus_see_71 (by decide) ?_
    refine J.drop [false, false, false, false, false, false, false, false] rfl ?_
    exact p_Bus_see_L72 hw hG  H
  · intro c7
    rw [if_neg c7] at H
    refine J_iconst (v := 1) d_Bus_see_67 (by decide) ?_
    refine J_goto (tgt := 72) d_Bus_see_68 (by decide) ?_
    refine J.drop [false, false, false, false, false, false, false, false] rfl ?_
    exact p_Bus_see_L72 hw hG  H
def f_Bus_see (Γ : gm_T) (φ : ph_T) (this : Nat) (p0 : Int32) (p1 : Int32) (p2 : Int32) (p3 : Int64) (p4 : Int32) : Option ((Unit ⊕ String) × ph_T) :=
  bT (f_Bus_needIndex Γ φ p0 (2 : Int32)) fun v9 φ10 =>
  bT (f_Bus_needIndex Γ φ10 p1 (5 : Int32)) fun v13 φ14 =>
  bT (f_Bus_needNumber Γ φ14 p2 (0 : Int32) (3 : Int32)) fun v17 φ18 =>
  bT (f_Bus_needNumber Γ φ18 p4 (0 : Int32) (511 : Int32)) fun v21 φ22 =>
  @ite _ (Γ this = .inr 11) _ (
  Option.bind (φ22.2.2 this 6) fun a25 =>
  Option.bind (gA Γ a25 7) fun N26 =>
  Option.bind (ix p0 N26) fun k27 =>
  Option.bind (φ22.2.2 a25 k27) fun a28 =>
  @ite _ (Γ a28 = .inr 5) _ (
  Option.bind (f_Port_silence Γ φ22 a28 p1) fun q30 =>
  if (p2 &&& (1 : Int32)) = 0 then
    f_Bus_see_L55 Γ  q30.2 p1 p2 (some a28)
  else
    Option.bind (f_Port_send Γ q30.2 a28 p1 p3 p4) fun q31 =>
    f_Bus_see_L55 Γ  q31.2 p1 p2 (some a28)
  ) none
  ) none
set_option maxRecDepth 100000 in
set_option maxHeartbeats 4000000 in
theorem p_Bus_see {w : jw_T} (hw : jok w) {Γ : gm_T} {n : Nat} (hG : gd w Γ n) {x : Bool} {φ : ph_T} {this : Nat} {p0 : Int32} {p1 : Int32} {p2 : Int32} {p3 : Int64} {p4 : Int32} {q : (Unit ⊕ String) × ph_T} (H : f_Bus_see Γ φ this p0 p1 p2 p3 p4 = some q) : jc w M_Bus_see [.ref this, .int p0, .int p1, .int p2, .long p3, .int p4] (pic Γ φ) n x (kt q.1) (6 * kt q.1) (fq Γ n (rsV q.1) q.2) := by
  refine jc.of (by simp only [jent_r, jent_i, jent_l, jent_a, jent_0]; exact Nat.le_of_ble_eq_true rfl) ?_
  have hls : jents [.ref this, .int p0, .int p1, .int p2, .long p3, .int p4] (jm_nL M_Bus_see) = [some (.ref this), some (.int p0), some (.int p1), some (.int p2), some (.long p3), none, some (.int p4), none] := by simp only [jents, jent_r, jent_i, jent_l, jent_a, jent_0]; rfl
  rw [hls]
  clear hls
  unfold f_Bus_see at H
  refine J_iload_n d_Bus_see_0 rfl ?_
  refine J_iconst (v := 2) d_Bus_see_1 (by decide) ?_
  rcases bT_some H with ⟨E11, φ10, hq8, H⟩ | ⟨v9, φ10, hq8, H⟩
  · subst H
    show J _ _ _ _ _ _ _ _ (1 + 0) (6 + 0) _
    refine J_callS (kc := 0) (ks := 0) (kc' := 1) (ks' := 6) (as := [.int p0, .int (2 : Int32)]) (st := []) (mf_Bus_needIndex hw) (ms_Bus_65 hw) d_Bus_see_2 ln_Bus_needIndex (by decide) (by first | exact Nat.le_of_ble_eq_true rfl | (simp only [List.map_cons, List.map_nil, List.sum_cons, List.sum_nil, va_rf_cat]; exact Nat.le_of_ble_eq_true rfl)) rfl (p_Bus_needIndex hw hG hq8) (fun v9 h9 n9 x9 e9 => fq_nr e9) ?_
    intro E99 h9 n9 x9 e9
    obtain ⟨e91, e92, e93⟩ := e9
    have e91 := (Sum.inr.inj (show Sum.inr E99 = Sum.inr E11 from e91)).symm
    subst e91
    subst e92
    subst e93
    exact JT.out rfl ⟨rfl, rfl, rfl⟩
  refine J.kk (Nat.zero_add _) (Nat.zero_add _) ?_
  refine J_callS (kc := kt q.1) (ks := 6 * kt q.1) (kc' := 0) (ks' := 0) (as := [.int p0, .int (2 : Int32)]) (st := []) (mf_Bus_needIndex hw) (ms_Bus_65 hw) d_Bus_see_2 ln_Bus_needIndex (by decide) (by first | exact Nat.le_of_ble_eq_true rfl | (simp only [List.map_cons, List.map_nil, List.sum_cons, List.sum_nil, va_rf_cat]; exact Nat.le_of_ble_eq_true rfl)) rfl (p_Bus_needIndex hw hG hq8) ?_ (fun E9 h9 n9 x9 e9 => fq_nt e9)
  intro v9 h9 n9 x9 e9
  obtain ⟨e91, e92, e93⟩ := e9
  have e91 := Sum.inl.inj (show Sum.inl v9 = Sum.inl none from e91)
  subst e91
  subst e92
  subst e93
  clear x
  rename Bool => x
  show J _ _ _ _ [] _ _ _ _ _ _
  refine J_iload_n d_Bus_see_5 rfl ?_
  refine J_iconst (v := 5) d_Bus_see_6 (by decide) ?_
  rcases bT_some H with ⟨E15, φ14, hq12, H⟩ | ⟨v13, φ14, hq12, H⟩
  · subst H
    show J _ _ _ _ _ _ _ _ (1 + 0) (6 + 0) _
    refine J_callS (kc := 0) (ks := 0) (kc' := 1) (ks' := 6) (as := [.int p1, .int (5 : Int32)]) (st := []) (mf_Bus_needIndex hw) (ms_Bus_65 hw) d_Bus_see_7 ln_Bus_needIndex (by decide) (by first | exact Nat.le_of_ble_eq_true rfl | (simp only [List.map_cons, List.map_nil, List.sum_cons, List.sum_nil, va_rf_cat]; exact Nat.le_of_ble_eq_true rfl)) rfl (p_Bus_needIndex hw hG hq12) (fun v9 h9 n9 x9 e9 => fq_nr e9) ?_
    intro E99 h9 n9 x9 e9
    obtain ⟨e91, e92, e93⟩ := e9
    have e91 := (Sum.inr.inj (show Sum.inr E99 = Sum.inr E15 from e91)).symm
    subst e91
    subst e92
    subst e93
    exact JT.out rfl ⟨rfl, rfl, rfl⟩
  refine J.kk (Nat.zero_add _) (Nat.zero_add _) ?_
  refine J_callS (kc := kt q.1) (ks := 6 * kt q.1) (kc' := 0) (ks' := 0) (as := [.int p1, .int (5 : Int32)]) (st := []) (mf_Bus_needIndex hw) (ms_Bus_65 hw) d_Bus_see_7 ln_Bus_needIndex (by decide) (by first | exact Nat.le_of_ble_eq_true rfl | (simp only [List.map_cons, List.map_nil, List.sum_cons, List.sum_nil, va_rf_cat]; exact Nat.le_of_ble_eq_true rfl)) rfl (p_Bus_needIndex hw hG hq12) ?_ (fun E9 h9 n9 x9 e9 => fq_nt e9)
  intro v9 h9 n9 x9 e9
  obtain ⟨e91, e92, e93⟩ := e9
  have e91 := Sum.inl.inj (show Sum.inl v9 = Sum.inl none from e91)
  subst e91
  subst e92
  subst e93
  clear x
  rename Bool => x
  show J _ _ _ _ [] _ _ _ _ _ _
  refine J_iload_n d_Bus_see_10 rfl ?_
  refine J_iconst (v := 0) d_Bus_see_11 (by decide) ?_
  refine J_iconst (v := 3) d_Bus_see_12 (by decide) ?_
  rcases bT_some H with ⟨E19, φ18, hq16, H⟩ | ⟨v17, φ18, hq16, H⟩
  · subst H
    show J _ _ _ _ _ _ _ _ (1 + 0) (6 + 0) _
    refine J_callS (kc := 0) (ks := 0) (kc' := 1) (ks' := 6) (as := [.int p2, .int (0 : Int32), .int (3 : Int32)]) (st := []) (mf_Bus_needNumber hw) (ms_Bus_84 hw) d_Bus_see_13 ln_Bus_needNumber (by decide) (by first | exact Nat.le_of_ble_eq_true rfl | (simp only [List.map_cons, List.map_nil, List.sum_cons, List.sum_nil, va_rf_cat]; exact Nat.le_of_ble_eq_true rfl)) rfl (p_Bus_needNumber hw hG hq16) (fun v9 h9 n9 x9 e9 => fq_nr e9) ?_
    intro E99 h9 n9 x9 e9
    obtain ⟨e91, e92, e93⟩ := e9
    have e91 := (Sum.inr.inj (show Sum.inr E99 = Sum.inr E19 from e91)).symm
    subst e91
    subst e92
    subst e93
    exact JT.out rfl ⟨rfl, rfl, rfl⟩
  refine J.kk (Nat.zero_add _) (Nat.zero_add _) ?_
  refine J_callS (kc := kt q.1) (ks := 6 * kt q.1) (kc' := 0) (ks' := 0) (as := [.int p2, .int (0 : Int32), .int (3 : Int32)]) (st := []) (mf_Bus_needNumber hw) (ms_Bus_84 hw) d_Bus_see_13 ln_Bus_needNumber (by decide) (by first | exact Nat.le_of_ble_eq_true rfl | (simp only [List.map_cons, List.map_nil, List.sum_cons, List.sum_nil, va_rf_cat]; exact Nat.le_of_ble_eq_true rfl)) rfl (p_Bus_needNumber hw hG hq16) ?_ (fun E9 h9 n9 x9 e9 => fq_nt e9)
  intro v9 h9 n9 x9 e9
  obtain ⟨e91, e92, e93⟩ := e9
  have e91 := Sum.inl.inj (show Sum.inl v9 = Sum.inl none from e91)
  subst e91
  subst e92
  subst e93
  clear x
  rename Bool => x
  show J _ _ _ _ [] _ _ _ _ _ _
  refine J_iload d_Bus_see_16 rfl ?_
  refine J_iconst (v := 0) d_Bus_see_18 (by decide) ?_
  refine J_sipush (v := 511) d_Bus_see_19 (by decide) ?_
  rcases bT_some H with ⟨E23, φ22, hq20, H⟩ | ⟨v21, φ22, hq20, H⟩
  · subst H
    show J _ _ _ _ _ _ _ _ (1 + 0) (6 + 0) _
    refine J_callS (kc := 0) (ks := 0) (kc' := 1) (ks' := 6) (as := [.int p4, .int (0 : Int32), .int (511 : Int32)]) (st := []) (mf_Bus_needNumber hw) (ms_Bus_84 hw) d_Bus_see_22 ln_Bus_needNumber (by decide) (by first | exact Nat.le_of_ble_eq_true rfl | (simp only [List.map_cons, List.map_nil, List.sum_cons, List.sum_nil, va_rf_cat]; exact Nat.le_of_ble_eq_true rfl)) rfl (p_Bus_needNumber hw hG hq20) (fun v9 h9 n9 x9 e9 => fq_nr e9) ?_
    intro E99 h9 n9 x9 e9
    obtain ⟨e91, e92, e93⟩ := e9
    have e91 := (Sum.inr.inj (show Sum.inr E99 = Sum.inr E23 from e91)).symm
    subst e91
    subst e92
    subst e93
    exact JT.out rfl ⟨rfl, rfl, rfl⟩
  refine J.kk (Nat.zero_add _) (Nat.zero_add _) ?_
  refine J_callS (kc := kt q.1) (ks := 6 * kt q.1) (kc' := 0) (ks' := 0) (as := [.int p4, .int (0 : Int32), .int (511 : Int32)]) (st := []) (mf_Bus_needNumber hw) (ms_Bus_84 hw) d_Bus_see_22 ln_Bus_needNumber (by decide) (by first | exact Nat.le_of_ble_eq_true rfl | (simp only [List.map_cons, List.map_nil, List.sum_cons, List.sum_nil, va_rf_cat]; exact Nat.le_of_ble_eq_true rfl)) rfl (p_Bus_needNumber hw hG hq20) ?_ (fun E9 h9 n9 x9 e9 => fq_nt e9)
  intro v9 h9 n9 x9 e9
  obtain ⟨e91, e92, e93⟩ := e9
  have e91 := Sum.inl.inj (show Sum.inl v9 = Sum.inl none from e91)
  subst e91
  subst e92
  subst e93
  clear x
  rename Bool => x
  show J _ _ _ _ [] _ _ _ _ _ _
  refine J_aload_n d_Bus_see_25 rfl ?_
  have g24 : Γ this = .inr 11 := by
    apply Classical.byContradiction
    intro q9
    rw [if_neg q9] at H
    cases H
  rw [if_pos g24] at H
  refine F_getR (ci := 11) (k := 6) hG (cf_Bus hw) (fl_Bus_55 hw) (by decide) (by decide) rfl d_Bus_see_26 g24 ?_
  refine J_iload_n d_Bus_see_29 rfl ?_
  obtain ⟨a25, ha25, H⟩ := Option.bind_eq_some_iff.mp H
  rw [j_rf ha25]
  obtain ⟨N26, hN26, H⟩ := Option.bind_eq_some_iff.mp H
  obtain ⟨k27, hk27, H⟩ := Option.bind_eq_some_iff.mp H
  refine F_aald k27 hw hG (t := 7) rfl (by decide) d_Bus_see_30 (gA_some hN26) (ix_some hk27) ?_
  refine J_astoreO d_Bus_see_31 (Nat.le_of_ble_eq_true rfl) ?_
  refine J.ls (ls' := [some (.ref this), some (.int p0), some (.int p1), some (.int p2), some (.long p3), none, some (.int p4), some (va_rf (φ22.2.2 a25 k27))]) rfl ?_
  refine J_aloadO d_Bus_see_33 rfl ?_
  refine J_iload_n d_Bus_see_35 rfl ?_
  obtain ⟨a28, ha28, H⟩ := Option.bind_eq_some_iff.mp H
  rw [j_rf ha28]
  have g29 : Γ a28 = .inr 5 := by
    apply Classical.byContradiction
    intro q9
    rw [if_neg q9] at H
    cases H
  rw [if_pos g29] at H
  obtain ⟨q30, hq30, H⟩ := Option.bind_eq_some_iff.mp H
  refine J.kk (Nat.zero_add _) (Nat.zero_add _) ?_
  refine J_callV (kc := kt q.1) (ks := 6 * kt q.1) (kc' := 0) (ks' := 0) (a := a28) (ci := 5) (as := [.int p1]) (st := []) (mf_Port_silence hw) (mv_Bus_264 hw) d_Bus_see_36 ln_Port_silence (by decide) (by first | exact Nat.le_of_ble_eq_true rfl | (simp only [List.map_cons, List.map_nil, List.sum_cons, List.sum_nil, va_rf_cat]; exact Nat.le_of_ble_eq_true rfl)) rfl ((hG _).1 _ g29 (by decide)).1 ((hG _).1 _ g29 (by decide)).2 (by unfold pic; rw [g29]; rfl) (jcl_at hw rfl) rfl (p_Port_silence hw hG hq30) ?_ (fun E h' n' x' e1 => by cases e1.1)
  intro v9 h9 n9 x9 e9
  obtain ⟨e91, e92, e93⟩ := e9
  cases e91
  subst e92
  subst e93
  clear x
  rename Bool => x
  show J _ _ _ _ [] _ _ _ _ _ _
  refine J_iload_n d_Bus_see_39 rfl ?_
  refine J_iconst (v := 1) d_Bus_see_40 (by decide) ?_
  refine J_iand d_Bus_see_41 ?_
  refine J_if_eq (tgt := 55) d_Bus_see_42 (by decide) ?_ ?_
  · intro c32
    rw [if_pos c32] at H
    refine J.drop [false, false, true, true, false, false, false, true] rfl ?_
    exact p_Bus_see_L55 hw hG  H
  · intro c32
    rw [if_neg c32] at H
    refine J_aload d_Bus_see_45 rfl ?_
    refine J_iload_n d_Bus_see_47 rfl ?_
    refine J_lload d_Bus_see_48 rfl ?_
    refine J_iload d_Bus_see_50 rfl ?_
    obtain ⟨q31, hq31, H⟩ := Option.bind_eq_some_iff.mp H
    refine J.kk (Nat.zero_add _) (Nat.zero_add _) ?_
    refine J_callV (kc := kt q.1) (ks := 6 * kt q.1) (kc' := 0) (ks' := 0) (a := a28) (ci := 5) (as := [.int p1, .long p3, .int p4]) (st := []) (mf_Port_send hw) (mv_Bus_268 hw) d_Bus_see_52 ln_Port_send (by decide) (by first | exact Nat.le_of_ble_eq_true rfl | (simp only [List.map_cons, List.map_nil, List.sum_cons, List.sum_nil, va_rf_cat]; exact Nat.le_of_ble_eq_true rfl)) rfl ((hG _).1 _ g29 (by decide)).1 ((hG _).1 _ g29 (by decide)).2 (by unfold pic; rw [g29]; rfl) (jcl_at hw rfl) rfl (p_Port_send hw hG hq31) ?_ (fun E h' n' x' e1 => by cases e1.1)
    intro v9 h9 n9 x9 e9
    obtain ⟨e91, e92, e93⟩ := e9
    cases e91
    subst e92
    subst e93
    clear x
    rename Bool => x
    show J _ _ _ _ [] _ _ _ _ _ _
    refine J.drop [false, false, true, true, false, false, false, true] rfl ?_
    exact p_Bus_see_L55 hw hG  H
theorem ln_Law_see : (parseMethodDescriptor y_Law_see.desc).map (fun q => q.parameters.length) = some 6 := by decide +kernel
def f_Law_see (Γ : gm_T) (φ : ph_T) (p0 : Option Nat) (p1 : Int32) (p2 : Int32) (p3 : Int32) (p4 : Int64) (p5 : Int32) : Option (Int32 × ph_T) :=
  Option.bind p0 fun a1 =>
  @ite _ (Γ a1 = .inr 11) _ (
  bC (f_Bus_see Γ φ a1 p1 p2 p3 p4 p5) (fun E6 φ5 =>
    if E6 = "java/lang/IndexOutOfBoundsException" then
      some ((1 : Int32), φ5)
 else if E6 = "java/lang/IllegalArgumentException" then
      some ((2 : Int32), φ5)
 else none) fun v4 φ5 =>
  some ((0 : Int32), φ5)
  ) none
set_option maxRecDepth 100000 in
set_option maxHeartbeats 4000000 in
theorem p_Law_see {w : jw_T} (hw : jok w) {Γ : gm_T} {n : Nat} (hG : gd w Γ n) {x : Bool} {φ : ph_T} {p0 : Option Nat} {p1 : Int32} {p2 : Int32} {p3 : Int32} {p4 : Int64} {p5 : Int32} {q : Int32 × ph_T} (H : f_Law_see Γ φ p0 p1 p2 p3 p4 p5 = some q) : jc w M_Law_see [va_rf p0, .int p1, .int p2, .int p3, .long p4, .int p5] (pic Γ φ) n x 1 6 (fq Γ n (.inl (some (.int q.1))) q.2) := by
  refine jc.of (by simp only [jent_r, jent_i, jent_l, jent_a, jent_0]; exact Nat.le_of_ble_eq_true rfl) ?_
  have hls : jents [va_rf p0, .int p1, .int p2, .int p3, .long p4, .int p5] (jm_nL M_Law_see) = [some (va_rf p0), some (.int p1), some (.int p2), some (.int p3), some (.long p4), none, some (.int p5), none] := by simp only [jents, jent_r, jent_i, jent_l, jent_a, jent_0]; rfl
  rw [hls]
  clear hls
  unfold f_Law_see at H
  refine J_aload_nO d_Law_see_0 rfl ?_
  refine J_iload_n d_Law_see_1 rfl ?_
  refine J_iload_n d_Law_see_2 rfl ?_
  refine J_iload_n d_Law_see_3 rfl ?_
  refine J_lload d_Law_see_4 rfl ?_
  refine J_iload d_Law_see_6 rfl ?_
  obtain ⟨a1, ha1, H⟩ := Option.bind_eq_some_iff.mp H
  rw [j_rf ha1]
  have g2 : Γ a1 = .inr 11 := by
    apply Classical.byContradiction
    intro q9
    rw [if_neg q9] at H
    cases H
  rw [if_pos g2] at H
  rcases bC_some H with ⟨E6, φ5, hq3, H⟩ | ⟨v4, φ5, hq3, H⟩
  · refine J_callV (kc := 0) (ks := 0) (kc' := 1) (ks' := 6) (a := a1) (ci := 11) (as := [.int p1, .int p2, .int p3, .long p4, .int p5]) (st := []) (mf_Bus_see hw) (mv_Law_88 hw) d_Law_see_8 ln_Bus_see (by decide) (by first | exact Nat.le_of_ble_eq_true rfl | (simp only [List.map_cons, List.map_nil, List.sum_cons, List.sum_nil, va_rf_cat]; exact Nat.le_of_ble_eq_true rfl)) rfl ((hG _).1 _ g2 (by decide)).1 ((hG _).1 _ g2 (by decide)).2 (by unfold pic; rw [g2]; rfl) (jcl_at hw rfl) rfl (p_Bus_see hw hG hq3) (fun v9 h9 n9 x9 e9 => fq_nr e9) ?_
    intro E99 h9 n9 x9 e9
    obtain ⟨e91, e92, e93⟩ := e9
    have e91 := (Sum.inr.inj (show Sum.inr E99 = Sum.inr E6 from e91)).symm
    subst e91
    subst e92
    subst e93
    by_cases c8 : E6 = "java/lang/IndexOutOfBoundsException"
    · subst c8
      rw [if_pos rfl] at H
      refine JT.catch (name := "java/lang/IndexOutOfBoundsException") [] [(0, 11, 18, 21)] rfl ⟨by decide, by decide⟩ (by decide) (tb3 hw (i := 79) (by decide +kernel)) (tb3 hw (i := 90) (by decide +kernel)) (fun r9 hr9 => by cases hr9) (fun r7 => ?_)
      refine J_astore d_Law_see_14 (Nat.le_of_ble_eq_true rfl) ?_
      refine J.ls (ls' := [some (.ref a1), some (.int p1), some (.int p2), some (.int p3), some (.long p4), none, some (.int p5), some (.ref r7)]) rfl ?_
      refine J_iconst (v := 1) d_Law_see_16 (by decide) ?_
      have H := Option.some.inj H
      subst H
      exact J_iret (st := []) d_Law_see_17 rfl rfl ⟨rfl, rfl, rfl⟩
    rw [if_neg c8] at H
    by_cases c10 : E6 = "java/lang/IllegalArgumentException"
    · subst c10
      rw [if_pos rfl] at H
      refine JT.catch (name := "java/lang/IllegalArgumentException") [(0, 11, 14, 13)] [] rfl ⟨by decide, by decide⟩ (by decide) (tb3 hw (i := 176) (by decide +kernel)) (tb3 hw (i := 186) (by decide +kernel)) (fun r9 hr9 => by
          simp only [List.mem_cons, List.not_mem_nil, or_false] at hr9
          rcases hr9 with rfl
          · exact ⟨by decide, "java/lang/IndexOutOfBoundsException", tb3 hw (i := 79) (by decide +kernel), jnc_mem hw (by decide)⟩) (fun r9 => ?_)
      refine J_astore d_Law_see_18 (Nat.le_of_ble_eq_true rfl) ?_
      refine J.ls (ls' := [some (.ref a1), some (.int p1), some (.int p2), some (.int p3), some (.long p4), none, some (.int p5), some (.ref r9)]) rfl ?_
      refine J_iconst (v := 2) d_Law_see_20 (by decide) ?_
      have H := Option.some.inj H
      subst H
      exact J_iret (st := []) d_Law_see_21 rfl rfl ⟨rfl, rfl, rfl⟩
    rw [if_neg c10] at H
    cases H
  refine J.more (kc := 0) (ks := 0) (Nat.zero_le _) (Nat.zero_le _) ?_
  refine J_callV (kc := 0) (ks := 0) (kc' := 0) (ks' := 0) (a := a1) (ci := 11) (as := [.int p1, .int p2, .int p3, .long p4, .int p5]) (st := []) (mf_Bus_see hw) (mv_Law_88 hw) d_Law_see_8 ln_Bus_see (by decide) (by first | exact Nat.le_of_ble_eq_true rfl | (simp only [List.map_cons, List.map_nil, List.sum_cons, List.sum_nil, va_rf_cat]; exact Nat.le_of_ble_eq_true rfl)) rfl ((hG _).1 _ g2 (by decide)).1 ((hG _).1 _ g2 (by decide)).2 (by unfold pic; rw [g2]; rfl) (jcl_at hw rfl) rfl (p_Bus_see hw hG hq3) ?_ (fun E9 h9 n9 x9 e9 => fq_nt e9)
  intro v9 h9 n9 x9 e9
  obtain ⟨e91, e92, e93⟩ := e9
  have e91 := Sum.inl.inj (show Sum.inl v9 = Sum.inl none from e91)
  subst e91
  subst e92
  subst e93
  clear x
  rename Bool => x
  show J _ _ _ _ [] _ _ _ _ _ _
  refine J_goto (tgt := 22) d_Law_see_11 (by decide) ?_
  refine J_iconst (v := 0) d_Law_see_22 (by decide) ?_
  have H := Option.some.inj H
  subst H
  exact J_iret (st := []) d_Law_see_23 rfl rfl ⟨rfl, rfl, rfl⟩
theorem ln_Bus_judge : (parseMethodDescriptor y_Bus_judge.desc).map (fun q => q.parameters.length) = some 1 := by decide +kernel
def f_Bus_judge (Γ : gm_T) (φ : ph_T) (this : Nat) (p0 : Int32) : Option ((Int32 ⊕ String) × ph_T) :=
  bT (f_Bus_needIndex Γ φ p0 (2 : Int32)) fun v2 φ3 =>
  @ite _ (Γ this = .inr 11) _ (
  Option.bind (φ3.2.2 this 6) fun a6 =>
  Option.bind (gA Γ a6 7) fun N7 =>
  Option.bind (ix p0 N7) fun k8 =>
  Option.bind (φ3.2.2 a6 k8) fun a9 =>
  @ite _ (Γ a9 = .inr 5) _ (
  Option.bind (φ3.2.2 a9 6) fun a11 =>
  @ite _ (Γ a11 = .inr 4) _ (
  Option.bind (f_Monitor_look Γ φ3 a11 (some a9)) fun q13 =>
  Option.bind (f_Port_silenceAll Γ q13.2 a9) fun q14 =>
  Option.bind (q14.2.2.2 a9 6) fun a15 =>
  @ite _ (Γ a15 = .inr 4) _ (
  some (.inl ((q14.2.1 a15 5)), q14.2)
  ) none
  ) none
  ) none
  ) none
set_option maxRecDepth 100000 in
set_option maxHeartbeats 4000000 in
theorem p_Bus_judge {w : jw_T} (hw : jok w) {Γ : gm_T} {n : Nat} (hG : gd w Γ n) {x : Bool} {φ : ph_T} {this : Nat} {p0 : Int32} {q : (Int32 ⊕ String) × ph_T} (H : f_Bus_judge Γ φ this p0 = some q) : jc w M_Bus_judge [.ref this, .int p0] (pic Γ φ) n x (kt q.1) (6 * kt q.1) (fq Γ n (rsI q.1) q.2) := by
  refine jc.of (by simp only [jent_r, jent_i, jent_l, jent_a, jent_0]; exact Nat.le_of_ble_eq_true rfl) ?_
  have hls : jents [.ref this, .int p0] (jm_nL M_Bus_judge) = [some (.ref this), some (.int p0), none] := by simp only [jents, jent_r, jent_i, jent_l, jent_a, jent_0]; rfl
  rw [hls]
  clear hls
  unfold f_Bus_judge at H
  refine J_iload_n d_Bus_judge_0 rfl ?_
  refine J_iconst (v := 2) d_Bus_judge_1 (by decide) ?_
  rcases bT_some H with ⟨E4, φ3, hq1, H⟩ | ⟨v2, φ3, hq1, H⟩
  · subst H
    show J _ _ _ _ _ _ _ _ (1 + 0) (6 + 0) _
    refine J_callS (kc := 0) (ks := 0) (kc' := 1) (ks' := 6) (as := [.int p0, .int (2 : Int32)]) (st := []) (mf_Bus_needIndex hw) (ms_Bus_65 hw) d_Bus_judge_2 ln_Bus_needIndex (by decide) (by first | exact Nat.le_of_ble_eq_true rfl | (simp only [List.map_cons, List.map_nil, List.sum_cons, List.sum_nil, va_rf_cat]; exact Nat.le_of_ble_eq_true rfl)) rfl (p_Bus_needIndex hw hG hq1) (fun v9 h9 n9 x9 e9 => fq_nr e9) ?_
    intro E99 h9 n9 x9 e9
    obtain ⟨e91, e92, e93⟩ := e9
    have e91 := (Sum.inr.inj (show Sum.inr E99 = Sum.inr E4 from e91)).symm
    subst e91
    subst e92
    subst e93
    exact JT.out rfl ⟨rfl, rfl, rfl⟩
  refine J.kk (Nat.zero_add _) (Nat.zero_add _) ?_
  refine J_callS (kc := kt q.1) (ks := 6 * kt q.1) (kc' := 0) (ks' := 0) (as := [.int p0, .int (2 : Int32)]) (st := []) (mf_Bus_needIndex hw) (ms_Bus_65 hw) d_Bus_judge_2 ln_Bus_needIndex (by decide) (by first | exact Nat.le_of_ble_eq_true rfl | (simp only [List.map_cons, List.map_nil, List.sum_cons, List.sum_nil, va_rf_cat]; exact Nat.le_of_ble_eq_true rfl)) rfl (p_Bus_needIndex hw hG hq1) ?_ (fun E9 h9 n9 x9 e9 => fq_nt e9)
  intro v9 h9 n9 x9 e9
  obtain ⟨e91, e92, e93⟩ := e9
  have e91 := Sum.inl.inj (show Sum.inl v9 = Sum.inl none from e91)
  subst e91
  subst e92
  subst e93
  clear x
  rename Bool => x
  show J _ _ _ _ [] _ _ _ _ _ _
  refine J_aload_n d_Bus_judge_5 rfl ?_
  have g5 : Γ this = .inr 11 := by
    apply Classical.byContradiction
    intro q9
    rw [if_neg q9] at H
    cases H
  rw [if_pos g5] at H
  refine F_getR (ci := 11) (k := 6) hG (cf_Bus hw) (fl_Bus_55 hw) (by decide) (by decide) rfl d_Bus_judge_6 g5 ?_
  refine J_iload_n d_Bus_judge_9 rfl ?_
  obtain ⟨a6, ha6, H⟩ := Option.bind_eq_some_iff.mp H
  rw [j_rf ha6]
  obtain ⟨N7, hN7, H⟩ := Option.bind_eq_some_iff.mp H
  obtain ⟨k8, hk8, H⟩ := Option.bind_eq_some_iff.mp H
  refine F_aald k8 hw hG (t := 7) rfl (by decide) d_Bus_judge_10 (gA_some hN7) (ix_some hk8) ?_
  refine J_astore_nO d_Bus_judge_11 (Nat.le_of_ble_eq_true rfl) ?_
  refine J.ls (ls' := [some (.ref this), some (.int p0), some (va_rf (φ3.2.2 a6 k8))]) rfl ?_
  refine J_aload_nO d_Bus_judge_12 rfl ?_
  obtain ⟨a9, ha9, H⟩ := Option.bind_eq_some_iff.mp H
  rw [j_rf ha9]
  have g10 : Γ a9 = .inr 5 := by
    apply Classical.byContradiction
    intro q9
    rw [if_neg q9] at H
    cases H
  rw [if_pos g10] at H
  refine F_getR (ci := 5) (k := 6) hG (cf_Port hw) (fl_Bus_234 hw) (by decide) (by decide) rfl d_Bus_judge_13 g10 ?_
  refine J_aload_n d_Bus_judge_16 rfl ?_
  obtain ⟨a11, ha11, H⟩ := Option.bind_eq_some_iff.mp H
  rw [j_rf ha11]
  have g12 : Γ a11 = .inr 4 := by
    apply Classical.byContradiction
    intro q9
    rw [if_neg q9] at H
    cases H
  rw [if_pos g12] at H
  obtain ⟨q13, hq13, H⟩ := Option.bind_eq_some_iff.mp H
  refine J.kk (Nat.zero_add _) (Nat.zero_add _) ?_
  refine J_callV (kc := kt q.1) (ks := 6 * kt q.1) (kc' := 0) (ks' := 0) (a := a11) (ci := 4) (as := [.ref a9]) (st := []) (mf_Monitor_look hw) (mv_Bus_271 hw) d_Bus_judge_17 ln_Monitor_look (by decide) (by first | exact Nat.le_of_ble_eq_true rfl | (simp only [List.map_cons, List.map_nil, List.sum_cons, List.sum_nil, va_rf_cat]; exact Nat.le_of_ble_eq_true rfl)) rfl ((hG _).1 _ g12 (by decide)).1 ((hG _).1 _ g12 (by decide)).2 (by unfold pic; rw [g12]; rfl) (jcl_at hw rfl) rfl (p_Monitor_look hw hG hq13) ?_ (fun E h' n' x' e1 => by cases e1.1)
  intro v9 h9 n9 x9 e9
  obtain ⟨e91, e92, e93⟩ := e9
  cases e91
  subst e92
  subst e93
  clear x
  rename Bool => x
  show J _ _ _ _ [] _ _ _ _ _ _
  refine J_aload_n d_Bus_judge_20 rfl ?_
  obtain ⟨q14, hq14, H⟩ := Option.bind_eq_some_iff.mp H
  refine J.kk (Nat.zero_add _) (Nat.zero_add _) ?_
  refine J_callV (kc := kt q.1) (ks := 6 * kt q.1) (kc' := 0) (ks' := 0) (a := a9) (ci := 5) (as := []) (st := []) (mf_Port_silenceAll hw) (mv_Bus_275 hw) d_Bus_judge_21 ln_Port_silenceAll (by decide) (by first | exact Nat.le_of_ble_eq_true rfl | (simp only [List.map_cons, List.map_nil, List.sum_cons, List.sum_nil, va_rf_cat]; exact Nat.le_of_ble_eq_true rfl)) rfl ((hG _).1 _ g10 (by decide)).1 ((hG _).1 _ g10 (by decide)).2 (by unfold pic; rw [g10]; rfl) (jcl_at hw rfl) rfl (p_Port_silenceAll hw hG hq14) ?_ (fun E h' n' x' e1 => by cases e1.1)
  intro v9 h9 n9 x9 e9
  obtain ⟨e91, e92, e93⟩ := e9
  cases e91
  subst e92
  subst e93
  clear x
  rename Bool => x
  show J _ _ _ _ [] _ _ _ _ _ _
  refine J_aload_n d_Bus_judge_24 rfl ?_
  refine F_getR (ci := 5) (k := 6) hG (cf_Port hw) (fl_Bus_234 hw) (by decide) (by decide) rfl d_Bus_judge_25 g10 ?_
  obtain ⟨a15, ha15, H⟩ := Option.bind_eq_some_iff.mp H
  rw [j_rf ha15]
  have g16 : Γ a15 = .inr 4 := by
    apply Classical.byContradiction
    intro q9
    rw [if_neg q9] at H
    cases H
  rw [if_pos g16] at H
  refine F_getI (ci := 4) (k := 5) hG (cf_Monitor hw) (fl_Bus_278 hw) (by decide) (by decide) rfl d_Bus_judge_28 g16 ?_
  have H := Option.some.inj H
  subst H
  show J _ _ _ _ _ _ _ _ 0 0 _
  exact J_iret (st := []) d_Bus_judge_31 rfl rfl ⟨rfl, rfl, rfl⟩
theorem ln_Law_judge : (parseMethodDescriptor y_Law_judge.desc).map (fun q => q.parameters.length) = some 3 := by decide +kernel
def f_Law_judge (Γ : gm_T) (φ : ph_T) (p0 : Option Nat) (p1 : Int32) (p2 : Option Nat) : Option (Int32 × ph_T) :=
  Option.bind p0 fun a1 =>
  @ite _ (Γ a1 = .inr 11) _ (
  bC (f_Bus_judge Γ φ a1 p1) (fun E6 φ5 =>
    if E6 = "java/lang/IndexOutOfBoundsException" then
      some ((1 : Int32), φ5)
 else none) fun v4 φ5 =>
  Option.bind p2 fun a9 =>
  Option.bind (gA Γ a9 1) fun N10 =>
  Option.bind (ix (0 : Int32) N10) fun k11 =>
  some ((0 : Int32), (uL φ5 a9 k11 (Int32.toInt64 v4)))
  ) none
set_option maxRecDepth 100000 in
set_option maxHeartbeats 4000000 in
theorem p_Law_judge {w : jw_T} (hw : jok w) {Γ : gm_T} {n : Nat} (hG : gd w Γ n) {x : Bool} {φ : ph_T} {p0 : Option Nat} {p1 : Int32} {p2 : Option Nat} {q : Int32 × ph_T} (H : f_Law_judge Γ φ p0 p1 p2 = some q) : jc w M_Law_judge [va_rf p0, .int p1, va_rf p2] (pic Γ φ) n x 1 6 (fq Γ n (.inl (some (.int q.1))) q.2) := by
  refine jc.of (by simp only [jent_r, jent_i, jent_l, jent_a, jent_0]; exact Nat.le_of_ble_eq_true rfl) ?_
  have hls : jents [va_rf p0, .int p1, va_rf p2] (jm_nL M_Law_judge) = [some (va_rf p0), some (.int p1), some (va_rf p2), none] := by simp only [jents, jent_r, jent_i, jent_l, jent_a, jent_0]; rfl
  rw [hls]
  clear hls
  unfold f_Law_judge at H
  refine J_aload_nO d_Law_judge_0 rfl ?_
  refine J_iconst (v := 0) d_Law_judge_1 (by decide) ?_
  refine J_aload_nO d_Law_judge_2 rfl ?_
  refine J_iload_n d_Law_judge_3 rfl ?_
  obtain ⟨a1, ha1, H⟩ := Option.bind_eq_some_iff.mp H
  rw [j_rf ha1]
  have g2 : Γ a1 = .inr 11 := by
    apply Classical.byContradiction
    intro q9
    rw [if_neg q9] at H
    cases H
  rw [if_pos g2] at H
  rcases bC_some H with ⟨E6, φ5, hq3, H⟩ | ⟨v4, φ5, hq3, H⟩
  · refine J_callV (kc := 0) (ks := 0) (kc' := 1) (ks' := 6) (a := a1) (ci := 11) (as := [.int p1]) (st := [.int (0 : Int32), va_rf p2]) (mf_Bus_judge hw) (mv_Law_92 hw) d_Law_judge_4 ln_Bus_judge (by decide) (by first | exact Nat.le_of_ble_eq_true rfl | (simp only [List.map_cons, List.map_nil, List.sum_cons, List.sum_nil, va_rf_cat]; exact Nat.le_of_ble_eq_true rfl)) rfl ((hG _).1 _ g2 (by decide)).1 ((hG _).1 _ g2 (by decide)).2 (by unfold pic; rw [g2]; rfl) (jcl_at hw rfl) rfl (p_Bus_judge hw hG hq3) (fun v9 h9 n9 x9 e9 => fq_nr e9) ?_
    intro E99 h9 n9 x9 e9
    obtain ⟨e91, e92, e93⟩ := e9
    have e91 := (Sum.inr.inj (show Sum.inr E99 = Sum.inr E6 from e91)).symm
    subst e91
    subst e92
    subst e93
    by_cases c8 : E6 = "java/lang/IndexOutOfBoundsException"
    · subst c8
      rw [if_pos rfl] at H
      refine JT.catch (name := "java/lang/IndexOutOfBoundsException") [] [] rfl ⟨by decide, by decide⟩ (by decide) (tb3 hw (i := 79) (by decide +kernel)) (tb3 hw (i := 90) (by decide +kernel)) (fun r9 hr9 => by cases hr9) (fun r7 => ?_)
      refine J_astore_n d_Law_judge_12 (Nat.le_of_ble_eq_true rfl) ?_
      refine J.ls (ls' := [some (.ref a1), some (.int p1), some (va_rf p2), some (.ref r7)]) (jst1_o (i := 2) (r := p2) rfl) ?_
      refine J_iconst (v := 1) d_Law_judge_13 (by decide) ?_
      have H := Option.some.inj H
      subst H
      exact J_iret (st := []) d_Law_judge_14 rfl rfl ⟨rfl, rfl, rfl⟩
    rw [if_neg c8] at H
    cases H
  refine J.more (kc := 0) (ks := 0) (Nat.zero_le _) (Nat.zero_le _) ?_
  refine J_callV (kc := 0) (ks := 0) (kc' := 0) (ks' := 0) (a := a1) (ci := 11) (as := [.int p1]) (st := [.int (0 : Int32), va_rf p2]) (mf_Bus_judge hw) (mv_Law_92 hw) d_Law_judge_4 ln_Bus_judge (by decide) (by first | exact Nat.le_of_ble_eq_true rfl | (simp only [List.map_cons, List.map_nil, List.sum_cons, List.sum_nil, va_rf_cat]; exact Nat.le_of_ble_eq_true rfl)) rfl ((hG _).1 _ g2 (by decide)).1 ((hG _).1 _ g2 (by decide)).2 (by unfold pic; rw [g2]; rfl) (jcl_at hw rfl) rfl (p_Bus_judge hw hG hq3) ?_ (fun E9 h9 n9 x9 e9 => fq_nt e9)
  intro v9 h9 n9 x9 e9
  obtain ⟨e91, e92, e93⟩ := e9
  have e91 := Sum.inl.inj (show Sum.inl v9 = Sum.inl (some (.int v4)) from e91)
  subst e91
  subst e92
  subst e93
  clear x
  rename Bool => x
  show J _ _ _ _ (_ :: _) _ _ _ _ _ _
  refine J_i2l d_Law_judge_7 ?_
  obtain ⟨a9, ha9, H⟩ := Option.bind_eq_some_iff.mp H
  rw [j_rf ha9]
  obtain ⟨N10, hN10, H⟩ := Option.bind_eq_some_iff.mp H
  obtain ⟨k11, hk11, H⟩ := Option.bind_eq_some_iff.mp H
  refine F_last k11 hw hG d_Law_judge_8 (gA_some hN10) (ix_some hk11) ?_
  refine J_goto (tgt := 15) d_Law_judge_9 (by decide) ?_
  refine J_iconst (v := 0) d_Law_judge_15 (by decide) ?_
  have H := Option.some.inj H
  subst H
  exact J_iret (st := []) d_Law_judge_16 rfl rfl ⟨rfl, rfl, rfl⟩
theorem ln_Bus_watched : (parseMethodDescriptor y_Bus_watched.desc).map (fun q => q.parameters.length) = some 2 := by decide +kernel
def f_Bus_watched (Γ : gm_T) (φ : ph_T) (this : Nat) (p0 : Int32) (p1 : Int32) : Option ((Int32 ⊕ String) × ph_T) :=
  bT (f_Bus_needIndex Γ φ p0 (2 : Int32)) fun v2 φ3 =>
  bT (f_Bus_needNumber Γ φ3 p1 (0 : Int32) (5 : Int32)) fun v6 φ7 =>
  @ite _ (Γ this = .inr 11) _ (
  Option.bind (φ7.2.2 this 6) fun a10 =>
  Option.bind (gA Γ a10 7) fun N11 =>
  Option.bind (ix p0 N11) fun k12 =>
  Option.bind (φ7.2.2 a10 k12) fun a13 =>
  @ite _ (Γ a13 = .inr 5) _ (
  if p1 = 3 then
    Option.bind (φ7.2.2 a13 6) fun a15 =>
    @ite _ (Γ a15 = .inr 4) _ (
    some (.inl ((φ7.1 a15 8)), φ7)
    ) none
  else
    if p1 = 4 then
      Option.bind (φ7.2.2 a13 6) fun a17 =>
      @ite _ (Γ a17 = .inr 4) _ (
      Option.bind (φ7.2.2 a17 0) fun a19 =>
      @ite _ (Γ a19 = .inr 1) _ (
      some (.inl ((φ7.1 a19 1)), φ7)
      ) none
      ) none
    else
      if p1 = 5 then
        Option.bind (φ7.2.2 a13 6) fun a21 =>
        @ite _ (Γ a21 = .inr 4) _ (
        Option.bind (φ7.2.2 a21 1) fun a23 =>
        @ite _ (Γ a23 = .inr 1) _ (
        some (.inl ((φ7.1 a23 1)), φ7)
        ) none
        ) none
      else
        Option.bind (φ7.2.2 a13 6) fun a25 =>
        @ite _ (Γ a25 = .inr 4) _ (
        Option.bind (f_Monitor_faultPart Γ φ7 a25 p1) fun q27 =>
        some (.inl (q27.1), q27.2)
        ) none
  ) none
  ) none
set_option maxRecDepth 100000 in
set_option maxHeartbeats 4000000 in
theorem p_Bus_watched {w : jw_T} (hw : jok w) {Γ : gm_T} {n : Nat} (hG : gd w Γ n) {x : Bool} {φ : ph_T} {this : Nat} {p0 : Int32} {p1 : Int32} {q : (Int32 ⊕ String) × ph_T} (H : f_Bus_watched Γ φ this p0 p1 = some q) : jc w M_Bus_watched [.ref this, .int p0, .int p1] (pic Γ φ) n x (kt q.1) (6 * kt q.1) (fq Γ n (rsI q.1) q.2) := by
  refine jc.of (by simp only [jent_r, jent_i, jent_l, jent_a, jent_0]; exact Nat.le_of_ble_eq_true rfl) ?_
  have hls : jents [.ref this, .int p0, .int p1] (jm_nL M_Bus_watched) = [some (.ref this), some (.int p0), some (.int p1), none] := by simp only [jents, jent_r, jent_i, jent_l, jent_a, jent_0]; rfl
  rw [hls]
  clear hls
  unfold f_Bus_watched at H
  refine J_iload_n d_Bus_watched_0 rfl ?_
  refine J_iconst (v := 2) d_Bus_watched_1 (by decide) ?_
  rcases bT_some H with ⟨E4, φ3, hq1, H⟩ | ⟨v2, φ3, hq1, H⟩
  · subst H
    show J _ _ _ _ _ _ _ _ (1 + 0) (6 + 0) _
    refine J_callS (kc := 0) (ks := 0) (kc' := 1) (ks' := 6) (as := [.int p0, .int (2 : Int32)]) (st := []) (mf_Bus_needIndex hw) (ms_Bus_65 hw) d_Bus_watched_2 ln_Bus_needIndex (by decide) (by first | exact Nat.le_of_ble_eq_true rfl | (simp only [List.map_cons, List.map_nil, List.sum_cons, List.sum_nil, va_rf_cat]; exact Nat.le_of_ble_eq_true rfl)) rfl (p_Bus_needIndex hw hG hq1) (fun v9 h9 n9 x9 e9 => fq_nr e9) ?_
    intro E99 h9 n9 x9 e9
    obtain ⟨e91, e92, e93⟩ := e9
    have e91 := (Sum.inr.inj (show Sum.inr E99 = Sum.inr E4 from e91)).symm
    subst e91
    subst e92
    subst e93
    exact JT.out rfl ⟨rfl, rfl, rfl⟩
  refine J.kk (Nat.zero_add _) (Nat.zero_add _) ?_
  refine J_callS (kc := kt q.1) (ks := 6 * kt q.1) (kc' := 0) (ks' := 0) (as := [.int p0, .int (2 : Int32)]) (st := []) (mf_Bus_needIndex hw) (ms_Bus_65 hw) d_Bus_watched_2 ln_Bus_needIndex (by decide) (by first | exact Nat.le_of_ble_eq_true rfl | (simp only [List.map_cons, List.map_nil, List.sum_cons, List.sum_nil, va_rf_cat]; exact Nat.le_of_ble_eq_true rfl)) rfl (p_Bus_needIndex hw hG hq1) ?_ (fun E9 h9 n9 x9 e9 => fq_nt e9)
  intro v9 h9 n9 x9 e9
  obtain ⟨e91, e92, e93⟩ := e9
  have e91 := Sum.inl.inj (show Sum.inl v9 = Sum.inl none from e91)
  subst e91
  subst e92
  subst e93
  clear x
  rename Bool => x
  show J _ _ _ _ [] _ _ _ _ _ _
  refine J_iload_n d_Bus_watched_5 rfl ?_
  refine J_iconst (v := 0) d_Bus_watched_6 (by decide) ?_
  refine J_iconst (v := 5) d_Bus_watched_7 (by decide) ?_
  rcases bT_some H with ⟨E8, φ7, hq5, H⟩ | ⟨v6, φ7, hq5, H⟩
  · subst H
    show J _ _ _ _ _ _ _ _ (1 + 0) (6 + 0) _
    refine J_callS (kc := 0) (ks := 0) (kc' := 1) (ks' := 6) (as := [.int p1, .int (0 : Int32), .int (5 : Int32)]) (st := []) (mf_Bus_needNumber hw) (ms_Bus_84 hw) d_Bus_watched_8 ln_Bus_needNumber (by decide) (by first | exact Nat.le_of_ble_eq_true rfl | (simp only [List.map_cons, List.map_nil, List.sum_cons, List.sum_nil, va_rf_cat]; exact Nat.le_of_ble_eq_true rfl)) rfl (p_Bus_needNumber hw hG hq5) (fun v9 h9 n9 x9 e9 => fq_nr e9) ?_
    intro E99 h9 n9 x9 e9
    obtain ⟨e91, e92, e93⟩ := e9
    have e91 := (Sum.inr.inj (show Sum.inr E99 = Sum.inr E8 from e91)).symm
    subst e91
    subst e92
    subst e93
    exact JT.out rfl ⟨rfl, rfl, rfl⟩
  refine J.kk (Nat.zero_add _) (Nat.zero_add _) ?_
  refine J_callS (kc := kt q.1) (ks := 6 * kt q.1) (kc' := 0) (ks' := 0) (as := [.int p1, .int (0 : Int32), .int (5 : Int32)]) (st := []) (mf_Bus_needNumber hw) (ms_Bus_84 hw) d_Bus_watched_8 ln_Bus_needNumber (by decide) (by first | exact Nat.le_of_ble_eq_true rfl | (simp only [List.map_cons, List.map_nil, List.sum_cons, List.sum_nil, va_rf_cat]; exact Nat.le_of_ble_eq_true rfl)) rfl (p_Bus_needNumber hw hG hq5) ?_ (fun E9 h9 n9 x9 e9 => fq_nt e9)
  intro v9 h9 n9 x9 e9
  obtain ⟨e91, e92, e93⟩ := e9
  have e91 := Sum.inl.inj (show Sum.inl v9 = Sum.inl none from e91)
  subst e91
  subst e92
  subst e93
  clear x
  rename Bool => x
  show J _ _ _ _ [] _ _ _ _ _ _
  refine J_aload_n d_Bus_watched_11 rfl ?_
  have g9 : Γ this = .inr 11 := by
    apply Classical.byContradiction
    intro q9
    rw [if_neg q9] at H
    cases H
  rw [if_pos g9] at H
  refine F_getR (ci := 11) (k := 6) hG (cf_Bus hw) (fl_Bus_55 hw) (by decide) (by decide) rfl d_Bus_watched_12 g9 ?_
  refine J_iload_n d_Bus_watched_15 rfl ?_
  obtain ⟨a10, ha10, H⟩ := Option.bind_eq_some_iff.mp H
  rw [j_rf ha10]
  obtain ⟨N11, hN11, H⟩ := Option.bind_eq_some_iff.mp H
  obtain ⟨k12, hk12, H⟩ := Option.bind_eq_some_iff.mp H
  refine F_aald k12 hw hG (t := 7) rfl (by decide) d_Bus_watched_16 (gA_some hN11) (ix_some hk12) ?_
  obtain ⟨a13, ha13, H⟩ := Option.bind_eq_some_iff.mp H
  rw [j_rf ha13]
  have g14 : Γ a13 = .inr 5 := by
    apply Classical.byContradiction
    intro q9
    rw [if_neg q9] at H
    cases H
  rw [if_pos g14] at H
  refine F_getR (ci := 5) (k := 6) hG (cf_Port hw) (fl_Bus_234 hw) (by decide) (by decide) rfl d_Bus_watched_17 g14 ?_
  refine J_astore_nO d_Bus_watched_20 (Nat.le_of_ble_eq_true rfl) ?_
  refine J.ls (ls' := [some (.ref this), some (.int p0), some (.int p1), some (va_rf (φ7.2.2 a13 6))]) rfl ?_
  refine J_iload_n d_Bus_watched_21 rfl ?_
  by_cases c28 : p1 = 3
  · rw [if_pos c28] at H
    refine J_table (off := 26) (tgt := 48) d_Bus_watched_22 (by rw [c28]; decide) (by decide) ?_
    refine J_aload_nO d_Bus_watched_48 rfl ?_
    obtain ⟨a15, ha15, H⟩ := Option.bind_eq_some_iff.mp H
    rw [j_rf ha15]
    have g16 : Γ a15 = .inr 4 := by
      apply Classical.byContradiction
      intro q9
      rw [if_neg q9] at H
      cases H
    rw [if_pos g16] at H
    refine F_getI (ci := 4) (k := 8) hG (cf_Monitor hw) (fl_Bus_281 hw) (by decide) (by decide) rfl d_Bus_watched_49 g16 ?_
    have H := Option.some.inj H
    subst H
    show J _ _ _ _ _ _ _ _ 0 0 _
    exact J_iret (st := []) d_Bus_watched_52 rfl rfl ⟨rfl, rfl, rfl⟩
  · rw [if_neg c28] at H
    by_cases c29 : p1 = 4
    · rw [if_pos c29] at H
      refine J_table (off := 31) (tgt := 53) d_Bus_watched_22 (by rw [c29]; decide) (by decide) ?_
      refine J_aload_nO d_Bus_watched_53 rfl ?_
      obtain ⟨a17, ha17, H⟩ := Option.bind_eq_some_iff.mp H
      rw [j_rf ha17]
      have g18 : Γ a17 = .inr 4 := by
        apply Classical.byContradiction
        intro q9
        rw [if_neg q9] at H
        cases H
      rw [if_pos g18] at H
      refine F_getR (ci := 4) (k := 0) hG (cf_Monitor hw) (fl_Bus_284 hw) (by decide) (by decide) rfl d_Bus_watched_54 g18 ?_
      obtain ⟨a19, ha19, H⟩ := Option.bind_eq_some_iff.mp H
      rw [j_rf ha19]
      have g20 : Γ a19 = .inr 1 := by
        apply Classical.byContradiction
        intro q9
        rw [if_neg q9] at H
        cases H
      rw [if_pos g20] at H
      refine F_getI (ci := 1) (k := 1) hG (cf_Line hw) (fl_Bus_250 hw) (by decide) (by decide) rfl d_Bus_watched_57 g20 ?_
      have H := Option.some.inj H
      subst H
      show J _ _ _ _ _ _ _ _ 0 0 _
      exact J_iret (st := []) d_Bus_watched_60 rfl rfl ⟨rfl, rfl, rfl⟩
    · rw [if_neg c29] at H
      by_cases c30 : p1 = 5
      · rw [if_pos c30] at H
        refine J_table (off := 39) (tgt := 61) d_Bus_watched_22 (by rw [c30]; decide) (by decide) ?_
        refine J_aload_nO d_Bus_watched_61 rfl ?_
        obtain ⟨a21, ha21, H⟩ := Option.bind_eq_some_iff.mp H
        rw [j_rf ha21]
        have g22 : Γ a21 = .inr 4 := by
          apply Classical.byContradiction
          intro q9
          rw [if_neg q9] at H
          cases H
        rw [if_pos g22] at H
        refine F_getR (ci := 4) (k := 1) hG (cf_Monitor hw) (fl_Bus_285 hw) (by decide) (by decide) rfl d_Bus_watched_62 g22 ?_
        obtain ⟨a23, ha23, H⟩ := Option.bind_eq_some_iff.mp H
        rw [j_rf ha23]
        have g24 : Γ a23 = .inr 1 := by
          apply Classical.byContradiction
          intro q9
          rw [if_neg q9] at H
          cases H
        rw [if_pos g24] at H
        refine F_getI (ci := 1) (k := 1) hG (cf_Line hw) (fl_Bus_250 hw) (by decide) (by decide) rfl d_Bus_watched_65 g24 ?_
        have H := Option.some.inj H
        subst H
        show J _ _ _ _ _ _ _ _ 0 0 _
        exact J_iret (st := []) d_Bus_watched_68 rfl rfl ⟨rfl, rfl, rfl⟩
      · rw [if_neg c30] at H
        refine J_table (off := 47) (tgt := 69) d_Bus_watched_22 (by
            rw [if_pos (by
              apply Classical.byContradiction
              intro h9
              have h8 : (p1).toInt = 3 ∨ (p1).toInt = 4 ∨ (p1).toInt = 5 := by omega
              rcases h8 with h8 | h8 | h8
              · exact c28 (j_inj (by rw [h8]; decide))
              · exact c29 (j_inj (by rw [h8]; decide))
              · exact c30 (j_inj (by rw [h8]; decide)))]) (by decide) ?_
        refine J_aload_nO d_Bus_watched_69 rfl ?_
        refine J_iload_n d_Bus_watched_70 rfl ?_
        obtain ⟨a25, ha25, H⟩ := Option.bind_eq_some_iff.mp H
        rw [j_rf ha25]
        have g26 : Γ a25 = .inr 4 := by
          apply Classical.byContradiction
          intro q9
          rw [if_neg q9] at H
          cases H
        rw [if_pos g26] at H
        obtain ⟨q27, hq27, H⟩ := Option.bind_eq_some_iff.mp H
        refine J.kk (Nat.zero_add _) (Nat.zero_add _) ?_
        refine J_callV (kc := kt q.1) (ks := 6 * kt q.1) (kc' := 0) (ks' := 0) (a := a25) (ci := 4) (as := [.int p1]) (st := []) (mf_Monitor_faultPart hw) (mv_Bus_238 hw) d_Bus_watched_71 ln_Monitor_faultPart (by decide) (by first | exact Nat.le_of_ble_eq_true rfl | (simp only [List.map_cons, List.map_nil, List.sum_cons, List.sum_nil, va_rf_cat]; exact Nat.le_of_ble_eq_true rfl)) rfl ((hG _).1 _ g26 (by decide)).1 ((hG _).1 _ g26 (by decide)).2 (by unfold pic; rw [g26]; rfl) (jcl_at hw rfl) rfl (p_Monitor_faultPart hw hG hq27) ?_ (fun E h' n' x' e1 => by cases e1.1)
        intro v9 h9 n9 x9 e9
        obtain ⟨e91, e92, e93⟩ := e9
        cases e91
        subst e92
        subst e93
        clear x
        rename Bool => x
        show J _ _ _ _ (_ :: _) _ _ _ _ _ _
        have H := Option.some.inj H
        subst H
        show J _ _ _ _ _ _ _ _ 0 0 _
        exact J_iret (st := []) d_Bus_watched_74 rfl rfl ⟨rfl, rfl, rfl⟩
theorem ln_Law_watched : (parseMethodDescriptor y_Law_watched.desc).map (fun q => q.parameters.length) = some 4 := by decide +kernel
def f_Law_watched (Γ : gm_T) (φ : ph_T) (p0 : Option Nat) (p1 : Int32) (p2 : Int32) (p3 : Option Nat) : Option (Int32 × ph_T) :=
  Option.bind p0 fun a1 =>
  @ite _ (Γ a1 = .inr 11) _ (
  bC (f_Bus_watched Γ φ a1 p1 p2) (fun E6 φ5 =>
    if E6 = "java/lang/IndexOutOfBoundsException" then
      some ((1 : Int32), φ5)
 else if E6 = "java/lang/IllegalArgumentException" then
      some ((2 : Int32), φ5)
 else none) fun v4 φ5 =>
  Option.bind p3 fun a11 =>
  Option.bind (gA Γ a11 1) fun N12 =>
  Option.bind (ix (0 : Int32) N12) fun k13 =>
  some ((0 : Int32), (uL φ5 a11 k13 (Int32.toInt64 v4)))
  ) none
set_option maxRecDepth 100000 in
set_option maxHeartbeats 4000000 in
theorem p_Law_watched {w : jw_T} (hw : jok w) {Γ : gm_T} {n : Nat} (hG : gd w Γ n) {x : Bool} {φ : ph_T} {p0 : Option Nat} {p1 : Int32} {p2 : Int32} {p3 : Option Nat} {q : Int32 × ph_T} (H : f_Law_watched Γ φ p0 p1 p2 p3 = some q) : jc w M_Law_watched [va_rf p0, .int p1, .int p2, va_rf p3] (pic Γ φ) n x 1 6 (fq Γ n (.inl (some (.int q.1))) q.2) := by
  refine jc.of (by simp only [jent_r, jent_i, jent_l, jent_a, jent_0]; exact Nat.le_of_ble_eq_true rfl) ?_
  have hls : jents [va_rf p0, .int p1, .int p2, va_rf p3] (jm_nL M_Law_watched) = [some (va_rf p0), some (.int p1), some (.int p2), some (va_rf p3), none] := by simp only [jents, jent_r, jent_i, jent_l, jent_a, jent_0]; rfl
  rw [hls]
  clear hls
  unfold f_Law_watched at H
  refine J_aload_nO d_Law_watched_0 rfl ?_
  refine J_iconst (v := 0) d_Law_watched_1 (by decide) ?_
  refine J_aload_nO d_Law_watched_2 rfl ?_
  refine J_iload_n d_Law_watched_3 rfl ?_
  refine J_iload_n d_Law_watched_4 rfl ?_
  obtain ⟨a1, ha1, H⟩ := Option.bind_eq_some_iff.mp H
  rw [j_rf ha1]
  have g2 : Γ a1 = .inr 11 := by
    apply Classical.byContradiction
    intro q9
    rw [if_neg q9] at H
    cases H
  rw [if_pos g2] at H
  rcases bC_some H with ⟨E6, φ5, hq3, H⟩ | ⟨v4, φ5, hq3, H⟩
  · refine J_callV (kc := 0) (ks := 0) (kc' := 1) (ks' := 6) (a := a1) (ci := 11) (as := [.int p1, .int p2]) (st := [.int (0 : Int32), va_rf p3]) (mf_Bus_watched hw) (mv_Law_95 hw) d_Law_watched_5 ln_Bus_watched (by decide) (by first | exact Nat.le_of_ble_eq_true rfl | (simp only [List.map_cons, List.map_nil, List.sum_cons, List.sum_nil, va_rf_cat]; exact Nat.le_of_ble_eq_true rfl)) rfl ((hG _).1 _ g2 (by decide)).1 ((hG _).1 _ g2 (by decide)).2 (by unfold pic; rw [g2]; rfl) (jcl_at hw rfl) rfl (p_Bus_watched hw hG hq3) (fun v9 h9 n9 x9 e9 => fq_nr e9) ?_
    intro E99 h9 n9 x9 e9
    obtain ⟨e91, e92, e93⟩ := e9
    have e91 := (Sum.inr.inj (show Sum.inr E99 = Sum.inr E6 from e91)).symm
    subst e91
    subst e92
    subst e93
    by_cases c8 : E6 = "java/lang/IndexOutOfBoundsException"
    · subst c8
      rw [if_pos rfl] at H
      refine JT.catch (name := "java/lang/IndexOutOfBoundsException") [] [(0, 10, 17, 21)] rfl ⟨by decide, by decide⟩ (by decide) (tb3 hw (i := 79) (by decide +kernel)) (tb3 hw (i := 90) (by decide +kernel)) (fun r9 hr9 => by cases hr9) (fun r7 => ?_)
      refine J_astore d_Law_watched_13 (Nat.le_of_ble_eq_true rfl) ?_
      refine J.ls (ls' := [some (.ref a1), some (.int p1), some (.int p2), some (va_rf p3), some (.ref r7)]) (jst1_o (i := 3) (r := p3) rfl) ?_
      refine J_iconst (v := 1) d_Law_watched_15 (by decide) ?_
      have H := Option.some.inj H
      subst H
      exact J_iret (st := []) d_Law_watched_16 rfl rfl ⟨rfl, rfl, rfl⟩
    rw [if_neg c8] at H
    by_cases c10 : E6 = "java/lang/IllegalArgumentException"
    · subst c10
      rw [if_pos rfl] at H
      refine JT.catch (name := "java/lang/IllegalArgumentException") [(0, 10, 13, 13)] [] rfl ⟨by decide, by decide⟩ (by decide) (tb3 hw (i := 176) (by decide +kernel)) (tb3 hw (i := 186) (by decide +kernel)) (fun r9 hr9 => by
          simp only [List.mem_cons, List.not_mem_nil, or_false] at hr9
          rcases hr9 with rfl
          · exact ⟨by decide, "java/lang/IndexOutOfBoundsException", tb3 hw (i := 79) (by decide +kernel), jnc_mem hw (by decide)⟩) (fun r9 => ?_)
      refine J_astore d_Law_watched_17 (Nat.le_of_ble_eq_true rfl) ?_
      refine J.ls (ls' := [some (.ref a1), some (.int p1), some (.int p2), some (va_rf p3), some (.ref r9)]) (jst1_o (i := 3) (r := p3) rfl) ?_
      refine J_iconst (v := 2) d_Law_watched_19 (by decide) ?_
      have H := Option.some.inj H
      subst H
      exact J_iret (st := []) d_Law_watched_20 rfl rfl ⟨rfl, rfl, rfl⟩
    rw [if_neg c10] at H
    cases H
  refine J.more (kc := 0) (ks := 0) (Nat.zero_le _) (Nat.zero_le _) ?_
  refine J_callV (kc := 0) (ks := 0) (kc' := 0) (ks' := 0) (a := a1) (ci := 11) (as := [.int p1, .int p2]) (st := [.int (0 : Int32), va_rf p3]) (mf_Bus_watched hw) (mv_Law_95 hw) d_Law_watched_5 ln_Bus_watched (by decide) (by first | exact Nat.le_of_ble_eq_true rfl | (simp only [List.map_cons, List.map_nil, List.sum_cons, List.sum_nil, va_rf_cat]; exact Nat.le_of_ble_eq_true rfl)) rfl ((hG _).1 _ g2 (by decide)).1 ((hG _).1 _ g2 (by decide)).2 (by unfold pic; rw [g2]; rfl) (jcl_at hw rfl) rfl (p_Bus_watched hw hG hq3) ?_ (fun E9 h9 n9 x9 e9 => fq_nt e9)
  intro v9 h9 n9 x9 e9
  obtain ⟨e91, e92, e93⟩ := e9
  have e91 := Sum.inl.inj (show Sum.inl v9 = Sum.inl (some (.int v4)) from e91)
  subst e91
  subst e92
  subst e93
  clear x
  rename Bool => x
  show J _ _ _ _ (_ :: _) _ _ _ _ _ _
  refine J_i2l d_Law_watched_8 ?_
  obtain ⟨a11, ha11, H⟩ := Option.bind_eq_some_iff.mp H
  rw [j_rf ha11]
  obtain ⟨N12, hN12, H⟩ := Option.bind_eq_some_iff.mp H
  obtain ⟨k13, hk13, H⟩ := Option.bind_eq_some_iff.mp H
  refine F_last k13 hw hG d_Law_watched_9 (gA_some hN12) (ix_some hk13) ?_
  refine J_goto (tgt := 21) d_Law_watched_10 (by decide) ?_
  refine J_iconst (v := 0) d_Law_watched_21 (by decide) ?_
  have H := Option.some.inj H
  subst H
  exact J_iret (st := []) d_Law_watched_22 rfl rfl ⟨rfl, rfl, rfl⟩
theorem ln_Bus_again : (parseMethodDescriptor y_Bus_again.desc).map (fun q => q.parameters.length) = some 1 := by decide +kernel
def f_Bus_again (Γ : gm_T) (φ : ph_T) (this : Nat) (p0 : Int32) : Option ((Unit ⊕ String) × ph_T) :=
  bT (f_Bus_needIndex Γ φ p0 (2 : Int32)) fun v2 φ3 =>
  @ite _ (Γ this = .inr 11) _ (
  Option.bind (φ3.2.2 this 6) fun a6 =>
  Option.bind (gA Γ a6 7) fun N7 =>
  Option.bind (ix p0 N7) fun k8 =>
  Option.bind (φ3.2.2 a6 k8) fun a9 =>
  @ite _ (Γ a9 = .inr 5) _ (
  Option.bind (f_Port_reset Γ φ3 a9) fun q11 =>
  some (.inl (()), q11.2)
  ) none
  ) none
set_option maxRecDepth 100000 in
set_option maxHeartbeats 4000000 in
theorem p_Bus_again {w : jw_T} (hw : jok w) {Γ : gm_T} {n : Nat} (hG : gd w Γ n) {x : Bool} {φ : ph_T} {this : Nat} {p0 : Int32} {q : (Unit ⊕ String) × ph_T} (H : f_Bus_again Γ φ this p0 = some q) : jc w M_Bus_again [.ref this, .int p0] (pic Γ φ) n x (kt q.1) (6 * kt q.1) (fq Γ n (rsV q.1) q.2) := by
  refine jc.of (by simp only [jent_r, jent_i, jent_l, jent_a, jent_0]; exact Nat.le_of_ble_eq_true rfl) ?_
  have hls : jents [.ref this, .int p0] (jm_nL M_Bus_again) = [some (.ref this), some (.int p0)] := by simp only [jents, jent_r, jent_i, jent_l, jent_a, jent_0]; rfl
  rw [hls]
  clear hls
  unfold f_Bus_again at H
  refine J_iload_n d_Bus_again_0 rfl ?_
  refine J_iconst (v := 2) d_Bus_again_1 (by decide) ?_
  rcases bT_some H with ⟨E4, φ3, hq1, H⟩ | ⟨v2, φ3, hq1, H⟩
  · subst H
    show J _ _ _ _ _ _ _ _ (1 + 0) (6 + 0) _
    refine J_callS (kc := 0) (ks := 0) (kc' := 1) (ks' := 6) (as := [.int p0, .int (2 : Int32)]) (st := []) (mf_Bus_needIndex hw) (ms_Bus_65 hw) d_Bus_again_2 ln_Bus_needIndex (by decide) (by first | exact Nat.le_of_ble_eq_true rfl | (simp only [List.map_cons, List.map_nil, List.sum_cons, List.sum_nil, va_rf_cat]; exact Nat.le_of_ble_eq_true rfl)) rfl (p_Bus_needIndex hw hG hq1) (fun v9 h9 n9 x9 e9 => fq_nr e9) ?_
    intro E99 h9 n9 x9 e9
    obtain ⟨e91, e92, e93⟩ := e9
    have e91 := (Sum.inr.inj (show Sum.inr E99 = Sum.inr E4 from e91)).symm
    subst e91
    subst e92
    subst e93
    exact JT.out rfl ⟨rfl, rfl, rfl⟩
  refine J.kk (Nat.zero_add _) (Nat.zero_add _) ?_
  refine J_callS (kc := kt q.1) (ks := 6 * kt q.1) (kc' := 0) (ks' := 0) (as := [.int p0, .int (2 : Int32)]) (st := []) (mf_Bus_needIndex hw) (ms_Bus_65 hw) d_Bus_again_2 ln_Bus_needIndex (by decide) (by first | exact Nat.le_of_ble_eq_true rfl | (simp only [List.map_cons, List.map_nil, List.sum_cons, List.sum_nil, va_rf_cat]; exact Nat.le_of_ble_eq_true rfl)) rfl (p_Bus_needIndex hw hG hq1) ?_ (fun E9 h9 n9 x9 e9 => fq_nt e9)
  intro v9 h9 n9 x9 e9
  obtain ⟨e91, e92, e93⟩ := e9
  have e91 := Sum.inl.inj (show Sum.inl v9 = Sum.inl none from e91)
  subst e91
  subst e92
  subst e93
  clear x
  rename Bool => x
  show J _ _ _ _ [] _ _ _ _ _ _
  refine J_aload_n d_Bus_again_5 rfl ?_
  have g5 : Γ this = .inr 11 := by
    apply Classical.byContradiction
    intro q9
    rw [if_neg q9] at H
    cases H
  rw [if_pos g5] at H
  refine F_getR (ci := 11) (k := 6) hG (cf_Bus hw) (fl_Bus_55 hw) (by decide) (by decide) rfl d_Bus_again_6 g5 ?_
  refine J_iload_n d_Bus_again_9 rfl ?_
  obtain ⟨a6, ha6, H⟩ := Option.bind_eq_some_iff.mp H
  rw [j_rf ha6]
  obtain ⟨N7, hN7, H⟩ := Option.bind_eq_some_iff.mp H
  obtain ⟨k8, hk8, H⟩ := Option.bind_eq_some_iff.mp H
  refine F_aald k8 hw hG (t := 7) rfl (by decide) d_Bus_again_10 (gA_some hN7) (ix_some hk8) ?_
  obtain ⟨a9, ha9, H⟩ := Option.bind_eq_some_iff.mp H
  rw [j_rf ha9]
  have g10 : Γ a9 = .inr 5 := by
    apply Classical.byContradiction
    intro q9
    rw [if_neg q9] at H
    cases H
  rw [if_pos g10] at H
  obtain ⟨q11, hq11, H⟩ := Option.bind_eq_some_iff.mp H
  refine J.kk (Nat.zero_add _) (Nat.zero_add _) ?_
  refine J_callV (kc := kt q.1) (ks := 6 * kt q.1) (kc' := 0) (ks' := 0) (a := a9) (ci := 5) (as := []) (st := []) (mf_Port_reset hw) (mv_Bus_286 hw) d_Bus_again_11 ln_Port_reset (by decide) (by first | exact Nat.le_of_ble_eq_true rfl | (simp only [List.map_cons, List.map_nil, List.sum_cons, List.sum_nil, va_rf_cat]; exact Nat.le_of_ble_eq_true rfl)) rfl ((hG _).1 _ g10 (by decide)).1 ((hG _).1 _ g10 (by decide)).2 (by unfold pic; rw [g10]; rfl) (jcl_at hw rfl) rfl (p_Port_reset hw hG hq11) ?_ (fun E h' n' x' e1 => by cases e1.1)
  intro v9 h9 n9 x9 e9
  obtain ⟨e91, e92, e93⟩ := e9
  cases e91
  subst e92
  subst e93
  clear x
  rename Bool => x
  show J _ _ _ _ [] _ _ _ _ _ _
  have H := Option.some.inj H
  subst H
  show J _ _ _ _ _ _ _ _ 0 0 _
  exact J_vret (st := []) d_Bus_again_14 rfl ⟨rfl, rfl, rfl⟩
theorem ln_Law_again : (parseMethodDescriptor y_Law_again.desc).map (fun q => q.parameters.length) = some 2 := by decide +kernel
def f_Law_again (Γ : gm_T) (φ : ph_T) (p0 : Option Nat) (p1 : Int32) : Option (Int32 × ph_T) :=
  Option.bind p0 fun a1 =>
  @ite _ (Γ a1 = .inr 11) _ (
  bC (f_Bus_again Γ φ a1 p1) (fun E6 φ5 =>
    if E6 = "java/lang/IndexOutOfBoundsException" then
      some ((1 : Int32), φ5)
 else none) fun v4 φ5 =>
  some ((0 : Int32), φ5)
  ) none
set_option maxRecDepth 100000 in
set_option maxHeartbeats 4000000 in
theorem p_Law_again {w : jw_T} (hw : jok w) {Γ : gm_T} {n : Nat} (hG : gd w Γ n) {x : Bool} {φ : ph_T} {p0 : Option Nat} {p1 : Int32} {q : Int32 × ph_T} (H : f_Law_again Γ φ p0 p1 = some q) : jc w M_Law_again [va_rf p0, .int p1] (pic Γ φ) n x 1 6 (fq Γ n (.inl (some (.int q.1))) q.2) := by
  refine jc.of (by simp only [jent_r, jent_i, jent_l, jent_a, jent_0]; exact Nat.le_of_ble_eq_true rfl) ?_
  have hls : jents [va_rf p0, .int p1] (jm_nL M_Law_again) = [some (va_rf p0), some (.int p1), none] := by simp only [jents, jent_r, jent_i, jent_l, jent_a, jent_0]; rfl
  rw [hls]
  clear hls
  unfold f_Law_again at H
  refine J_aload_nO d_Law_again_0 rfl ?_
  refine J_iload_n d_Law_again_1 rfl ?_
  obtain ⟨a1, ha1, H⟩ := Option.bind_eq_some_iff.mp H
  rw [j_rf ha1]
  have g2 : Γ a1 = .inr 11 := by
    apply Classical.byContradiction
    intro q9
    rw [if_neg q9] at H
    cases H
  rw [if_pos g2] at H
  rcases bC_some H with ⟨E6, φ5, hq3, H⟩ | ⟨v4, φ5, hq3, H⟩
  · refine J_callV (kc := 0) (ks := 0) (kc' := 1) (ks' := 6) (a := a1) (ci := 11) (as := [.int p1]) (st := []) (mf_Bus_again hw) (mv_Law_98 hw) d_Law_again_2 ln_Bus_again (by decide) (by first | exact Nat.le_of_ble_eq_true rfl | (simp only [List.map_cons, List.map_nil, List.sum_cons, List.sum_nil, va_rf_cat]; exact Nat.le_of_ble_eq_true rfl)) rfl ((hG _).1 _ g2 (by decide)).1 ((hG _).1 _ g2 (by decide)).2 (by unfold pic; rw [g2]; rfl) (jcl_at hw rfl) rfl (p_Bus_again hw hG hq3) (fun v9 h9 n9 x9 e9 => fq_nr e9) ?_
    intro E99 h9 n9 x9 e9
    obtain ⟨e91, e92, e93⟩ := e9
    have e91 := (Sum.inr.inj (show Sum.inr E99 = Sum.inr E6 from e91)).symm
    subst e91
    subst e92
    subst e93
    by_cases c8 : E6 = "java/lang/IndexOutOfBoundsException"
    · subst c8
      rw [if_pos rfl] at H
      refine JT.catch (name := "java/lang/IndexOutOfBoundsException") [] [] rfl ⟨by decide, by decide⟩ (by decide) (tb3 hw (i := 79) (by decide +kernel)) (tb3 hw (i := 90) (by decide +kernel)) (fun r9 hr9 => by cases hr9) (fun r7 => ?_)
      refine J_astore_n d_Law_again_8 (Nat.le_of_ble_eq_true rfl) ?_
      refine J.ls (ls' := [some (.ref a1), some (.int p1), some (.ref r7)]) rfl ?_
      refine J_iconst (v := 1) d_Law_again_9 (by decide) ?_
      have H := Option.some.inj H
      subst H
      exact J_iret (st := []) d_Law_again_10 rfl rfl ⟨rfl, rfl, rfl⟩
    rw [if_neg c8] at H
    cases H
  refine J.more (kc := 0) (ks := 0) (Nat.zero_le _) (Nat.zero_le _) ?_
  refine J_callV (kc := 0) (ks := 0) (kc' := 0) (ks' := 0) (a := a1) (ci := 11) (as := [.int p1]) (st := []) (mf_Bus_again hw) (mv_Law_98 hw) d_Law_again_2 ln_Bus_again (by decide) (by first | exact Nat.le_of_ble_eq_true rfl | (simp only [List.map_cons, List.map_nil, List.sum_cons, List.sum_nil, va_rf_cat]; exact Nat.le_of_ble_eq_true rfl)) rfl ((hG _).1 _ g2 (by decide)).1 ((hG _).1 _ g2 (by decide)).2 (by unfold pic; rw [g2]; rfl) (jcl_at hw rfl) rfl (p_Bus_again hw hG hq3) ?_ (fun E9 h9 n9 x9 e9 => fq_nt e9)
  intro v9 h9 n9 x9 e9
  obtain ⟨e91, e92, e93⟩ := e9
  have e91 := Sum.inl.inj (show Sum.inl v9 = Sum.inl none from e91)
  subst e91
  subst e92
  subst e93
  clear x
  rename Bool => x
  show J _ _ _ _ [] _ _ _ _ _ _
  refine J_goto (tgt := 11) d_Law_again_5 (by decide) ?_
  refine J_iconst (v := 0) d_Law_again_11 (by decide) ?_
  have H := Option.some.inj H
  subst H
  exact J_iret (st := []) d_Law_again_12 rfl rfl ⟨rfl, rfl, rfl⟩
