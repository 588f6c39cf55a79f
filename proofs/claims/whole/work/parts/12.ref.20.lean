theorem ln_Ref_freePlace : (parseMethodDescriptor y_Ref_freePlace.desc).map (fun q => q.parameters.length) = some 2 := by decide +kernel
def f_Ref_freePlace_L4 (Γ : gm_T)  : Nat → ph_T → Option Nat → Int32 → Option (Int32 × ph_T)
  | 0, _, _, _ => none
  | fu + 1, φ, x0, x2 =>
    Option.bind x0 fun a1 =>
    Option.bind (gA Γ a1 2) fun N2 =>
    Option.bind (ix x2 N2) fun k3 =>
    if (φ.1 a1 k3) = 0 then
      some (x2, φ)
    else
      (f_Ref_freePlace_L4 Γ  fu) φ (some a1) (x2 + (1 : Int32))
set_option maxRecDepth 100000 in
set_option maxHeartbeats 4000000 in
theorem p_Ref_freePlace_L4 {w : jw_T} (hw : jok w) {Γ : gm_T} {n : Nat} (hG : gd w Γ n)  : ∀ (fu : Nat) {x : Bool} {φ : ph_T} {x0 : Option Nat} {x2 : Int32} {q : Int32 × ph_T}, f_Ref_freePlace_L4 Γ  fu φ x0 x2 = some q → J w M_Ref_freePlace 4 [some (va_rf x0), none, some (.int x2)] [] (pic Γ φ) n x 0 0 (fq Γ n (.inl (some (.int q.1))) q.2) := by
  intro fu
  induction fu with
  | zero =>
    intro x φ x0 x2 q H
    cases H
  | succ fu ih =>
    intro x φ x0 x2 q H
    unfold f_Ref_freePlace_L4 at H
    refine J_aload_nO d_Ref_freePlace_4 rfl ?_
    refine J_iload_n d_Ref_freePlace_5 rfl ?_
    obtain ⟨a1, ha1, H⟩ := Option.bind_eq_some_iff.mp H
    rw [j_rf ha1]
    obtain ⟨N2, hN2, H⟩ := Option.bind_eq_some_iff.mp H
    obtain ⟨k3, hk3, H⟩ := Option.bind_eq_some_iff.mp H
    refine F_zald k3 hw hG d_Ref_freePlace_6 (gA_some hN2) (ix_some hk3) ?_
    refine J_if_eq (tgt := 16) d_Ref_freePlace_7 (by decide) ?_ ?_
    · intro c4
      rw [if_pos c4] at H
      refine J_iload_n d_Ref_freePlace_16 rfl ?_
      have H := Option.some.inj H
      subst H
      exact J_iret (st := []) d_Ref_freePlace_17 rfl rfl ⟨rfl, rfl, rfl⟩
    · intro c4
      rw [if_neg c4] at H
      refine J_iinc (v := x2 + 1) d_Ref_freePlace_10 rfl (by rw [show Int32.ofInt 1 = (1 : Int32) from by decide]) ?_
      refine J.ls (ls' := [some (.ref a1), none, some (.int (x2 + (1 : Int32)))]) rfl ?_
      refine J_goto (tgt := 4) d_Ref_freePlace_13 (by decide) ?_
      refine J.drop [true, false, true] rfl ?_
      exact ih H
def f_Ref_freePlace (Γ : gm_T) (φ : ph_T) (p0 : Option Nat) (p1 : Int32) : Option (Int32 × ph_T) :=
  f_Ref_freePlace_L4 Γ  jF φ p0 ((4 : Int32) * p1)
set_option maxRecDepth 100000 in
set_option maxHeartbeats 4000000 in
theorem p_Ref_freePlace {w : jw_T} (hw : jok w) {Γ : gm_T} {n : Nat} (hG : gd w Γ n) {x : Bool} {φ : ph_T} {p0 : Option Nat} {p1 : Int32} {q : Int32 × ph_T} (H : f_Ref_freePlace Γ φ p0 p1 = some q) : jc w M_Ref_freePlace [va_rf p0, .int p1] (pic Γ φ) n x 0 0 (fq Γ n (.inl (some (.int q.1))) q.2) := by
  refine jc.of (by simp only [jent_r, jent_i, jent_l, jent_a, jent_0]; exact Nat.le_of_ble_eq_true rfl) ?_
  have hls : jents [va_rf p0, .int p1] (jm_nL M_Ref_freePlace) = [some (va_rf p0), some (.int p1), none] := by simp only [jents, jent_r, jent_i, jent_l, jent_a, jent_0]; rfl
  rw [hls]
  clear hls
  unfold f_Ref_freePlace at H
  refine J_iconst (v := 4) d_Ref_freePlace_0 (by decide) ?_
  refine J_iload_n d_Ref_freePlace_1 rfl ?_
  refine J_imul d_Ref_freePlace_2 ?_
  refine J_istore_n d_Ref_freePlace_3 (Nat.le_of_ble_eq_true rfl) ?_
  refine J.ls (ls' := [some (va_rf p0), some (.int p1), some (.int ((4 : Int32) * p1))]) rfl ?_
  refine J.drop [true, false, true] rfl ?_
  exact p_Ref_freePlace_L4 hw hG  _ H
theorem ln_Ref_writeCame : (parseMethodDescriptor y_Ref_writeCame.desc).map (fun q => q.parameters.length) = some 2 := by decide +kernel
def f_Ref_writeCame (Γ : gm_T) (φ : ph_T) (this : Nat) (p0 : Int32) (p1 : Int64) : Option (Unit × ph_T) :=
  @ite _ (Γ this = .inr 12) _ (
  Option.bind (f_Ref_freePlace Γ φ (φ.2.2 this 60) p0) fun q2 =>
  Option.bind (q2.2.2.2 this 60) fun a3 =>
  Option.bind (gA Γ a3 2) fun N4 =>
  Option.bind (ix q2.1 N4) fun k5 =>
  @ite _ ((1 : Int32) = 0 ∨ (1 : Int32) = 1) _ (
  Option.bind (q2.2.2.2 this 58) fun a7 =>
  Option.bind (gA Γ a7 0) fun N8 =>
  Option.bind (ix p0 N8) fun k9 =>
  Option.bind (q2.2.2.2 this 59) fun a10 =>
  Option.bind (gA Γ a10 0) fun N11 =>
  Option.bind (ix (((4 : Int32) * p0) + ((uI q2.2 a3 k5 (1 : Int32)).1 a7 k9)) N11) fun k12 =>
  Option.bind (gA Γ a7 0) fun N13 =>
  Option.bind (ix p0 N13) fun k14 =>
  Option.bind (gA Γ a7 0) fun N15 =>
  Option.bind (ix p0 N15) fun k16 =>
  Option.bind (q2.2.2.2 this 61) fun a17 =>
  Option.bind (gA Γ a17 1) fun N18 =>
  Option.bind (ix q2.1 N18) fun k19 =>
  Option.bind (q2.2.2.2 this 62) fun a20 =>
  Option.bind (gA Γ a20 0) fun N21 =>
  Option.bind (ix q2.1 N21) fun k22 =>
  Option.bind (q2.2.2.2 this 63) fun a23 =>
  Option.bind (gA Γ a23 0) fun N24 =>
  Option.bind (ix q2.1 N24) fun k25 =>
  some ((), (uI (uI (uL (uI (uI (uI q2.2 a3 k5 (1 : Int32)) a10 k12 q2.1) a7 k16 (((uI (uI q2.2 a3 k5 (1 : Int32)) a10 k12 q2.1).1 a7 k14) + (1 : Int32))) a17 k19 p1) a20 k22 (0 : Int32)) a23 k25 (-1 : Int32)))
  ) none
  ) none
set_option maxRecDepth 100000 in
set_option maxHeartbeats 4000000 in
theorem p_Ref_writeCame {w : jw_T} (hw : jok w) {Γ : gm_T} {n : Nat} (hG : gd w Γ n) {x : Bool} {φ : ph_T} {this : Nat} {p0 : Int32} {p1 : Int64} {q : Unit × ph_T} (H : f_Ref_writeCame Γ φ this p0 p1 = some q) : jc w M_Ref_writeCame [.ref this, .int p0, .long p1] (pic Γ φ) n x 0 0 (fq Γ n (.inl none) q.2) := by
  refine jc.of (by simp only [jent_r, jent_i, jent_l, jent_a, jent_0]; exact Nat.le_of_ble_eq_true rfl) ?_
  have hls : jents [.ref this, .int p0, .long p1] (jm_nL M_Ref_writeCame) = [some (.ref this), some (.int p0), some (.long p1), none, none] := by simp only [jents, jent_r, jent_i, jent_l, jent_a, jent_0]; rfl
  rw [hls]
  clear hls
  unfold f_Ref_writeCame at H
  refine J_aload_n d_Ref_writeCame_0 rfl ?_
  have g1 : Γ this = .inr 12 := by
    apply Classical.byContradiction
    intro q9
    rw [if_neg q9] at H
    cases H
  rw [if_pos g1] at H
  refine F_getR (ci := 12) (k := 60) hG (cf_Ref hw) (fl_Ref_160 hw) (by decide) (by decide) rfl d_Ref_writeCame_1 g1 ?_
  refine J_iload_n d_Ref_writeCame_4 rfl ?_
  obtain ⟨q2, hq2, H⟩ := Option.bind_eq_some_iff.mp H
  refine J_callS (kc := 0) (ks := 0) (kc' := 0) (ks' := 0) (as := [va_rf (φ.2.2 this 60), .int p0]) (st := []) (mf_Ref_freePlace hw) (ms_Ref_480 hw) d_Ref_writeCame_5 ln_Ref_freePlace (by decide) (by first | exact Nat.le_of_ble_eq_true rfl | (simp only [List.map_cons, List.map_nil, List.sum_cons, List.sum_nil, va_rf_cat]; exact Nat.le_of_ble_eq_true rfl)) rfl (p_Ref_freePlace hw hG hq2) ?_ (fun E h' n' x' e1 => by cases e1.1)
  intro v9 h9 n9 x9 e9
  obtain ⟨e91, e92, e93⟩ := e9
  cases e91
  subst e92
  subst e93
  clear x
  rename Bool => x
  show J _ _ _ _ (_ :: _) _ _ _ _ _ _
  refine J_istore d_Ref_writeCame_8 (Nat.le_of_ble_eq_true rfl) ?_
  refine J.ls (ls' := [some (.ref this), some (.int p0), some (.long p1), none, some (.int q2.1)]) rfl ?_
  refine J_aload_n d_Ref_writeCame_10 rfl ?_
  refine F_getR (ci := 12) (k := 60) hG (cf_Ref hw) (fl_Ref_160 hw) (by decide) (by decide) rfl d_Ref_writeCame_11 g1 ?_
  refine J_iload d_Ref_writeCame_14 rfl ?_
  refine J_iconst (v := 1) d_Ref_writeCame_16 (by decide) ?_
  obtain ⟨a3, ha3, H⟩ := Option.bind_eq_some_iff.mp H
  rw [j_rf ha3]
  obtain ⟨N4, hN4, H⟩ := Option.bind_eq_some_iff.mp H
  obtain ⟨k5, hk5, H⟩ := Option.bind_eq_some_iff.mp H
  have z6 : (1 : Int32) = 0 ∨ (1 : Int32) = 1 := by
    apply Classical.byContradiction
    intro q9
    rw [if_neg q9] at H
    cases H
  rw [if_pos z6] at H
  refine F_zast k5 hw hG d_Ref_writeCame_17 (gA_some hN4) (ix_some hk5) z6 ?_
  refine J_aload_n d_Ref_writeCame_18 rfl ?_
  refine F_getR (ci := 12) (k := 59) hG (cf_Ref hw) (fl_Ref_157 hw) (by decide) (by decide) rfl d_Ref_writeCame_19 g1 ?_
  show J _ _ _ _ (va_rf (q2.2.2.2 this 59) :: _) _ _ _ _ _ _
  refine J_iconst (v := 4) d_Ref_writeCame_22 (by decide) ?_
  refine J_iload_n d_Ref_writeCame_23 rfl ?_
  refine J_imul d_Ref_writeCame_24 ?_
  refine J_aload_n d_Ref_writeCame_25 rfl ?_
  refine F_getR (ci := 12) (k := 58) hG (cf_Ref hw) (fl_Ref_154 hw) (by decide) (by decide) rfl d_Ref_writeCame_26 g1 ?_
  show J _ _ _ _ (va_rf (q2.2.2.2 this 58) :: _) _ _ _ _ _ _
  refine J_iload_n d_Ref_writeCame_29 rfl ?_
  obtain ⟨a7, ha7, H⟩ := Option.bind_eq_some_iff.mp H
  rw [j_rf ha7]
  obtain ⟨N8, hN8, H⟩ := Option.bind_eq_some_iff.mp H
  obtain ⟨k9, hk9, H⟩ := Option.bind_eq_some_iff.mp H
  refine F_iald k9 hw hG d_Ref_writeCame_30 (gA_some hN8) (ix_some hk9) ?_
  refine J_iadd d_Ref_writeCame_31 ?_
  refine J_iload d_Ref_writeCame_32 rfl ?_
  obtain ⟨a10, ha10, H⟩ := Option.bind_eq_some_iff.mp H
  rw [j_rf ha10]
  obtain ⟨N11, hN11, H⟩ := Option.bind_eq_some_iff.mp H
  obtain ⟨k12, hk12, H⟩ := Option.bind_eq_some_iff.mp H
  refine F_iast k12 hw hG d_Ref_writeCame_34 (gA_some hN11) (ix_some hk12) ?_
  refine J_aload_n d_Ref_writeCame_35 rfl ?_
  refine F_getR (ci := 12) (k := 58) hG (cf_Ref hw) (fl_Ref_154 hw) (by decide) (by decide) rfl d_Ref_writeCame_36 g1 ?_
  show J _ _ _ _ (va_rf (q2.2.2.2 this 58) :: _) _ _ _ _ _ _
  refine J_iload_n d_Ref_writeCame_39 rfl ?_
  refine J_dup2 d_Ref_writeCame_40 rfl (va_rf_cat _) ?_
  try rw [j_rf ha7]
  obtain ⟨N13, hN13, H⟩ := Option.bind_eq_some_iff.mp H
  obtain ⟨k14, hk14, H⟩ := Option.bind_eq_some_iff.mp H
  refine F_iald k14 hw hG d_Ref_writeCame_41 (gA_some hN13) (ix_some hk14) ?_
  refine J_iconst (v := 1) d_Ref_writeCame_42 (by decide) ?_
  refine J_iadd d_Ref_writeCame_43 ?_
  obtain ⟨N15, hN15, H⟩ := Option.bind_eq_some_iff.mp H
  obtain ⟨k16, hk16, H⟩ := Option.bind_eq_some_iff.mp H
  refine F_iast k16 hw hG d_Ref_writeCame_44 (gA_some hN15) (ix_some hk16) ?_
  refine J_aload_n d_Ref_writeCame_45 rfl ?_
  refine F_getR (ci := 12) (k := 61) hG (cf_Ref hw) (fl_Ref_163 hw) (by decide) (by decide) rfl d_Ref_writeCame_46 g1 ?_
  show J _ _ _ _ (va_rf (q2.2.2.2 this 61) :: _) _ _ _ _ _ _
  refine J_iload d_Ref_writeCame_49 rfl ?_
  refine J_lload_n d_Ref_writeCame_51 rfl ?_
  obtain ⟨a17, ha17, H⟩ := Option.bind_eq_some_iff.mp H
  rw [j_rf ha17]
  obtain ⟨N18, hN18, H⟩ := Option.bind_eq_some_iff.mp H
  obtain ⟨k19, hk19, H⟩ := Option.bind_eq_some_iff.mp H
  refine F_last k19 hw hG d_Ref_writeCame_52 (gA_some hN18) (ix_some hk19) ?_
  refine J_aload_n d_Ref_writeCame_53 rfl ?_
  refine F_getR (ci := 12) (k := 62) hG (cf_Ref hw) (fl_Ref_166 hw) (by decide) (by decide) rfl d_Ref_writeCame_54 g1 ?_
  show J _ _ _ _ (va_rf (q2.2.2.2 this 62) :: _) _ _ _ _ _ _
  refine J_iload d_Ref_writeCame_57 rfl ?_
  refine J_iconst (v := 0) d_Ref_writeCame_59 (by decide) ?_
  obtain ⟨a20, ha20, H⟩ := Option.bind_eq_some_iff.mp H
  rw [j_rf ha20]
  obtain ⟨N21, hN21, H⟩ := Option.bind_eq_some_iff.mp H
  obtain ⟨k22, hk22, H⟩ := Option.bind_eq_some_iff.mp H
  refine F_iast k22 hw hG d_Ref_writeCame_60 (gA_some hN21) (ix_some hk22) ?_
  refine J_aload_n d_Ref_writeCame_61 rfl ?_
  refine F_getR (ci := 12) (k := 63) hG (cf_Ref hw) (fl_Ref_169 hw) (by decide) (by decide) rfl d_Ref_writeCame_62 g1 ?_
  show J _ _ _ _ (va_rf (q2.2.2.2 this 63) :: _) _ _ _ _ _ _
  refine J_iload d_Ref_writeCame_65 rfl ?_
  refine J_iconst (v := -1) d_Ref_writeCame_67 (by decide) ?_
  obtain ⟨a23, ha23, H⟩ := Option.bind_eq_some_iff.mp H
  rw [j_rf ha23]
  obtain ⟨N24, hN24, H⟩ := Option.bind_eq_some_iff.mp H
  obtain ⟨k25, hk25, H⟩ := Option.bind_eq_some_iff.mp H
  refine F_iast k25 hw hG d_Ref_writeCame_68 (gA_some hN24) (ix_some hk25) ?_
  have H := Option.some.inj H
  subst H
  exact J_vret (st := []) d_Ref_writeCame_69 rfl ⟨rfl, rfl, rfl⟩
theorem ln_Ref_byteAt : (parseMethodDescriptor y_Ref_byteAt.desc).map (fun q => q.parameters.length) = some 3 := by decide +kernel
def f_Ref_byteAt (Γ : gm_T) (φ : ph_T) (p0 : Int64) (p1 : Int32) (p2 : Int32) : Option (Int32 × ph_T) :=
  Option.bind (f_Ref_beatAt Γ φ p0 p1) fun q2 =>
  @ite _ ((8 : Int32) = 0) _ none (
  some (((q2.1 - (q2.1 - q2.1 / (8 : Int32) * (8 : Int32))) + p2), q2.2)
  )
set_option maxRecDepth 100000 in
set_option maxHeartbeats 4000000 in
theorem p_Ref_byteAt {w : jw_T} (hw : jok w) {Γ : gm_T} {n : Nat} (hG : gd w Γ n) {x : Bool} {φ : ph_T} {p0 : Int64} {p1 : Int32} {p2 : Int32} {q : Int32 × ph_T} (H : f_Ref_byteAt Γ φ p0 p1 p2 = some q) : jc w M_Ref_byteAt [.long p0, .int p1, .int p2] (pic Γ φ) n x 0 0 (fq Γ n (.inl (some (.int q.1))) q.2) := by
  refine jc.of (by simp only [jent_r, jent_i, jent_l, jent_a, jent_0]; exact Nat.le_of_ble_eq_true rfl) ?_
  have hls : jents [.long p0, .int p1, .int p2] (jm_nL M_Ref_byteAt) = [some (.long p0), none, some (.int p1), some (.int p2), none] := by simp only [jents, jent_r, jent_i, jent_l, jent_a, jent_0]; rfl
  rw [hls]
  clear hls
  unfold f_Ref_byteAt at H
  refine J_lload_n d_Ref_byteAt_0 rfl ?_
  refine J_iload_n d_Ref_byteAt_1 rfl ?_
  obtain ⟨q2, hq2, H⟩ := Option.bind_eq_some_iff.mp H
  refine J_callS (kc := 0) (ks := 0) (kc' := 0) (ks' := 0) (as := [.long p0, .int p1]) (st := []) (mf_Ref_beatAt hw) (ms_Ref_366 hw) d_Ref_byteAt_2 ln_Ref_beatAt (by decide) (by first | exact Nat.le_of_ble_eq_true rfl | (simp only [List.map_cons, List.map_nil, List.sum_cons, List.sum_nil, va_rf_cat]; exact Nat.le_of_ble_eq_true rfl)) rfl (p_Ref_beatAt hw hG hq2) ?_ (fun E h' n' x' e1 => by cases e1.1)
  intro v9 h9 n9 x9 e9
  obtain ⟨e91, e92, e93⟩ := e9
  cases e91
  subst e92
  subst e93
  clear x
  rename Bool => x
  show J _ _ _ _ (_ :: _) _ _ _ _ _ _
  refine J_istore d_Ref_byteAt_5 (Nat.le_of_ble_eq_true rfl) ?_
  refine J.ls (ls' := [some (.long p0), none, some (.int p1), some (.int p2), some (.int q2.1)]) rfl ?_
  refine J_iload d_Ref_byteAt_7 rfl ?_
  refine J_iload d_Ref_byteAt_9 rfl ?_
  refine J_bipush (v := 8) d_Ref_byteAt_11 (by decide) ?_
  have h3 : ¬ (8 : Int32) = 0 := by
    intro q9
    rw [if_pos q9] at H
    cases H
  rw [if_neg h3] at H
  refine J_irem d_Ref_byteAt_13 h3 ?_
  refine J_isub d_Ref_byteAt_14 ?_
  refine J_iload_n d_Ref_byteAt_15 rfl ?_
  refine J_iadd d_Ref_byteAt_16 ?_
  have H := Option.some.inj H
  subst H
  exact J_iret (st := []) d_Ref_byteAt_17 rfl rfl ⟨rfl, rfl, rfl⟩
theorem ln_Ref_takeRights : (parseMethodDescriptor y_Ref_takeRights.desc).map (fun q => q.parameters.length) = some 2 := by decide +kernel
def f_Ref_takeRights_L60 (Γ : gm_T) (Kc5 : ph_T → Nat → Int32 → Int32 → Int32 → Option (Unit × ph_T)) (φ : ph_T) (x0 : Nat) (x1 : Int32) (x2 : Int32) (x3 : Int32) : Option (Unit × ph_T) :=
  Kc5 φ x0 x1 x2 (x3 + (1 : Int32))
set_option maxRecDepth 100000 in
set_option maxHeartbeats 4000000 in
theorem p_Ref_takeRights_L60 {w : jw_T} (hw : jok w) {Γ : gm_T} {n : Nat} (hG : gd w Γ n) {Kc5 : ph_T → Nat → Int32 → Int32 → Int32 → Option (Unit × ph_T)} (hKc5 : ∀ {x : Bool} {φ : ph_T} {x0 : Nat} {x1 : Int32} {x2 : Int32} {x3 : Int32} {q : Unit × ph_T}, Kc5 φ x0 x1 x2 x3 = some q → J w M_Ref_takeRights 5 [some (.ref x0), some (.int x1), some (.int x2), some (.int x3)] [] (pic Γ φ) n x 0 0 (fq Γ n (.inl none) q.2)) {x : Bool} {φ : ph_T} {x0 : Nat} {x1 : Int32} {x2 : Int32} {x3 : Int32} {q : Unit × ph_T} (H : f_Ref_takeRights_L60 Γ Kc5 φ x0 x1 x2 x3 = some q) : J w M_Ref_takeRights 60 [some (.ref x0), some (.int x1), some (.int x2), some (.int x3)] [] (pic Γ φ) n x 0 0 (fq Γ n (.inl none) q.2) := by
  unfold f_Ref_takeRights_L60 at H
  refine J_iinc (v := x3 + 1) d_Ref_takeRights_60 rfl (by rw [show Int32.ofInt 1 = (1 : Int32) from by decide]) ?_
  refine J.ls (ls' := [some (.ref x0), some (.int x1), some (.int x2), some (.int (x3 + (1 : Int32)))]) rfl ?_
  refine J_goto (tgt := 5) d_Ref_takeRights_63 (by decide) ?_
  refine J.drop [true, true, true, true] rfl ?_
  exact hKc5 H
def f_Ref_takeRights_L5 (Γ : gm_T)  : Nat → ph_T → Nat → Int32 → Int32 → Int32 → Option (Unit × ph_T)
  | 0, _, _, _, _, _ => none
  | fu + 1, φ, x0, x1, x2, x3 =>
    if (((64 : Int32) * x1) + (64 : Int32)) ≤ x3 then
      some ((), φ)
    else
      @ite _ (Γ x0 = .inr 12) _ (
      Option.bind (φ.2.2 x0 80) fun a2 =>
      Option.bind (gA Γ a2 0) fun N3 =>
      Option.bind (ix x3 N3) fun k4 =>
      if (φ.1 a2 k4) = (-1 : Int32) then
        f_Ref_takeRights_L60 Γ (f_Ref_takeRights_L5 Γ  fu) φ x0 x1 x2 x3
      else
        Option.bind (gA Γ a2 0) fun N5 =>
        Option.bind (ix x3 N5) fun k6 =>
        if x2 < (φ.1 a2 k6) then
          f_Ref_takeRights_L60 Γ (f_Ref_takeRights_L5 Γ  fu) φ x0 x1 x2 x3
        else
          Option.bind (gA Γ a2 0) fun N7 =>
          Option.bind (ix x3 N7) fun k8 =>
          Option.bind (φ.2.2 x0 81) fun a9 =>
          Option.bind (gA Γ a9 0) fun N10 =>
          Option.bind (ix x3 N10) fun k11 =>
          if ((φ.1 a2 k8) + (φ.1 a9 k11)) ≤ x2 then
            f_Ref_takeRights_L60 Γ (f_Ref_takeRights_L5 Γ  fu) φ x0 x1 x2 x3
          else
            Option.bind (gA Γ a2 0) fun N12 =>
            Option.bind (ix x3 N12) fun k13 =>
            f_Ref_takeRights_L60 Γ (f_Ref_takeRights_L5 Γ  fu) (uI φ a2 k13 (-1 : Int32)) x0 x1 x2 x3
      ) none
set_option maxRecDepth 100000 in
set_option maxHeartbeats 4000000 in
theorem p_Ref_takeRights_L5 {w : jw_T} (hw : jok w) {Γ : gm_T} {n : Nat} (hG : gd w Γ n)  : ∀ (fu : Nat) {x : Bool} {φ : ph_T} {x0 : Nat} {x1 : Int32} {x2 : Int32} {x3 : Int32} {q : Unit × ph_T}, f_Ref_takeRights_L5 Γ  fu φ x0 x1 x2 x3 = some q → J w M_Ref_takeRights 5 [some (.ref x0), some (.int x1), some (.int x2), some (.int x3)] [] (pic Γ φ) n x 0 0 (fq Γ n (.inl none) q.2) := by
  intro fu
  induction fu with
  | zero =>
    intro x φ x0 x1 x2 x3 q H
    cases H
  | succ fu ih =>
    intro x φ x0 x1 x2 x3 q H
    unfold f_Ref_takeRights_L5 at H
    refine J_iload_n d_Ref_takeRights_5 rfl ?_
    refine J_bipush (v := 64) d_Ref_takeRights_6 (by decide) ?_
    refine J_iload_n d_Ref_takeRights_8 rfl ?_
    refine J_imul d_Ref_takeRights_9 ?_
    refine J_bipush (v := 64) d_Ref_takeRights_10 (by decide) ?_
    refine J_iadd d_Ref_takeRights_12 ?_
    refine J_icmp_ge (tgt := 66) d_Ref_takeRights_13 (by decide) ?_ ?_
    · intro c17
      rw [if_pos c17] at H
      have H := Option.some.inj H
      subst H
      exact J_vret (st := []) d_Ref_takeRights_66 rfl ⟨rfl, rfl, rfl⟩
    · intro c17
      rw [if_neg c17] at H
      refine J_aload_n d_Ref_takeRights_16 rfl ?_
      have g1 : Γ x0 = .inr 12 := by
        apply Classical.byContradiction
        intro q9
        rw [if_neg q9] at H
        cases H
      rw [if_pos g1] at H
      refine F_getR (ci := 12) (k := 80) hG (cf_Ref hw) (fl_Ref_220 hw) (by decide) (by decide) rfl d_Ref_takeRights_17 g1 ?_
      refine J_iload_n d_Ref_takeRights_20 rfl ?_
      obtain ⟨a2, ha2, H⟩ := Option.bind_eq_some_iff.mp H
      rw [j_rf ha2]
      obtain ⟨N3, hN3, H⟩ := Option.bind_eq_some_iff.mp H
      obtain ⟨k4, hk4, H⟩ := Option.bind_eq_some_iff.mp H
      refine F_iald k4 hw hG d_Ref_takeRights_21 (gA_some hN3) (ix_some hk4) ?_
      refine J_iconst (v := -1) d_Ref_takeRights_22 (by decide) ?_
      refine J_icmp_eq (tgt := 60) d_Ref_takeRights_23 (by decide) ?_ ?_
      · intro c16
        rw [if_pos c16] at H
        refine J.drop [true, true, true, true] rfl ?_
        exact p_Ref_takeRights_L60 hw hG ih H
      · intro c16
        rw [if_neg c16] at H
        refine J_iload_n d_Ref_takeRights_26 rfl ?_
        refine J_aload_n d_Ref_takeRights_27 rfl ?_
        refine F_getR (ci := 12) (k := 80) hG (cf_Ref hw) (fl_Ref_220 hw) (by decide) (by decide) rfl d_Ref_takeRights_28 g1 ?_
        refine J_iload_n d_Ref_takeRights_31 rfl ?_
        try rw [j_rf ha2]
        obtain ⟨N5, hN5, H⟩ := Option.bind_eq_some_iff.mp H
        obtain ⟨k6, hk6, H⟩ := Option.bind_eq_some_iff.mp H
        refine F_iald k6 hw hG d_Ref_takeRights_32 (gA_some hN5) (ix_some hk6) ?_
        refine J_icmp_lt (tgt := 60) d_Ref_takeRights_33 (by decide) ?_ ?_
        · intro c15
          rw [if_pos c15] at H
          refine J.drop [true, true, true, true] rfl ?_
          exact p_Ref_takeRights_L60 hw hG ih H
        · intro c15
          rw [if_neg c15] at H
          refine J_iload_n d_Ref_takeRights_36 rfl ?_
          refine J_aload_n d_Ref_takeRights_37 rfl ?_
          refine F_getR (ci := 12) (k := 80) hG (cf_Ref hw) (fl_Ref_220 hw) (by decide) (by decide) rfl d_Ref_takeRights_38 g1 ?_
          refine J_iload_n d_Ref_takeRights_41 rfl ?_
          try rw [j_rf ha2]
          obtain ⟨N7, hN7, H⟩ := Option.bind_eq_some_iff.mp H
          obtain ⟨k8, hk8, H⟩ := Option.bind_eq_some_iff.mp H
          refine F_iald k8 hw hG d_Ref_takeRights_42 (gA_some hN7) (ix_some hk8) ?_
          refine J_aload_n d_Ref_takeRights_43 rfl ?_
          refine F_getR (ci := 12) (k := 81) hG (cf_Ref hw) (fl_Ref_223 hw) (by decide) (by decide) rfl d_Ref_takeRights_44 g1 ?_
          refine J_iload_n d_Ref_takeRights_47 rfl ?_
          obtain ⟨a9, ha9, H⟩ := Option.bind_eq_some_iff.mp H
          rw [j_rf ha9]
          obtain ⟨N10, hN10, H⟩ := Option.bind_eq_some_iff.mp H
          obtain ⟨k11, hk11, H⟩ := Option.bind_eq_some_iff.mp H
          refine F_iald k11 hw hG d_Ref_takeRights_48 (gA_some hN10) (ix_some hk11) ?_
          refine J_iadd d_Ref_takeRights_49 ?_
          refine J_icmp_ge (tgt := 60) d_Ref_takeRights_50 (by decide) ?_ ?_
          · intro c14
            rw [if_pos c14] at H
            refine J.drop [true, true, true, true] rfl ?_
            exact p_Ref_takeRights_L60 hw hG ih H
          · intro c14
            rw [if_neg c14] at H
            refine J_aload_n d_Ref_takeRights_53 rfl ?_
            refine F_getR (ci := 12) (k := 80) hG (cf_Ref hw) (fl_Ref_220 hw) (by decide) (by decide) rfl d_Ref_takeRights_54 g1 ?_
            refine J_iload_n d_Ref_takeRights_57 rfl ?_
            refine J_iconst (v := -1) d_Ref_takeRights_58 (by decide) ?_
            try rw [j_rf ha2]
            obtain ⟨N12, hN12, H⟩ := Option.bind_eq_some_iff.mp H
            obtain ⟨k13, hk13, H⟩ := Option.bind_eq_some_iff.mp H
            refine F_iast k13 hw hG d_Ref_takeRights_59 (gA_some hN12) (ix_some hk13) ?_
            refine J.drop [true, true, true, true] rfl ?_
            exact p_Ref_takeRights_L60 hw hG ih H
def f_Ref_takeRights (Γ : gm_T) (φ : ph_T) (this : Nat) (p0 : Int32) (p1 : Int32) : Option (Unit × ph_T) :=
  f_Ref_takeRights_L5 Γ  jF φ this p0 p1 ((64 : Int32) * p0)
set_option maxRecDepth 100000 in
set_option maxHeartbeats 4000000 in
theorem p_Ref_takeRights {w : jw_T} (hw : jok w) {Γ : gm_T} {n : Nat} (hG : gd w Γ n) {x : Bool} {φ : ph_T} {this : Nat} {p0 : Int32} {p1 : Int32} {q : Unit × ph_T} (H : f_Ref_takeRights Γ φ this p0 p1 = some q) : jc w M_Ref_takeRights [.ref this, .int p0, .int p1] (pic Γ φ) n x 0 0 (fq Γ n (.inl none) q.2) := by
  refine jc.of (by simp only [jent_r, jent_i, jent_l, jent_a, jent_0]; exact Nat.le_of_ble_eq_true rfl) ?_
  have hls : jents [.ref this, .int p0, .int p1] (jm_nL M_Ref_takeRights) = [some (.ref this), some (.int p0), some (.int p1), none] := by simp only [jents, jent_r, jent_i, jent_l, jent_a, jent_0]; rfl
  rw [hls]
  clear hls
  unfold f_Ref_takeRights at H
  refine J_bipush (v := 64) d_Ref_takeRights_0 (by decide) ?_
  refine J_iload_n d_Ref_takeRights_2 rfl ?_
  refine J_imul d_Ref_takeRights_3 ?_
  refine J_istore_n d_Ref_takeRights_4 (Nat.le_of_ble_eq_true rfl) ?_
  refine J.ls (ls' := [some (.ref this), some (.int p0), some (.int p1), some (.int ((64 : Int32) * p0))]) rfl ?_
  refine J.drop [true, true, true, true] rfl ?_
  exact p_Ref_takeRights_L5 hw hG  _ H
theorem ln_Ref_doWrite : (parseMethodDescriptor y_Ref_doWrite.desc).map (fun q => q.parameters.length) = some 2 := by decide +kernel
def f_Ref_doWrite_L299 (Γ : gm_T) (Kc214 : ph_T → Nat → Int32 → Int32 → Int64 → Int32 → Int32 → Option (Unit × ph_T)) (Kc224 : ph_T → Nat → Int32 → Int32 → Int64 → Int32 → Int32 → Int32 → Option (Unit × ph_T)) (φ : ph_T) (x0 : Nat) (x1 : Int32) (x2 : Int32) (x3 : Int64) (x5 : Int32) (x9 : Int32) (x10 : Int32) : Option (Unit × ph_T) :=
  Kc224 φ x0 x1 x2 x3 x5 x9 (x10 + (1 : Int32))
set_option maxRecDepth 100000 in
set_option maxHeartbeats 4000000 in
theorem p_Ref_doWrite_L299 {w : jw_T} (hw : jok w) {Γ : gm_T} {n : Nat} (hG : gd w Γ n) {Kc214 : ph_T → Nat → Int32 → Int32 → Int64 → Int32 → Int32 → Option (Unit × ph_T)} {Kc224 : ph_T → Nat → Int32 → Int32 → Int64 → Int32 → Int32 → Int32 → Option (Unit × ph_T)} (hKc214 : ∀ {x : Bool} {φ : ph_T} {x0 : Nat} {x1 : Int32} {x2 : Int32} {x3 : Int64} {x5 : Int32} {x9 : Int32} {q : Unit × ph_T}, Kc214 φ x0 x1 x2 x3 x5 x9 = some q → J w M_Ref_doWrite 214 [some (.ref x0), some (.int x1), some (.int x2), some (.long x3), none, some (.int x5), none, none, none, some (.int x9), none, none] [] (pic Γ φ) n x 0 0 (fq Γ n (.inl none) q.2)) (hKc224 : ∀ {x : Bool} {φ : ph_T} {x0 : Nat} {x1 : Int32} {x2 : Int32} {x3 : Int64} {x5 : Int32} {x9 : Int32} {x10 : Int32} {q : Unit × ph_T}, Kc224 φ x0 x1 x2 x3 x5 x9 x10 = some q → J w M_Ref_doWrite 224 [some (.ref x0), some (.int x1), some (.int x2), some (.long x3), none, some (.int x5), none, none, none, some (.int x9), some (.int x10), none] [] (pic Γ φ) n x 0 0 (fq Γ n (.inl none) q.2)) {x : Bool} {φ : ph_T} {x0 : Nat} {x1 : Int32} {x2 : Int32} {x3 : Int64} {x5 : Int32} {x9 : Int32} {x10 : Int32} {q : Unit × ph_T} (H : f_Ref_doWrite_L299 Γ Kc214 Kc224 φ x0 x1 x2 x3 x5 x9 x10 = some q) : J w M_Ref_doWrite 299 [some (.ref x0), some (.int x1), some (.int x2), some (.long x3), none, some (.int x5), none, none, none, some (.int x9), some (.int x10), none] [] (pic Γ φ) n x 0 0 (fq Γ n (.inl none) q.2) := by
  unfold f_Ref_doWrite_L299 at H
  refine J_iinc (v := x10 + 1) d_Ref_doWrite_299 rfl (by rw [show Int32.ofInt 1 = (1 : Int32) from by decide]) ?_
  refine J.ls (ls' := [some (.ref x0), some (.int x1), some (.int x2), some (.long x3), none, some (.int x5), none, none, none, some (.int x9), some (.int (x10 + (1 : Int32))), none]) rfl ?_
  refine J_goto (tgt := 224) d_Ref_doWrite_302 (by decide) ?_
  refine J.drop [true, true, true, true, false, true, false, false, false, true, true, false] rfl ?_
  exact hKc224 H
def f_Ref_doWrite_L224 (Γ : gm_T) (Kc214 : ph_T → Nat → Int32 → Int32 → Int64 → Int32 → Int32 → Option (Unit × ph_T)) : Nat → ph_T → Nat → Int32 → Int32 → Int64 → Int32 → Int32 → Int32 → Option (Unit × ph_T)
  | 0, _, _, _, _, _, _, _, _ => none
  | fu + 1, φ, x0, x1, x2, x3, x5, x9, x10 =>
    if (8 : Int32) ≤ x10 then
      Kc214 φ x0 x1 x2 x3 x5 (x9 + (1 : Int32))
    else
      @ite _ (Γ x0 = .inr 12) _ (
      Option.bind (φ.2.2 x0 66) fun a2 =>
      Option.bind (gA Γ a2 0) fun N3 =>
      Option.bind (ix (((16 : Int32) * x2) + x9) N3) fun k4 =>
      if (((φ.1 a2 k4) >>> (x10 &&& 31)) &&& (1 : Int32)) = (1 : Int32) then
        Option.bind (f_Ref_byteAt Γ φ x3 x9 x10) fun q5 =>
        Option.bind (q5.2.2.2 x0 65) fun a6 =>
        Option.bind (gA Γ a6 1) fun N7 =>
        Option.bind (ix (((16 : Int32) * x2) + x9) N7) fun k8 =>
        Option.bind (q5.2.2.2 x0 13) fun a9 =>
        Option.bind (gA Γ a9 0) fun N10 =>
        Option.bind (ix q5.1 N10) fun k11 =>
        Option.bind (f_Ref_takeRights Γ (uI q5.2 a9 k11 ((Int64.toInt32 ((q5.2.2.1 a6 k8) >>> (Int32.toInt64 ((8 : Int32) * x10) &&& 63))) &&& (255 : Int32))) x0 x1 q5.1) fun q12 =>
        f_Ref_doWrite_L299 Γ Kc214 (f_Ref_doWrite_L224 Γ Kc214 fu) q12.2 x0 x1 x2 x3 x5 x9 x10
      else
        f_Ref_doWrite_L299 Γ Kc214 (f_Ref_doWrite_L224 Γ Kc214 fu) φ x0 x1 x2 x3 x5 x9 x10
      ) none
set_option maxRecDepth 100000 in
set_option maxHeartbeats 4000000 in
theorem p_Ref_doWrite_L224 {w : jw_T} (hw : jok w) {Γ : gm_T} {n : Nat} (hG : gd w Γ n) {Kc214 : ph_T → Nat → Int32 → Int32 → Int64 → Int32 → Int32 → Option (Unit × ph_T)} (hKc214 : ∀ {x : Bool} {φ : ph_T} {x0 : Nat} {x1 : Int32} {x2 : Int32} {x3 : Int64} {x5 : Int32} {x9 : Int32} {q : Unit × ph_T}, Kc214 φ x0 x1 x2 x3 x5 x9 = some q → J w M_Ref_doWrite 214 [some (.ref x0), some (.int x1), some (.int x2), some (.long x3), none, some (.int x5), none, none, none, some (.int x9), none, none] [] (pic Γ φ) n x 0 0 (fq Γ n (.inl none) q.2)) : ∀ (fu : Nat) {x : Bool} {φ : ph_T} {x0 : Nat} {x1 : Int32} {x2 : Int32} {x3 : Int64} {x5 : Int32} {x9 : Int32} {x10 : Int32} {q : Unit × ph_T}, f_Ref_doWrite_L224 Γ Kc214 fu φ x0 x1 x2 x3 x5 x9 x10 = some q → J w M_Ref_doWrite 224 [some (.ref x0), some (.int x1), some (.int x2), some (.long x3), none, some (.int x5), none, none, none, some (.int x9), some (.int x10), none] [] (pic Γ φ) n x 0 0 (fq Γ n (.inl none) q.2) := by
  intro fu
  induction fu with
  | zero =>
    intro x φ x0 x1 x2 x3 x5 x9 x10 q H
    cases H
  | succ fu ih =>
    intro x φ x0 x1 x2 x3 x5 x9 x10 q H
    unfold f_Ref_doWrite_L224 at H
    refine J_iload d_Ref_doWrite_224 rfl ?_
    refine J_bipush (v := 8) d_Ref_doWrite_226 (by decide) ?_
    refine J_icmp_ge (tgt := 305) d_Ref_doWrite_228 (by decide) ?_ ?_
    · intro c14
      rw [if_pos c14] at H
      refine J_iinc (v := x9 + 1) d_Ref_doWrite_305 rfl (by rw [show Int32.ofInt 1 = (1 : Int32) from by decide]) ?_
      refine J.ls (ls' := [some (.ref x0), some (.int x1), some (.int x2), some (.long x3), none, some (.int x5), none, none, none, some (.int (x9 + (1 : Int32))), some (.int x10), none]) rfl ?_
      refine J_goto (tgt := 214) d_Ref_doWrite_308 (by decide) ?_
      refine J.drop [true, true, true, true, false, true, false, false, false, true, false, false] rfl ?_
      exact hKc214 H
    · intro c14
      rw [if_neg c14] at H
      refine J_aload_n d_Ref_doWrite_231 rfl ?_
      have g1 : Γ x0 = .inr 12 := by
        apply Classical.byContradiction
        intro q9
        rw [if_neg q9] at H
        cases H
      rw [if_pos g1] at H
      refine F_getR (ci := 12) (k := 66) hG (cf_Ref hw) (fl_Ref_178 hw) (by decide) (by decide) rfl d_Ref_doWrite_232 g1 ?_
      refine J_bipush (v := 16) d_Ref_doWrite_235 (by decide) ?_
      refine J_iload_n d_Ref_doWrite_237 rfl ?_
      refine J_imul d_Ref_doWrite_238 ?_
      refine J_iload d_Ref_doWrite_239 rfl ?_
      refine J_iadd d_Ref_doWrite_241 ?_
      obtain ⟨a2, ha2, H⟩ := Option.bind_eq_some_iff.mp H
      rw [j_rf ha2]
      obtain ⟨N3, hN3, H⟩ := Option.bind_eq_some_iff.mp H
      obtain ⟨k4, hk4, H⟩ := Option.bind_eq_some_iff.mp H
      refine F_iald k4 hw hG d_Ref_doWrite_242 (gA_some hN3) (ix_some hk4) ?_
      refine J_iload d_Ref_doWrite_243 rfl ?_
      refine J_ishr d_Ref_doWrite_245 ?_
      refine J_iconst (v := 1) d_Ref_doWrite_246 (by decide) ?_
      refine J_iand d_Ref_doWrite_247 ?_
      refine J_iconst (v := 1) d_Ref_doWrite_248 (by decide) ?_
      refine J_icmp_ne (tgt := 299) d_Ref_doWrite_249 (by decide) ?_ ?_
      · intro c13
        rw [if_neg c13] at H
        refine J.drop [true, true, true, true, false, true, false, false, false, true, true, false] rfl ?_
        exact p_Ref_doWrite_L299 hw hG hKc214 ih H
      · intro c13
        rw [if_pos c13] at H
        refine J_lload_n d_Ref_doWrite_252 rfl ?_
        refine J_iload d_Ref_doWrite_253 rfl ?_
        refine J_iload d_Ref_doWrite_255 rfl ?_
        obtain ⟨q5, hq5, H⟩ := Option.bind_eq_some_iff.mp H
        refine J_callS (kc := 0) (ks := 0) (kc' := 0) (ks' := 0) (as := [.long x3, .int x9, .int x10]) (st := []) (mf_Ref_byteAt hw) (ms_Ref_487 hw) d_Ref_doWrite_257 ln_Ref_byteAt (by decide) (by first | exact Nat.le_of_ble_eq_true rfl | (simp only [List.map_cons, List.map_nil, List.sum_cons, List.sum_nil, va_rf_cat]; exact Nat.le_of_ble_eq_true rfl)) rfl (p_Ref_byteAt hw hG hq5) ?_ (fun E h' n' x' e1 => by cases e1.1)
        intro v9 h9 n9 x9 e9
        obtain ⟨e91, e92, e93⟩ := e9
        cases e91
        subst e92
        subst e93
        clear x
        rename Bool => x
        show J _ _ _ _ (_ :: _) _ _ _ _ _ _
        refine J_istore d_Ref_doWrite_260 (Nat.le_of_ble_eq_true rfl) ?_
        refine J.ls (ls' := [some (.ref x0), some (.int x1), some (.int x2), some (.long x3), none, some (.int x5), none, none, none, some (.int x9), some (.int x10), some (.int q5.1)]) rfl ?_
        refine J_aload_n d_Ref_doWrite_262 rfl ?_
        refine F_getR (ci := 12) (k := 13) hG (cf_Ref hw) (fl_Ref_30 hw) (by decide) (by decide) rfl d_Ref_doWrite_263 g1 ?_
        refine J_iload d_Ref_doWrite_266 rfl ?_
        refine J_aload_n d_Ref_doWrite_268 rfl ?_
        refine F_getR (ci := 12) (k := 65) hG (cf_Ref hw) (fl_Ref_175 hw) (by decide) (by decide) rfl d_Ref_doWrite_269 g1 ?_
        refine J_bipush (v := 16) d_Ref_doWrite_272 (by decide) ?_
        refine J_iload_n d_Ref_doWrite_274 rfl ?_
        refine J_imul d_Ref_doWrite_275 ?_
        refine J_iload d_Ref_doWrite_276 rfl ?_
        refine J_iadd d_Ref_doWrite_278 ?_
        obtain ⟨a6, ha6, H⟩ := Option.bind_eq_some_iff.mp H
        rw [j_rf ha6]
        obtain ⟨N7, hN7, H⟩ := Option.bind_eq_some_iff.mp H
        obtain ⟨k8, hk8, H⟩ := Option.bind_eq_some_iff.mp H
        refine F_lald k8 hw hG d_Ref_doWrite_279 (gA_some hN7) (ix_some hk8) ?_
        refine J_bipush (v := 8) d_Ref_doWrite_280 (by decide) ?_
        refine J_iload d_Ref_doWrite_282 rfl ?_
        refine J_imul d_Ref_doWrite_284 ?_
        refine J_lshr d_Ref_doWrite_285 ?_
        refine J_l2i d_Ref_doWrite_286 ?_
        refine J_sipush (v := 255) d_Ref_doWrite_287 (by decide) ?_
        refine J_iand d_Ref_doWrite_290 ?_
        obtain ⟨a9, ha9, H⟩ := Option.bind_eq_some_iff.mp H
        rw [j_rf ha9]
        obtain ⟨N10, hN10, H⟩ := Option.bind_eq_some_iff.mp H
        obtain ⟨k11, hk11, H⟩ := Option.bind_eq_some_iff.mp H
        refine F_iast k11 hw hG d_Ref_doWrite_291 (gA_some hN10) (ix_some hk11) ?_
        refine J_aload_n d_Ref_doWrite_292 rfl ?_
        refine J_iload_n d_Ref_doWrite_293 rfl ?_
        refine J_iload d_Ref_doWrite_294 rfl ?_
        obtain ⟨q12, hq12, H⟩ := Option.bind_eq_some_iff.mp H
        refine J_callV (kc := 0) (ks := 0) (kc' := 0) (ks' := 0) (a := x0) (ci := 12) (as := [.int x1, .int q5.1]) (st := []) (mf_Ref_takeRights hw) (mv_Ref_491 hw) d_Ref_doWrite_296 ln_Ref_takeRights (by decide) (by first | exact Nat.le_of_ble_eq_true rfl | (simp only [List.map_cons, List.map_nil, List.sum_cons, List.sum_nil, va_rf_cat]; exact Nat.le_of_ble_eq_true rfl)) rfl ((hG _).1 _ g1 (by decide)).1 ((hG _).1 _ g1 (by decide)).2 (by unfold pic; rw [g1]; rfl) (jcl_at hw rfl) rfl (p_Ref_takeRights hw hG hq12) ?_ (fun E h' n' x' e1 => by cases e1.1)
        intro v9 h9 n9 x9 e9
        obtain ⟨e91, e92, e93⟩ := e9
        cases e91
        subst e92
        subst e93
        clear x
        rename Bool => x
        show J _ _ _ _ [] _ _ _ _ _ _
        refine J.drop [true, true, true, true, false, true, false, false, false, true, true, false] rfl ?_
        exact p_Ref_doWrite_L299 hw hG hKc214 ih H
def f_Ref_doWrite_L214 (Γ : gm_T)  : Nat → ph_T → Nat → Int32 → Int32 → Int64 → Int32 → Int32 → Option (Unit × ph_T)
  | 0, _, _, _, _, _, _, _ => none
  | fu + 1, φ, x0, x1, x2, x3, x5, x9 =>
    if x5 ≤ x9 then
      some ((), φ)
    else
      f_Ref_doWrite_L224 Γ (f_Ref_doWrite_L214 Γ  fu) jF φ x0 x1 x2 x3 x5 x9 (0 : Int32)
set_option maxRecDepth 100000 in
set_option maxHeartbeats 4000000 in
theorem p_Ref_doWrite_L214 {w : jw_T} (hw : jok w) {Γ : gm_T} {n : Nat} (hG : gd w Γ n)  : ∀ (fu : Nat) {x : Bool} {φ : ph_T} {x0 : Nat} {x1 : Int32} {x2 : Int32} {x3 : Int64} {x5 : Int32} {x9 : Int32} {q : Unit × ph_T}, f_Ref_doWrite_L214 Γ  fu φ x0 x1 x2 x3 x5 x9 = some q → J w M_Ref_doWrite 214 [some (.ref x0), some (.int x1), some (.int x2), some (.long x3), none, some (.int x5), none, none, none, some (.int x9), none, none] [] (pic Γ φ) n x 0 0 (fq Γ n (.inl none) q.2) := by
  intro fu
  induction fu with
  | zero =>
    intro x φ x0 x1 x2 x3 x5 x9 q H
    cases H
  | succ fu ih =>
    intro x φ x0 x1 x2 x3 x5 x9 q H
    unfold f_Ref_doWrite_L214 at H
    refine J_iload d_Ref_doWrite_214 rfl ?_
    refine J_iload d_Ref_doWrite_216 rfl ?_
    refine J_icmp_ge (tgt := 311) d_Ref_doWrite_218 (by decide) ?_ ?_
    · intro c15
      rw [if_pos c15] at H
      have H := Option.some.inj H
      subst H
      exact J_vret (st := []) d_Ref_doWrite_311 rfl ⟨rfl, rfl, rfl⟩
    · intro c15
      rw [if_neg c15] at H
      refine J_iconst (v := 0) d_Ref_doWrite_221 (by decide) ?_
      refine J_istore d_Ref_doWrite_222 (Nat.le_of_ble_eq_true rfl) ?_
      refine J.ls (ls' := [some (.ref x0), some (.int x1), some (.int x2), some (.long x3), none, some (.int x5), none, none, none, some (.int x9), some (.int (0 : Int32)), none]) rfl ?_
      refine J.drop [true, true, true, true, false, true, false, false, false, true, true, false] rfl ?_
      exact p_Ref_doWrite_L224 hw hG ih _ H
def f_Ref_doWrite_L211 (Γ : gm_T)  (φ : ph_T) (x0 : Nat) (x1 : Int32) (x2 : Int32) (x3 : Int64) (x5 : Int32) : Option (Unit × ph_T) :=
  f_Ref_doWrite_L214 Γ  jF φ x0 x1 x2 x3 x5 (0 : Int32)
set_option maxRecDepth 100000 in
set_option maxHeartbeats 4000000 in
theorem p_Ref_doWrite_L211 {w : jw_T} (hw : jok w) {Γ : gm_T} {n : Nat} (hG : gd w Γ n)  {x : Bool} {φ : ph_T} {x0 : Nat} {x1 : Int32} {x2 : Int32} {x3 : Int64} {x5 : Int32} {q : Unit × ph_T} (H : f_Ref_doWrite_L211 Γ  φ x0 x1 x2 x3 x5 = some q) : J w M_Ref_doWrite 211 [some (.ref x0), some (.int x1), some (.int x2), some (.long x3), none, some (.int x5), none, none, none, none, none, none] [] (pic Γ φ) n x 0 0 (fq Γ n (.inl none) q.2) := by
  unfold f_Ref_doWrite_L211 at H
  refine J_iconst (v := 0) d_Ref_doWrite_211 (by decide) ?_
  refine J_istore d_Ref_doWrite_212 (Nat.le_of_ble_eq_true rfl) ?_
  refine J.ls (ls' := [some (.ref x0), some (.int x1), some (.int x2), some (.long x3), none, some (.int x5), none, none, none, some (.int (0 : Int32)), none, none]) rfl ?_
  refine J.drop [true, true, true, true, false, true, false, false, false, true, false, false] rfl ?_
  exact p_Ref_doWrite_L214 hw hG  _ H
def f_Ref_doWrite_L210 (Γ : gm_T)  (φ : ph_T) : Option (Unit × ph_T) :=
  some ((), φ)
set_option maxRecDepth 100000 in
set_option maxHeartbeats 4000000 in
theorem p_Ref_doWrite_L210 {w : jw_T} (hw : jok w) {Γ : gm_T} {n : Nat} (hG : gd w Γ n)  {x : Bool} {φ : ph_T} {q : Unit × ph_T} (H : f_Ref_doWrite_L210 Γ  φ  = some q) : J w M_Ref_doWrite 210 [none, none, none, none, none, none, none, none, none, none, none, none] [] (pic Γ φ) n x 0 0 (fq Γ n (.inl none) q.2) := by
  unfold f_Ref_doWrite_L210 at H
  have H := Option.some.inj H
  subst H
  exact J_vret (st := []) d_Ref_doWrite_210 rfl ⟨rfl, rfl, rfl⟩
def f_Ref_doWrite_L192 (Γ : gm_T)  (φ : ph_T) (x0 : Nat) (x1 : Int32) (x2 : Int32) (x3 : Int64) (x5 : Int32) (x6 : Int32) (x8 : Int32) (y0 : Int32) (y1 : Int32) (y2 : Option Nat) : Option (Unit × ph_T) :=
  Option.bind y2 fun a16 =>
  Option.bind (gA Γ a16 0) fun N17 =>
  Option.bind (ix y1 N17) fun k18 =>
  if x6 = 0 then
    Option.bind (f_Ref_isAlone Γ (uI φ a16 k18 y0) x3) fun q19 =>
    if q19.1 = 0 then
      f_Ref_doWrite_L211 Γ  q19.2 x0 x1 x2 x3 x5
    else
      if x8 = 0 then
        f_Ref_doWrite_L210 Γ  q19.2 
      else
        f_Ref_doWrite_L211 Γ  q19.2 x0 x1 x2 x3 x5
  else
    f_Ref_doWrite_L210 Γ  (uI φ a16 k18 y0) 
set_option maxRecDepth 100000 in
set_option maxHeartbeats 4000000 in
theorem p_Ref_doWrite_L192 {w : jw_T} (hw : jok w) {Γ : gm_T} {n : Nat} (hG : gd w Γ n)  {x : Bool} {φ : ph_T} {x0 : Nat} {x1 : Int32} {x2 : Int32} {x3 : Int64} {x5 : Int32} {x6 : Int32} {x8 : Int32} {y0 : Int32} {y1 : Int32} {y2 : Option Nat} {q : Unit × ph_T} (H : f_Ref_doWrite_L192 Γ  φ x0 x1 x2 x3 x5 x6 x8 y0 y1 y2 = some q) : J w M_Ref_doWrite 192 [some (.ref x0), some (.int x1), some (.int x2), some (.long x3), none, some (.int x5), some (.int x6), none, some (.int x8), none, none, none] [.int y0, .int y1, va_rf y2] (pic Γ φ) n x 0 0 (fq Γ n (.inl none) q.2) := by
  unfold f_Ref_doWrite_L192 at H
  obtain ⟨a16, ha16, H⟩ := Option.bind_eq_some_iff.mp H
  rw [j_rf ha16]
  obtain ⟨N17, hN17, H⟩ := Option.bind_eq_some_iff.mp H
  obtain ⟨k18, hk18, H⟩ := Option.bind_eq_some_iff.mp H
  refine F_iast k18 hw hG d_Ref_doWrite_192 (gA_some hN17) (ix_some hk18) ?_
  refine J_iload d_Ref_doWrite_193 rfl ?_
  refine J_if_ne (tgt := 210) d_Ref_doWrite_195 (by decide) ?_ ?_
  · intro c22
    rw [if_neg c22] at H
    refine J.drop [false, false, false, false, false, false, false, false, false, false, false, false] rfl ?_
    exact p_Ref_doWrite_L210 hw hG  H
  · intro c22
    rw [if_pos c22] at H
    refine J_lload_n d_Ref_doWrite_198 rfl ?_
    obtain ⟨q19, hq19, H⟩ := Option.bind_eq_some_iff.mp H
    refine J_callS (kc := 0) (ks := 0) (kc' := 0) (ks' := 0) (as := [.long x3]) (st := []) (mf_Ref_isAlone hw) (ms_Ref_329 hw) d_Ref_doWrite_199 ln_Ref_isAlone (by decide) (by first | exact Nat.le_of_ble_eq_true rfl | (simp only [List.map_cons, List.map_nil, List.sum_cons, List.sum_nil, va_rf_cat]; exact Nat.le_of_ble_eq_true rfl)) rfl (p_Ref_isAlone hw hG hq19) ?_ (fun E h' n' x' e1 => by cases e1.1)
    intro v9 h9 n9 x9 e9
    obtain ⟨e91, e92, e93⟩ := e9
    cases e91
    subst e92
    subst e93
    clear x
    rename Bool => x
    show J _ _ _ _ (_ :: _) _ _ _ _ _ _
    refine J_if_eq (tgt := 211) d_Ref_doWrite_202 (by decide) ?_ ?_
    · intro c21
      rw [if_pos c21] at H
      refine J.drop [true, true, true, true, false, true, false, false, false, false, false, false] rfl ?_
      exact p_Ref_doWrite_L211 hw hG  H
    · intro c21
      rw [if_neg c21] at H
      refine J_iload d_Ref_doWrite_205 rfl ?_
      refine J_if_ne (tgt := 211) d_Ref_doWrite_207 (by decide) ?_ ?_
      · intro c20
        rw [if_neg c20] at H
        refine J.drop [true, true, true, true, false, true, false, false, false, false, false, false] rfl ?_
        exact p_Ref_doWrite_L211 hw hG  H
      · intro c20
        rw [if_pos c20] at H
        refine J.drop [false, false, false, false, false, false, false, false, false, false, false, false] rfl ?_
        exact p_Ref_doWrite_L210 hw hG  H
def f_Ref_doWrite_L191 (Γ : gm_T)  (φ : ph_T) (x0 : Nat) (x1 : Int32) (x2 : Int32) (x3 : Int64) (x5 : Int32) (x6 : Int32) (x8 : Int32) (y0 : Int32) (y1 : Option Nat) : Option (Unit × ph_T) :=
  f_Ref_doWrite_L192 Γ  φ x0 x1 x2 x3 x5 x6 x8 (0 : Int32) y0 y1
set_option maxRecDepth 100000 in
set_option maxHeartbeats 4000000 in
theorem p_Ref_doWrite_L191 {w : jw_T} (hw : jok w) {Γ : gm_T} {n : Nat} (hG : gd w Γ n)  {x : Bool} {φ : ph_T} {x0 : Nat} {x1 : Int32} {x2 : Int32} {x3 : Int64} {x5 : Int32} {x6 : Int32} {x8 : Int32} {y0 : Int32} {y1 : Option Nat} {q : Unit × ph_T} (H : f_Ref_doWrite_L191 Γ  φ x0 x1 x2 x3 x5 x6 x8 y0 y1 = some q) : J w M_Ref_doWrite 191 [some (.ref x0), some (.int x1), some (.int x2), some (.long x3), none, some (.int x5), some (.int x6), none, some (.int x8), none, none, none] [.int y0, va_rf y1] (pic Γ φ) n x 0 0 (fq Γ n (.inl none) q.2) := by
  unfold f_Ref_doWrite_L191 at H
  refine J_iconst (v := 0) d_Ref_doWrite_191 (by decide) ?_
  refine J.drop [true, true, true, true, false, true, true, false, true, false, false, false] rfl ?_
  exact p_Ref_doWrite_L192 hw hG  H
def f_Ref_doWrite_L161 (Γ : gm_T)  (φ : ph_T) (x0 : Nat) (x1 : Int32) (x2 : Int32) (x3 : Int64) (x5 : Int32) (x6 : Int32) (x8 : Int32) : Option (Unit × ph_T) :=
  @ite _ (Γ x0 = .inr 12) _ (
  if x6 = 0 then
    Option.bind (f_Ref_isAlone Γ φ x3) fun q24 =>
    if q24.1 = 0 then
      f_Ref_doWrite_L191 Γ  q24.2 x0 x1 x2 x3 x5 x6 x8 x2 (φ.2.2 x0 64)
    else
      if x8 = 0 then
        f_Ref_doWrite_L191 Γ  q24.2 x0 x1 x2 x3 x5 x6 x8 x2 (φ.2.2 x0 64)
      else
        f_Ref_doWrite_L192 Γ  q24.2 x0 x1 x2 x3 x5 x6 x8 (1 : Int32) x2 (φ.2.2 x0 64)
  else
    f_Ref_doWrite_L192 Γ  φ x0 x1 x2 x3 x5 x6 x8 (2 : Int32) x2 (φ.2.2 x0 64)
  ) none
set_option maxRecDepth 100000 in
set_option maxHeartbeats 4000000 in
theorem p_Ref_doWrite_L161 {w : jw_T} (hw : jok w) {Γ : gm_T} {n : Nat} (hG : gd w Γ n)  {x : Bool} {φ : ph_T} {x0 : Nat} {x1 : Int32} {x2 : Int32} {x3 : Int64} {x5 : Int32} {x6 : Int32} {x8 : Int32} {q : Unit × ph_T} (H : f_Ref_doWrite_L161 Γ  φ x0 x1 x2 x3 x5 x6 x8 = some q) : J w M_Ref_doWrite 161 [some (.ref x0), some (.int x1), some (.int x2), some (.long x3), none, some (.int x5), some (.int x6), none, some (.int x8), none, none, none] [] (pic Γ φ) n x 0 0 (fq Γ n (.inl none) q.2) := by
  unfold f_Ref_doWrite_L161 at H
  refine J_aload_n d_Ref_doWrite_161 rfl ?_
  have g23 : Γ x0 = .inr 12 := by
    apply Classical.byContradiction
    intro q9
    rw [if_neg q9] at H
    cases H
  rw [if_pos g23] at H
  refine F_getR (ci := 12) (k := 64) hG (cf_Ref hw) (fl_Ref_172 hw) (by decide) (by decide) rfl d_Ref_doWrite_162 g23 ?_
  refine J_iload_n d_Ref_doWrite_165 rfl ?_
  refine J_iload d_Ref_doWrite_166 rfl ?_
  refine J_if_eq (tgt := 175) d_Ref_doWrite_168 (by decide) ?_ ?_
  · intro c27
    rw [if_pos c27] at H
    refine J_lload_n d_Ref_doWrite_175 rfl ?_
    obtain ⟨q24, hq24, H⟩ := Option.bind_eq_some_iff.mp H
    refine J_callS (kc := 0) (ks := 0) (kc' := 0) (ks' := 0) (as := [.long x3]) (st := [.int x2, va_rf (φ.2.2 x0 64)]) (mf_Ref_isAlone hw) (ms_Ref_329 hw) d_Ref_doWrite_176 ln_Ref_isAlone (by decide) (by first | exact Nat.le_of_ble_eq_true rfl | (simp only [List.map_cons, List.map_nil, List.sum_cons, List.sum_nil, va_rf_cat]; exact Nat.le_of_ble_eq_true rfl)) rfl (p_Ref_isAlone hw hG hq24) ?_ (fun E h' n' x' e1 => by cases e1.1)
    intro v9 h9 n9 x9 e9
    obtain ⟨e91, e92, e93⟩ := e9
    cases e91
    subst e92
    subst e93
    clear x
    rename Bool => x
    show J _ _ _ _ (_ :: _) _ _ _ _ _ _
    refine J_if_eq (tgt := 191) d_Ref_doWrite_179 (by decide) ?_ ?_
    · intro c26
      rw [if_pos c26] at H
      refine J.drop [true, true, true, true, false, true, true, false, true, false, false, false] rfl ?_
      exact p_Ref_doWrite_L191 hw hG  H
    · intro c26
      rw [if_neg c26] at H
      refine J_iload d_Ref_doWrite_182 rfl ?_
      refine J_if_eq (tgt := 191) d_Ref_doWrite_184 (by decide) ?_ ?_
      · intro c25
        rw [if_pos c25] at H
        refine J.drop [true, true, true, true, false, true, true, false, true, false, false, false] rfl ?_
        exact p_Ref_doWrite_L191 hw hG  H
      · intro c25
        rw [if_neg c25] at H
        refine J_iconst (v := 1) d_Ref_doWrite_187 (by decide) ?_
        refine J_goto (tgt := 192) d_Ref_doWrite_188 (by decide) ?_
        refine J.drop [true, true, true, true, false, true, true, false, true, false, false, false] rfl ?_
        exact p_Ref_doWrite_L192 hw hG  H
  · intro c27
    rw [if_neg c27] at H
    refine J_iconst (v := 2) d_Ref_doWrite_171 (by decide) ?_
    refine J_goto (tgt := 192) d_Ref_doWrite_172 (by decide) ?_
    refine J.drop [true, true, true, true, false, true, true, false, true, false, false, false] rfl ?_
    exact p_Ref_doWrite_L192 hw hG  H
def f_Ref_doWrite_L144 (Γ : gm_T)  (φ : ph_T) (x0 : Nat) (x1 : Int32) (x2 : Int32) (x3 : Int64) (x5 : Int32) (x6 : Int32) (x7 : Int32) (y0 : Int32) : Option (Unit × ph_T) :=
  Option.bind (f_Ref_isAlone Γ φ x3) fun q28 =>
  if q28.1 = 0 then
    f_Ref_doWrite_L161 Γ  q28.2 x0 x1 x2 x3 x5 x6 y0
  else
    @ite _ (Γ x0 = .inr 12) _ (
    Option.bind (q28.2.2.2 x0 80) fun a30 =>
    Option.bind (gA Γ a30 0) fun N31 =>
    Option.bind (ix x7 N31) fun k32 =>
    f_Ref_doWrite_L161 Γ  (uI q28.2 a30 k32 (-1 : Int32)) x0 x1 x2 x3 x5 x6 y0
    ) none
set_option maxRecDepth 100000 in
set_option maxHeartbeats 4000000 in
theorem p_Ref_doWrite_L144 {w : jw_T} (hw : jok w) {Γ : gm_T} {n : Nat} (hG : gd w Γ n)  {x : Bool} {φ : ph_T} {x0 : Nat} {x1 : Int32} {x2 : Int32} {x3 : Int64} {x5 : Int32} {x6 : Int32} {x7 : Int32} {y0 : Int32} {q : Unit × ph_T} (H : f_Ref_doWrite_L144 Γ  φ x0 x1 x2 x3 x5 x6 x7 y0 = some q) : J w M_Ref_doWrite 144 [some (.ref x0), some (.int x1), some (.int x2), some (.long x3), none, some (.int x5), some (.int x6), some (.int x7), none, none, none, none] [.int y0] (pic Γ φ) n x 0 0 (fq Γ n (.inl none) q.2) := by
  unfold f_Ref_doWrite_L144 at H
  refine J_istore d_Ref_doWrite_144 (Nat.le_of_ble_eq_true rfl) ?_
  refine J.ls (ls' := [some (.ref x0), some (.int x1), some (.int x2), some (.long x3), none, some (.int x5), some (.int x6), some (.int x7), some (.int y0), none, none, none]) rfl ?_
  refine J_lload_n d_Ref_doWrite_146 rfl ?_
  obtain ⟨q28, hq28, H⟩ := Option.bind_eq_some_iff.mp H
  refine J_callS (kc := 0) (ks := 0) (kc' := 0) (ks' := 0) (as := [.long x3]) (st := []) (mf_Ref_isAlone hw) (ms_Ref_329 hw) d_Ref_doWrite_147 ln_Ref_isAlone (by decide) (by first | exact Nat.le_of_ble_eq_true rfl | (simp only [List.map_cons, List.map_nil, List.sum_cons, List.sum_nil, va_rf_cat]; exact Nat.le_of_ble_eq_true rfl)) rfl (p_Ref_isAlone hw hG hq28) ?_ (fun E h' n' x' e1 => by cases e1.1)
  intro v9 h9 n9 x9 e9
  obtain ⟨e91, e92, e93⟩ := e9
  cases e91
  subst e92
  subst e93
  clear x
  rename Bool => x
  show J _ _ _ _ (_ :: _) _ _ _ _ _ _
  refine J_if_eq (tgt := 161) d_Ref_doWrite_150 (by decide) ?_ ?_
  · intro c33
    rw [if_pos c33] at H
    refine J.drop [true, true, true, true, false, true, true, false, true, false, false, false] rfl ?_
    exact p_Ref_doWrite_L161 hw hG  H
  · intro c33
    rw [if_neg c33] at H
    refine J_aload_n d_Ref_doWrite_153 rfl ?_
    have g29 : Γ x0 = .inr 12 := by
      apply Classical.byContradiction
      intro q9
      rw [if_neg q9] at H
      cases H
    rw [if_pos g29] at H
    refine F_getR (ci := 12) (k := 80) hG (cf_Ref hw) (fl_Ref_220 hw) (by decide) (by decide) rfl d_Ref_doWrite_154 g29 ?_
    refine J_iload d_Ref_doWrite_157 rfl ?_
    refine J_iconst (v := -1) d_Ref_doWrite_159 (by decide) ?_
    obtain ⟨a30, ha30, H⟩ := Option.bind_eq_some_iff.mp H
    rw [j_rf ha30]
    obtain ⟨N31, hN31, H⟩ := Option.bind_eq_some_iff.mp H
    obtain ⟨k32, hk32, H⟩ := Option.bind_eq_some_iff.mp H
    refine F_iast k32 hw hG d_Ref_doWrite_160 (gA_some hN31) (ix_some hk32) ?_
    refine J.drop [true, true, true, true, false, true, true, false, true, false, false, false] rfl ?_
    exact p_Ref_doWrite_L161 hw hG  H
def f_Ref_doWrite_L143 (Γ : gm_T)  (φ : ph_T) (x0 : Nat) (x1 : Int32) (x2 : Int32) (x3 : Int64) (x5 : Int32) (x6 : Int32) (x7 : Int32) : Option (Unit × ph_T) :=
  f_Ref_doWrite_L144 Γ  φ x0 x1 x2 x3 x5 x6 x7 (0 : Int32)
set_option maxRecDepth 100000 in
set_option maxHeartbeats 4000000 in
theorem p_Ref_doWrite_L143 {w : jw_T} (hw : jok w) {Γ : gm_T} {n : Nat} (hG : gd w Γ n)  {x : Bool} {φ : ph_T} {x0 : Nat} {x1 : Int32} {x2 : Int32} {x3 : Int64} {x5 : Int32} {x6 : Int32} {x7 : Int32} {q : Unit × ph_T} (H : f_Ref_doWrite_L143 Γ  φ x0 x1 x2 x3 x5 x6 x7 = some q) : J w M_Ref_doWrite 143 [some (.ref x0), some (.int x1), some (.int x2), some (.long x3), none, some (.int x5), some (.int x6), some (.int x7), none, none, none, none] [] (pic Γ φ) n x 0 0 (fq Γ n (.inl none) q.2) := by
  unfold f_Ref_doWrite_L143 at H
  refine J_iconst (v := 0) d_Ref_doWrite_143 (by decide) ?_
  refine J.drop [true, true, true, true, false, true, true, true, false, false, false, false] rfl ?_
  exact p_Ref_doWrite_L144 hw hG  H
def f_Ref_doWrite_L83 (Γ : gm_T) (Kc19 : ph_T → Nat → Int32 → Int32 → Int64 → Int32 → Int32 → Int32 → Option (Unit × ph_T)) (Kc29 : ph_T → Nat → Int32 → Int32 → Int64 → Int32 → Int32 → Int32 → Int32 → Option (Unit × ph_T)) (φ : ph_T) (x0 : Nat) (x1 : Int32) (x2 : Int32) (x3 : Int64) (x5 : Int32) (x7 : Int32) (x8 : Int32) (y0 : Int32) : Option (Unit × ph_T) :=
  Kc29 φ x0 x1 x2 x3 x5 y0 x7 (x8 + (1 : Int32))
set_option maxRecDepth 100000 in
set_option maxHeartbeats 4000000 in
theorem p_Ref_doWrite_L83 {w : jw_T} (hw : jok w) {Γ : gm_T} {n : Nat} (hG : gd w Γ n) {Kc19 : ph_T → Nat → Int32 → Int32 → Int64 → Int32 → Int32 → Int32 → Option (Unit × ph_T)} {Kc29 : ph_T → Nat → Int32 → Int32 → Int64 → Int32 → Int32 → Int32 → Int32 → Option (Unit × ph_T)} (hKc19 : ∀ {x : Bool} {φ : ph_T} {x0 : Nat} {x1 : Int32} {x2 : Int32} {x3 : Int64} {x5 : Int32} {x6 : Int32} {x7 : Int32} {q : Unit × ph_T}, Kc19 φ x0 x1 x2 x3 x5 x6 x7 = some q → J w M_Ref_doWrite 19 [some (.ref x0), some (.int x1), some (.int x2), some (.long x3), none, some (.int x5), some (.int x6), some (.int x7), none, none, none, none] [] (pic Γ φ) n x 0 0 (fq Γ n (.inl none) q.2)) (hKc29 : ∀ {x : Bool} {φ : ph_T} {x0 : Nat} {x1 : Int32} {x2 : Int32} {x3 : Int64} {x5 : Int32} {x6 : Int32} {x7 : Int32} {x8 : Int32} {q : Unit × ph_T}, Kc29 φ x0 x1 x2 x3 x5 x6 x7 x8 = some q → J w M_Ref_doWrite 29 [some (.ref x0), some (.int x1), some (.int x2), some (.long x3), none, some (.int x5), some (.int x6), some (.int x7), some (.int x8), none, none, none] [] (pic Γ φ) n x 0 0 (fq Γ n (.inl none) q.2)) {x : Bool} {φ : ph_T} {x0 : Nat} {x1 : Int32} {x2 : Int32} {x3 : Int64} {x5 : Int32} {x7 : Int32} {x8 : Int32} {y0 : Int32} {q : Unit × ph_T} (H : f_Ref_doWrite_L83 Γ Kc19 Kc29 φ x0 x1 x2 x3 x5 x7 x8 y0 = some q) : J w M_Ref_doWrite 83 [some (.ref x0), some (.int x1), some (.int x2), some (.long x3), none, some (.int x5), none, some (.int x7), some (.int x8), none, none, none] [.int y0] (pic Γ φ) n x 0 0 (fq Γ n (.inl none) q.2) := by
  unfold f_Ref_doWrite_L83 at H
  refine J_istore d_Ref_doWrite_83 (Nat.le_of_ble_eq_true rfl) ?_
  refine J.ls (ls' := [some (.ref x0), some (.int x1), some (.int x2), some (.long x3), none, some (.int x5), some (.int y0), some (.int x7), some (.int x8), none, none, none]) rfl ?_
  refine J_iinc (v := x8 + 1) d_Ref_doWrite_85 rfl (by rw [show Int32.ofInt 1 = (1 : Int32) from by decide]) ?_
  refine J.ls (ls' := [some (.ref x0), some (.int x1), some (.int x2), some (.long x3), none, some (.int x5), some (.int y0), some (.int x7), some (.int (x8 + (1 : Int32))), none, none, none]) rfl ?_
  refine J_goto (tgt := 29) d_Ref_doWrite_88 (by decide) ?_
  refine J.drop [true, true, true, true, false, true, true, true, true, false, false, false] rfl ?_
  exact hKc29 H
def f_Ref_doWrite_L82 (Γ : gm_T) (Kc19 : ph_T → Nat → Int32 → Int32 → Int64 → Int32 → Int32 → Int32 → Option (Unit × ph_T)) (Kc29 : ph_T → Nat → Int32 → Int32 → Int64 → Int32 → Int32 → Int32 → Int32 → Option (Unit × ph_T)) (φ : ph_T) (x0 : Nat) (x1 : Int32) (x2 : Int32) (x3 : Int64) (x5 : Int32) (x7 : Int32) (x8 : Int32) : Option (Unit × ph_T) :=
  f_Ref_doWrite_L83 Γ Kc19 Kc29 φ x0 x1 x2 x3 x5 x7 x8 (0 : Int32)
set_option maxRecDepth 100000 in
set_option maxHeartbeats 4000000 in
theorem p_Ref_doWrite_L82 {w : jw_T} (hw : jok w) {Γ : gm_T} {n : Nat} (hG : gd w Γ n) {Kc19 : ph_T → Nat → Int32 → Int32 → Int64 → Int32 → Int32 → Int32 → Option (Unit × ph_T)} {Kc29 : ph_T → Nat → Int32 → Int32 → Int64 → Int32 → Int32 → Int32 → Int32 → Option (Unit × ph_T)} (hKc19 : ∀ {x : Bool} {φ : ph_T} {x0 : Nat} {x1 : Int32} {x2 : Int32} {x3 : Int64} {x5 : Int32} {x6 : Int32} {x7 : Int32} {q : Unit × ph_T}, Kc19 φ x0 x1 x2 x3 x5 x6 x7 = some q → J w M_Ref_doWrite 19 [some (.ref x0), some (.int x1), some (.int x2), some (.long x3), none, some (.int x5), some (.int x6), some (.int x7), none, none, none, none] [] (pic Γ φ) n x 0 0 (fq Γ n (.inl none) q.2)) (hKc29 : ∀ {x : Bool} {φ : ph_T} {x0 : Nat} {x1 : Int32} {x2 : Int32} {x3 : Int64} {x5 : Int32} {x6 : Int32} {x7 : Int32} {x8 : Int32} {q : Unit × ph_T}, Kc29 φ x0 x1 x2 x3 x5 x6 x7 x8 = some q → J w M_Ref_doWrite 29 [some (.ref x0), some (.int x1), some (.int x2), some (.long x3), none, some (.int x5), some (.int x6), some (.int x7), some (.int x8), none, none, none] [] (pic Γ φ) n x 0 0 (fq Γ n (.inl none) q.2)) {x : Bool} {φ : ph_T} {x0 : Nat} {x1 : Int32} {x2 : Int32} {x3 : Int64} {x5 : Int32} {x7 : Int32} {x8 : Int32} {q : Unit × ph_T} (H : f_Ref_doWrite_L82 Γ Kc19 Kc29 φ x0 x1 x2 x3 x5 x7 x8 = some q) : J w M_Ref_doWrite 82 [some (.ref x0), some (.int x1), some (.int x2), some (.long x3), none, some (.int x5), none, some (.int x7), some (.int x8), none, none, none] [] (pic Γ φ) n x 0 0 (fq Γ n (.inl none) q.2) := by
  unfold f_Ref_doWrite_L82 at H
  refine J_iconst (v := 0) d_Ref_doWrite_82 (by decide) ?_
  refine J.drop [true, true, true, true, false, true, false, true, true, false, false, false] rfl ?_
  exact p_Ref_doWrite_L83 hw hG hKc19 hKc29 H
def f_Ref_doWrite_L78 (Γ : gm_T) (Kc19 : ph_T → Nat → Int32 → Int32 → Int64 → Int32 → Int32 → Int32 → Option (Unit × ph_T)) (Kc29 : ph_T → Nat → Int32 → Int32 → Int64 → Int32 → Int32 → Int32 → Int32 → Option (Unit × ph_T)) (φ : ph_T) (x0 : Nat) (x1 : Int32) (x2 : Int32) (x3 : Int64) (x5 : Int32) (x7 : Int32) (x8 : Int32) : Option (Unit × ph_T) :=
  f_Ref_doWrite_L83 Γ Kc19 Kc29 φ x0 x1 x2 x3 x5 x7 x8 (1 : Int32)
set_option maxRecDepth 100000 in
set_option maxHeartbeats 4000000 in
theorem p_Ref_doWrite_L78 {w : jw_T} (hw : jok w) {Γ : gm_T} {n : Nat} (hG : gd w Γ n) {Kc19 : ph_T → Nat → Int32 → Int32 → Int64 → Int32 → Int32 → Int32 → Option (Unit × ph_T)} {Kc29 : ph_T → Nat → Int32 → Int32 → Int64 → Int32 → Int32 → Int32 → Int32 → Option (Unit × ph_T)} (hKc19 : ∀ {x : Bool} {φ : ph_T} {x0 : Nat} {x1 : Int32} {x2 : Int32} {x3 : Int64} {x5 : Int32} {x6 : Int32} {x7 : Int32} {q : Unit × ph_T}, Kc19 φ x0 x1 x2 x3 x5 x6 x7 = some q → J w M_Ref_doWrite 19 [some (.ref x0), some (.int x1), some (.int x2), some (.long x3), none, some (.int x5), some (.int x6), some (.int x7), none, none, none, none] [] (pic Γ φ) n x 0 0 (fq Γ n (.inl none) q.2)) (hKc29 : ∀ {x : Bool} {φ : ph_T} {x0 : Nat} {x1 : Int32} {x2 : Int32} {x3 : Int64} {x5 : Int32} {x6 : Int32} {x7 : Int32} {x8 : Int32} {q : Unit × ph_T}, Kc29 φ x0 x1 x2 x3 x5 x6 x7 x8 = some q → J w M_Ref_doWrite 29 [some (.ref x0), some (.int x1), some (.int x2), some (.long x3), none, some (.int x5), some (.int x6), some (.int x7), some (.int x8), none, none, none] [] (pic Γ φ) n x 0 0 (fq Γ n (.inl none) q.2)) {x : Bool} {φ : ph_T} {x0 : Nat} {x1 : Int32} {x2 : Int32} {x3 : Int64} {x5 : Int32} {x7 : Int32} {x8 : Int32} {q : Unit × ph_T} (H : f_Ref_doWrite_L78 Γ Kc19 Kc29 φ x0 x1 x2 x3 x5 x7 x8 = some q) : J w M_Ref_doWrite 78 [some (.ref x0), some (.int x1), some (.int x2), some (.long x3), none, some (.int x5), none, some (.int x7), some (.int x8), none, none, none] [] (pic Γ φ) n x 0 0 (fq Γ n (.inl none) q.2) := by
  unfold f_Ref_doWrite_L78 at H
  refine J_iconst (v := 1) d_Ref_doWrite_78 (by decide) ?_
  refine J_goto (tgt := 83) d_Ref_doWrite_79 (by decide) ?_
  refine J.drop [true, true, true, true, false, true, false, true, true, false, false, false] rfl ?_
  exact p_Ref_doWrite_L83 hw hG hKc19 hKc29 H
def f_Ref_doWrite_L29 (Γ : gm_T) (Kc19 : ph_T → Nat → Int32 → Int32 → Int64 → Int32 → Int32 → Int32 → Option (Unit × ph_T)) : Nat → ph_T → Nat → Int32 → Int32 → Int64 → Int32 → Int32 → Int32 → Int32 → Option (Unit × ph_T)
  | 0, _, _, _, _, _, _, _, _, _ => none
  | fu + 1, φ, x0, x1, x2, x3, x5, x6, x7, x8 =>
    if (8 : Int32) ≤ x8 then
      Kc19 φ x0 x1 x2 x3 x5 x6 (x7 + (1 : Int32))
    else
      if x6 = 0 then
        @ite _ (Γ x0 = .inr 12) _ (
        Option.bind (φ.2.2 x0 66) fun a35 =>
        Option.bind (gA Γ a35 0) fun N36 =>
        Option.bind (ix (((16 : Int32) * x2) + x7) N36) fun k37 =>
        if (((φ.1 a35 k37) >>> (x8 &&& 31)) &&& (1 : Int32)) = (1 : Int32) then
          Option.bind (f_Ref_byteAt Γ φ x3 x7 x8) fun q38 =>
          Option.bind (φ.2.2 x0 14) fun a39 =>
          Option.bind (gA Γ a39 2) fun N40 =>
          Option.bind (ix q38.1 N40) fun k41 =>
          if (q38.2.1 a39 k41) = 0 then
            f_Ref_doWrite_L82 Γ Kc19 (f_Ref_doWrite_L29 Γ Kc19 fu) q38.2 x0 x1 x2 x3 x5 x7 x8
          else
            f_Ref_doWrite_L78 Γ Kc19 (f_Ref_doWrite_L29 Γ Kc19 fu) q38.2 x0 x1 x2 x3 x5 x7 x8
        else
          f_Ref_doWrite_L82 Γ Kc19 (f_Ref_doWrite_L29 Γ Kc19 fu) φ x0 x1 x2 x3 x5 x7 x8
        ) none
      else
        f_Ref_doWrite_L78 Γ Kc19 (f_Ref_doWrite_L29 Γ Kc19 fu) φ x0 x1 x2 x3 x5 x7 x8
set_option maxRecDepth 100000 in
set_option maxHeartbeats 4000000 in
theorem p_Ref_doWrite_L29 {w : jw_T} (hw : jok w) {Γ : gm_T} {n : Nat} (hG : gd w Γ n) {Kc19 : ph_T → Nat → Int32 → Int32 → Int64 → Int32 → Int32 → Int32 → Option (Unit × ph_T)} (hKc19 : ∀ {x : Bool} {φ : ph_T} {x0 : Nat} {x1 : Int32} {x2 : Int32} {x3 : Int64} {x5 : Int32} {x6 : Int32} {x7 : Int32} {q : Unit × ph_T}, Kc19 φ x0 x1 x2 x3 x5 x6 x7 = some q → J w M_Ref_doWrite 19 [some (.ref x0), some (.int x1), some (.int x2), some (.long x3), none, some (.int x5), some (.int x6), some (.int x7), none, none, none, none] [] (pic Γ φ) n x 0 0 (fq Γ n (.inl none) q.2)) : ∀ (fu : Nat) {x : Bool} {φ : ph_T} {x0 : Nat} {x1 : Int32} {x2 : Int32} {x3 : Int64} {x5 : Int32} {x6 : Int32} {x7 : Int32} {x8 : Int32} {q : Unit × ph_T}, f_Ref_doWrite_L29 Γ Kc19 fu φ x0 x1 x2 x3 x5 x6 x7 x8 = some q → J w M_Ref_doWrite 29 [some (.ref x0), some (.int x1), some (.int x2), some (.long x3), none, some (.int x5), some (.int x6), some (.int x7), some (.int x8), none, none, none] [] (pic Γ φ) n x 0 0 (fq Γ n (.inl none) q.2) := by
  intro fu
  induction fu with
  | zero =>
    intro x φ x0 x1 x2 x3 x5 x6 x7 x8 q H
    cases H
  | succ fu ih =>
    intro x φ x0 x1 x2 x3 x5 x6 x7 x8 q H
    unfold f_Ref_doWrite_L29 at H
    refine J_iload d_Ref_doWrite_29 rfl ?_
    refine J_bipush (v := 8) d_Ref_doWrite_31 (by decide) ?_
    refine J_icmp_ge (tgt := 91) d_Ref_doWrite_33 (by decide) ?_ ?_
    · intro c45
      rw [if_pos c45] at H
      refine J_iinc (v := x7 + 1) d_Ref_doWrite_91 rfl (by rw [show Int32.ofInt 1 = (1 : Int32) from by decide]) ?_
      refine J.ls (ls' := [some (.ref x0), some (.int x1), some (.int x2), some (.long x3), none, some (.int x5), some (.int x6), some (.int (x7 + (1 : Int32))), some (.int x8), none, none, none]) rfl ?_
      refine J_goto (tgt := 19) d_Ref_doWrite_94 (by decide) ?_
      refine J.drop [true, true, true, true, false, true, true, true, false, false, false, false] rfl ?_
      exact hKc19 H
    · intro c45
      rw [if_neg c45] at H
      refine J_iload d_Ref_doWrite_36 rfl ?_
      refine J_if_ne (tgt := 78) d_Ref_doWrite_38 (by decide) ?_ ?_
      · intro c44
        rw [if_neg c44] at H
        refine J.drop [true, true, true, true, false, true, false, true, true, false, false, false] rfl ?_
        exact p_Ref_doWrite_L78 hw hG hKc19 ih H
      · intro c44
        rw [if_pos c44] at H
        refine J_aload_n d_Ref_doWrite_41 rfl ?_
        have g34 : Γ x0 = .inr 12 := by
          apply Classical.byContradiction
          intro q9
          rw [if_neg q9] at H
          cases H
        rw [if_pos g34] at H
        refine F_getR (ci := 12) (k := 66) hG (cf_Ref hw) (fl_Ref_178 hw) (by decide) (by decide) rfl d_Ref_doWrite_42 g34 ?_
        refine J_bipush (v := 16) d_Ref_doWrite_45 (by decide) ?_
        refine J_iload_n d_Ref_doWrite_47 rfl ?_
        refine J_imul d_Ref_doWrite_48 ?_
        refine J_iload d_Ref_doWrite_49 rfl ?_
        refine J_iadd d_Ref_doWrite_51 ?_
        obtain ⟨a35, ha35, H⟩ := Option.bind_eq_some_iff.mp H
        rw [j_rf ha35]
        obtain ⟨N36, hN36, H⟩ := Option.bind_eq_some_iff.mp H
        obtain ⟨k37, hk37, H⟩ := Option.bind_eq_some_iff.mp H
        refine F_iald k37 hw hG d_Ref_doWrite_52 (gA_some hN36) (ix_some hk37) ?_
        refine J_iload d_Ref_doWrite_53 rfl ?_
        refine J_ishr d_Ref_doWrite_55 ?_
        refine J_iconst (v := 1) d_Ref_doWrite_56 (by decide) ?_
        refine J_iand d_Ref_doWrite_57 ?_
        refine J_iconst (v := 1) d_Ref_doWrite_58 (by decide) ?_
        refine J_icmp_ne (tgt := 82) d_Ref_doWrite_59 (by decide) ?_ ?_
        · intro c43
          rw [if_neg c43] at H
          refine J.drop [true, true, true, true, false, true, false, true, true, false, false, false] rfl ?_
          exact p_Ref_doWrite_L82 hw hG hKc19 ih H
        · intro c43
          rw [if_pos c43] at H
          refine J_aload_n d_Ref_doWrite_62 rfl ?_
          refine F_getR (ci := 12) (k := 14) hG (cf_Ref hw) (fl_Ref_33 hw) (by decide) (by decide) rfl d_Ref_doWrite_63 g34 ?_
          refine J_lload_n d_Ref_doWrite_66 rfl ?_
          refine J_iload d_Ref_doWrite_67 rfl ?_
          refine J_iload d_Ref_doWrite_69 rfl ?_
          obtain ⟨q38, hq38, H⟩ := Option.bind_eq_some_iff.mp H
          refine J_callS (kc := 0) (ks := 0) (kc' := 0) (ks' := 0) (as := [.long x3, .int x7, .int x8]) (st := [va_rf (φ.2.2 x0 14)]) (mf_Ref_byteAt hw) (ms_Ref_487 hw) d_Ref_doWrite_71 ln_Ref_byteAt (by decide) (by first | exact Nat.le_of_ble_eq_true rfl | (simp only [List.map_cons, List.map_nil, List.sum_cons, List.sum_nil, va_rf_cat]; exact Nat.le_of_ble_eq_true rfl)) rfl (p_Ref_byteAt hw hG hq38) ?_ (fun E h' n' x' e1 => by cases e1.1)
          intro v9 h9 n9 x9 e9
          obtain ⟨e91, e92, e93⟩ := e9
          cases e91
          subst e92
          subst e93
          clear x
          rename Bool => x
          show J _ _ _ _ (_ :: _) _ _ _ _ _ _
          obtain ⟨a39, ha39, H⟩ := Option.bind_eq_some_iff.mp H
          rw [j_rf ha39]
          obtain ⟨N40, hN40, H⟩ := Option.bind_eq_some_iff.mp H
          obtain ⟨k41, hk41, H⟩ := Option.bind_eq_some_iff.mp H
          refine F_zald k41 hw hG d_Ref_doWrite_74 (gA_some hN40) (ix_some hk41) ?_
          refine J_if_eq (tgt := 82) d_Ref_doWrite_75 (by decide) ?_ ?_
          · intro c42
            rw [if_pos c42] at H
            refine J.drop [true, true, true, true, false, true, false, true, true, false, false, false] rfl ?_
            exact p_Ref_doWrite_L82 hw hG hKc19 ih H
          · intro c42
            rw [if_neg c42] at H
            refine J.drop [true, true, true, true, false, true, false, true, true, false, false, false] rfl ?_
            exact p_Ref_doWrite_L78 hw hG hKc19 ih H
def f_Ref_doWrite_L19 (Γ : gm_T)  : Nat → ph_T → Nat → Int32 → Int32 → Int64 → Int32 → Int32 → Int32 → Option (Unit × ph_T)
  | 0, _, _, _, _, _, _, _, _ => none
  | fu + 1, φ, x0, x1, x2, x3, x5, x6, x7 =>
    if x5 ≤ x7 then
      Option.bind (f_Ref_idOf Γ φ x3) fun q46 =>
      @ite _ (Γ x0 = .inr 12) _ (
      Option.bind (q46.2.2.2 x0 80) fun a48 =>
      Option.bind (gA Γ a48 0) fun N49 =>
      Option.bind (ix (((64 : Int32) * x1) + q46.1) N49) fun k50 =>
      Option.bind (f_Ref_addressOf Γ q46.2 x3) fun q51 =>
      if (q46.2.1 a48 k50) = q51.1 then
        Option.bind (q51.2.2.2 x0 81) fun a52 =>
        Option.bind (gA Γ a52 0) fun N53 =>
        Option.bind (ix (((64 : Int32) * x1) + q46.1) N53) fun k54 =>
        Option.bind (f_Ref_sizeOf Γ q51.2 x3) fun q55 =>
        if (q51.2.1 a52 k54) = (x5 * q55.1) then
          f_Ref_doWrite_L144 Γ  q55.2 x0 x1 x2 x3 x5 x6 (((64 : Int32) * x1) + q46.1) (1 : Int32)
        else
          f_Ref_doWrite_L143 Γ  q55.2 x0 x1 x2 x3 x5 x6 (((64 : Int32) * x1) + q46.1)
      else
        f_Ref_doWrite_L143 Γ  q51.2 x0 x1 x2 x3 x5 x6 (((64 : Int32) * x1) + q46.1)
      ) none
    else
      f_Ref_doWrite_L29 Γ (f_Ref_doWrite_L19 Γ  fu) jF φ x0 x1 x2 x3 x5 x6 x7 (0 : Int32)
set_option maxRecDepth 100000 in
set_option maxHeartbeats 4000000 in
theorem p_Ref_doWrite_L19 {w : jw_T} (hw : jok w) {Γ : gm_T} {n : Nat} (hG : gd w Γ n)  : ∀ (fu : Nat) {x : Bool} {φ : ph_T} {x0 : Nat} {x1 : Int32} {x2 : Int32} {x3 : Int64} {x5 : Int32} {x6 : Int32} {x7 : Int32} {q : Unit × ph_T}, f_Ref_doWrite_L19 Γ  fu φ x0 x1 x2 x3 x5 x6 x7 = some q → J w M_Ref_doWrite 19 [some (.ref x0), some (.int x1), some (.int x2), some (.long x3), none, some (.int x5), some (.int x6), some (.int x7), none, none, none, none] [] (pic Γ φ) n x 0 0 (fq Γ n (.inl none) q.2) := by
  intro fu
  induction fu with
  | zero =>
    intro x φ x0 x1 x2 x3 x5 x6 x7 q H
    cases H
  | succ fu ih =>
    intro x φ x0 x1 x2 x3 x5 x6 x7 q H
    unfold f_Ref_doWrite_L19 at H
    refine J_iload d_Ref_doWrite_19 rfl ?_
    refine J_iload d_Ref_doWrite_21 rfl ?_
    refine J_icmp_ge (tgt := 97) d_Ref_doWrite_23 (by decide) ?_ ?_
    · intro c58
      rw [if_pos c58] at H
      refine J_bipush (v := 64) d_Ref_doWrite_97 (by decide) ?_
      refine J_iload_n d_Ref_doWrite_99 rfl ?_
      refine J_imul d_Ref_doWrite_100 ?_
      refine J_lload_n d_Ref_doWrite_101 rfl ?_
      obtain ⟨q46, hq46, H⟩ := Option.bind_eq_some_iff.mp H
      refine J_callS (kc := 0) (ks := 0) (kc' := 0) (ks' := 0) (as := [.long x3]) (st := [.int ((64 : Int32) * x1)]) (mf_Ref_idOf hw) (ms_Ref_396 hw) d_Ref_doWrite_102 ln_Ref_idOf (by decide) (by first | exact Nat.le_of_ble_eq_true rfl | (simp only [List.map_cons, List.map_nil, List.sum_cons, List.sum_nil, va_rf_cat]; exact Nat.le_of_ble_eq_true rfl)) rfl (p_Ref_idOf hw hG hq46) ?_ (fun E h' n' x' e1 => by cases e1.1)
      intro v9 h9 n9 x9 e9
      obtain ⟨e91, e92, e93⟩ := e9
      cases e91
      subst e92
      subst e93
      clear x
      rename Bool => x
      show J _ _ _ _ (_ :: _) _ _ _ _ _ _
      refine J_iadd d_Ref_doWrite_105 ?_
      refine J_istore d_Ref_doWrite_106 (Nat.le_of_ble_eq_true rfl) ?_
      refine J.ls (ls' := [some (.ref x0), some (.int x1), some (.int x2), some (.long x3), none, some (.int x5), some (.int x6), some (.int (((64 : Int32) * x1) + q46.1)), none, none, none, none]) rfl ?_
      refine J_aload_n d_Ref_doWrite_108 rfl ?_
      have g47 : Γ x0 = .inr 12 := by
        apply Classical.byContradiction
        intro q9
        rw [if_neg q9] at H
        cases H
      rw [if_pos g47] at H
      refine F_getR (ci := 12) (k := 80) hG (cf_Ref hw) (fl_Ref_220 hw) (by decide) (by decide) rfl d_Ref_doWrite_109 g47 ?_
      refine J_iload d_Ref_doWrite_112 rfl ?_
      obtain ⟨a48, ha48, H⟩ := Option.bind_eq_some_iff.mp H
      rw [j_rf ha48]
      obtain ⟨N49, hN49, H⟩ := Option.bind_eq_some_iff.mp H
      obtain ⟨k50, hk50, H⟩ := Option.bind_eq_some_iff.mp H
      refine F_iald k50 hw hG d_Ref_doWrite_114 (gA_some hN49) (ix_some hk50) ?_
      refine J_lload_n d_Ref_doWrite_115 rfl ?_
      obtain ⟨q51, hq51, H⟩ := Option.bind_eq_some_iff.mp H
      refine J_callS (kc := 0) (ks := 0) (kc' := 0) (ks' := 0) (as := [.long x3]) (st := [.int (q46.2.1 a48 k50)]) (mf_Ref_addressOf hw) (ms_Ref_314 hw) d_Ref_doWrite_116 ln_Ref_addressOf (by decide) (by first | exact Nat.le_of_ble_eq_true rfl | (simp only [List.map_cons, List.map_nil, List.sum_cons, List.sum_nil, va_rf_cat]; exact Nat.le_of_ble_eq_true rfl)) rfl (p_Ref_addressOf hw hG hq51) ?_ (fun E h' n' x' e1 => by cases e1.1)
      intro v9 h9 n9 x9 e9
      obtain ⟨e91, e92, e93⟩ := e9
      cases e91
      subst e92
      subst e93
      clear x
      rename Bool => x
      show J _ _ _ _ (_ :: _) _ _ _ _ _ _
      refine J_icmp_ne (tgt := 143) d_Ref_doWrite_119 (by decide) ?_ ?_
      · intro c57
        rw [if_neg c57] at H
        refine J.drop [true, true, true, true, false, true, true, true, false, false, false, false] rfl ?_
        exact p_Ref_doWrite_L143 hw hG  H
      · intro c57
        rw [if_pos c57] at H
        refine J_aload_n d_Ref_doWrite_122 rfl ?_
        refine F_getR (ci := 12) (k := 81) hG (cf_Ref hw) (fl_Ref_223 hw) (by decide) (by decide) rfl d_Ref_doWrite_123 g47 ?_
        refine J_iload d_Ref_doWrite_126 rfl ?_
        obtain ⟨a52, ha52, H⟩ := Option.bind_eq_some_iff.mp H
        rw [j_rf ha52]
        obtain ⟨N53, hN53, H⟩ := Option.bind_eq_some_iff.mp H
        obtain ⟨k54, hk54, H⟩ := Option.bind_eq_some_iff.mp H
        refine F_iald k54 hw hG d_Ref_doWrite_128 (gA_some hN53) (ix_some hk54) ?_
        refine J_iload d_Ref_doWrite_129 rfl ?_
        refine J_lload_n d_Ref_doWrite_131 rfl ?_
        obtain ⟨q55, hq55, H⟩ := Option.bind_eq_some_iff.mp H
        refine J_callS (kc := 0) (ks := 0) (kc' := 0) (ks' := 0) (as := [.long x3]) (st := [.int x5, .int (q51.2.1 a52 k54)]) (mf_Ref_sizeOf hw) (ms_Ref_318 hw) d_Ref_doWrite_132 ln_Ref_sizeOf (by decide) (by first | exact Nat.le_of_ble_eq_true rfl | (simp only [List.map_cons, List.map_nil, List.sum_cons, List.sum_nil, va_rf_cat]; exact Nat.le_of_ble_eq_true rfl)) rfl (p_Ref_sizeOf hw hG hq55) ?_ (fun E h' n' x' e1 => by cases e1.1)
        intro v9 h9 n9 x9 e9
        obtain ⟨e91, e92, e93⟩ := e9
        cases e91
        subst e92
        subst e93
        clear x
        rename Bool => x
        show J _ _ _ _ (_ :: _) _ _ _ _ _ _
        refine J_imul d_Ref_doWrite_135 ?_
        refine J_icmp_ne (tgt := 143) d_Ref_doWrite_136 (by decide) ?_ ?_
        · intro c56
          rw [if_neg c56] at H
          refine J.drop [true, true, true, true, false, true, true, true, false, false, false, false] rfl ?_
          exact p_Ref_doWrite_L143 hw hG  H
        · intro c56
          rw [if_pos c56] at H
          refine J_iconst (v := 1) d_Ref_doWrite_139 (by decide) ?_
          refine J_goto (tgt := 144) d_Ref_doWrite_140 (by decide) ?_
          refine J.drop [true, true, true, true, false, true, true, true, false, false, false, false] rfl ?_
          exact p_Ref_doWrite_L144 hw hG  H
    · intro c58
      rw [if_neg c58] at H
      refine J_iconst (v := 0) d_Ref_doWrite_26 (by decide) ?_
      refine J_istore d_Ref_doWrite_27 (Nat.le_of_ble_eq_true rfl) ?_
      refine J.ls (ls' := [some (.ref x0), some (.int x1), some (.int x2), some (.long x3), none, some (.int x5), some (.int x6), some (.int x7), some (.int (0 : Int32)), none, none, none]) rfl ?_
      refine J.drop [true, true, true, true, false, true, true, true, true, false, false, false] rfl ?_
      exact p_Ref_doWrite_L29 hw hG ih _ H
def f_Ref_doWrite (Γ : gm_T) (φ : ph_T) (this : Nat) (p0 : Int32) (p1 : Int32) : Option (Unit × ph_T) :=
  @ite _ (Γ this = .inr 12) _ (
  Option.bind (φ.2.2 this 61) fun a60 =>
  Option.bind (gA Γ a60 1) fun N61 =>
  Option.bind (ix p1 N61) fun k62 =>
  Option.bind (f_Ref_lengthOf Γ φ (φ.2.1 a60 k62)) fun q63 =>
  f_Ref_doWrite_L19 Γ  jF q63.2 this p0 p1 (φ.2.1 a60 k62) q63.1 (0 : Int32) (0 : Int32)
  ) none
set_option maxRecDepth 100000 in
set_option maxHeartbeats 4000000 in
theorem p_Ref_doWrite {w : jw_T} (hw : jok w) {Γ : gm_T} {n : Nat} (hG : gd w Γ n) {x : Bool} {φ : ph_T} {this : Nat} {p0 : Int32} {p1 : Int32} {q : Unit × ph_T} (H : f_Ref_doWrite Γ φ this p0 p1 = some q) : jc w M_Ref_doWrite [.ref this, .int p0, .int p1] (pic Γ φ) n x 0 0 (fq Γ n (.inl none) q.2) := by
  refine jc.of (by simp only [jent_r, jent_i, jent_l, jent_a, jent_0]; exact Nat.le_of_ble_eq_true rfl) ?_
  have hls : jents [.ref this, .int p0, .int p1] (jm_nL M_Ref_doWrite) = [some (.ref this), some (.int p0), some (.int p1), none, none, none, none, none, none, none, none, none] := by simp only [jents, jent_r, jent_i, jent_l, jent_a, jent_0]; rfl
  rw [hls]
  clear hls
  unfold f_Ref_doWrite at H
  refine J_aload_n d_Ref_doWrite_0 rfl ?_
  have g59 : Γ this = .inr 12 := by
    apply Classical.byContradiction
    intro q9
    rw [if_neg q9] at H
    cases H
  rw [if_pos g59] at H
  refine F_getR (ci := 12) (k := 61) hG (cf_Ref hw) (fl_Ref_163 hw) (by decide) (by decide) rfl d_Ref_doWrite_1 g59 ?_
  refine J_iload_n d_Ref_doWrite_4 rfl ?_
  obtain ⟨a60, ha60, H⟩ := Option.bind_eq_some_iff.mp H
  rw [j_rf ha60]
  obtain ⟨N61, hN61, H⟩ := Option.bind_eq_some_iff.mp H
  obtain ⟨k62, hk62, H⟩ := Option.bind_eq_some_iff.mp H
  refine F_lald k62 hw hG d_Ref_doWrite_5 (gA_some hN61) (ix_some hk62) ?_
  refine J_lstore_n d_Ref_doWrite_6 (Nat.le_of_ble_eq_true rfl) ?_
  refine J.ls (ls' := [some (.ref this), some (.int p0), some (.int p1), some (.long (φ.2.1 a60 k62)), none, none, none, none, none, none, none, none]) rfl ?_
  refine J_lload_n d_Ref_doWrite_7 rfl ?_
  obtain ⟨q63, hq63, H⟩ := Option.bind_eq_some_iff.mp H
  refine J_callS (kc := 0) (ks := 0) (kc' := 0) (ks' := 0) (as := [.long (φ.2.1 a60 k62)]) (st := []) (mf_Ref_lengthOf hw) (ms_Ref_321 hw) d_Ref_doWrite_8 ln_Ref_lengthOf (by decide) (by first | exact Nat.le_of_ble_eq_true rfl | (simp only [List.map_cons, List.map_nil, List.sum_cons, List.sum_nil, va_rf_cat]; exact Nat.le_of_ble_eq_true rfl)) rfl (p_Ref_lengthOf hw hG hq63) ?_ (fun E h' n' x' e1 => by cases e1.1)
  intro v9 h9 n9 x9 e9
  obtain ⟨e91, e92, e93⟩ := e9
  cases e91
  subst e92
  subst e93
  clear x
  rename Bool => x
  show J _ _ _ _ (_ :: _) _ _ _ _ _ _
  refine J_istore d_Ref_doWrite_11 (Nat.le_of_ble_eq_true rfl) ?_
  refine J.ls (ls' := [some (.ref this), some (.int p0), some (.int p1), some (.long (φ.2.1 a60 k62)), none, some (.int q63.1), none, none, none, none, none, none]) rfl ?_
  refine J_iconst (v := 0) d_Ref_doWrite_13 (by decide) ?_
  refine J_istore d_Ref_doWrite_14 (Nat.le_of_ble_eq_true rfl) ?_
  refine J.ls (ls' := [some (.ref this), some (.int p0), some (.int p1), some (.long (φ.2.1 a60 k62)), none, some (.int q63.1), some (.int (0 : Int32)), none, none, none, none, none]) rfl ?_
  refine J_iconst (v := 0) d_Ref_doWrite_16 (by decide) ?_
  refine J_istore d_Ref_doWrite_17 (Nat.le_of_ble_eq_true rfl) ?_
  refine J.ls (ls' := [some (.ref this), some (.int p0), some (.int p1), some (.long (φ.2.1 a60 k62)), none, some (.int q63.1), some (.int (0 : Int32)), some (.int (0 : Int32)), none, none, none, none]) rfl ?_
  refine J.drop [true, true, true, true, false, true, true, true, false, false, false, false] rfl ?_
  exact p_Ref_doWrite_L19 hw hG  _ H
