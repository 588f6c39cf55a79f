theorem ln_Ref_rowOf : (parseMethodDescriptor y_Ref_rowOf.desc).map (fun q => q.parameters.length) = some 3 := by decide +kernel
def f_Ref_rowOf_L12 (Γ : gm_T)  (φ : ph_T) (x3 : Int32) (y0 : Int32) (y1 : Int32) : Option (Int32 × ph_T) :=
  some (((y1 * y0) + x3), φ)
set_option maxRecDepth 100000 in
set_option maxHeartbeats 4000000 in
theorem p_Ref_rowOf_L12 {w : jw_T} (hw : jok w) {Γ : gm_T} {n : Nat} (hG : gd w Γ n)  {x : Bool} {φ : ph_T} {x3 : Int32} {y0 : Int32} {y1 : Int32} {q : Int32 × ph_T} (H : f_Ref_rowOf_L12 Γ  φ x3 y0 y1 = some q) : J w M_Ref_rowOf 12 [none, none, none, some (.int x3)] [.int y0, .int y1] (pic Γ φ) n x 0 0 (fq Γ n (.inl (some (.int q.1))) q.2) := by
  unfold f_Ref_rowOf_L12 at H
  refine J_imul d_Ref_rowOf_12 ?_
  refine J_iload_n d_Ref_rowOf_13 rfl ?_
  refine J_iadd d_Ref_rowOf_14 ?_
  have H := Option.some.inj H
  subst H
  exact J_iret (st := []) d_Ref_rowOf_15 rfl rfl ⟨rfl, rfl, rfl⟩
def f_Ref_rowOf (Γ : gm_T) (φ : ph_T) (this : Nat) (p0 : Int32) (p1 : Int32) (p2 : Int32) : Option (Int32 × ph_T) :=
  if p0 = 0 then
    f_Ref_rowOf_L12 Γ  φ p2 p1 (5 : Int32)
  else
    f_Ref_rowOf_L12 Γ  φ p2 ((4 : Int32) + p1) (5 : Int32)
set_option maxRecDepth 100000 in
set_option maxHeartbeats 4000000 in
theorem p_Ref_rowOf {w : jw_T} (hw : jok w) {Γ : gm_T} {n : Nat} (hG : gd w Γ n) {x : Bool} {φ : ph_T} {this : Nat} {p0 : Int32} {p1 : Int32} {p2 : Int32} {q : Int32 × ph_T} (H : f_Ref_rowOf Γ φ this p0 p1 p2 = some q) : jc w M_Ref_rowOf [.ref this, .int p0, .int p1, .int p2] (pic Γ φ) n x 0 0 (fq Γ n (.inl (some (.int q.1))) q.2) := by
  refine jc.of (by simp only [jent_r, jent_i, jent_l, jent_a, jent_0]; exact Nat.le_of_ble_eq_true rfl) ?_
  have hls : jents [.ref this, .int p0, .int p1, .int p2] (jm_nL M_Ref_rowOf) = [some (.ref this), some (.int p0), some (.int p1), some (.int p2)] := by simp only [jents, jent_r, jent_i, jent_l, jent_a, jent_0]; rfl
  rw [hls]
  clear hls
  unfold f_Ref_rowOf at H
  refine J_iconst (v := 5) d_Ref_rowOf_0 (by decide) ?_
  refine J_iload_n d_Ref_rowOf_1 rfl ?_
  refine J_if_eq (tgt := 11) d_Ref_rowOf_2 (by decide) ?_ ?_
  · intro c1
    rw [if_pos c1] at H
    refine J_iload_n d_Ref_rowOf_11 rfl ?_
    refine J.drop [false, false, false, true] rfl ?_
    exact p_Ref_rowOf_L12 hw hG  H
  · intro c1
    rw [if_neg c1] at H
    refine J_iconst (v := 4) d_Ref_rowOf_5 (by decide) ?_
    refine J_iload_n d_Ref_rowOf_6 rfl ?_
    refine J_iadd d_Ref_rowOf_7 ?_
    refine J_goto (tgt := 12) d_Ref_rowOf_8 (by decide) ?_
    refine J.drop [false, false, false, true] rfl ?_
    exact p_Ref_rowOf_L12 hw hG  H
theorem ln_Ref_roomOf : (parseMethodDescriptor y_Ref_roomOf.desc).map (fun q => q.parameters.length) = some 1 := by decide +kernel
def f_Ref_roomOf_L19 (Γ : gm_T)  (φ : ph_T) (y0 : Int32) : Option (Int32 × ph_T) :=
  some (y0, φ)
set_option maxRecDepth 100000 in
set_option maxHeartbeats 4000000 in
theorem p_Ref_roomOf_L19 {w : jw_T} (hw : jok w) {Γ : gm_T} {n : Nat} (hG : gd w Γ n)  {x : Bool} {φ : ph_T} {y0 : Int32} {q : Int32 × ph_T} (H : f_Ref_roomOf_L19 Γ  φ y0 = some q) : J w M_Ref_roomOf 19 [none] [.int y0] (pic Γ φ) n x 0 0 (fq Γ n (.inl (some (.int q.1))) q.2) := by
  unfold f_Ref_roomOf_L19 at H
  have H := Option.some.inj H
  subst H
  exact J_iret (st := []) d_Ref_roomOf_19 rfl rfl ⟨rfl, rfl, rfl⟩
def f_Ref_roomOf_L14 (Γ : gm_T)  (φ : ph_T) : Option (Int32 × ph_T) :=
  f_Ref_roomOf_L19 Γ  φ (4 : Int32)
set_option maxRecDepth 100000 in
set_option maxHeartbeats 4000000 in
theorem p_Ref_roomOf_L14 {w : jw_T} (hw : jok w) {Γ : gm_T} {n : Nat} (hG : gd w Γ n)  {x : Bool} {φ : ph_T} {q : Int32 × ph_T} (H : f_Ref_roomOf_L14 Γ  φ  = some q) : J w M_Ref_roomOf 14 [none] [] (pic Γ φ) n x 0 0 (fq Γ n (.inl (some (.int q.1))) q.2) := by
  unfold f_Ref_roomOf_L14 at H
  refine J_iconst (v := 4) d_Ref_roomOf_14 (by decide) ?_
  refine J_goto (tgt := 19) d_Ref_roomOf_15 (by decide) ?_
  refine J.drop [false] rfl ?_
  exact p_Ref_roomOf_L19 hw hG  H
def f_Ref_roomOf (Γ : gm_T) (φ : ph_T) (p0 : Int32) : Option (Int32 × ph_T) :=
  @ite _ ((5 : Int32) = 0) _ none (
  if (p0 - p0 / (5 : Int32) * (5 : Int32)) = (1 : Int32) then
    f_Ref_roomOf_L14 Γ  φ 
  else
    @ite _ ((5 : Int32) = 0) _ none (
    if (p0 - p0 / (5 : Int32) * (5 : Int32)) = (4 : Int32) then
      f_Ref_roomOf_L14 Γ  φ 
    else
      f_Ref_roomOf_L19 Γ  φ (2 : Int32)
    )
  )
set_option maxRecDepth 100000 in
set_option maxHeartbeats 4000000 in
theorem p_Ref_roomOf {w : jw_T} (hw : jok w) {Γ : gm_T} {n : Nat} (hG : gd w Γ n) {x : Bool} {φ : ph_T} {p0 : Int32} {q : Int32 × ph_T} (H : f_Ref_roomOf Γ φ p0 = some q) : jc w M_Ref_roomOf [.int p0] (pic Γ φ) n x 0 0 (fq Γ n (.inl (some (.int q.1))) q.2) := by
  refine jc.of (by simp only [jent_r, jent_i, jent_l, jent_a, jent_0]; exact Nat.le_of_ble_eq_true rfl) ?_
  have hls : jents [.int p0] (jm_nL M_Ref_roomOf) = [some (.int p0)] := by simp only [jents, jent_r, jent_i, jent_l, jent_a, jent_0]; rfl
  rw [hls]
  clear hls
  unfold f_Ref_roomOf at H
  refine J_iload_n d_Ref_roomOf_0 rfl ?_
  refine J_iconst (v := 5) d_Ref_roomOf_1 (by decide) ?_
  have h3 : ¬ (5 : Int32) = 0 := by
    intro q9
    rw [if_pos q9] at H
    cases H
  rw [if_neg h3] at H
  refine J_irem d_Ref_roomOf_2 h3 ?_
  refine J_iconst (v := 1) d_Ref_roomOf_3 (by decide) ?_
  refine J_icmp_eq (tgt := 14) d_Ref_roomOf_4 (by decide) ?_ ?_
  · intro c6
    rw [if_pos c6] at H
    refine J.drop [false] rfl ?_
    exact p_Ref_roomOf_L14 hw hG  H
  · intro c6
    rw [if_neg c6] at H
    refine J_iload_n d_Ref_roomOf_7 rfl ?_
    refine J_iconst (v := 5) d_Ref_roomOf_8 (by decide) ?_
    have h4 : ¬ (5 : Int32) = 0 := by
      intro q9
      rw [if_pos q9] at H
      cases H
    rw [if_neg h4] at H
    refine J_irem d_Ref_roomOf_9 h4 ?_
    refine J_iconst (v := 4) d_Ref_roomOf_10 (by decide) ?_
    refine J_icmp_ne (tgt := 18) d_Ref_roomOf_11 (by decide) ?_ ?_
    · intro c5
      rw [if_neg c5] at H
      refine J_iconst (v := 2) d_Ref_roomOf_18 (by decide) ?_
      refine J.drop [false] rfl ?_
      exact p_Ref_roomOf_L19 hw hG  H
    · intro c5
      rw [if_pos c5] at H
      refine J.drop [false] rfl ?_
      exact p_Ref_roomOf_L14 hw hG  H
theorem ln_Ref_hasRoom : (parseMethodDescriptor y_Ref_hasRoom.desc).map (fun q => q.parameters.length) = some 1 := by decide +kernel
def f_Ref_hasRoom_L18 (Γ : gm_T)  (φ : ph_T) (y0 : Int32) : Option (Int32 × ph_T) :=
  @ite _ (y0 = 0 ∨ y0 = 1) _ (
  some (y0, φ)
  ) none
set_option maxRecDepth 100000 in
set_option maxHeartbeats 4000000 in
theorem p_Ref_hasRoom_L18 {w : jw_T} (hw : jok w) {Γ : gm_T} {n : Nat} (hG : gd w Γ n)  {x : Bool} {φ : ph_T} {y0 : Int32} {q : Int32 × ph_T} (H : f_Ref_hasRoom_L18 Γ  φ y0 = some q) : J w M_Ref_hasRoom 18 [none, none] [.int y0] (pic Γ φ) n x 0 0 (fq Γ n (.inl (some (.int q.1))) q.2) := by
  unfold f_Ref_hasRoom_L18 at H
  have z1 : y0 = 0 ∨ y0 = 1 := by
    apply Classical.byContradiction
    intro q9
    rw [if_neg q9] at H
    cases H
  rw [if_pos z1] at H
  have H := Option.some.inj H
  subst H
  exact J_iret (st := []) d_Ref_hasRoom_18 rfl (narrow_z z1).1 ⟨rfl, rfl, rfl⟩
def f_Ref_hasRoom (Γ : gm_T) (φ : ph_T) (this : Nat) (p0 : Int32) : Option (Int32 × ph_T) :=
  @ite _ (Γ this = .inr 12) _ (
  Option.bind (φ.2.2 this 42) fun a3 =>
  Option.bind (gA Γ a3 0) fun N4 =>
  Option.bind (ix p0 N4) fun k5 =>
  Option.bind (f_Ref_roomOf Γ φ p0) fun q6 =>
  if q6.1 ≤ (φ.1 a3 k5) then
    f_Ref_hasRoom_L18 Γ  q6.2 (0 : Int32)
  else
    f_Ref_hasRoom_L18 Γ  q6.2 (1 : Int32)
  ) none
set_option maxRecDepth 100000 in
set_option maxHeartbeats 4000000 in
theorem p_Ref_hasRoom {w : jw_T} (hw : jok w) {Γ : gm_T} {n : Nat} (hG : gd w Γ n) {x : Bool} {φ : ph_T} {this : Nat} {p0 : Int32} {q : Int32 × ph_T} (H : f_Ref_hasRoom Γ φ this p0 = some q) : jc w M_Ref_hasRoom [.ref this, .int p0] (pic Γ φ) n x 0 0 (fq Γ n (.inl (some (.int q.1))) q.2) := by
  refine jc.of (by simp only [jent_r, jent_i, jent_l, jent_a, jent_0]; exact Nat.le_of_ble_eq_true rfl) ?_
  have hls : jents [.ref this, .int p0] (jm_nL M_Ref_hasRoom) = [some (.ref this), some (.int p0)] := by simp only [jents, jent_r, jent_i, jent_l, jent_a, jent_0]; rfl
  rw [hls]
  clear hls
  unfold f_Ref_hasRoom at H
  refine J_aload_n d_Ref_hasRoom_0 rfl ?_
  have g2 : Γ this = .inr 12 := by
    apply Classical.byContradiction
    intro q9
    rw [if_neg q9] at H
    cases H
  rw [if_pos g2] at H
  refine F_getR (ci := 12) (k := 42) hG (cf_Ref hw) (fl_Ref_115 hw) (by decide) (by decide) rfl d_Ref_hasRoom_1 g2 ?_
  refine J_iload_n d_Ref_hasRoom_4 rfl ?_
  obtain ⟨a3, ha3, H⟩ := Option.bind_eq_some_iff.mp H
  rw [j_rf ha3]
  obtain ⟨N4, hN4, H⟩ := Option.bind_eq_some_iff.mp H
  obtain ⟨k5, hk5, H⟩ := Option.bind_eq_some_iff.mp H
  refine F_iald k5 hw hG d_Ref_hasRoom_5 (gA_some hN4) (ix_some hk5) ?_
  refine J_iload_n d_Ref_hasRoom_6 rfl ?_
  obtain ⟨q6, hq6, H⟩ := Option.bind_eq_some_iff.mp H
  refine J_callS (kc := 0) (ks := 0) (kc' := 0) (ks' := 0) (as := [.int p0]) (st := [.int (φ.1 a3 k5)]) (mf_Ref_roomOf hw) (ms_Ref_333 hw) d_Ref_hasRoom_7 ln_Ref_roomOf (by decide) (by first | exact Nat.le_of_ble_eq_true rfl | (simp only [List.map_cons, List.map_nil, List.sum_cons, List.sum_nil, va_rf_cat]; exact Nat.le_of_ble_eq_true rfl)) rfl (p_Ref_roomOf hw hG hq6) ?_ (fun E h' n' x' e1 => by cases e1.1)
  intro v9 h9 n9 x9 e9
  obtain ⟨e91, e92, e93⟩ := e9
  cases e91
  subst e92
  subst e93
  clear x
  rename Bool => x
  show J _ _ _ _ (_ :: _) _ _ _ _ _ _
  refine J_icmp_ge (tgt := 17) d_Ref_hasRoom_10 (by decide) ?_ ?_
  · intro c7
    rw [if_pos c7] at H
    refine J_iconst (v := 0) d_Ref_hasRoom_17 (by decide) ?_
    refine J.drop [false, false] rfl ?_
    exact p_Ref_hasRoom_L18 hw hG  H
  · intro c7
    rw [if_neg c7] at H
    refine J_iconst (v := 1) d_Ref_hasRoom_13 (by decide) ?_
    refine J_goto (tgt := 18) d_Ref_hasRoom_14 (by decide) ?_
    refine J.drop [false, false] rfl ?_
    exact p_Ref_hasRoom_L18 hw hG  H
theorem ln_Ref_showMaster : (parseMethodDescriptor y_Ref_showMaster.desc).map (fun q => q.parameters.length) = some 1 := by decide +kernel
def f_Ref_showMaster_L115 (Γ : gm_T) (Kc82 : ph_T → Nat → Int32 → Int32 → Option (Unit × ph_T)) (φ : ph_T) (x0 : Nat) (x1 : Int32) (x2 : Int32) (x3 : Int32) (y0 : Int32) (y1 : Int32) (y2 : Nat) : Option (Unit × ph_T) :=
  @ite _ (Γ x0 = .inr 12) _ (
  Option.bind (φ.2.2 x0 39) fun a2 =>
  Option.bind (gA Γ a2 1) fun N3 =>
  Option.bind (ix ((4 : Int32) * x3) N3) fun k4 =>
  Option.bind (φ.2.2 x0 40) fun a5 =>
  Option.bind (gA Γ a5 0) fun N6 =>
  Option.bind (ix ((4 : Int32) * x3) N6) fun k7 =>
  @ite _ (Γ y2 = .inr 12) _ (
  Option.bind (f_Ref_show Γ φ y2 y1 y0 (φ.2.1 a2 k4) (φ.1 a5 k7)) fun q9 =>
  Option.bind (q9.2.2.2 x0 8) fun a10 =>
  Option.bind (gA Γ a10 0) fun N11 =>
  Option.bind (ix (((5 : Int32) * x1) + x2) N11) fun k12 =>
  Option.bind (f_Ref_tells Γ q9.2 (q9.2.1 a10 k12) (q9.2.1 x0 6)) fun q13 =>
  Option.bind (q9.2.2.2 x0 34) fun a14 =>
  Option.bind (gA Γ a14 2) fun N15 =>
  Option.bind (ix (((5 : Int32) * x1) + x2) N15) fun k16 =>
  @ite _ (q13.1 = 0 ∨ q13.1 = 1) _ (
  Kc82 (uI q13.2 a14 k16 q13.1) x0 x1 (x2 + (2 : Int32))
  ) none
  ) none
  ) none
set_option maxRecDepth 100000 in
set_option maxHeartbeats 4000000 in
theorem p_Ref_showMaster_L115 {w : jw_T} (hw : jok w) {Γ : gm_T} {n : Nat} (hG : gd w Γ n) {Kc82 : ph_T → Nat → Int32 → Int32 → Option (Unit × ph_T)} (hKc82 : ∀ {x : Bool} {φ : ph_T} {x0 : Nat} {x1 : Int32} {x2 : Int32} {q : Unit × ph_T}, Kc82 φ x0 x1 x2 = some q → J w M_Ref_showMaster 82 [some (.ref x0), some (.int x1), some (.int x2), none] [] (pic Γ φ) n x 0 0 (fq Γ n (.inl none) q.2)) {x : Bool} {φ : ph_T} {x0 : Nat} {x1 : Int32} {x2 : Int32} {x3 : Int32} {y0 : Int32} {y1 : Int32} {y2 : Nat} {q : Unit × ph_T} (H : f_Ref_showMaster_L115 Γ Kc82 φ x0 x1 x2 x3 y0 y1 y2 = some q) : J w M_Ref_showMaster 115 [some (.ref x0), some (.int x1), some (.int x2), some (.int x3)] [.int y0, .int y1, .ref y2] (pic Γ φ) n x 0 0 (fq Γ n (.inl none) q.2) := by
  unfold f_Ref_showMaster_L115 at H
  refine J_aload_n d_Ref_showMaster_115 rfl ?_
  have g1 : Γ x0 = .inr 12 := by
    apply Classical.byContradiction
    intro q9
    rw [if_neg q9] at H
    cases H
  rw [if_pos g1] at H
  refine F_getR (ci := 12) (k := 39) hG (cf_Ref hw) (fl_Ref_106 hw) (by decide) (by decide) rfl d_Ref_showMaster_116 g1 ?_
  refine J_iconst (v := 4) d_Ref_showMaster_119 (by decide) ?_
  refine J_iload_n d_Ref_showMaster_120 rfl ?_
  refine J_imul d_Ref_showMaster_121 ?_
  obtain ⟨a2, ha2, H⟩ := Option.bind_eq_some_iff.mp H
  rw [j_rf ha2]
  obtain ⟨N3, hN3, H⟩ := Option.bind_eq_some_iff.mp H
  obtain ⟨k4, hk4, H⟩ := Option.bind_eq_some_iff.mp H
  refine F_lald k4 hw hG d_Ref_showMaster_122 (gA_some hN3) (ix_some hk4) ?_
  refine J_aload_n d_Ref_showMaster_123 rfl ?_
  refine F_getR (ci := 12) (k := 40) hG (cf_Ref hw) (fl_Ref_109 hw) (by decide) (by decide) rfl d_Ref_showMaster_124 g1 ?_
  refine J_iconst (v := 4) d_Ref_showMaster_127 (by decide) ?_
  refine J_iload_n d_Ref_showMaster_128 rfl ?_
  refine J_imul d_Ref_showMaster_129 ?_
  obtain ⟨a5, ha5, H⟩ := Option.bind_eq_some_iff.mp H
  rw [j_rf ha5]
  obtain ⟨N6, hN6, H⟩ := Option.bind_eq_some_iff.mp H
  obtain ⟨k7, hk7, H⟩ := Option.bind_eq_some_iff.mp H
  refine F_iald k7 hw hG d_Ref_showMaster_130 (gA_some hN6) (ix_some hk7) ?_
  have g8 : Γ y2 = .inr 12 := by
    apply Classical.byContradiction
    intro q9
    rw [if_neg q9] at H
    cases H
  rw [if_pos g8] at H
  obtain ⟨q9, hq9, H⟩ := Option.bind_eq_some_iff.mp H
  refine J_callV (kc := 0) (ks := 0) (kc' := 0) (ks' := 0) (a := y2) (ci := 12) (as := [.int y1, .int y0, .long (φ.2.1 a2 k4), .int (φ.1 a5 k7)]) (st := []) (mf_Ref_show hw) (mv_Ref_359 hw) d_Ref_showMaster_131 ln_Ref_show (by decide) (by first | exact Nat.le_of_ble_eq_true rfl | (simp only [List.map_cons, List.map_nil, List.sum_cons, List.sum_nil, va_rf_cat]; exact Nat.le_of_ble_eq_true rfl)) rfl ((hG _).1 _ g8 (by decide)).1 ((hG _).1 _ g8 (by decide)).2 (by unfold pic; rw [g8]; rfl) (jcl_at hw rfl) rfl (p_Ref_show hw hG hq9) ?_ (fun E h' n' x' e1 => by cases e1.1)
  intro v9 h9 n9 x9 e9
  obtain ⟨e91, e92, e93⟩ := e9
  cases e91
  subst e92
  subst e93
  clear x
  rename Bool => x
  show J _ _ _ _ [] _ _ _ _ _ _
  refine J_aload_n d_Ref_showMaster_134 rfl ?_
  refine F_getR (ci := 12) (k := 34) hG (cf_Ref hw) (fl_Ref_91 hw) (by decide) (by decide) rfl d_Ref_showMaster_135 g1 ?_
  refine J_iconst (v := 5) d_Ref_showMaster_138 (by decide) ?_
  refine J_iload_n d_Ref_showMaster_139 rfl ?_
  refine J_imul d_Ref_showMaster_140 ?_
  refine J_iload_n d_Ref_showMaster_141 rfl ?_
  refine J_iadd d_Ref_showMaster_142 ?_
  refine J_aload_n d_Ref_showMaster_143 rfl ?_
  refine F_getR (ci := 12) (k := 8) hG (cf_Ref hw) (fl_Ref_13 hw) (by decide) (by decide) rfl d_Ref_showMaster_144 g1 ?_
  refine J_iconst (v := 5) d_Ref_showMaster_147 (by decide) ?_
  refine J_iload_n d_Ref_showMaster_148 rfl ?_
  refine J_imul d_Ref_showMaster_149 ?_
  refine J_iload_n d_Ref_showMaster_150 rfl ?_
  refine J_iadd d_Ref_showMaster_151 ?_
  obtain ⟨a10, ha10, H⟩ := Option.bind_eq_some_iff.mp H
  rw [j_rf ha10]
  obtain ⟨N11, hN11, H⟩ := Option.bind_eq_some_iff.mp H
  obtain ⟨k12, hk12, H⟩ := Option.bind_eq_some_iff.mp H
  refine F_iald k12 hw hG d_Ref_showMaster_152 (gA_some hN11) (ix_some hk12) ?_
  refine J_aload_n d_Ref_showMaster_153 rfl ?_
  refine F_getI (ci := 12) (k := 6) hG (cf_Ref hw) (fl_Ref_348 hw) (by decide) (by decide) rfl d_Ref_showMaster_154 g1 ?_
  obtain ⟨q13, hq13, H⟩ := Option.bind_eq_some_iff.mp H
  refine J_callS (kc := 0) (ks := 0) (kc' := 0) (ks' := 0) (as := [.int (q9.2.1 a10 k12), .int (q9.2.1 x0 6)]) (st := [.int (((5 : Int32) * x1) + x2), va_rf (q9.2.2.2 x0 34)]) (mf_Ref_tells hw) (ms_Ref_351 hw) d_Ref_showMaster_157 ln_Ref_tells (by decide) (by first | exact Nat.le_of_ble_eq_true rfl | (simp only [List.map_cons, List.map_nil, List.sum_cons, List.sum_nil, va_rf_cat]; exact Nat.le_of_ble_eq_true rfl)) rfl (p_Ref_tells hw hG hq13) ?_ (fun E h' n' x' e1 => by cases e1.1)
  intro v9 h9 n9 x9 e9
  obtain ⟨e91, e92, e93⟩ := e9
  cases e91
  subst e92
  subst e93
  clear x
  rename Bool => x
  show J _ _ _ _ (_ :: _) _ _ _ _ _ _
  obtain ⟨a14, ha14, H⟩ := Option.bind_eq_some_iff.mp H
  rw [j_rf ha14]
  obtain ⟨N15, hN15, H⟩ := Option.bind_eq_some_iff.mp H
  obtain ⟨k16, hk16, H⟩ := Option.bind_eq_some_iff.mp H
  have z17 : q13.1 = 0 ∨ q13.1 = 1 := by
    apply Classical.byContradiction
    intro q9
    rw [if_neg q9] at H
    cases H
  rw [if_pos z17] at H
  refine F_zast k16 hw hG d_Ref_showMaster_160 (gA_some hN15) (ix_some hk16) z17 ?_
  refine J_iinc (v := x2 + 2) d_Ref_showMaster_161 rfl (by rw [show Int32.ofInt 2 = (2 : Int32) from by decide]) ?_
  refine J.ls (ls' := [some (.ref x0), some (.int x1), some (.int (x2 + (2 : Int32))), some (.int x3)]) rfl ?_
  refine J_goto (tgt := 82) d_Ref_showMaster_164 (by decide) ?_
  refine J.drop [true, true, true, false] rfl ?_
  exact hKc82 H
def f_Ref_showMaster_L82 (Γ : gm_T)  : Nat → ph_T → Nat → Int32 → Int32 → Option (Unit × ph_T)
  | 0, _, _, _, _ => none
  | fu + 1, φ, x0, x1, x2 =>
    if (4 : Int32) < x2 then
      some ((), φ)
    else
      @ite _ (Γ x0 = .inr 12) _ (
      Option.bind (f_Ref_rowOf Γ φ x0 (0 : Int32) x1 x2) fun q19 =>
      Option.bind (q19.2.2.2 x0 42) fun a20 =>
      Option.bind (gA Γ a20 0) fun N21 =>
      Option.bind (ix q19.1 N21) fun k22 =>
      if (q19.2.1 a20 k22) ≤ 0 then
        f_Ref_showMaster_L115 Γ (f_Ref_showMaster_L82 Γ  fu) q19.2 x0 x1 x2 q19.1 (0 : Int32) (((5 : Int32) * x1) + x2) x0
      else
        f_Ref_showMaster_L115 Γ (f_Ref_showMaster_L82 Γ  fu) q19.2 x0 x1 x2 q19.1 (1 : Int32) (((5 : Int32) * x1) + x2) x0
      ) none
set_option maxRecDepth 100000 in
set_option maxHeartbeats 4000000 in
theorem p_Ref_showMaster_L82 {w : jw_T} (hw : jok w) {Γ : gm_T} {n : Nat} (hG : gd w Γ n)  : ∀ (fu : Nat) {x : Bool} {φ : ph_T} {x0 : Nat} {x1 : Int32} {x2 : Int32} {q : Unit × ph_T}, f_Ref_showMaster_L82 Γ  fu φ x0 x1 x2 = some q → J w M_Ref_showMaster 82 [some (.ref x0), some (.int x1), some (.int x2), none] [] (pic Γ φ) n x 0 0 (fq Γ n (.inl none) q.2) := by
  intro fu
  induction fu with
  | zero =>
    intro x φ x0 x1 x2 q H
    cases H
  | succ fu ih =>
    intro x φ x0 x1 x2 q H
    unfold f_Ref_showMaster_L82 at H
    refine J_iload_n d_Ref_showMaster_82 rfl ?_
    refine J_iconst (v := 4) d_Ref_showMaster_83 (by decide) ?_
    refine J_icmp_gt (tgt := 167) d_Ref_showMaster_84 (by decide) ?_ ?_
    · intro c24
      rw [if_pos c24] at H
      have H := Option.some.inj H
      subst H
      exact J_vret (st := []) d_Ref_showMaster_167 rfl ⟨rfl, rfl, rfl⟩
    · intro c24
      rw [if_neg c24] at H
      refine J_aload_n d_Ref_showMaster_87 rfl ?_
      refine J_iconst (v := 0) d_Ref_showMaster_88 (by decide) ?_
      refine J_iload_n d_Ref_showMaster_89 rfl ?_
      refine J_iload_n d_Ref_showMaster_90 rfl ?_
      have g18 : Γ x0 = .inr 12 := by
        apply Classical.byContradiction
        intro q9
        rw [if_neg q9] at H
        cases H
      rw [if_pos g18] at H
      obtain ⟨q19, hq19, H⟩ := Option.bind_eq_some_iff.mp H
      refine J_callV (kc := 0) (ks := 0) (kc' := 0) (ks' := 0) (a := x0) (ci := 12) (as := [.int (0 : Int32), .int x1, .int x2]) (st := []) (mf_Ref_rowOf hw) (mv_Ref_388 hw) d_Ref_showMaster_91 ln_Ref_rowOf (by decide) (by first | exact Nat.le_of_ble_eq_true rfl | (simp only [List.map_cons, List.map_nil, List.sum_cons, List.sum_nil, va_rf_cat]; exact Nat.le_of_ble_eq_true rfl)) rfl ((hG _).1 _ g18 (by decide)).1 ((hG _).1 _ g18 (by decide)).2 (by unfold pic; rw [g18]; rfl) (jcl_at hw rfl) rfl (p_Ref_rowOf hw hG hq19) ?_ (fun E h' n' x' e1 => by cases e1.1)
      intro v9 h9 n9 x9 e9
      obtain ⟨e91, e92, e93⟩ := e9
      cases e91
      subst e92
      subst e93
      clear x
      rename Bool => x
      show J _ _ _ _ (_ :: _) _ _ _ _ _ _
      refine J_istore_n d_Ref_showMaster_94 (Nat.le_of_ble_eq_true rfl) ?_
      refine J.ls (ls' := [some (.ref x0), some (.int x1), some (.int x2), some (.int q19.1)]) rfl ?_
      refine J_aload_n d_Ref_showMaster_95 rfl ?_
      refine J_iconst (v := 5) d_Ref_showMaster_96 (by decide) ?_
      refine J_iload_n d_Ref_showMaster_97 rfl ?_
      refine J_imul d_Ref_showMaster_98 ?_
      refine J_iload_n d_Ref_showMaster_99 rfl ?_
      refine J_iadd d_Ref_showMaster_100 ?_
      refine J_aload_n d_Ref_showMaster_101 rfl ?_
      refine F_getR (ci := 12) (k := 42) hG (cf_Ref hw) (fl_Ref_115 hw) (by decide) (by decide) rfl d_Ref_showMaster_102 g18 ?_
      refine J_iload_n d_Ref_showMaster_105 rfl ?_
      obtain ⟨a20, ha20, H⟩ := Option.bind_eq_some_iff.mp H
      rw [j_rf ha20]
      obtain ⟨N21, hN21, H⟩ := Option.bind_eq_some_iff.mp H
      obtain ⟨k22, hk22, H⟩ := Option.bind_eq_some_iff.mp H
      refine F_iald k22 hw hG d_Ref_showMaster_106 (gA_some hN21) (ix_some hk22) ?_
      refine J_if_le (tgt := 114) d_Ref_showMaster_107 (by decide) ?_ ?_
      · intro c23
        rw [if_pos c23] at H
        refine J_iconst (v := 0) d_Ref_showMaster_114 (by decide) ?_
        refine J.drop [true, true, true, true] rfl ?_
        exact p_Ref_showMaster_L115 hw hG ih H
      · intro c23
        rw [if_neg c23] at H
        refine J_iconst (v := 1) d_Ref_showMaster_110 (by decide) ?_
        refine J_goto (tgt := 115) d_Ref_showMaster_111 (by decide) ?_
        refine J.drop [true, true, true, true] rfl ?_
        exact p_Ref_showMaster_L115 hw hG ih H
def f_Ref_showMaster (Γ : gm_T) (φ : ph_T) (this : Nat) (p0 : Int32) : Option (Unit × ph_T) :=
  @ite _ (Γ this = .inr 12) _ (
  Option.bind (f_Ref_showAddress Γ φ this p0 (0 : Int32)) fun q26 =>
  Option.bind (f_Ref_showData Γ q26.2 this p0) fun q27 =>
  Option.bind (f_Ref_showAddress Γ q27.2 this p0 (3 : Int32)) fun q28 =>
  Option.bind (f_Ref_rowOf Γ q28.2 this (0 : Int32) p0 (0 : Int32)) fun q29 =>
  Option.bind (f_Ref_hasRoom Γ q29.2 this q29.1) fun q30 =>
  Option.bind (q28.2.2.2 this 34) fun a31 =>
  Option.bind (gA Γ a31 2) fun N32 =>
  Option.bind (ix (((5 : Int32) * p0) + (0 : Int32)) N32) fun k33 =>
  @ite _ (q30.1 = 0 ∨ q30.1 = 1) _ (
  Option.bind (f_Ref_rowOf Γ (uI q30.2 a31 k33 q30.1) this (0 : Int32) p0 (1 : Int32)) fun q35 =>
  Option.bind (f_Ref_hasRoom Γ q35.2 this q35.1) fun q36 =>
  Option.bind (q30.2.2.2 this 34) fun a37 =>
  Option.bind (gA Γ a37 2) fun N38 =>
  Option.bind (ix (((5 : Int32) * p0) + (1 : Int32)) N38) fun k39 =>
  @ite _ (q36.1 = 0 ∨ q36.1 = 1) _ (
  Option.bind (f_Ref_rowOf Γ (uI q36.2 a37 k39 q36.1) this (0 : Int32) p0 (3 : Int32)) fun q41 =>
  Option.bind (f_Ref_hasRoom Γ q41.2 this q41.1) fun q42 =>
  Option.bind (q36.2.2.2 this 34) fun a43 =>
  Option.bind (gA Γ a43 2) fun N44 =>
  Option.bind (ix (((5 : Int32) * p0) + (3 : Int32)) N44) fun k45 =>
  @ite _ (q42.1 = 0 ∨ q42.1 = 1) _ (
  f_Ref_showMaster_L82 Γ  jF (uI q42.2 a43 k45 q42.1) this p0 (2 : Int32)
  ) none
  ) none
  ) none
  ) none
set_option maxRecDepth 100000 in
set_option maxHeartbeats 4000000 in
theorem p_Ref_showMaster {w : jw_T} (hw : jok w) {Γ : gm_T} {n : Nat} (hG : gd w Γ n) {x : Bool} {φ : ph_T} {this : Nat} {p0 : Int32} {q : Unit × ph_T} (H : f_Ref_showMaster Γ φ this p0 = some q) : jc w M_Ref_showMaster [.ref this, .int p0] (pic Γ φ) n x 0 0 (fq Γ n (.inl none) q.2) := by
  refine jc.of (by simp only [jent_r, jent_i, jent_l, jent_a, jent_0]; exact Nat.le_of_ble_eq_true rfl) ?_
  have hls : jents [.ref this, .int p0] (jm_nL M_Ref_showMaster) = [some (.ref this), some (.int p0), none, none] := by simp only [jents, jent_r, jent_i, jent_l, jent_a, jent_0]; rfl
  rw [hls]
  clear hls
  unfold f_Ref_showMaster at H
  refine J_aload_n d_Ref_showMaster_0 rfl ?_
  refine J_iload_n d_Ref_showMaster_1 rfl ?_
  refine J_iconst (v := 0) d_Ref_showMaster_2 (by decide) ?_
  have g25 : Γ this = .inr 12 := by
    apply Classical.byContradiction
    intro q9
    rw [if_neg q9] at H
    cases H
  rw [if_pos g25] at H
  obtain ⟨q26, hq26, H⟩ := Option.bind_eq_some_iff.mp H
  refine J_callV (kc := 0) (ks := 0) (kc' := 0) (ks' := 0) (a := this) (ci := 12) (as := [.int p0, .int (0 : Int32)]) (st := []) (mf_Ref_showAddress hw) (mv_Ref_380 hw) d_Ref_showMaster_3 ln_Ref_showAddress (by decide) (by first | exact Nat.le_of_ble_eq_true rfl | (simp only [List.map_cons, List.map_nil, List.sum_cons, List.sum_nil, va_rf_cat]; exact Nat.le_of_ble_eq_true rfl)) rfl ((hG _).1 _ g25 (by decide)).1 ((hG _).1 _ g25 (by decide)).2 (by unfold pic; rw [g25]; rfl) (jcl_at hw rfl) rfl (p_Ref_showAddress hw hG hq26) ?_ (fun E h' n' x' e1 => by cases e1.1)
  intro v9 h9 n9 x9 e9
  obtain ⟨e91, e92, e93⟩ := e9
  cases e91
  subst e92
  subst e93
  clear x
  rename Bool => x
  show J _ _ _ _ [] _ _ _ _ _ _
  refine J_aload_n d_Ref_showMaster_6 rfl ?_
  refine J_iload_n d_Ref_showMaster_7 rfl ?_
  obtain ⟨q27, hq27, H⟩ := Option.bind_eq_some_iff.mp H
  refine J_callV (kc := 0) (ks := 0) (kc' := 0) (ks' := 0) (a := this) (ci := 12) (as := [.int p0]) (st := []) (mf_Ref_showData hw) (mv_Ref_384 hw) d_Ref_showMaster_8 ln_Ref_showData (by decide) (by first | exact Nat.le_of_ble_eq_true rfl | (simp only [List.map_cons, List.map_nil, List.sum_cons, List.sum_nil, va_rf_cat]; exact Nat.le_of_ble_eq_true rfl)) rfl ((hG _).1 _ g25 (by decide)).1 ((hG _).1 _ g25 (by decide)).2 (by unfold pic; rw [g25]; rfl) (jcl_at hw rfl) rfl (p_Ref_showData hw hG hq27) ?_ (fun E h' n' x' e1 => by cases e1.1)
  intro v9 h9 n9 x9 e9
  obtain ⟨e91, e92, e93⟩ := e9
  cases e91
  subst e92
  subst e93
  clear x
  rename Bool => x
  show J _ _ _ _ [] _ _ _ _ _ _
  refine J_aload_n d_Ref_showMaster_11 rfl ?_
  refine J_iload_n d_Ref_showMaster_12 rfl ?_
  refine J_iconst (v := 3) d_Ref_showMaster_13 (by decide) ?_
  obtain ⟨q28, hq28, H⟩ := Option.bind_eq_some_iff.mp H
  refine J_callV (kc := 0) (ks := 0) (kc' := 0) (ks' := 0) (a := this) (ci := 12) (as := [.int p0, .int (3 : Int32)]) (st := []) (mf_Ref_showAddress hw) (mv_Ref_380 hw) d_Ref_showMaster_14 ln_Ref_showAddress (by decide) (by first | exact Nat.le_of_ble_eq_true rfl | (simp only [List.map_cons, List.map_nil, List.sum_cons, List.sum_nil, va_rf_cat]; exact Nat.le_of_ble_eq_true rfl)) rfl ((hG _).1 _ g25 (by decide)).1 ((hG _).1 _ g25 (by decide)).2 (by unfold pic; rw [g25]; rfl) (jcl_at hw rfl) rfl (p_Ref_showAddress hw hG hq28) ?_ (fun E h' n' x' e1 => by cases e1.1)
  intro v9 h9 n9 x9 e9
  obtain ⟨e91, e92, e93⟩ := e9
  cases e91
  subst e92
  subst e93
  clear x
  rename Bool => x
  show J _ _ _ _ [] _ _ _ _ _ _
  refine J_aload_n d_Ref_showMaster_17 rfl ?_
  refine F_getR (ci := 12) (k := 34) hG (cf_Ref hw) (fl_Ref_91 hw) (by decide) (by decide) rfl d_Ref_showMaster_18 g25 ?_
  refine J_iconst (v := 5) d_Ref_showMaster_21 (by decide) ?_
  refine J_iload_n d_Ref_showMaster_22 rfl ?_
  refine J_imul d_Ref_showMaster_23 ?_
  refine J_iconst (v := 0) d_Ref_showMaster_24 (by decide) ?_
  refine J_iadd d_Ref_showMaster_25 ?_
  refine J_aload_n d_Ref_showMaster_26 rfl ?_
  refine J_aload_n d_Ref_showMaster_27 rfl ?_
  refine J_iconst (v := 0) d_Ref_showMaster_28 (by decide) ?_
  refine J_iload_n d_Ref_showMaster_29 rfl ?_
  refine J_iconst (v := 0) d_Ref_showMaster_30 (by decide) ?_
  obtain ⟨q29, hq29, H⟩ := Option.bind_eq_some_iff.mp H
  refine J_callV (kc := 0) (ks := 0) (kc' := 0) (ks' := 0) (a := this) (ci := 12) (as := [.int (0 : Int32), .int p0, .int (0 : Int32)]) (st := [.ref this, .int (((5 : Int32) * p0) + (0 : Int32)), va_rf (q28.2.2.2 this 34)]) (mf_Ref_rowOf hw) (mv_Ref_388 hw) d_Ref_showMaster_31 ln_Ref_rowOf (by decide) (by first | exact Nat.le_of_ble_eq_true rfl | (simp only [List.map_cons, List.map_nil, List.sum_cons, List.sum_nil, va_rf_cat]; exact Nat.le_of_ble_eq_true rfl)) rfl ((hG _).1 _ g25 (by decide)).1 ((hG _).1 _ g25 (by decide)).2 (by unfold pic; rw [g25]; rfl) (jcl_at hw rfl) rfl (p_Ref_rowOf hw hG hq29) ?_ (fun E h' n' x' e1 => by cases e1.1)
  intro v9 h9 n9 x9 e9
  obtain ⟨e91, e92, e93⟩ := e9
  cases e91
  subst e92
  subst e93
  clear x
  rename Bool => x
  show J _ _ _ _ (_ :: _) _ _ _ _ _ _
  obtain ⟨q30, hq30, H⟩ := Option.bind_eq_some_iff.mp H
  refine J_callV (kc := 0) (ks := 0) (kc' := 0) (ks' := 0) (a := this) (ci := 12) (as := [.int q29.1]) (st := [.int (((5 : Int32) * p0) + (0 : Int32)), va_rf (q28.2.2.2 this 34)]) (mf_Ref_hasRoom hw) (mv_Ref_392 hw) d_Ref_showMaster_34 ln_Ref_hasRoom (by decide) (by first | exact Nat.le_of_ble_eq_true rfl | (simp only [List.map_cons, List.map_nil, List.sum_cons, List.sum_nil, va_rf_cat]; exact Nat.le_of_ble_eq_true rfl)) rfl ((hG _).1 _ g25 (by decide)).1 ((hG _).1 _ g25 (by decide)).2 (by unfold pic; rw [g25]; rfl) (jcl_at hw rfl) rfl (p_Ref_hasRoom hw hG hq30) ?_ (fun E h' n' x' e1 => by cases e1.1)
  intro v9 h9 n9 x9 e9
  obtain ⟨e91, e92, e93⟩ := e9
  cases e91
  subst e92
  subst e93
  clear x
  rename Bool => x
  show J _ _ _ _ (_ :: _) _ _ _ _ _ _
  obtain ⟨a31, ha31, H⟩ := Option.bind_eq_some_iff.mp H
  rw [j_rf ha31]
  obtain ⟨N32, hN32, H⟩ := Option.bind_eq_some_iff.mp H
  obtain ⟨k33, hk33, H⟩ := Option.bind_eq_some_iff.mp H
  have z34 : q30.1 = 0 ∨ q30.1 = 1 := by
    apply Classical.byContradiction
    intro q9
    rw [if_neg q9] at H
    cases H
  rw [if_pos z34] at H
  refine F_zast k33 hw hG d_Ref_showMaster_37 (gA_some hN32) (ix_some hk33) z34 ?_
  refine J_aload_n d_Ref_showMaster_38 rfl ?_
  refine F_getR (ci := 12) (k := 34) hG (cf_Ref hw) (fl_Ref_91 hw) (by decide) (by decide) rfl d_Ref_showMaster_39 g25 ?_
  show J _ _ _ _ (va_rf (q30.2.2.2 this 34) :: _) _ _ _ _ _ _
  refine J_iconst (v := 5) d_Ref_showMaster_42 (by decide) ?_
  refine J_iload_n d_Ref_showMaster_43 rfl ?_
  refine J_imul d_Ref_showMaster_44 ?_
  refine J_iconst (v := 1) d_Ref_showMaster_45 (by decide) ?_
  refine J_iadd d_Ref_showMaster_46 ?_
  refine J_aload_n d_Ref_showMaster_47 rfl ?_
  refine J_aload_n d_Ref_showMaster_48 rfl ?_
  refine J_iconst (v := 0) d_Ref_showMaster_49 (by decide) ?_
  refine J_iload_n d_Ref_showMaster_50 rfl ?_
  refine J_iconst (v := 1) d_Ref_showMaster_51 (by decide) ?_
  obtain ⟨q35, hq35, H⟩ := Option.bind_eq_some_iff.mp H
  refine J_callV (kc := 0) (ks := 0) (kc' := 0) (ks' := 0) (a := this) (ci := 12) (as := [.int (0 : Int32), .int p0, .int (1 : Int32)]) (st := [.ref this, .int (((5 : Int32) * p0) + (1 : Int32)), va_rf (q30.2.2.2 this 34)]) (mf_Ref_rowOf hw) (mv_Ref_388 hw) d_Ref_showMaster_52 ln_Ref_rowOf (by decide) (by first | exact Nat.le_of_ble_eq_true rfl | (simp only [List.map_cons, List.map_nil, List.sum_cons, List.sum_nil, va_rf_cat]; exact Nat.le_of_ble_eq_true rfl)) rfl ((hG _).1 _ g25 (by decide)).1 ((hG _).1 _ g25 (by decide)).2 (by unfold pic; rw [g25]; rfl) (jcl_at hw rfl) rfl (p_Ref_rowOf hw hG hq35) ?_ (fun E h' n' x' e1 => by cases e1.1)
  intro v9 h9 n9 x9 e9
  obtain ⟨e91, e92, e93⟩ := e9
  cases e91
  subst e92
  subst e93
  clear x
  rename Bool => x
  show J _ _ _ _ (_ :: _) _ _ _ _ _ _
  obtain ⟨q36, hq36, H⟩ := Option.bind_eq_some_iff.mp H
  refine J_callV (kc := 0) (ks := 0) (kc' := 0) (ks' := 0) (a := this) (ci := 12) (as := [.int q35.1]) (st := [.int (((5 : Int32) * p0) + (1 : Int32)), va_rf (q30.2.2.2 this 34)]) (mf_Ref_hasRoom hw) (mv_Ref_392 hw) d_Ref_showMaster_55 ln_Ref_hasRoom (by decide) (by first | exact Nat.le_of_ble_eq_true rfl | (simp only [List.map_cons, List.map_nil, List.sum_cons, List.sum_nil, va_rf_cat]; exact Nat.le_of_ble_eq_true rfl)) rfl ((hG _).1 _ g25 (by decide)).1 ((hG _).1 _ g25 (by decide)).2 (by unfold pic; rw [g25]; rfl) (jcl_at hw rfl) rfl (p_Ref_hasRoom hw hG hq36) ?_ (fun E h' n' x' e1 => by cases e1.1)
  intro v9 h9 n9 x9 e9
  obtain ⟨e91, e92, e93⟩ := e9
  cases e91
  subst e92
  subst e93
  clear x
  rename Bool => x
  show J _ _ _ _ (_ :: _) _ _ _ _ _ _
  obtain ⟨a37, ha37, H⟩ := Option.bind_eq_some_iff.mp H
  rw [j_rf ha37]
  obtain ⟨N38, hN38, H⟩ := Option.bind_eq_some_iff.mp H
  obtain ⟨k39, hk39, H⟩ := Option.bind_eq_some_iff.mp H
  have z40 : q36.1 = 0 ∨ q36.1 = 1 := by
    apply Classical.byContradiction
    intro q9
    rw [if_neg q9] at H
    cases H
  rw [if_pos z40] at H
  refine F_zast k39 hw hG d_Ref_showMaster_58 (gA_some hN38) (ix_some hk39) z40 ?_
  refine J_aload_n d_Ref_showMaster_59 rfl ?_
  refine F_getR (ci := 12) (k := 34) hG (cf_Ref hw) (fl_Ref_91 hw) (by decide) (by decide) rfl d_Ref_showMaster_60 g25 ?_
  show J _ _ _ _ (va_rf (q36.2.2.2 this 34) :: _) _ _ _ _ _ _
  refine J_iconst (v := 5) d_Ref_showMaster_63 (by decide) ?_
  refine J_iload_n d_Ref_showMaster_64 rfl ?_
  refine J_imul d_Ref_showMaster_65 ?_
  refine J_iconst (v := 3) d_Ref_showMaster_66 (by decide) ?_
  refine J_iadd d_Ref_showMaster_67 ?_
  refine J_aload_n d_Ref_showMaster_68 rfl ?_
  refine J_aload_n d_Ref_showMaster_69 rfl ?_
  refine J_iconst (v := 0) d_Ref_showMaster_70 (by decide) ?_
  refine J_iload_n d_Ref_showMaster_71 rfl ?_
  refine J_iconst (v := 3) d_Ref_showMaster_72 (by decide) ?_
  obtain ⟨q41, hq41, H⟩ := Option.bind_eq_some_iff.mp H
  refine J_callV (kc := 0) (ks := 0) (kc' := 0) (ks' := 0) (a := this) (ci := 12) (as := [.int (0 : Int32), .int p0, .int (3 : Int32)]) (st := [.ref this, .int (((5 : Int32) * p0) + (3 : Int32)), va_rf (q36.2.2.2 this 34)]) (mf_Ref_rowOf hw) (mv_Ref_388 hw) d_Ref_showMaster_73 ln_Ref_rowOf (by decide) (by first | exact Nat.le_of_ble_eq_true rfl | (simp only [List.map_cons, List.map_nil, List.sum_cons, List.sum_nil, va_rf_cat]; exact Nat.le_of_ble_eq_true rfl)) rfl ((hG _).1 _ g25 (by decide)).1 ((hG _).1 _ g25 (by decide)).2 (by unfold pic; rw [g25]; rfl) (jcl_at hw rfl) rfl (p_Ref_rowOf hw hG hq41) ?_ (fun E h' n' x' e1 => by cases e1.1)
  intro v9 h9 n9 x9 e9
  obtain ⟨e91, e92, e93⟩ := e9
  cases e91
  subst e92
  subst e93
  clear x
  rename Bool => x
  show J _ _ _ _ (_ :: _) _ _ _ _ _ _
  obtain ⟨q42, hq42, H⟩ := Option.bind_eq_some_iff.mp H
  refine J_callV (kc := 0) (ks := 0) (kc' := 0) (ks' := 0) (a := this) (ci := 12) (as := [.int q41.1]) (st := [.int (((5 : Int32) * p0) + (3 : Int32)), va_rf (q36.2.2.2 this 34)]) (mf_Ref_hasRoom hw) (mv_Ref_392 hw) d_Ref_showMaster_76 ln_Ref_hasRoom (by decide) (by first | exact Nat.le_of_ble_eq_true rfl | (simp only [List.map_cons, List.map_nil, List.sum_cons, List.sum_nil, va_rf_cat]; exact Nat.le_of_ble_eq_true rfl)) rfl ((hG _).1 _ g25 (by decide)).1 ((hG _).1 _ g25 (by decide)).2 (by unfold pic; rw [g25]; rfl) (jcl_at hw rfl) rfl (p_Ref_hasRoom hw hG hq42) ?_ (fun E h' n' x' e1 => by cases e1.1)
  intro v9 h9 n9 x9 e9
  obtain ⟨e91, e92, e93⟩ := e9
  cases e91
  subst e92
  subst e93
  clear x
  rename Bool => x
  show J _ _ _ _ (_ :: _) _ _ _ _ _ _
  obtain ⟨a43, ha43, H⟩ := Option.bind_eq_some_iff.mp H
  rw [j_rf ha43]
  obtain ⟨N44, hN44, H⟩ := Option.bind_eq_some_iff.mp H
  obtain ⟨k45, hk45, H⟩ := Option.bind_eq_some_iff.mp H
  have z46 : q42.1 = 0 ∨ q42.1 = 1 := by
    apply Classical.byContradiction
    intro q9
    rw [if_neg q9] at H
    cases H
  rw [if_pos z46] at H
  refine F_zast k45 hw hG d_Ref_showMaster_79 (gA_some hN44) (ix_some hk45) z46 ?_
  refine J_iconst (v := 2) d_Ref_showMaster_80 (by decide) ?_
  refine J_istore_n d_Ref_showMaster_81 (Nat.le_of_ble_eq_true rfl) ?_
  refine J.ls (ls' := [some (.ref this), some (.int p0), some (.int (2 : Int32)), none]) rfl ?_
  refine J.drop [true, true, true, false] rfl ?_
  exact p_Ref_showMaster_L82 hw hG  _ H
