theorem ln_Bus_needIndex : (parseMethodDescriptor y_Bus_needIndex.desc).map (fun q => q.parameters.length) = some 2 := by decide +kernel
def f_Bus_needIndex_L9 (Γ : gm_T)  (φ : ph_T) : Option ((Unit ⊕ String) × ph_T) :=
  some (.inr "java/lang/IndexOutOfBoundsException", φ)
set_option maxRecDepth 100000 in
set_option maxHeartbeats 4000000 in
theorem p_Bus_needIndex_L9 {w : jw_T} (hw : jok w) {Γ : gm_T} {n : Nat} (hG : gd w Γ n)  {x : Bool} {φ : ph_T} {q : (Unit ⊕ String) × ph_T} (H : f_Bus_needIndex_L9 Γ  φ  = some q) : J w M_Bus_needIndex 9 [none, none] [] (pic Γ φ) n x (kt q.1) (6 * kt q.1) (fq Γ n (rsV q.1) q.2) := by
  unfold f_Bus_needIndex_L9 at H
  have H := Option.some.inj H
  subst H
  show J _ _ _ _ _ _ _ _ (0 + 1) (0 + 6) _
  exact J_throwW (kc := 0) (ks := 0) (cls := "java/lang/IndexOutOfBoundsException") (names := jxn) xf_IndexOutOfBoundsException jxn_fit (tb3 hw (i := 88) (by decide +kernel)) (tb1 hw (i := 19) (by decide +kernel)) (jsr_mem hw (text := "there is no such one") (by decide)) (xa_IndexOutOfBoundsException hw) d_Bus_needIndex_9 d_Bus_needIndex_12 d_Bus_needIndex_13 d_Bus_needIndex_16 d_Bus_needIndex_19 rfl rfl (by decide) (by decide) ⟨rfl, rfl, rfl⟩
def f_Bus_needIndex (Γ : gm_T) (φ : ph_T) (p0 : Int32) (p1 : Int32) : Option ((Unit ⊕ String) × ph_T) :=
  if p0 < 0 then
    f_Bus_needIndex_L9 Γ  φ 
  else
    if p0 < p1 then
      some (.inl (()), φ)
    else
      f_Bus_needIndex_L9 Γ  φ 
set_option maxRecDepth 100000 in
set_option maxHeartbeats 4000000 in
theorem p_Bus_needIndex {w : jw_T} (hw : jok w) {Γ : gm_T} {n : Nat} (hG : gd w Γ n) {x : Bool} {φ : ph_T} {p0 : Int32} {p1 : Int32} {q : (Unit ⊕ String) × ph_T} (H : f_Bus_needIndex Γ φ p0 p1 = some q) : jc w M_Bus_needIndex [.int p0, .int p1] (pic Γ φ) n x (kt q.1) (6 * kt q.1) (fq Γ n (rsV q.1) q.2) := by
  refine jc.of (by simp only [jent_r, jent_i, jent_l, jent_a, jent_0]; exact Nat.le_of_ble_eq_true rfl) ?_
  have hls : jents [.int p0, .int p1] (jm_nL M_Bus_needIndex) = [some (.int p0), some (.int p1)] := by simp only [jents, jent_r, jent_i, jent_l, jent_a, jent_0]; rfl
  rw [hls]
  clear hls
  unfold f_Bus_needIndex at H
  refine J_iload_n d_Bus_needIndex_0 rfl ?_
  refine J_if_lt (tgt := 9) d_Bus_needIndex_1 (by decide) ?_ ?_
  · intro c2
    rw [if_pos c2] at H
    refine J.drop [false, false] rfl ?_
    exact p_Bus_needIndex_L9 hw hG  H
  · intro c2
    rw [if_neg c2] at H
    refine J_iload_n d_Bus_needIndex_4 rfl ?_
    refine J_iload_n d_Bus_needIndex_5 rfl ?_
    refine J_icmp_lt (tgt := 20) d_Bus_needIndex_6 (by decide) ?_ ?_
    · intro c1
      rw [if_pos c1] at H
      have H := Option.some.inj H
      subst H
      show J _ _ _ _ _ _ _ _ 0 0 _
      exact J_vret (st := []) d_Bus_needIndex_20 rfl ⟨rfl, rfl, rfl⟩
    · intro c1
      rw [if_neg c1] at H
      refine J.drop [false, false] rfl ?_
      exact p_Bus_needIndex_L9 hw hG  H
theorem ln_Bus_map : (parseMethodDescriptor y_Bus_map.desc).map (fun q => q.parameters.length) = some 2 := by decide +kernel
def f_Bus_map_L84 (Γ : gm_T)  (φ : ph_T) (y0 : Int32) : Option ((Int32 ⊕ String) × ph_T) :=
  some (.inl (y0), φ)
set_option maxRecDepth 100000 in
set_option maxHeartbeats 4000000 in
theorem p_Bus_map_L84 {w : jw_T} (hw : jok w) {Γ : gm_T} {n : Nat} (hG : gd w Γ n)  {x : Bool} {φ : ph_T} {y0 : Int32} {q : (Int32 ⊕ String) × ph_T} (H : f_Bus_map_L84 Γ  φ y0 = some q) : J w M_Bus_map 84 [none, none, none, none] [.int y0] (pic Γ φ) n x (kt q.1) (6 * kt q.1) (fq Γ n (rsI q.1) q.2) := by
  unfold f_Bus_map_L84 at H
  have H := Option.some.inj H
  subst H
  show J _ _ _ _ _ _ _ _ 0 0 _
  exact J_iret (st := []) d_Bus_map_84 rfl rfl ⟨rfl, rfl, rfl⟩
def f_Bus_map_L69 (Γ : gm_T)  (φ : ph_T) (x0 : Nat) (x3 : Int32) (y0 : Int32) (y1 : Int32) (y2 : Option Nat) : Option ((Int32 ⊕ String) × ph_T) :=
  Option.bind y2 fun a1 =>
  Option.bind (gA Γ a1 0) fun N2 =>
  Option.bind (ix y1 N2) fun k3 =>
  @ite _ (Γ x0 = .inr 11) _ (
  Option.bind (φ.2.2 x0 3) fun a5 =>
  Option.bind (gA Γ a5 9) fun N6 =>
  if x3 = (nI N6) then
    f_Bus_map_L84 Γ  (uI φ a1 k3 y0) (-1 : Int32)
  else
    f_Bus_map_L84 Γ  (uI φ a1 k3 y0) x3
  ) none
set_option maxRecDepth 100000 in
set_option maxHeartbeats 4000000 in
theorem p_Bus_map_L69 {w : jw_T} (hw : jok w) {Γ : gm_T} {n : Nat} (hG : gd w Γ n)  {x : Bool} {φ : ph_T} {x0 : Nat} {x3 : Int32} {y0 : Int32} {y1 : Int32} {y2 : Option Nat} {q : (Int32 ⊕ String) × ph_T} (H : f_Bus_map_L69 Γ  φ x0 x3 y0 y1 y2 = some q) : J w M_Bus_map 69 [some (.ref x0), none, none, some (.int x3)] [.int y0, .int y1, va_rf y2] (pic Γ φ) n x (kt q.1) (6 * kt q.1) (fq Γ n (rsI q.1) q.2) := by
  unfold f_Bus_map_L69 at H
  obtain ⟨a1, ha1, H⟩ := Option.bind_eq_some_iff.mp H
  rw [j_rf ha1]
  obtain ⟨N2, hN2, H⟩ := Option.bind_eq_some_iff.mp H
  obtain ⟨k3, hk3, H⟩ := Option.bind_eq_some_iff.mp H
  refine F_iast k3 hw hG d_Bus_map_69 (gA_some hN2) (ix_some hk3) ?_
  refine J_iload_n d_Bus_map_70 rfl ?_
  refine J_aload_n d_Bus_map_71 rfl ?_
  have g4 : Γ x0 = .inr 11 := by
    apply Classical.byContradiction
    intro q9
    rw [if_neg q9] at H
    cases H
  rw [if_pos g4] at H
  refine F_getR (ci := 11) (k := 3) hG (cf_Bus hw) (fl_Bus_45 hw) (by decide) (by decide) rfl d_Bus_map_72 g4 ?_
  show J _ _ _ _ (va_rf (φ.2.2 x0 3) :: _) _ _ _ _ _ _
  obtain ⟨a5, ha5, H⟩ := Option.bind_eq_some_iff.mp H
  rw [j_rf ha5]
  obtain ⟨N6, hN6, H⟩ := Option.bind_eq_some_iff.mp H
  refine F_alen hw hG (t := 9) rfl d_Bus_map_75 (gA_some hN6) ?_
  refine J_icmp_ne (tgt := 83) d_Bus_map_76 (by decide) ?_ ?_
  · intro c7
    rw [if_neg c7] at H
    refine J_iload_n d_Bus_map_83 rfl ?_
    refine J.drop [false, false, false, false] rfl ?_
    exact p_Bus_map_L84 hw hG  H
  · intro c7
    rw [if_pos c7] at H
    refine J_iconst (v := -1) d_Bus_map_79 (by decide) ?_
    refine J_goto (tgt := 84) d_Bus_map_80 (by decide) ?_
    refine J.drop [false, false, false, false] rfl ?_
    exact p_Bus_map_L84 hw hG  H
def f_Bus_map_L20 (Γ : gm_T)  (φ : ph_T) (x0 : Nat) (x1 : Int32) (x2 : Int32) : Option ((Int32 ⊕ String) × ph_T) :=
  @ite _ (Γ x0 = .inr 11) _ (
  Option.bind (f_Bus_openRequests Γ φ x0) fun q9 =>
  if q9.1 ≤ 0 then
    Option.bind (q9.2.2.2 x0 1) fun a10 =>
    @ite _ (Γ a10 = .inr 10) _ (
    Option.bind (q9.2.2.2 a10 3) fun a12 =>
    Option.bind (gA Γ a12 0) fun N13 =>
    Option.bind (ix x1 N13) fun k14 =>
    if x2 = (-1 : Int32) then
      Option.bind (q9.2.2.2 x0 3) fun a15 =>
      Option.bind (gA Γ a15 9) fun N16 =>
      f_Bus_map_L69 Γ  q9.2 x0 (q9.2.1 a12 k14) (nI N16) x1 (q9.2.2.2 a10 3)
    else
      f_Bus_map_L69 Γ  q9.2 x0 (q9.2.1 a12 k14) x2 x1 (q9.2.2.2 a10 3)
    ) none
  else
    some (.inr "java/lang/IllegalStateException", q9.2)
  ) none
set_option maxRecDepth 100000 in
set_option maxHeartbeats 4000000 in
theorem p_Bus_map_L20 {w : jw_T} (hw : jok w) {Γ : gm_T} {n : Nat} (hG : gd w Γ n)  {x : Bool} {φ : ph_T} {x0 : Nat} {x1 : Int32} {x2 : Int32} {q : (Int32 ⊕ String) × ph_T} (H : f_Bus_map_L20 Γ  φ x0 x1 x2 = some q) : J w M_Bus_map 20 [some (.ref x0), some (.int x1), some (.int x2), none] [] (pic Γ φ) n x (kt q.1) (6 * kt q.1) (fq Γ n (rsI q.1) q.2) := by
  unfold f_Bus_map_L20 at H
  refine J_aload_n d_Bus_map_20 rfl ?_
  have g8 : Γ x0 = .inr 11 := by
    apply Classical.byContradiction
    intro q9
    rw [if_neg q9] at H
    cases H
  rw [if_pos g8] at H
  obtain ⟨q9, hq9, H⟩ := Option.bind_eq_some_iff.mp H
  refine J.kk (Nat.zero_add _) (Nat.zero_add _) ?_
  refine J_callV (kc := kt q.1) (ks := 6 * kt q.1) (kc' := 0) (ks' := 0) (a := x0) (ci := 11) (as := []) (st := []) (mf_Bus_openRequests hw) (mv_Bus_69 hw) d_Bus_map_21 ln_Bus_openRequests (by decide) (by first | exact Nat.le_of_ble_eq_true rfl | (simp only [List.map_cons, List.map_nil, List.sum_cons, List.sum_nil, va_rf_cat]; exact Nat.le_of_ble_eq_true rfl)) rfl ((hG _).1 _ g8 (by decide)).1 ((hG _).1 _ g8 (by decide)).2 (by unfold pic; rw [g8]; rfl) (jcl_at hw rfl) rfl (p_Bus_openRequests hw hG hq9) ?_ (fun E h' n' x' e1 => by cases e1.1)
  intro v9 h9 n9 x9 e9
  obtain ⟨e91, e92, e93⟩ := e9
  cases e91
  subst e92
  subst e93
  clear x
  rename Bool => x
  show J _ _ _ _ (_ :: _) _ _ _ _ _ _
  refine J_if_le (tgt := 37) d_Bus_map_24 (by decide) ?_ ?_
  · intro c18
    rw [if_pos c18] at H
    refine J_aload_n d_Bus_map_37 rfl ?_
    refine F_getR (ci := 11) (k := 1) hG (cf_Bus hw) (fl_Bus_25 hw) (by decide) (by decide) rfl d_Bus_map_38 g8 ?_
    obtain ⟨a10, ha10, H⟩ := Option.bind_eq_some_iff.mp H
    rw [j_rf ha10]
    have g11 : Γ a10 = .inr 10 := by
      apply Classical.byContradiction
      intro q9
      rw [if_neg q9] at H
      cases H
    rw [if_pos g11] at H
    refine F_getR (ci := 10) (k := 3) hG (cf_Switch hw) (fl_Bus_80 hw) (by decide) (by decide) rfl d_Bus_map_41 g11 ?_
    refine J_iload_n d_Bus_map_44 rfl ?_
    obtain ⟨a12, ha12, H⟩ := Option.bind_eq_some_iff.mp H
    rw [j_rf ha12]
    obtain ⟨N13, hN13, H⟩ := Option.bind_eq_some_iff.mp H
    obtain ⟨k14, hk14, H⟩ := Option.bind_eq_some_iff.mp H
    refine F_iald k14 hw hG d_Bus_map_45 (gA_some hN13) (ix_some hk14) ?_
    refine J_istore_n d_Bus_map_46 (Nat.le_of_ble_eq_true rfl) ?_
    refine J.ls (ls' := [some (.ref x0), some (.int x1), some (.int x2), some (.int (q9.2.1 a12 k14))]) rfl ?_
    refine J_aload_n d_Bus_map_47 rfl ?_
    refine F_getR (ci := 11) (k := 1) hG (cf_Bus hw) (fl_Bus_25 hw) (by decide) (by decide) rfl d_Bus_map_48 g8 ?_
    try rw [j_rf ha10]
    refine F_getR (ci := 10) (k := 3) hG (cf_Switch hw) (fl_Bus_80 hw) (by decide) (by decide) rfl d_Bus_map_51 g11 ?_
    refine J_iload_n d_Bus_map_54 rfl ?_
    refine J_iload_n d_Bus_map_55 rfl ?_
    refine J_iconst (v := -1) d_Bus_map_56 (by decide) ?_
    refine J_icmp_ne (tgt := 68) d_Bus_map_57 (by decide) ?_ ?_
    · intro c17
      rw [if_neg c17] at H
      refine J_iload_n d_Bus_map_68 rfl ?_
      refine J.drop [true, false, false, true] rfl ?_
      exact p_Bus_map_L69 hw hG  H
    · intro c17
      rw [if_pos c17] at H
      refine J_aload_n d_Bus_map_60 rfl ?_
      refine F_getR (ci := 11) (k := 3) hG (cf_Bus hw) (fl_Bus_45 hw) (by decide) (by decide) rfl d_Bus_map_61 g8 ?_
      obtain ⟨a15, ha15, H⟩ := Option.bind_eq_some_iff.mp H
      rw [j_rf ha15]
      obtain ⟨N16, hN16, H⟩ := Option.bind_eq_some_iff.mp H
      refine F_alen hw hG (t := 9) rfl d_Bus_map_64 (gA_some hN16) ?_
      refine J_goto (tgt := 69) d_Bus_map_65 (by decide) ?_
      refine J.drop [true, false, false, true] rfl ?_
      exact p_Bus_map_L69 hw hG  H
  · intro c18
    rw [if_neg c18] at H
    have H := Option.some.inj H
    subst H
    show J _ _ _ _ _ _ _ _ (0 + 1) (0 + 6) _
    exact J_throwS (kc := 0) (ks := 0) (cls := "java/lang/IllegalStateException") (names := jxn) xf_IllegalStateException jxn_fit (tb3 hw (i := 157) (by decide +kernel)) (tb1 hw (i := 20) (by decide +kernel)) (jsr_mem hw (text := "a request is not done") (by decide)) (xa_IllegalStateException hw) d_Bus_map_27 d_Bus_map_30 d_Bus_map_31 d_Bus_map_33 d_Bus_map_36 rfl rfl (by decide) (by decide) ⟨rfl, rfl, rfl⟩
def f_Bus_map (Γ : gm_T) (φ : ph_T) (this : Nat) (p0 : Int32) (p1 : Int32) : Option ((Int32 ⊕ String) × ph_T) :=
  bT (f_Bus_needIndex Γ φ p0 (16 : Int32)) fun v20 φ21 =>
  if p1 = (-1 : Int32) then
    f_Bus_map_L20 Γ  φ21 this p0 p1
  else
    @ite _ (Γ this = .inr 11) _ (
    Option.bind (φ21.2.2 this 3) fun a24 =>
    Option.bind (gA Γ a24 9) fun N25 =>
    bT (f_Bus_needIndex Γ φ21 p1 (nI N25)) fun v27 φ28 =>
    f_Bus_map_L20 Γ  φ28 this p0 p1
    ) none
set_option maxRecDepth 100000 in
set_option maxHeartbeats 4000000 in
theorem p_Bus_map {w : jw_T} (hw : jok w) {Γ : gm_T} {n : Nat} (hG : gd w Γ n) {x : Bool} {φ : ph_T} {this : Nat} {p0 : Int32} {p1 : Int32} {q : (Int32 ⊕ String) × ph_T} (H : f_Bus_map Γ φ this p0 p1 = some q) : jc w M_Bus_map [.ref this, .int p0, .int p1] (pic Γ φ) n x (kt q.1) (6 * kt q.1) (fq Γ n (rsI q.1) q.2) := by
  refine jc.of (by simp only [jent_r, jent_i, jent_l, jent_a, jent_0]; exact Nat.le_of_ble_eq_true rfl) ?_
  have hls : jents [.ref this, .int p0, .int p1] (jm_nL M_Bus_map) = [some (.ref this), some (.int p0), some (.int p1), none] := by simp only [jents, jent_r, jent_i, jent_l, jent_a, jent_0]; rfl
  rw [hls]
  clear hls
  unfold f_Bus_map at H
  refine J_iload_n d_Bus_map_0 rfl ?_
  refine J_bipush (v := 16) d_Bus_map_1 (by decide) ?_
  rcases bT_some H with ⟨E22, φ21, hq19, H⟩ | ⟨v20, φ21, hq19, H⟩
  · subst H
    show J _ _ _ _ _ _ _ _ (1 + 0) (6 + 0) _
    refine J_callS (kc := 0) (ks := 0) (kc' := 1) (ks' := 6) (as := [.int p0, .int (16 : Int32)]) (st := []) (mf_Bus_needIndex hw) (ms_Bus_65 hw) d_Bus_map_3 ln_Bus_needIndex (by decide) (by first | exact Nat.le_of_ble_eq_true rfl | (simp only [List.map_cons, List.map_nil, List.sum_cons, List.sum_nil, va_rf_cat]; exact Nat.le_of_ble_eq_true rfl)) rfl (p_Bus_needIndex hw hG hq19) (fun v9 h9 n9 x9 e9 => fq_nr e9) ?_
    intro E99 h9 n9 x9 e9
    obtain ⟨e91, e92, e93⟩ := e9
    have e91 := (Sum.inr.inj (show Sum.inr E99 = Sum.inr E22 from e91)).symm
    subst e91
    subst e92
    subst e93
    exact JT.out rfl ⟨rfl, rfl, rfl⟩
  refine J.kk (Nat.zero_add _) (Nat.zero_add _) ?_
  refine J_callS (kc := kt q.1) (ks := 6 * kt q.1) (kc' := 0) (ks' := 0) (as := [.int p0, .int (16 : Int32)]) (st := []) (mf_Bus_needIndex hw) (ms_Bus_65 hw) d_Bus_map_3 ln_Bus_needIndex (by decide) (by first | exact Nat.le_of_ble_eq_true rfl | (simp only [List.map_cons, List.map_nil, List.sum_cons, List.sum_nil, va_rf_cat]; exact Nat.le_of_ble_eq_true rfl)) rfl (p_Bus_needIndex hw hG hq19) ?_ (fun E9 h9 n9 x9 e9 => fq_nt e9)
  intro v9 h9 n9 x9 e9
  obtain ⟨e91, e92, e93⟩ := e9
  have e91 := Sum.inl.inj (show Sum.inl v9 = Sum.inl none from e91)
  subst e91
  subst e92
  subst e93
  clear x
  rename Bool => x
  show J _ _ _ _ [] _ _ _ _ _ _
  refine J_iload_n d_Bus_map_6 rfl ?_
  refine J_iconst (v := -1) d_Bus_map_7 (by decide) ?_
  refine J_icmp_eq (tgt := 20) d_Bus_map_8 (by decide) ?_ ?_
  · intro c30
    rw [if_pos c30] at H
    refine J.drop [true, true, true, false] rfl ?_
    exact p_Bus_map_L20 hw hG  H
  · intro c30
    rw [if_neg c30] at H
    refine J_iload_n d_Bus_map_11 rfl ?_
    refine J_aload_n d_Bus_map_12 rfl ?_
    have g23 : Γ this = .inr 11 := by
      apply Classical.byContradiction
      intro q9
      rw [if_neg q9] at H
      cases H
    rw [if_pos g23] at H
    refine F_getR (ci := 11) (k := 3) hG (cf_Bus hw) (fl_Bus_45 hw) (by decide) (by decide) rfl d_Bus_map_13 g23 ?_
    obtain ⟨a24, ha24, H⟩ := Option.bind_eq_some_iff.mp H
    rw [j_rf ha24]
    obtain ⟨N25, hN25, H⟩ := Option.bind_eq_some_iff.mp H
    refine F_alen hw hG (t := 9) rfl d_Bus_map_16 (gA_some hN25) ?_
    rcases bT_some H with ⟨E29, φ28, hq26, H⟩ | ⟨v27, φ28, hq26, H⟩
    · subst H
      show J _ _ _ _ _ _ _ _ (1 + 0) (6 + 0) _
      refine J_callS (kc := 0) (ks := 0) (kc' := 1) (ks' := 6) (as := [.int p1, .int (nI N25)]) (st := []) (mf_Bus_needIndex hw) (ms_Bus_65 hw) d_Bus_map_17 ln_Bus_needIndex (by decide) (by first | exact Nat.le_of_ble_eq_true rfl | (simp only [List.map_cons, List.map_nil, List.sum_cons, List.sum_nil, va_rf_cat]; exact Nat.le_of_ble_eq_true rfl)) rfl (p_Bus_needIndex hw hG hq26) (fun v9 h9 n9 x9 e9 => fq_nr e9) ?_
      intro E99 h9 n9 x9 e9
      obtain ⟨e91, e92, e93⟩ := e9
      have e91 := (Sum.inr.inj (show Sum.inr E99 = Sum.inr E29 from e91)).symm
      subst e91
      subst e92
      subst e93
      exact JT.out rfl ⟨rfl, rfl, rfl⟩
    refine J.kk (Nat.zero_add _) (Nat.zero_add _) ?_
    refine J_callS (kc := kt q.1) (ks := 6 * kt q.1) (kc' := 0) (ks' := 0) (as := [.int p1, .int (nI N25)]) (st := []) (mf_Bus_needIndex hw) (ms_Bus_65 hw) d_Bus_map_17 ln_Bus_needIndex (by decide) (by first | exact Nat.le_of_ble_eq_true rfl | (simp only [List.map_cons, List.map_nil, List.sum_cons, List.sum_nil, va_rf_cat]; exact Nat.le_of_ble_eq_true rfl)) rfl (p_Bus_needIndex hw hG hq26) ?_ (fun E9 h9 n9 x9 e9 => fq_nt e9)
    intro v9 h9 n9 x9 e9
    obtain ⟨e91, e92, e93⟩ := e9
    have e91 := Sum.inl.inj (show Sum.inl v9 = Sum.inl none from e91)
    subst e91
    subst e92
    subst e93
    clear x
    rename Bool => x
    show J _ _ _ _ [] _ _ _ _ _ _
    refine J.drop [true, true, true, false] rfl ?_
    exact p_Bus_map_L20 hw hG  H
theorem ln_Law_map : (parseMethodDescriptor y_Law_map.desc).map (fun q => q.parameters.length) = some 4 := by decide +kernel
def f_Law_map (Γ : gm_T) (φ : ph_T) (p0 : Option Nat) (p1 : Int32) (p2 : Int32) (p3 : Option Nat) : Option (Int32 × ph_T) :=
  Option.bind p0 fun a1 =>
  @ite _ (Γ a1 = .inr 11) _ (
  bC (f_Bus_map Γ φ a1 p1 p2) (fun E6 φ5 =>
    if E6 = "java/lang/IndexOutOfBoundsException" then
      some ((1 : Int32), φ5)
 else if E6 = "java/lang/IllegalStateException" then
      some ((2 : Int32), φ5)
 else none) fun v4 φ5 =>
  Option.bind p3 fun a11 =>
  Option.bind (gA Γ a11 1) fun N12 =>
  Option.bind (ix (0 : Int32) N12) fun k13 =>
  some ((0 : Int32), (uL φ5 a11 k13 (Int32.toInt64 v4)))
  ) none
set_option maxRecDepth 100000 in
set_option maxHeartbeats 4000000 in
theorem p_Law_map {w : jw_T} (hw : jok w) {Γ : gm_T} {n : Nat} (hG : gd w Γ n) {x : Bool} {φ : ph_T} {p0 : Option Nat} {p1 : Int32} {p2 : Int32} {p3 : Option Nat} {q : Int32 × ph_T} (H : f_Law_map Γ φ p0 p1 p2 p3 = some q) : jc w M_Law_map [va_rf p0, .int p1, .int p2, va_rf p3] (pic Γ φ) n x 1 6 (fq Γ n (.inl (some (.int q.1))) q.2) := by
  refine jc.of (by simp only [jent_r, jent_i, jent_l, jent_a, jent_0]; exact Nat.le_of_ble_eq_true rfl) ?_
  have hls : jents [va_rf p0, .int p1, .int p2, va_rf p3] (jm_nL M_Law_map) = [some (va_rf p0), some (.int p1), some (.int p2), some (va_rf p3), none] := by simp only [jents, jent_r, jent_i, jent_l, jent_a, jent_0]; rfl
  rw [hls]
  clear hls
  unfold f_Law_map at H
  refine J_aload_nO d_Law_map_0 rfl ?_
  refine J_iconst (v := 0) d_Law_map_1 (by decide) ?_
  refine J_aload_nO d_Law_map_2 rfl ?_
  refine J_iload_n d_Law_map_3 rfl ?_
  refine J_iload_n d_Law_map_4 rfl ?_
  obtain ⟨a1, ha1, H⟩ := Option.bind_eq_some_iff.mp H
  rw [j_rf ha1]
  have g2 : Γ a1 = .inr 11 := by
    apply Classical.byContradiction
    intro q9
    rw [if_neg q9] at H
    cases H
  rw [if_pos g2] at H
  rcases bC_some H with ⟨E6, φ5, hq3, H⟩ | ⟨v4, φ5, hq3, H⟩
  · refine J_callV (kc := 0) (ks := 0) (kc' := 1) (ks' := 6) (a := a1) (ci := 11) (as := [.int p1, .int p2]) (st := [.int (0 : Int32), va_rf p3]) (mf_Bus_map hw) (mv_Law_7 hw) d_Law_map_5 ln_Bus_map (by decide) (by first | exact Nat.le_of_ble_eq_true rfl | (simp only [List.map_cons, List.map_nil, List.sum_cons, List.sum_nil, va_rf_cat]; exact Nat.le_of_ble_eq_true rfl)) rfl ((hG _).1 _ g2 (by decide)).1 ((hG _).1 _ g2 (by decide)).2 (by unfold pic; rw [g2]; rfl) (jcl_at hw rfl) rfl (p_Bus_map hw hG hq3) (fun v9 h9 n9 x9 e9 => fq_nr e9) ?_
    intro E99 h9 n9 x9 e9
    obtain ⟨e91, e92, e93⟩ := e9
    have e91 := (Sum.inr.inj (show Sum.inr E99 = Sum.inr E6 from e91)).symm
    subst e91
    subst e92
    subst e93
    by_cases c8 : E6 = "java/lang/IndexOutOfBoundsException"
    · subst c8
      rw [if_pos rfl] at H
      refine JT.catch (name := "java/lang/IndexOutOfBoundsException") [] [(0, 10, 17, 15)] rfl ⟨by decide, by decide⟩ (by decide) (tb3 hw (i := 79) (by decide +kernel)) (tb3 hw (i := 90) (by decide +kernel)) (fun r9 hr9 => by cases hr9) (fun r7 => ?_)
      refine J_astore d_Law_map_13 (Nat.le_of_ble_eq_true rfl) ?_
      refine J.ls (ls' := [some (.ref a1), some (.int p1), some (.int p2), some (va_rf p3), some (.ref r7)]) (jst1_o (i := 3) (r := p3) rfl) ?_
      refine J_iconst (v := 1) d_Law_map_15 (by decide) ?_
      have H := Option.some.inj H
      subst H
      exact J_iret (st := []) d_Law_map_16 rfl rfl ⟨rfl, rfl, rfl⟩
    rw [if_neg c8] at H
    by_cases c10 : E6 = "java/lang/IllegalStateException"
    · subst c10
      rw [if_pos rfl] at H
      refine JT.catch (name := "java/lang/IllegalStateException") [(0, 10, 13, 13)] [] rfl ⟨by decide, by decide⟩ (by decide) (tb3 hw (i := 80) (by decide +kernel)) (tb3 hw (i := 159) (by decide +kernel)) (fun r9 hr9 => by
          simp only [List.mem_cons, List.not_mem_nil, or_false] at hr9
          rcases hr9 with rfl
          · exact ⟨by decide, "java/lang/IndexOutOfBoundsException", tb3 hw (i := 79) (by decide +kernel), jnc_mem hw (by decide)⟩) (fun r9 => ?_)
      refine J_astore d_Law_map_17 (Nat.le_of_ble_eq_true rfl) ?_
      refine J.ls (ls' := [some (.ref a1), some (.int p1), some (.int p2), some (va_rf p3), some (.ref r9)]) (jst1_o (i := 3) (r := p3) rfl) ?_
      refine J_iconst (v := 2) d_Law_map_19 (by decide) ?_
      have H := Option.some.inj H
      subst H
      exact J_iret (st := []) d_Law_map_20 rfl rfl ⟨rfl, rfl, rfl⟩
    rw [if_neg c10] at H
    cases H
  refine J.more (kc := 0) (ks := 0) (Nat.zero_le _) (Nat.zero_le _) ?_
  refine J_callV (kc := 0) (ks := 0) (kc' := 0) (ks' := 0) (a := a1) (ci := 11) (as := [.int p1, .int p2]) (st := [.int (0 : Int32), va_rf p3]) (mf_Bus_map hw) (mv_Law_7 hw) d_Law_map_5 ln_Bus_map (by decide) (by first | exact Nat.le_of_ble_eq_true rfl | (simp only [List.map_cons, List.map_nil, List.sum_cons, List.sum_nil, va_rf_cat]; exact Nat.le_of_ble_eq_true rfl)) rfl ((hG _).1 _ g2 (by decide)).1 ((hG _).1 _ g2 (by decide)).2 (by unfold pic; rw [g2]; rfl) (jcl_at hw rfl) rfl (p_Bus_map hw hG hq3) ?_ (fun E9 h9 n9 x9 e9 => fq_nt e9)
  intro v9 h9 n9 x9 e9
  obtain ⟨e91, e92, e93⟩ := e9
  have e91 := Sum.inl.inj (show Sum.inl v9 = Sum.inl (some (.int v4)) from e91)
  subst e91
  subst e92
  subst e93
  clear x
  rename Bool => x
  show J _ _ _ _ (_ :: _) _ _ _ _ _ _
  refine J_i2l d_Law_map_8 ?_
  obtain ⟨a11, ha11, H⟩ := Option.bind_eq_some_iff.mp H
  rw [j_rf ha11]
  obtain ⟨N12, hN12, H⟩ := Option.bind_eq_some_iff.mp H
  obtain ⟨k13, hk13, H⟩ := Option.bind_eq_some_iff.mp H
  refine F_last k13 hw hG d_Law_map_9 (gA_some hN12) (ix_some hk13) ?_
  refine J_goto (tgt := 21) d_Law_map_10 (by decide) ?_
  refine J_iconst (v := 0) d_Law_map_21 (by decide) ?_
  have H := Option.some.inj H
  subst H
  exact J_iret (st := []) d_Law_map_22 rfl rfl ⟨rfl, rfl, rfl⟩
theorem ln_Bus_needNumber : (parseMethodDescriptor y_Bus_needNumber.desc).map (fun q => q.parameters.length) = some 3 := by decide +kernel
def f_Bus_needNumber_L10 (Γ : gm_T)  (φ : ph_T) : Option ((Unit ⊕ String) × ph_T) :=
  some (.inr "java/lang/IllegalArgumentException", φ)
set_option maxRecDepth 100000 in
set_option maxHeartbeats 4000000 in
theorem p_Bus_needNumber_L10 {w : jw_T} (hw : jok w) {Γ : gm_T} {n : Nat} (hG : gd w Γ n)  {x : Bool} {φ : ph_T} {q : (Unit ⊕ String) × ph_T} (H : f_Bus_needNumber_L10 Γ  φ  = some q) : J w M_Bus_needNumber 10 [none, none, none] [] (pic Γ φ) n x (kt q.1) (6 * kt q.1) (fq Γ n (rsV q.1) q.2) := by
  unfold f_Bus_needNumber_L10 at H
  have H := Option.some.inj H
  subst H
  show J _ _ _ _ _ _ _ _ (0 + 1) (0 + 6) _
  exact J_throwW (kc := 0) (ks := 0) (cls := "java/lang/IllegalArgumentException") (names := jxn) xf_IllegalArgumentException jxn_fit (tb3 hw (i := 184) (by decide +kernel)) (tb1 hw (i := 21) (by decide +kernel)) (jsr_mem hw (text := "a number is none that is told") (by decide)) (xa_IllegalArgumentException hw) d_Bus_needNumber_10 d_Bus_needNumber_13 d_Bus_needNumber_14 d_Bus_needNumber_17 d_Bus_needNumber_20 rfl rfl (by decide) (by decide) ⟨rfl, rfl, rfl⟩
def f_Bus_needNumber (Γ : gm_T) (φ : ph_T) (p0 : Int32) (p1 : Int32) (p2 : Int32) : Option ((Unit ⊕ String) × ph_T) :=
  if p0 < p1 then
    f_Bus_needNumber_L10 Γ  φ 
  else
    if p0 ≤ p2 then
      some (.inl (()), φ)
    else
      f_Bus_needNumber_L10 Γ  φ 
set_option maxRecDepth 100000 in
set_option maxHeartbeats 4000000 in
theorem p_Bus_needNumber {w : jw_T} (hw : jok w) {Γ : gm_T} {n : Nat} (hG : gd w Γ n) {x : Bool} {φ : ph_T} {p0 : Int32} {p1 : Int32} {p2 : Int32} {q : (Unit ⊕ String) × ph_T} (H : f_Bus_needNumber Γ φ p0 p1 p2 = some q) : jc w M_Bus_needNumber [.int p0, .int p1, .int p2] (pic Γ φ) n x (kt q.1) (6 * kt q.1) (fq Γ n (rsV q.1) q.2) := by
  refine jc.of (by simp only [jent_r, jent_i, jent_l, jent_a, jent_0]; exact Nat.le_of_ble_eq_true rfl) ?_
  have hls : jents [.int p0, .int p1, .int p2] (jm_nL M_Bus_needNumber) = [some (.int p0), some (.int p1), some (.int p2)] := by simp only [jents, jent_r, jent_i, jent_l, jent_a, jent_0]; rfl
  rw [hls]
  clear hls
  unfold f_Bus_needNumber at H
  refine J_iload_n d_Bus_needNumber_0 rfl ?_
  refine J_iload_n d_Bus_needNumber_1 rfl ?_
  refine J_icmp_lt (tgt := 10) d_Bus_needNumber_2 (by decide) ?_ ?_
  · intro c2
    rw [if_pos c2] at H
    refine J.drop [false, false, false] rfl ?_
    exact p_Bus_needNumber_L10 hw hG  H
  · intro c2
    rw [if_neg c2] at H
    refine J_iload_n d_Bus_needNumber_5 rfl ?_
    refine J_iload_n d_Bus_needNumber_6 rfl ?_
    refine J_icmp_le (tgt := 21) d_Bus_needNumber_7 (by decide) ?_ ?_
    · intro c1
      rw [if_pos c1] at H
      have H := Option.some.inj H
      subst H
      show J _ _ _ _ _ _ _ _ 0 0 _
      exact J_vret (st := []) d_Bus_needNumber_21 rfl ⟨rfl, rfl, rfl⟩
    · intro c1
      rw [if_neg c1] at H
      refine J.drop [false, false, false] rfl ?_
      exact p_Bus_needNumber_L10 hw hG  H
theorem ln_Bus_policy : (parseMethodDescriptor y_Bus_policy.desc).map (fun q => q.parameters.length) = some 2 := by decide +kernel
def f_Bus_policy (Γ : gm_T) (φ : ph_T) (this : Nat) (p0 : Int32) (p1 : Int32) : Option ((Int32 ⊕ String) × ph_T) :=
  bT (f_Bus_needNumber Γ φ p0 (0 : Int32) (3 : Int32)) fun v2 φ3 =>
  @ite _ (Γ this = .inr 11) _ (
  Option.bind (φ3.2.2 this 1) fun a6 =>
  @ite _ (Γ a6 = .inr 10) _ (
  @ite _ (p1 = 0 ∨ p1 = 1) _ (
  some (.inl ((φ3.1 a6 13)), (uI (uI φ3 a6 13 p0) a6 14 p1))
  ) none
  ) none
  ) none
set_option maxRecDepth 100000 in
set_option maxHeartbeats 4000000 in
theorem p_Bus_policy {w : jw_T} (hw : jok w) {Γ : gm_T} {n : Nat} (hG : gd w Γ n) {x : Bool} {φ : ph_T} {this : Nat} {p0 : Int32} {p1 : Int32} {q : (Int32 ⊕ String) × ph_T} (H : f_Bus_policy Γ φ this p0 p1 = some q) : jc w M_Bus_policy [.ref this, .int p0, .int p1] (pic Γ φ) n x (kt q.1) (6 * kt q.1) (fq Γ n (rsI q.1) q.2) := by
  refine jc.of (by simp only [jent_r, jent_i, jent_l, jent_a, jent_0]; exact Nat.le_of_ble_eq_true rfl) ?_
  have hls : jents [.ref this, .int p0, .int p1] (jm_nL M_Bus_policy) = [some (.ref this), some (.int p0), some (.int p1), none] := by simp only [jents, jent_r, jent_i, jent_l, jent_a, jent_0]; rfl
  rw [hls]
  clear hls
  unfold f_Bus_policy at H
  refine J_iload_n d_Bus_policy_0 rfl ?_
  refine J_iconst (v := 0) d_Bus_policy_1 (by decide) ?_
  refine J_iconst (v := 3) d_Bus_policy_2 (by decide) ?_
  rcases bT_some H with ⟨E4, φ3, hq1, H⟩ | ⟨v2, φ3, hq1, H⟩
  · subst H
    show J _ _ _ _ _ _ _ _ (1 + 0) (6 + 0) _
    refine J_callS (kc := 0) (ks := 0) (kc' := 1) (ks' := 6) (as := [.int p0, .int (0 : Int32), .int (3 : Int32)]) (st := []) (mf_Bus_needNumber hw) (ms_Bus_84 hw) d_Bus_policy_3 ln_Bus_needNumber (by decide) (by first | exact Nat.le_of_ble_eq_true rfl | (simp only [List.map_cons, List.map_nil, List.sum_cons, List.sum_nil, va_rf_cat]; exact Nat.le_of_ble_eq_true rfl)) rfl (p_Bus_needNumber hw hG hq1) (fun v9 h9 n9 x9 e9 => fq_nr e9) ?_
    intro E99 h9 n9 x9 e9
    obtain ⟨e91, e92, e93⟩ := e9
    have e91 := (Sum.inr.inj (show Sum.inr E99 = Sum.inr E4 from e91)).symm
    subst e91
    subst e92
    subst e93
    exact JT.out rfl ⟨rfl, rfl, rfl⟩
  refine J.kk (Nat.zero_add _) (Nat.zero_add _) ?_
  refine J_callS (kc := kt q.1) (ks := 6 * kt q.1) (kc' := 0) (ks' := 0) (as := [.int p0, .int (0 : Int32), .int (3 : Int32)]) (st := []) (mf_Bus_needNumber hw) (ms_Bus_84 hw) d_Bus_policy_3 ln_Bus_needNumber (by decide) (by first | exact Nat.le_of_ble_eq_true rfl | (simp only [List.map_cons, List.map_nil, List.sum_cons, List.sum_nil, va_rf_cat]; exact Nat.le_of_ble_eq_true rfl)) rfl (p_Bus_needNumber hw hG hq1) ?_ (fun E9 h9 n9 x9 e9 => fq_nt e9)
  intro v9 h9 n9 x9 e9
  obtain ⟨e91, e92, e93⟩ := e9
  have e91 := Sum.inl.inj (show Sum.inl v9 = Sum.inl none from e91)
  subst e91
  subst e92
  subst e93
  clear x
  rename Bool => x
  show J _ _ _ _ [] _ _ _ _ _ _
  refine J_aload_n d_Bus_policy_6 rfl ?_
  have g5 : Γ this = .inr 11 := by
    apply Classical.byContradiction
    intro q9
    rw [if_neg q9] at H
    cases H
  rw [if_pos g5] at H
  refine F_getR (ci := 11) (k := 1) hG (cf_Bus hw) (fl_Bus_25 hw) (by decide) (by decide) rfl d_Bus_policy_7 g5 ?_
  obtain ⟨a6, ha6, H⟩ := Option.bind_eq_some_iff.mp H
  rw [j_rf ha6]
  have g7 : Γ a6 = .inr 10 := by
    apply Classical.byContradiction
    intro q9
    rw [if_neg q9] at H
    cases H
  rw [if_pos g7] at H
  refine F_getI (ci := 10) (k := 13) hG (cf_Switch hw) (fl_Bus_87 hw) (by decide) (by decide) rfl d_Bus_policy_10 g7 ?_
  refine J_istore_n d_Bus_policy_13 (Nat.le_of_ble_eq_true rfl) ?_
  refine J.ls (ls' := [some (.ref this), some (.int p0), some (.int p1), some (.int (φ3.1 a6 13))]) rfl ?_
  refine J_aload_n d_Bus_policy_14 rfl ?_
  refine F_getR (ci := 11) (k := 1) hG (cf_Bus hw) (fl_Bus_25 hw) (by decide) (by decide) rfl d_Bus_policy_15 g5 ?_
  refine J_iload_n d_Bus_policy_18 rfl ?_
  try rw [j_rf ha6]
  refine F_putI (ci := 10) (k := 13) hG (cf_Switch hw) (fl_Bus_87 hw) (by decide) (by decide) rfl d_Bus_policy_19 rfl rfl rfl g7 ?_
  refine J_aload_n d_Bus_policy_22 rfl ?_
  refine F_getR (ci := 11) (k := 1) hG (cf_Bus hw) (fl_Bus_25 hw) (by decide) (by decide) rfl d_Bus_policy_23 g5 ?_
  show J _ _ _ _ (va_rf (φ3.2.2 this 1) :: _) _ _ _ _ _ _
  refine J_iload_n d_Bus_policy_26 rfl ?_
  try rw [j_rf ha6]
  have z8 : p1 = 0 ∨ p1 = 1 := by
    apply Classical.byContradiction
    intro q9
    rw [if_neg q9] at H
    cases H
  rw [if_pos z8] at H
  refine F_putI (ci := 10) (k := 14) hG (cf_Switch hw) (fl_Bus_91 hw) (by decide) (by decide) rfl d_Bus_policy_27 rfl (narrow_z z8).1 (narrow_z z8).2 g7 ?_
  refine J_iload_n d_Bus_policy_30 rfl ?_
  have H := Option.some.inj H
  subst H
  show J _ _ _ _ _ _ _ _ 0 0 _
  exact J_iret (st := []) d_Bus_policy_31 rfl rfl ⟨rfl, rfl, rfl⟩
theorem ln_Law_policy : (parseMethodDescriptor y_Law_policy.desc).map (fun q => q.parameters.length) = some 4 := by decide +kernel
def f_Law_policy (Γ : gm_T) (φ : ph_T) (p0 : Option Nat) (p1 : Int32) (p2 : Int32) (p3 : Option Nat) : Option (Int32 × ph_T) :=
  Option.bind p0 fun a1 =>
  @ite _ (Γ a1 = .inr 11) _ (
  bC (f_Bus_policy Γ φ a1 p1 p2) (fun E6 φ5 =>
    if E6 = "java/lang/IllegalArgumentException" then
      some ((1 : Int32), φ5)
 else none) fun v4 φ5 =>
  Option.bind p3 fun a9 =>
  Option.bind (gA Γ a9 1) fun N10 =>
  Option.bind (ix (0 : Int32) N10) fun k11 =>
  some ((0 : Int32), (uL φ5 a9 k11 (Int32.toInt64 v4)))
  ) none
set_option maxRecDepth 100000 in
set_option maxHeartbeats 4000000 in
theorem p_Law_policy {w : jw_T} (hw : jok w) {Γ : gm_T} {n : Nat} (hG : gd w Γ n) {x : Bool} {φ : ph_T} {p0 : Option Nat} {p1 : Int32} {p2 : Int32} {p3 : Option Nat} {q : Int32 × ph_T} (H : f_Law_policy Γ φ p0 p1 p2 p3 = some q) : jc w M_Law_policy [va_rf p0, .int p1, .int p2, va_rf p3] (pic Γ φ) n x 1 6 (fq Γ n (.inl (some (.int q.1))) q.2) := by
  refine jc.of (by simp only [jent_r, jent_i, jent_l, jent_a, jent_0]; exact Nat.le_of_ble_eq_true rfl) ?_
  have hls : jents [va_rf p0, .int p1, .int p2, va_rf p3] (jm_nL M_Law_policy) = [some (va_rf p0), some (.int p1), some (.int p2), some (va_rf p3), none] := by simp only [jents, jent_r, jent_i, jent_l, jent_a, jent_0]; rfl
  rw [hls]
  clear hls
  unfold f_Law_policy at H
  refine J_aload_nO d_Law_policy_0 rfl ?_
  refine J_iconst (v := 0) d_Law_policy_1 (by decide) ?_
  refine J_aload_nO d_Law_policy_2 rfl ?_
  refine J_iload_n d_Law_policy_3 rfl ?_
  refine J_iload_n d_Law_policy_4 rfl ?_
  obtain ⟨a1, ha1, H⟩ := Option.bind_eq_some_iff.mp H
  rw [j_rf ha1]
  have g2 : Γ a1 = .inr 11 := by
    apply Classical.byContradiction
    intro q9
    rw [if_neg q9] at H
    cases H
  rw [if_pos g2] at H
  rcases bC_some H with ⟨E6, φ5, hq3, H⟩ | ⟨v4, φ5, hq3, H⟩
  · refine J_callV (kc := 0) (ks := 0) (kc' := 1) (ks' := 6) (a := a1) (ci := 11) (as := [.int p1, .int p2]) (st := [.int (0 : Int32), va_rf p3]) (mf_Bus_policy hw) (mv_Law_17 hw) d_Law_policy_5 ln_Bus_policy (by decide) (by first | exact Nat.le_of_ble_eq_true rfl | (simp only [List.map_cons, List.map_nil, List.sum_cons, List.sum_nil, va_rf_cat]; exact Nat.le_of_ble_eq_true rfl)) rfl ((hG _).1 _ g2 (by decide)).1 ((hG _).1 _ g2 (by decide)).2 (by unfold pic; rw [g2]; rfl) (jcl_at hw rfl) rfl (p_Bus_policy hw hG hq3) (fun v9 h9 n9 x9 e9 => fq_nr e9) ?_
    intro E99 h9 n9 x9 e9
    obtain ⟨e91, e92, e93⟩ := e9
    have e91 := (Sum.inr.inj (show Sum.inr E99 = Sum.inr E6 from e91)).symm
    subst e91
    subst e92
    subst e93
    by_cases c8 : E6 = "java/lang/IllegalArgumentException"
    · subst c8
      rw [if_pos rfl] at H
      refine JT.catch (name := "java/lang/IllegalArgumentException") [] [] rfl ⟨by decide, by decide⟩ (by decide) (tb3 hw (i := 176) (by decide +kernel)) (tb3 hw (i := 186) (by decide +kernel)) (fun r9 hr9 => by cases hr9) (fun r7 => ?_)
      refine J_astore d_Law_policy_13 (Nat.le_of_ble_eq_true rfl) ?_
      refine J.ls (ls' := [some (.ref a1), some (.int p1), some (.int p2), some (va_rf p3), some (.ref r7)]) (jst1_o (i := 3) (r := p3) rfl) ?_
      refine J_iconst (v := 1) d_Law_policy_15 (by decide) ?_
      have H := Option.some.inj H
      subst H
      exact J_iret (st := []) d_Law_policy_16 rfl rfl ⟨rfl, rfl, rfl⟩
    rw [if_neg c8] at H
    cases H
  refine J.more (kc := 0) (ks := 0) (Nat.zero_le _) (Nat.zero_le _) ?_
  refine J_callV (kc := 0) (ks := 0) (kc' := 0) (ks' := 0) (a := a1) (ci := 11) (as := [.int p1, .int p2]) (st := [.int (0 : Int32), va_rf p3]) (mf_Bus_policy hw) (mv_Law_17 hw) d_Law_policy_5 ln_Bus_policy (by decide) (by first | exact Nat.le_of_ble_eq_true rfl | (simp only [List.map_cons, List.map_nil, List.sum_cons, List.sum_nil, va_rf_cat]; exact Nat.le_of_ble_eq_true rfl)) rfl ((hG _).1 _ g2 (by decide)).1 ((hG _).1 _ g2 (by decide)).2 (by unfold pic; rw [g2]; rfl) (jcl_at hw rfl) rfl (p_Bus_policy hw hG hq3) ?_ (fun E9 h9 n9 x9 e9 => fq_nt e9)
  intro v9 h9 n9 x9 e9
  obtain ⟨e91, e92, e93⟩ := e9
  have e91 := Sum.inl.inj (show Sum.inl v9 = Sum.inl (some (.int v4)) from e91)
  subst e91
  subst e92
  subst e93
  clear x
  rename Bool => x
  show J _ _ _ _ (_ :: _) _ _ _ _ _ _
  refine J_i2l d_Law_policy_8 ?_
  obtain ⟨a9, ha9, H⟩ := Option.bind_eq_some_iff.mp H
  rw [j_rf ha9]
  obtain ⟨N10, hN10, H⟩ := Option.bind_eq_some_iff.mp H
  obtain ⟨k11, hk11, H⟩ := Option.bind_eq_some_iff.mp H
  refine F_last k11 hw hG d_Law_policy_9 (gA_some hN10) (ix_some hk11) ?_
  refine J_goto (tgt := 17) d_Law_policy_10 (by decide) ?_
  refine J_iconst (v := 0) d_Law_policy_17 (by decide) ?_
  have H := Option.some.inj H
  subst H
  exact J_iret (st := []) d_Law_policy_18 rfl rfl ⟨rfl, rfl, rfl⟩
theorem ln_Bus_master : (parseMethodDescriptor y_Bus_master.desc).map (fun q => q.parameters.length) = some 3 := by decide +kernel
def f_Bus_master (Γ : gm_T) (φ : ph_T) (this : Nat) (p0 : Int32) (p1 : Int32) (p2 : Int32) : Option ((Int32 ⊕ String) × ph_T) :=
  @ite _ (Γ this = .inr 11) _ (
  Option.bind (φ.2.2 this 2) fun a2 =>
  Option.bind (gA Γ a2 8) fun N3 =>
  bT (f_Bus_needIndex Γ φ p0 (nI N3)) fun v5 φ6 =>
  bT (f_Bus_needIndex Γ φ6 p1 (5 : Int32)) fun v9 φ10 =>
  Option.bind (φ10.2.2 this 2) fun a12 =>
  Option.bind (gA Γ a12 8) fun N13 =>
  Option.bind (ix p0 N13) fun k14 =>
  Option.bind (φ10.2.2 a12 k14) fun a15 =>
  @ite _ (Γ a15 = .inr 7) _ (
  Option.bind (f_Bus_exchange Γ φ10 (φ10.2.2 a15 0) p1 p2) fun q17 =>
  some (.inl (q17.1), q17.2)
  ) none
  ) none
set_option maxRecDepth 100000 in
set_option maxHeartbeats 4000000 in
theorem p_Bus_master {w : jw_T} (hw : jok w) {Γ : gm_T} {n : Nat} (hG : gd w Γ n) {x : Bool} {φ : ph_T} {this : Nat} {p0 : Int32} {p1 : Int32} {p2 : Int32} {q : (Int32 ⊕ String) × ph_T} (H : f_Bus_master Γ φ this p0 p1 p2 = some q) : jc w M_Bus_master [.ref this, .int p0, .int p1, .int p2] (pic Γ φ) n x (kt q.1) (6 * kt q.1) (fq Γ n (rsI q.1) q.2) := by
  refine jc.of (by simp only [jent_r, jent_i, jent_l, jent_a, jent_0]; exact Nat.le_of_ble_eq_true rfl) ?_
  have hls : jents [.ref this, .int p0, .int p1, .int p2] (jm_nL M_Bus_master) = [some (.ref this), some (.int p0), some (.int p1), some (.int p2)] := by simp only [jents, jent_r, jent_i, jent_l, jent_a, jent_0]; rfl
  rw [hls]
  clear hls
  unfold f_Bus_master at H
  refine J_iload_n d_Bus_master_0 rfl ?_
  refine J_aload_n d_Bus_master_1 rfl ?_
  have g1 : Γ this = .inr 11 := by
    apply Classical.byContradiction
    intro q9
    rw [if_neg q9] at H
    cases H
  rw [if_pos g1] at H
  refine F_getR (ci := 11) (k := 2) hG (cf_Bus hw) (fl_Bus_31 hw) (by decide) (by decide) rfl d_Bus_master_2 g1 ?_
  obtain ⟨a2, ha2, H⟩ := Option.bind_eq_some_iff.mp H
  rw [j_rf ha2]
  obtain ⟨N3, hN3, H⟩ := Option.bind_eq_some_iff.mp H
  refine F_alen hw hG (t := 8) rfl d_Bus_master_5 (gA_some hN3) ?_
  rcases bT_some H with ⟨E7, φ6, hq4, H⟩ | ⟨v5, φ6, hq4, H⟩
  · subst H
    show J _ _ _ _ _ _ _ _ (1 + 0) (6 + 0) _
    refine J_callS (kc := 0) (ks := 0) (kc' := 1) (ks' := 6) (as := [.int p0, .int (nI N3)]) (st := []) (mf_Bus_needIndex hw) (ms_Bus_65 hw) d_Bus_master_6 ln_Bus_needIndex (by decide) (by first | exact Nat.le_of_ble_eq_true rfl | (simp only [List.map_cons, List.map_nil, List.sum_cons, List.sum_nil, va_rf_cat]; exact Nat.le_of_ble_eq_true rfl)) rfl (p_Bus_needIndex hw hG hq4) (fun v9 h9 n9 x9 e9 => fq_nr e9) ?_
    intro E99 h9 n9 x9 e9
    obtain ⟨e91, e92, e93⟩ := e9
    have e91 := (Sum.inr.inj (show Sum.inr E99 = Sum.inr E7 from e91)).symm
    subst e91
    subst e92
    subst e93
    exact JT.out rfl ⟨rfl, rfl, rfl⟩
  refine J.kk (Nat.zero_add _) (Nat.zero_add _) ?_
  refine J_callS (kc := kt q.1) (ks := 6 * kt q.1) (kc' := 0) (ks' := 0) (as := [.int p0, .int (nI N3)]) (st := []) (mf_Bus_needIndex hw) (ms_Bus_65 hw) d_Bus_master_6 ln_Bus_needIndex (by decide) (by first | exact Nat.le_of_ble_eq_true rfl | (simp only [List.map_cons, List.map_nil, List.sum_cons, List.sum_nil, va_rf_cat]; exact Nat.le_of_ble_eq_true rfl)) rfl (p_Bus_needIndex hw hG hq4) ?_ (fun E9 h9 n9 x9 e9 => fq_nt e9)
  intro v9 h9 n9 x9 e9
  obtain ⟨e91, e92, e93⟩ := e9
  have e91 := Sum.inl.inj (show Sum.inl v9 = Sum.inl none from e91)
  subst e91
  subst e92
  subst e93
  clear x
  rename Bool => x
  show J _ _ _ _ [] _ _ _ _ _ _
  refine J_iload_n d_Bus_master_9 rfl ?_
  refine J_iconst (v := 5) d_Bus_master_10 (by decide) ?_
  rcases bT_some H with ⟨E11, φ10, hq8, H⟩ | ⟨v9, φ10, hq8, H⟩
  · subst H
    show J _ _ _ _ _ _ _ _ (1 + 0) (6 + 0) _
    refine J_callS (kc := 0) (ks := 0) (kc' := 1) (ks' := 6) (as := [.int p1, .int (5 : Int32)]) (st := []) (mf_Bus_needIndex hw) (ms_Bus_65 hw) d_Bus_master_11 ln_Bus_needIndex (by decide) (by first | exact Nat.le_of_ble_eq_true rfl | (simp only [List.map_cons, List.map_nil, List.sum_cons, List.sum_nil, va_rf_cat]; exact Nat.le_of_ble_eq_true rfl)) rfl (p_Bus_needIndex hw hG hq8) (fun v9 h9 n9 x9 e9 => fq_nr e9) ?_
    intro E99 h9 n9 x9 e9
    obtain ⟨e91, e92, e93⟩ := e9
    have e91 := (Sum.inr.inj (show Sum.inr E99 = Sum.inr E11 from e91)).symm
    subst e91
    subst e92
    subst e93
    exact JT.out rfl ⟨rfl, rfl, rfl⟩
  refine J.kk (Nat.zero_add _) (Nat.zero_add _) ?_
  refine J_callS (kc := kt q.1) (ks := 6 * kt q.1) (kc' := 0) (ks' := 0) (as := [.int p1, .int (5 : Int32)]) (st := []) (mf_Bus_needIndex hw) (ms_Bus_65 hw) d_Bus_master_11 ln_Bus_needIndex (by decide) (by first | exact Nat.le_of_ble_eq_true rfl | (simp only [List.map_cons, List.map_nil, List.sum_cons, List.sum_nil, va_rf_cat]; exact Nat.le_of_ble_eq_true rfl)) rfl (p_Bus_needIndex hw hG hq8) ?_ (fun E9 h9 n9 x9 e9 => fq_nt e9)
  intro v9 h9 n9 x9 e9
  obtain ⟨e91, e92, e93⟩ := e9
  have e91 := Sum.inl.inj (show Sum.inl v9 = Sum.inl none from e91)
  subst e91
  subst e92
  subst e93
  clear x
  rename Bool => x
  show J _ _ _ _ [] _ _ _ _ _ _
  refine J_aload_n d_Bus_master_14 rfl ?_
  refine F_getR (ci := 11) (k := 2) hG (cf_Bus hw) (fl_Bus_31 hw) (by decide) (by decide) rfl d_Bus_master_15 g1 ?_
  refine J_iload_n d_Bus_master_18 rfl ?_
  obtain ⟨a12, ha12, H⟩ := Option.bind_eq_some_iff.mp H
  rw [j_rf ha12]
  obtain ⟨N13, hN13, H⟩ := Option.bind_eq_some_iff.mp H
  obtain ⟨k14, hk14, H⟩ := Option.bind_eq_some_iff.mp H
  refine F_aald k14 hw hG (t := 8) rfl (by decide) d_Bus_master_19 (gA_some hN13) (ix_some hk14) ?_
  obtain ⟨a15, ha15, H⟩ := Option.bind_eq_some_iff.mp H
  rw [j_rf ha15]
  have g16 : Γ a15 = .inr 7 := by
    apply Classical.byContradiction
    intro q9
    rw [if_neg q9] at H
    cases H
  rw [if_pos g16] at H
  refine F_getR (ci := 7) (k := 0) hG (cf_Master hw) (fl_Bus_95 hw) (by decide) (by decide) rfl d_Bus_master_20 g16 ?_
  refine J_iload_n d_Bus_master_23 rfl ?_
  refine J_iload_n d_Bus_master_24 rfl ?_
  obtain ⟨q17, hq17, H⟩ := Option.bind_eq_some_iff.mp H
  refine J.kk (Nat.zero_add _) (Nat.zero_add _) ?_
  refine J_callS (kc := kt q.1) (ks := 6 * kt q.1) (kc' := 0) (ks' := 0) (as := [va_rf (φ10.2.2 a15 0), .int p1, .int p2]) (st := []) (mf_Bus_exchange hw) (ms_Bus_98 hw) d_Bus_master_25 ln_Bus_exchange (by decide) (by first | exact Nat.le_of_ble_eq_true rfl | (simp only [List.map_cons, List.map_nil, List.sum_cons, List.sum_nil, va_rf_cat]; exact Nat.le_of_ble_eq_true rfl)) rfl (p_Bus_exchange hw hG hq17) ?_ (fun E h' n' x' e1 => by cases e1.1)
  intro v9 h9 n9 x9 e9
  obtain ⟨e91, e92, e93⟩ := e9
  cases e91
  subst e92
  subst e93
  clear x
  rename Bool => x
  show J _ _ _ _ (_ :: _) _ _ _ _ _ _
  have H := Option.some.inj H
  subst H
  show J _ _ _ _ _ _ _ _ 0 0 _
  exact J_iret (st := []) d_Bus_master_28 rfl rfl ⟨rfl, rfl, rfl⟩
theorem ln_Law_master : (parseMethodDescriptor y_Law_master.desc).map (fun q => q.parameters.length) = some 5 := by decide +kernel
def f_Law_master (Γ : gm_T) (φ : ph_T) (p0 : Option Nat) (p1 : Int32) (p2 : Int32) (p3 : Int32) (p4 : Option Nat) : Option (Int32 × ph_T) :=
  Option.bind p0 fun a1 =>
  @ite _ (Γ a1 = .inr 11) _ (
  bC (f_Bus_master Γ φ a1 p1 p2 p3) (fun E6 φ5 =>
    if E6 = "java/lang/IndexOutOfBoundsException" then
      some ((1 : Int32), φ5)
 else none) fun v4 φ5 =>
  Option.bind p4 fun a9 =>
  Option.bind (gA Γ a9 1) fun N10 =>
  Option.bind (ix (0 : Int32) N10) fun k11 =>
  some ((0 : Int32), (uL φ5 a9 k11 (Int32.toInt64 v4)))
  ) none
set_option maxRecDepth 100000 in
set_option maxHeartbeats 4000000 in
theorem p_Law_master {w : jw_T} (hw : jok w) {Γ : gm_T} {n : Nat} (hG : gd w Γ n) {x : Bool} {φ : ph_T} {p0 : Option Nat} {p1 : Int32} {p2 : Int32} {p3 : Int32} {p4 : Option Nat} {q : Int32 × ph_T} (H : f_Law_master Γ φ p0 p1 p2 p3 p4 = some q) : jc w M_Law_master [va_rf p0, .int p1, .int p2, .int p3, va_rf p4] (pic Γ φ) n x 1 6 (fq Γ n (.inl (some (.int q.1))) q.2) := by
  refine jc.of (by simp only [jent_r, jent_i, jent_l, jent_a, jent_0]; exact Nat.le_of_ble_eq_true rfl) ?_
  have hls : jents [va_rf p0, .int p1, .int p2, .int p3, va_rf p4] (jm_nL M_Law_master) = [some (va_rf p0), some (.int p1), some (.int p2), some (.int p3), some (va_rf p4), none] := by simp only [jents, jent_r, jent_i, jent_l, jent_a, jent_0]; rfl
  rw [hls]
  clear hls
  unfold f_Law_master at H
  refine J_aloadO d_Law_master_0 rfl ?_
  refine J_iconst (v := 0) d_Law_master_2 (by decide) ?_
  refine J_aload_nO d_Law_master_3 rfl ?_
  refine J_iload_n d_Law_master_4 rfl ?_
  refine J_iload_n d_Law_master_5 rfl ?_
  refine J_iload_n d_Law_master_6 rfl ?_
  obtain ⟨a1, ha1, H⟩ := Option.bind_eq_some_iff.mp H
  rw [j_rf ha1]
  have g2 : Γ a1 = .inr 11 := by
    apply Classical.byContradiction
    intro q9
    rw [if_neg q9] at H
    cases H
  rw [if_pos g2] at H
  rcases bC_some H with ⟨E6, φ5, hq3, H⟩ | ⟨v4, φ5, hq3, H⟩
  · refine J_callV (kc := 0) (ks := 0) (kc' := 1) (ks' := 6) (a := a1) (ci := 11) (as := [.int p1, .int p2, .int p3]) (st := [.int (0 : Int32), va_rf p4]) (mf_Bus_master hw) (mv_Law_23 hw) d_Law_master_7 ln_Bus_master (by decide) (by first | exact Nat.le_of_ble_eq_true rfl | (simp only [List.map_cons, List.map_nil, List.sum_cons, List.sum_nil, va_rf_cat]; exact Nat.le_of_ble_eq_true rfl)) rfl ((hG _).1 _ g2 (by decide)).1 ((hG _).1 _ g2 (by decide)).2 (by unfold pic; rw [g2]; rfl) (jcl_at hw rfl) rfl (p_Bus_master hw hG hq3) (fun v9 h9 n9 x9 e9 => fq_nr e9) ?_
    intro E99 h9 n9 x9 e9
    obtain ⟨e91, e92, e93⟩ := e9
    have e91 := (Sum.inr.inj (show Sum.inr E99 = Sum.inr E6 from e91)).symm
    subst e91
    subst e92
    subst e93
    by_cases c8 : E6 = "java/lang/IndexOutOfBoundsException"
    · subst c8
      rw [if_pos rfl] at H
      refine JT.catch (name := "java/lang/IndexOutOfBoundsException") [] [] rfl ⟨by decide, by decide⟩ (by decide) (tb3 hw (i := 79) (by decide +kernel)) (tb3 hw (i := 90) (by decide +kernel)) (fun r9 hr9 => by cases hr9) (fun r7 => ?_)
      refine J_astore d_Law_master_15 (Nat.le_of_ble_eq_true rfl) ?_
      refine J.ls (ls' := [some (.ref a1), some (.int p1), some (.int p2), some (.int p3), some (va_rf p4), some (.ref r7)]) (jst1_o (i := 4) (r := p4) rfl) ?_
      refine J_iconst (v := 1) d_Law_master_17 (by decide) ?_
      have H := Option.some.inj H
      subst H
      exact J_iret (st := []) d_Law_master_18 rfl rfl ⟨rfl, rfl, rfl⟩
    rw [if_neg c8] at H
    cases H
  refine J.more (kc := 0) (ks := 0) (Nat.zero_le _) (Nat.zero_le _) ?_
  refine J_callV (kc := 0) (ks := 0) (kc' := 0) (ks' := 0) (a := a1) (ci := 11) (as := [.int p1, .int p2, .int p3]) (st := [.int (0 : Int32), va_rf p4]) (mf_Bus_master hw) (mv_Law_23 hw) d_Law_master_7 ln_Bus_master (by decide) (by first | exact Nat.le_of_ble_eq_true rfl | (simp only [List.map_cons, List.map_nil, List.sum_cons, List.sum_nil, va_rf_cat]; exact Nat.le_of_ble_eq_true rfl)) rfl ((hG _).1 _ g2 (by decide)).1 ((hG _).1 _ g2 (by decide)).2 (by unfold pic; rw [g2]; rfl) (jcl_at hw rfl) rfl (p_Bus_master hw hG hq3) ?_ (fun E9 h9 n9 x9 e9 => fq_nt e9)
  intro v9 h9 n9 x9 e9
  obtain ⟨e91, e92, e93⟩ := e9
  have e91 := Sum.inl.inj (show Sum.inl v9 = Sum.inl (some (.int v4)) from e91)
  subst e91
  subst e92
  subst e93
  clear x
  rename Bool => x
  show J _ _ _ _ (_ :: _) _ _ _ _ _ _
  refine J_i2l d_Law_master_10 ?_
  obtain ⟨a9, ha9, H⟩ := Option.bind_eq_some_iff.mp H
  rw [j_rf ha9]
  obtain ⟨N10, hN10, H⟩ := Option.bind_eq_some_iff.mp H
  obtain ⟨k11, hk11, H⟩ := Option.bind_eq_some_iff.mp H
  refine F_last k11 hw hG d_Law_master_11 (gA_some hN10) (ix_some hk11) ?_
  refine J_goto (tgt := 19) d_Law_master_12 (by decide) ?_
  refine J_iconst (v := 0) d_Law_master_19 (by decide) ?_
  have H := Option.some.inj H
  subst H
  exact J_iret (st := []) d_Law_master_20 rfl rfl ⟨rfl, rfl, rfl⟩
theorem ln_Bus_early : (parseMethodDescriptor y_Bus_early.desc).map (fun q => q.parameters.length) = some 2 := by decide +kernel
def f_Bus_early (Γ : gm_T) (φ : ph_T) (this : Nat) (p0 : Int32) (p1 : Int32) : Option ((Int32 ⊕ String) × ph_T) :=
  @ite _ (Γ this = .inr 11) _ (
  Option.bind (φ.2.2 this 2) fun a2 =>
  Option.bind (gA Γ a2 8) fun N3 =>
  bT (f_Bus_needIndex Γ φ p0 (nI N3)) fun v5 φ6 =>
  Option.bind (φ6.2.2 this 2) fun a8 =>
  Option.bind (gA Γ a8 8) fun N9 =>
  Option.bind (ix p0 N9) fun k10 =>
  Option.bind (φ6.2.2 a8 k10) fun a11 =>
  @ite _ (Γ a11 = .inr 7) _ (
  Option.bind (gA Γ a8 8) fun N13 =>
  Option.bind (ix p0 N13) fun k14 =>
  Option.bind (φ6.2.2 a8 k14) fun a15 =>
  @ite _ (Γ a15 = .inr 7) _ (
  @ite _ (p1 = 0 ∨ p1 = 1) _ (
  @ite _ ((φ6.1 a11 1) = 0 ∨ (φ6.1 a11 1) = 1) _ (
  some (.inl ((φ6.1 a11 1)), (uI φ6 a15 1 p1))
  ) none
  ) none ) none
  ) none
  ) none
set_option maxRecDepth 100000 in
set_option maxHeartbeats 4000000 in
theorem p_Bus_early {w : jw_T} (hw : jok w) {Γ : gm_T} {n : Nat} (hG : gd w Γ n) {x : Bool} {φ : ph_T} {this : Nat} {p0 : Int32} {p1 : Int32} {q : (Int32 ⊕ String) × ph_T} (H : f_Bus_early Γ φ this p0 p1 = some q) : jc w M_Bus_early [.ref this, .int p0, .int p1] (pic Γ φ) n x (kt q.1) (6 * kt q.1) (fq Γ n (rsI q.1) q.2) := by
  refine jc.of (by simp only [jent_r, jent_i, jent_l, jent_a, jent_0]; exact Nat.le_of_ble_eq_true rfl) ?_
  have hls : jents [.ref this, .int p0, .int p1] (jm_nL M_Bus_early) = [some (.ref this), some (.int p0), some (.int p1), none] := by simp only [jents, jent_r, jent_i, jent_l, jent_a, jent_0]; rfl
  rw [hls]
  clear hls
  unfold f_Bus_early at H
  refine J_iload_n d_Bus_early_0 rfl ?_
  refine J_aload_n d_Bus_early_1 rfl ?_
  have g1 : Γ this = .inr 11 := by
    apply Classical.byContradiction
    intro q9
    rw [if_neg q9] at H
    cases H
  rw [if_pos g1] at H
  refine F_getR (ci := 11) (k := 2) hG (cf_Bus hw) (fl_Bus_31 hw) (by decide) (by decide) rfl d_Bus_early_2 g1 ?_
  obtain ⟨a2, ha2, H⟩ := Option.bind_eq_some_iff.mp H
  rw [j_rf ha2]
  obtain ⟨N3, hN3, H⟩ := Option.bind_eq_some_iff.mp H
  refine F_alen hw hG (t := 8) rfl d_Bus_early_5 (gA_some hN3) ?_
  rcases bT_some H with ⟨E7, φ6, hq4, H⟩ | ⟨v5, φ6, hq4, H⟩
  · subst H
    show J _ _ _ _ _ _ _ _ (1 + 0) (6 + 0) _
    refine J_callS (kc := 0) (ks := 0) (kc' := 1) (ks' := 6) (as := [.int p0, .int (nI N3)]) (st := []) (mf_Bus_needIndex hw) (ms_Bus_65 hw) d_Bus_early_6 ln_Bus_needIndex (by decide) (by first | exact Nat.le_of_ble_eq_true rfl | (simp only [List.map_cons, List.map_nil, List.sum_cons, List.sum_nil, va_rf_cat]; exact Nat.le_of_ble_eq_true rfl)) rfl (p_Bus_needIndex hw hG hq4) (fun v9 h9 n9 x9 e9 => fq_nr e9) ?_
    intro E99 h9 n9 x9 e9
    obtain ⟨e91, e92, e93⟩ := e9
    have e91 := (Sum.inr.inj (show Sum.inr E99 = Sum.inr E7 from e91)).symm
    subst e91
    subst e92
    subst e93
    exact JT.out rfl ⟨rfl, rfl, rfl⟩
  refine J.kk (Nat.zero_add _) (Nat.zero_add _) ?_
  refine J_callS (kc := kt q.1) (ks := 6 * kt q.1) (kc' := 0) (ks' := 0) (as := [.int p0, .int (nI N3)]) (st := []) (mf_Bus_needIndex hw) (ms_Bus_65 hw) d_Bus_early_6 ln_Bus_needIndex (by decide) (by first | exact Nat.le_of_ble_eq_true rfl | (simp only [List.map_cons, List.map_nil, List.sum_cons, List.sum_nil, va_rf_cat]; exact Nat.le_of_ble_eq_true rfl)) rfl (p_Bus_needIndex hw hG hq4) ?_ (fun E9 h9 n9 x9 e9 => fq_nt e9)
  intro v9 h9 n9 x9 e9
  obtain ⟨e91, e92, e93⟩ := e9
  have e91 := Sum.inl.inj (show Sum.inl v9 = Sum.inl none from e91)
  subst e91
  subst e92
  subst e93
  clear x
  rename Bool => x
  show J _ _ _ _ [] _ _ _ _ _ _
  refine J_aload_n d_Bus_early_9 rfl ?_
  refine F_getR (ci := 11) (k := 2) hG (cf_Bus hw) (fl_Bus_31 hw) (by decide) (by decide) rfl d_Bus_early_10 g1 ?_
  refine J_iload_n d_Bus_early_13 rfl ?_
  obtain ⟨a8, ha8, H⟩ := Option.bind_eq_some_iff.mp H
  rw [j_rf ha8]
  obtain ⟨N9, hN9, H⟩ := Option.bind_eq_some_iff.mp H
  obtain ⟨k10, hk10, H⟩ := Option.bind_eq_some_iff.mp H
  refine F_aald k10 hw hG (t := 8) rfl (by decide) d_Bus_early_14 (gA_some hN9) (ix_some hk10) ?_
  obtain ⟨a11, ha11, H⟩ := Option.bind_eq_some_iff.mp H
  rw [j_rf ha11]
  have g12 : Γ a11 = .inr 7 := by
    apply Classical.byContradiction
    intro q9
    rw [if_neg q9] at H
    cases H
  rw [if_pos g12] at H
  refine F_getI (ci := 7) (k := 1) hG (cf_Master hw) (fl_Bus_102 hw) (by decide) (by decide) rfl d_Bus_early_15 g12 ?_
  refine J_istore_n d_Bus_early_18 (Nat.le_of_ble_eq_true rfl) ?_
  refine J.ls (ls' := [some (.ref this), some (.int p0), some (.int p1), some (.int (φ6.1 a11 1))]) rfl ?_
  refine J_aload_n d_Bus_early_19 rfl ?_
  refine F_getR (ci := 11) (k := 2) hG (cf_Bus hw) (fl_Bus_31 hw) (by decide) (by decide) rfl d_Bus_early_20 g1 ?_
  refine J_iload_n d_Bus_early_23 rfl ?_
  try rw [j_rf ha8]
  obtain ⟨N13, hN13, H⟩ := Option.bind_eq_some_iff.mp H
  obtain ⟨k14, hk14, H⟩ := Option.bind_eq_some_iff.mp H
  refine F_aald k14 hw hG (t := 8) rfl (by decide) d_Bus_early_24 (gA_some hN13) (ix_some hk14) ?_
  refine J_iload_n d_Bus_early_25 rfl ?_
  obtain ⟨a15, ha15, H⟩ := Option.bind_eq_some_iff.mp H
  rw [j_rf ha15]
  have g16 : Γ a15 = .inr 7 := by
    apply Classical.byContradiction
    intro q9
    rw [if_neg q9] at H
    cases H
  rw [if_pos g16] at H
  have z17 : p1 = 0 ∨ p1 = 1 := by
    apply Classical.byContradiction
    intro q9
    rw [if_neg q9] at H
    cases H
  rw [if_pos z17] at H
  refine F_putI (ci := 7) (k := 1) hG (cf_Master hw) (fl_Bus_102 hw) (by decide) (by decide) rfl d_Bus_early_26 rfl (narrow_z z17).1 (narrow_z z17).2 g16 ?_
  refine J_iload_n d_Bus_early_29 rfl ?_
  have z18 : (φ6.1 a11 1) = 0 ∨ (φ6.1 a11 1) = 1 := by
    apply Classical.byContradiction
    intro q9
    rw [if_neg q9] at H
    cases H
  rw [if_pos z18] at H
  have H := Option.some.inj H
  subst H
  show J _ _ _ _ _ _ _ _ 0 0 _
  exact J_iret (st := []) d_Bus_early_30 rfl (narrow_z z18).1 ⟨rfl, rfl, rfl⟩
theorem ln_Law_early : (parseMethodDescriptor y_Law_early.desc).map (fun q => q.parameters.length) = some 4 := by decide +kernel
def f_Law_early_L16 (Γ : gm_T)  (φ : ph_T) (y0 : Int64) (y1 : Int32) (y2 : Option Nat) : Option (Int32 × ph_T) :=
  Option.bind y2 fun a1 =>
  Option.bind (gA Γ a1 1) fun N2 =>
  Option.bind (ix y1 N2) fun k3 =>
  some ((0 : Int32), (uL φ a1 k3 y0))
set_option maxRecDepth 100000 in
set_option maxHeartbeats 4000000 in
theorem p_Law_early_L16 {w : jw_T} (hw : jok w) {Γ : gm_T} {n : Nat} (hG : gd w Γ n)  {x : Bool} {φ : ph_T} {y0 : Int64} {y1 : Int32} {y2 : Option Nat} {q : Int32 × ph_T} (H : f_Law_early_L16 Γ  φ y0 y1 y2 = some q) : J w M_Law_early 16 [none, none, none, none, none] [.long y0, .int y1, va_rf y2] (pic Γ φ) n x 0 0 (fq Γ n (.inl (some (.int q.1))) q.2) := by
  unfold f_Law_early_L16 at H
  obtain ⟨a1, ha1, H⟩ := Option.bind_eq_some_iff.mp H
  rw [j_rf ha1]
  obtain ⟨N2, hN2, H⟩ := Option.bind_eq_some_iff.mp H
  obtain ⟨k3, hk3, H⟩ := Option.bind_eq_some_iff.mp H
  refine F_last k3 hw hG d_Law_early_16 (gA_some hN2) (ix_some hk3) ?_
  refine J_goto (tgt := 24) d_Law_early_17 (by decide) ?_
  refine J_iconst (v := 0) d_Law_early_24 (by decide) ?_
  have H := Option.some.inj H
  subst H
  exact J_iret (st := []) d_Law_early_25 rfl rfl ⟨rfl, rfl, rfl⟩
def f_Law_early (Γ : gm_T) (φ : ph_T) (p0 : Option Nat) (p1 : Int32) (p2 : Int32) (p3 : Option Nat) : Option (Int32 × ph_T) :=
  Option.bind p0 fun a4 =>
  @ite _ (Γ a4 = .inr 11) _ (
  bC (f_Bus_early Γ φ a4 p1 p2) (fun E9 φ8 =>
    if E9 = "java/lang/IndexOutOfBoundsException" then
      some ((1 : Int32), φ8)
 else none) fun v7 φ8 =>
  if v7 = 0 then
    f_Law_early_L16 Γ  φ8 (0 : Int64) (0 : Int32) p3
  else
    f_Law_early_L16 Γ  φ8 (1 : Int64) (0 : Int32) p3
  ) none
set_option maxRecDepth 100000 in
set_option maxHeartbeats 4000000 in
theorem p_Law_early {w : jw_T} (hw : jok w) {Γ : gm_T} {n : Nat} (hG : gd w Γ n) {x : Bool} {φ : ph_T} {p0 : Option Nat} {p1 : Int32} {p2 : Int32} {p3 : Option Nat} {q : Int32 × ph_T} (H : f_Law_early Γ φ p0 p1 p2 p3 = some q) : jc w M_Law_early [va_rf p0, .int p1, .int p2, va_rf p3] (pic Γ φ) n x 1 6 (fq Γ n (.inl (some (.int q.1))) q.2) := by
  refine jc.of (by simp only [jent_r, jent_i, jent_l, jent_a, jent_0]; exact Nat.le_of_ble_eq_true rfl) ?_
  have hls : jents [va_rf p0, .int p1, .int p2, va_rf p3] (jm_nL M_Law_early) = [some (va_rf p0), some (.int p1), some (.int p2), some (va_rf p3), none] := by simp only [jents, jent_r, jent_i, jent_l, jent_a, jent_0]; rfl
  rw [hls]
  clear hls
  unfold f_Law_early at H
  refine J_aload_nO d_Law_early_0 rfl ?_
  refine J_iconst (v := 0) d_Law_early_1 (by decide) ?_
  refine J_aload_nO d_Law_early_2 rfl ?_
  refine J_iload_n d_Law_early_3 rfl ?_
  refine J_iload_n d_Law_early_4 rfl ?_
  obtain ⟨a4, ha4, H⟩ := Option.bind_eq_some_iff.mp H
  rw [j_rf ha4]
  have g5 : Γ a4 = .inr 11 := by
    apply Classical.byContradiction
    intro q9
    rw [if_neg q9] at H
    cases H
  rw [if_pos g5] at H
  rcases bC_some H with ⟨E9, φ8, hq6, H⟩ | ⟨v7, φ8, hq6, H⟩
  · refine J_callV (kc := 0) (ks := 0) (kc' := 1) (ks' := 6) (a := a4) (ci := 11) (as := [.int p1, .int p2]) (st := [.int (0 : Int32), va_rf p3]) (mf_Bus_early hw) (mv_Law_27 hw) d_Law_early_5 ln_Bus_early (by decide) (by first | exact Nat.le_of_ble_eq_true rfl | (simp only [List.map_cons, List.map_nil, List.sum_cons, List.sum_nil, va_rf_cat]; exact Nat.le_of_ble_eq_true rfl)) rfl ((hG _).1 _ g5 (by decide)).1 ((hG _).1 _ g5 (by decide)).2 (by unfold pic; rw [g5]; rfl) (jcl_at hw rfl) rfl (p_Bus_early hw hG hq6) (fun v9 h9 n9 x9 e9 => fq_nr e9) ?_
    intro E99 h9 n9 x9 e9
    obtain ⟨e91, e92, e93⟩ := e9
    have e91 := (Sum.inr.inj (show Sum.inr E99 = Sum.inr E9 from e91)).symm
    subst e91
    subst e92
    subst e93
    by_cases c11 : E9 = "java/lang/IndexOutOfBoundsException"
    · subst c11
      rw [if_pos rfl] at H
      refine JT.catch (name := "java/lang/IndexOutOfBoundsException") [] [] rfl ⟨by decide, by decide⟩ (by decide) (tb3 hw (i := 79) (by decide +kernel)) (tb3 hw (i := 90) (by decide +kernel)) (fun r9 hr9 => by cases hr9) (fun r10 => ?_)
      refine J_astore d_Law_early_20 (Nat.le_of_ble_eq_true rfl) ?_
      refine J.ls (ls' := [some (.ref a4), some (.int p1), some (.int p2), some (va_rf p3), some (.ref r10)]) (jst1_o (i := 3) (r := p3) rfl) ?_
      refine J_iconst (v := 1) d_Law_early_22 (by decide) ?_
      have H := Option.some.inj H
      subst H
      exact J_iret (st := []) d_Law_early_23 rfl rfl ⟨rfl, rfl, rfl⟩
    rw [if_neg c11] at H
    cases H
  refine J.more (kc := 0) (ks := 0) (Nat.zero_le _) (Nat.zero_le _) ?_
  refine J_callV (kc := 0) (ks := 0) (kc' := 0) (ks' := 0) (a := a4) (ci := 11) (as := [.int p1, .int p2]) (st := [.int (0 : Int32), va_rf p3]) (mf_Bus_early hw) (mv_Law_27 hw) d_Law_early_5 ln_Bus_early (by decide) (by first | exact Nat.le_of_ble_eq_true rfl | (simp only [List.map_cons, List.map_nil, List.sum_cons, List.sum_nil, va_rf_cat]; exact Nat.le_of_ble_eq_true rfl)) rfl ((hG _).1 _ g5 (by decide)).1 ((hG _).1 _ g5 (by decide)).2 (by unfold pic; rw [g5]; rfl) (jcl_at hw rfl) rfl (p_Bus_early hw hG hq6) ?_ (fun E9 h9 n9 x9 e9 => fq_nt e9)
  intro v9 h9 n9 x9 e9
  obtain ⟨e91, e92, e93⟩ := e9
  have e91 := Sum.inl.inj (show Sum.inl v9 = Sum.inl (some (.int v7)) from e91)
  subst e91
  subst e92
  subst e93
  clear x
  rename Bool => x
  show J _ _ _ _ (_ :: _) _ _ _ _ _ _
  refine J_if_eq (tgt := 15) d_Law_early_8 (by decide) ?_ ?_
  · intro c12
    rw [if_pos c12] at H
    refine J_lconst (v := 0) d_Law_early_15 (by decide) ?_
    refine J.drop [false, false, false, false, false] rfl ?_
    exact p_Law_early_L16 hw hG  H
  · intro c12
    rw [if_neg c12] at H
    refine J_lconst (v := 1) d_Law_early_11 (by decide) ?_
    refine J_goto (tgt := 16) d_Law_early_12 (by decide) ?_
    refine J.drop [false, false, false, false, false] rfl ?_
    exact p_Law_early_L16 hw hG  H
theorem ln_Bus_slave : (parseMethodDescriptor y_Bus_slave.desc).map (fun q => q.parameters.length) = some 3 := by decide +kernel
def f_Bus_slave (Γ : gm_T) (φ : ph_T) (this : Nat) (p0 : Int32) (p1 : Int32) (p2 : Int32) : Option ((Int32 ⊕ String) × ph_T) :=
  @ite _ (Γ this = .inr 11) _ (
  Option.bind (φ.2.2 this 3) fun a2 =>
  Option.bind (gA Γ a2 9) fun N3 =>
  bT (f_Bus_needIndex Γ φ p0 (nI N3)) fun v5 φ6 =>
  bT (f_Bus_needIndex Γ φ6 p1 (5 : Int32)) fun v9 φ10 =>
  Option.bind (φ10.2.2 this 3) fun a12 =>
  Option.bind (gA Γ a12 9) fun N13 =>
  Option.bind (ix p0 N13) fun k14 =>
  Option.bind (φ10.2.2 a12 k14) fun a15 =>
  @ite _ (Γ a15 = .inr 8) _ (
  Option.bind (f_Bus_exchange Γ φ10 (φ10.2.2 a15 1) p1 p2) fun q17 =>
  some (.inl (q17.1), q17.2)
  ) none
  ) none
set_option maxRecDepth 100000 in
set_option maxHeartbeats 4000000 in
theorem p_Bus_slave {w : jw_T} (hw : jok w) {Γ : gm_T} {n : Nat} (hG : gd w Γ n) {x : Bool} {φ : ph_T} {this : Nat} {p0 : Int32} {p1 : Int32} {p2 : Int32} {q : (Int32 ⊕ String) × ph_T} (H : f_Bus_slave Γ φ this p0 p1 p2 = some q) : jc w M_Bus_slave [.ref this, .int p0, .int p1, .int p2] (pic Γ φ) n x (kt q.1) (6 * kt q.1) (fq Γ n (rsI q.1) q.2) := by
  refine jc.of (by simp only [jent_r, jent_i, jent_l, jent_a, jent_0]; exact Nat.le_of_ble_eq_true rfl) ?_
  have hls : jents [.ref this, .int p0, .int p1, .int p2] (jm_nL M_Bus_slave) = [some (.ref this), some (.int p0), some (.int p1), some (.int p2)] := by simp only [jents, jent_r, jent_i, jent_l, jent_a, jent_0]; rfl
  rw [hls]
  clear hls
  unfold f_Bus_slave at H
  refine J_iload_n d_Bus_slave_0 rfl ?_
  refine J_aload_n d_Bus_slave_1 rfl ?_
  have g1 : Γ this = .inr 11 := by
    apply Classical.byContradiction
    intro q9
    rw [if_neg q9] at H
    cases H
  rw [if_pos g1] at H
  refine F_getR (ci := 11) (k := 3) hG (cf_Bus hw) (fl_Bus_45 hw) (by decide) (by decide) rfl d_Bus_slave_2 g1 ?_
  obtain ⟨a2, ha2, H⟩ := Option.bind_eq_some_iff.mp H
  rw [j_rf ha2]
  obtain ⟨N3, hN3, H⟩ := Option.bind_eq_some_iff.mp H
  refine F_alen hw hG (t := 9) rfl d_Bus_slave_5 (gA_some hN3) ?_
  rcases bT_some H with ⟨E7, φ6, hq4, H⟩ | ⟨v5, φ6, hq4, H⟩
  · subst H
    show J _ _ _ _ _ _ _ _ (1 + 0) (6 + 0) _
    refine J_callS (kc := 0) (ks := 0) (kc' := 1) (ks' := 6) (as := [.int p0, .int (nI N3)]) (st := []) (mf_Bus_needIndex hw) (ms_Bus_65 hw) d_Bus_slave_6 ln_Bus_needIndex (by decide) (by first | exact Nat.le_of_ble_eq_true rfl | (simp only [List.map_cons, List.map_nil, List.sum_cons, List.sum_nil, va_rf_cat]; exact Nat.le_of_ble_eq_true rfl)) rfl (p_Bus_needIndex hw hG hq4) (fun v9 h9 n9 x9 e9 => fq_nr e9) ?_
    intro E99 h9 n9 x9 e9
    obtain ⟨e91, e92, e93⟩ := e9
    have e91 := (Sum.inr.inj (show Sum.inr E99 = Sum.inr E7 from e91)).symm
    subst e91
    subst e92
    subst e93
    exact JT.out rfl ⟨rfl, rfl, rfl⟩
  refine J.kk (Nat.zero_add _) (Nat.zero_add _) ?_
  refine J_callS (kc := kt q.1) (ks := 6 * kt q.1) (kc' := 0) (ks' := 0) (as := [.int p0, .int (nI N3)]) (st := []) (mf_Bus_needIndex hw) (ms_Bus_65 hw) d_Bus_slave_6 ln_Bus_needIndex (by decide) (by first | exact Nat.le_of_ble_eq_true rfl | (simp only [List.map_cons, List.map_nil, List.sum_cons, List.sum_nil, va_rf_cat]; exact Nat.le_of_ble_eq_true rfl)) rfl (p_Bus_needIndex hw hG hq4) ?_ (fun E9 h9 n9 x9 e9 => fq_nt e9)
  intro v9 h9 n9 x9 e9
  obtain ⟨e91, e92, e93⟩ := e9
  have e91 := Sum.inl.inj (show Sum.inl v9 = Sum.inl none from e91)
  subst e91
  subst e92
  subst e93
  clear x
  rename Bool => x
  show J _ _ _ _ [] _ _ _ _ _ _
  refine J_iload_n d_Bus_slave_9 rfl ?_
  refine J_iconst (v := 5) d_Bus_slave_10 (by decide) ?_
  rcases bT_some H with ⟨E11, φ10, hq8, H⟩ | ⟨v9, φ10, hq8, H⟩
  · subst H
    show J _ _ _ _ _ _ _ _ (1 + 0) (6 + 0) _
    refine J_callS (kc := 0) (ks := 0) (kc' := 1) (ks' := 6) (as := [.int p1, .int (5 : Int32)]) (st := []) (mf_Bus_needIndex hw) (ms_Bus_65 hw) d_Bus_slave_11 ln_Bus_needIndex (by decide) (by first | exact Nat.le_of_ble_eq_true rfl | (simp only [List.map_cons, List.map_nil, List.sum_cons, List.sum_nil, va_rf_cat]; exact Nat.le_of_ble_eq_true rfl)) rfl (p_Bus_needIndex hw hG hq8) (fun v9 h9 n9 x9 e9 => fq_nr e9) ?_
    intro E99 h9 n9 x9 e9
    obtain ⟨e91, e92, e93⟩ := e9
    have e91 := (Sum.inr.inj (show Sum.inr E99 = Sum.inr E11 from e91)).symm
    subst e91
    subst e92
    subst e93
    exact JT.out rfl ⟨rfl, rfl, rfl⟩
  refine J.kk (Nat.zero_add _) (Nat.zero_add _) ?_
  refine J_callS (kc := kt q.1) (ks := 6 * kt q.1) (kc' := 0) (ks' := 0) (as := [.int p1, .int (5 : Int32)]) (st := []) (mf_Bus_needIndex hw) (ms_Bus_65 hw) d_Bus_slave_11 ln_Bus_needIndex (by decide) (by first | exact Nat.le_of_ble_eq_true rfl | (simp only [List.map_cons, List.map_nil, List.sum_cons, List.sum_nil, va_rf_cat]; exact Nat.le_of_ble_eq_true rfl)) rfl (p_Bus_needIndex hw hG hq8) ?_ (fun E9 h9 n9 x9 e9 => fq_nt e9)
  intro v9 h9 n9 x9 e9
  obtain ⟨e91, e92, e93⟩ := e9
  have e91 := Sum.inl.inj (show Sum.inl v9 = Sum.inl none from e91)
  subst e91
  subst e92
  subst e93
  clear x
  rename Bool => x
  show J _ _ _ _ [] _ _ _ _ _ _
  refine J_aload_n d_Bus_slave_14 rfl ?_
  refine F_getR (ci := 11) (k := 3) hG (cf_Bus hw) (fl_Bus_45 hw) (by decide) (by decide) rfl d_Bus_slave_15 g1 ?_
  refine J_iload_n d_Bus_slave_18 rfl ?_
  obtain ⟨a12, ha12, H⟩ := Option.bind_eq_some_iff.mp H
  rw [j_rf ha12]
  obtain ⟨N13, hN13, H⟩ := Option.bind_eq_some_iff.mp H
  obtain ⟨k14, hk14, H⟩ := Option.bind_eq_some_iff.mp H
  refine F_aald k14 hw hG (t := 9) rfl (by decide) d_Bus_slave_19 (gA_some hN13) (ix_some hk14) ?_
  obtain ⟨a15, ha15, H⟩ := Option.bind_eq_some_iff.mp H
  rw [j_rf ha15]
  have g16 : Γ a15 = .inr 8 := by
    apply Classical.byContradiction
    intro q9
    rw [if_neg q9] at H
    cases H
  rw [if_pos g16] at H
  refine F_getR (ci := 8) (k := 1) hG (cf_Slave hw) (fl_Bus_105 hw) (by decide) (by decide) rfl d_Bus_slave_20 g16 ?_
  refine J_iload_n d_Bus_slave_23 rfl ?_
  refine J_iload_n d_Bus_slave_24 rfl ?_
  obtain ⟨q17, hq17, H⟩ := Option.bind_eq_some_iff.mp H
  refine J.kk (Nat.zero_add _) (Nat.zero_add _) ?_
  refine J_callS (kc := kt q.1) (ks := 6 * kt q.1) (kc' := 0) (ks' := 0) (as := [va_rf (φ10.2.2 a15 1), .int p1, .int p2]) (st := []) (mf_Bus_exchange hw) (ms_Bus_98 hw) d_Bus_slave_25 ln_Bus_exchange (by decide) (by first | exact Nat.le_of_ble_eq_true rfl | (simp only [List.map_cons, List.map_nil, List.sum_cons, List.sum_nil, va_rf_cat]; exact Nat.le_of_ble_eq_true rfl)) rfl (p_Bus_exchange hw hG hq17) ?_ (fun E h' n' x' e1 => by cases e1.1)
  intro v9 h9 n9 x9 e9
  obtain ⟨e91, e92, e93⟩ := e9
  cases e91
  subst e92
  subst e93
  clear x
  rename Bool => x
  show J _ _ _ _ (_ :: _) _ _ _ _ _ _
  have H := Option.some.inj H
  subst H
  show J _ _ _ _ _ _ _ _ 0 0 _
  exact J_iret (st := []) d_Bus_slave_28 rfl rfl ⟨rfl, rfl, rfl⟩
theorem ln_Law_slave : (parseMethodDescriptor y_Law_slave.desc).map (fun q => q.parameters.length) = some 5 := by decide +kernel
def f_Law_slave (Γ : gm_T) (φ : ph_T) (p0 : Option Nat) (p1 : Int32) (p2 : Int32) (p3 : Int32) (p4 : Option Nat) : Option (Int32 × ph_T) :=
  Option.bind p0 fun a1 =>
  @ite _ (Γ a1 = .inr 11) _ (
  bC (f_Bus_slave Γ φ a1 p1 p2 p3) (fun E6 φ5 =>
    if E6 = "java/lang/IndexOutOfBoundsException" then
      some ((1 : Int32), φ5)
 else none) fun v4 φ5 =>
  Option.bind p4 fun a9 =>
  Option.bind (gA Γ a9 1) fun N10 =>
  Option.bind (ix (0 : Int32) N10) fun k11 =>
  some ((0 : Int32), (uL φ5 a9 k11 (Int32.toInt64 v4)))
  ) none
set_option maxRecDepth 100000 in
set_option maxHeartbeats 4000000 in
theorem p_Law_slave {w : jw_T} (hw : jok w) {Γ : gm_T} {n : Nat} (hG : gd w Γ n) {x : Bool} {φ : ph_T} {p0 : Option Nat} {p1 : Int32} {p2 : Int32} {p3 : Int32} {p4 : Option Nat} {q : Int32 × ph_T} (H : f_Law_slave Γ φ p0 p1 p2 p3 p4 = some q) : jc w M_Law_slave [va_rf p0, .int p1, .int p2, .int p3, va_rf p4] (pic Γ φ) n x 1 6 (fq Γ n (.inl (some (.int q.1))) q.2) := by
  refine jc.of (by simp only [jent_r, jent_i, jent_l, jent_a, jent_0]; exact Nat.le_of_ble_eq_true rfl) ?_
  have hls : jents [va_rf p0, .int p1, .int p2, .int p3, va_rf p4] (jm_nL M_Law_slave) = [some (va_rf p0), some (.int p1), some (.int p2), some (.int p3), some (va_rf p4), none] := by simp only [jents, jent_r, jent_i, jent_l, jent_a, jent_0]; rfl
  rw [hls]
  clear hls
  unfold f_Law_slave at H
  refine J_aloadO d_Law_slave_0 rfl ?_
  refine J_iconst (v := 0) d_Law_slave_2 (by decide) ?_
  refine J_aload_nO d_Law_slave_3 rfl ?_
  refine J_iload_n d_Law_slave_4 rfl ?_
  refine J_iload_n d_Law_slave_5 rfl ?_
  refine J_iload_n d_Law_slave_6 rfl ?_
  obtain ⟨a1, ha1, H⟩ := Option.bind_eq_some_iff.mp H
  rw [j_rf ha1]
  have g2 : Γ a1 = .inr 11 := by
    apply Classical.byContradiction
    intro q9
    rw [if_neg q9] at H
    cases H
  rw [if_pos g2] at H
  rcases bC_some H with ⟨E6, φ5, hq3, H⟩ | ⟨v4, φ5, hq3, H⟩
  · refine J_callV (kc := 0) (ks := 0) (kc' := 1) (ks' := 6) (a := a1) (ci := 11) (as := [.int p1, .int p2, .int p3]) (st := [.int (0 : Int32), va_rf p4]) (mf_Bus_slave hw) (mv_Law_31 hw) d_Law_slave_7 ln_Bus_slave (by decide) (by first | exact Nat.le_of_ble_eq_true rfl | (simp only [List.map_cons, List.map_nil, List.sum_cons, List.sum_nil, va_rf_cat]; exact Nat.le_of_ble_eq_true rfl)) rfl ((hG _).1 _ g2 (by decide)).1 ((hG _).1 _ g2 (by decide)).2 (by unfold pic; rw [g2]; rfl) (jcl_at hw rfl) rfl (p_Bus_slave hw hG hq3) (fun v9 h9 n9 x9 e9 => fq_nr e9) ?_
    intro E99 h9 n9 x9 e9
    obtain ⟨e91, e92, e93⟩ := e9
    have e91 := (Sum.inr.inj (show Sum.inr E99 = Sum.inr E6 from e91)).symm
    subst e91
    subst e92
    subst e93
    by_cases c8 : E6 = "java/lang/IndexOutOfBoundsException"
    · subst c8
      rw [if_pos rfl] at H
      refine JT.catch (name := "java/lang/IndexOutOfBoundsException") [] [] rfl ⟨by decide, by decide⟩ (by decide) (tb3 hw (i := 79) (by decide +kernel)) (tb3 hw (i := 90) (by decide +kernel)) (fun r9 hr9 => by cases hr9) (fun r7 => ?_)
      refine J_astore d_Law_slave_15 (Nat.le_of_ble_eq_true rfl) ?_
      refine J.ls (ls' := [some (.ref a1), some (.int p1), some (.int p2), some (.int p3), some (va_rf p4), some (.ref r7)]) (jst1_o (i := 4) (r := p4) rfl) ?_
      refine J_iconst (v := 1) d_Law_slave_17 (by decide) ?_
      have H := Option.some.inj H
      subst H
      exact J_iret (st := []) d_Law_slave_18 rfl rfl ⟨rfl, rfl, rfl⟩
    rw [if_neg c8] at H
    cases H
  refine J.more (kc := 0) (ks := 0) (Nat.zero_le _) (Nat.zero_le _) ?_
  refine J_callV (kc := 0) (ks := 0) (kc' := 0) (ks' := 0) (a := a1) (ci := 11) (as := [.int p1, .int p2, .int p3]) (st := [.int (0 : Int32), va_rf p4]) (mf_Bus_slave hw) (mv_Law_31 hw) d_Law_slave_7 ln_Bus_slave (by decide) (by first | exact Nat.le_of_ble_eq_true rfl | (simp only [List.map_cons, List.map_nil, List.sum_cons, List.sum_nil, va_rf_cat]; exact Nat.le_of_ble_eq_true rfl)) rfl ((hG _).1 _ g2 (by decide)).1 ((hG _).1 _ g2 (by decide)).2 (by unfold pic; rw [g2]; rfl) (jcl_at hw rfl) rfl (p_Bus_slave hw hG hq3) ?_ (fun E9 h9 n9 x9 e9 => fq_nt e9)
  intro v9 h9 n9 x9 e9
  obtain ⟨e91, e92, e93⟩ := e9
  have e91 := Sum.inl.inj (show Sum.inl v9 = Sum.inl (some (.int v4)) from e91)
  subst e91
  subst e92
  subst e93
  clear x
  rename Bool => x
  show J _ _ _ _ (_ :: _) _ _ _ _ _ _
  refine J_i2l d_Law_slave_10 ?_
  obtain ⟨a9, ha9, H⟩ := Option.bind_eq_some_iff.mp H
  rw [j_rf ha9]
  obtain ⟨N10, hN10, H⟩ := Option.bind_eq_some_iff.mp H
  obtain ⟨k11, hk11, H⟩ := Option.bind_eq_some_iff.mp H
  refine F_last k11 hw hG d_Law_slave_11 (gA_some hN10) (ix_some hk11) ?_
  refine J_goto (tgt := 19) d_Law_slave_12 (by decide) ?_
  refine J_iconst (v := 0) d_Law_slave_19 (by decide) ?_
  have H := Option.some.inj H
  subst H
  exact J_iret (st := []) d_Law_slave_20 rfl rfl ⟨rfl, rfl, rfl⟩
theorem ln_Bus_way : (parseMethodDescriptor y_Bus_way.desc).map (fun q => q.parameters.length) = some 3 := by decide +kernel
def f_Bus_way (Γ : gm_T) (φ : ph_T) (this : Nat) (p0 : Int32) (p1 : Int32) (p2 : Int32) : Option ((Int32 ⊕ String) × ph_T) :=
  @ite _ (Γ this = .inr 11) _ (
  Option.bind (φ.2.2 this 3) fun a2 =>
  Option.bind (gA Γ a2 9) fun N3 =>
  bT (f_Bus_needIndex Γ φ p0 (nI N3)) fun v5 φ6 =>
  bT (f_Bus_needNumber Γ φ6 p1 (0 : Int32) (15 : Int32)) fun v9 φ10 =>
  bT (f_Bus_needNumber Γ φ10 p2 (0 : Int32) (2 : Int32)) fun v13 φ14 =>
  Option.bind (φ14.2.2 this 3) fun a16 =>
  Option.bind (gA Γ a16 9) fun N17 =>
  Option.bind (ix p0 N17) fun k18 =>
  Option.bind (φ14.2.2 a16 k18) fun a19 =>
  @ite _ (Γ a19 = .inr 8) _ (
  some (.inl ((((16 : Int32) * (φ14.1 a19 7)) + (φ14.1 a19 6))), (uI (uI φ14 a19 6 p1) a19 7 p2))
  ) none
  ) none
set_option maxRecDepth 100000 in
set_option maxHeartbeats 4000000 in
theorem p_Bus_way {w : jw_T} (hw : jok w) {Γ : gm_T} {n : Nat} (hG : gd w Γ n) {x : Bool} {φ : ph_T} {this : Nat} {p0 : Int32} {p1 : Int32} {p2 : Int32} {q : (Int32 ⊕ String) × ph_T} (H : f_Bus_way Γ φ this p0 p1 p2 = some q) : jc w M_Bus_way [.ref this, .int p0, .int p1, .int p2] (pic Γ φ) n x (kt q.1) (6 * kt q.1) (fq Γ n (rsI q.1) q.2) := by
  refine jc.of (by simp only [jent_r, jent_i, jent_l, jent_a, jent_0]; exact Nat.le_of_ble_eq_true rfl) ?_
  have hls : jents [.ref this, .int p0, .int p1, .int p2] (jm_nL M_Bus_way) = [some (.ref this), some (.int p0), some (.int p1), some (.int p2), none, none] := by simp only [jents, jent_r, jent_i, jent_l, jent_a, jent_0]; rfl
  rw [hls]
  clear hls
  unfold f_Bus_way at H
  refine J_iload_n d_Bus_way_0 rfl ?_
  refine J_aload_n d_Bus_way_1 rfl ?_
  have g1 : Γ this = .inr 11 := by
    apply Classical.byContradiction
    intro q9
    rw [if_neg q9] at H
    cases H
  rw [if_pos g1] at H
  refine F_getR (ci := 11) (k := 3) hG (cf_Bus hw) (fl_Bus_45 hw) (by decide) (by decide) rfl d_Bus_way_2 g1 ?_
  obtain ⟨a2, ha2, H⟩ := Option.bind_eq_some_iff.mp H
  rw [j_rf ha2]
  obtain ⟨N3, hN3, H⟩ := Option.bind_eq_some_iff.mp H
  refine F_alen hw hG (t := 9) rfl d_Bus_way_5 (gA_some hN3) ?_
  rcases bT_some H with ⟨E7, φ6, hq4, H⟩ | ⟨v5, φ6, hq4, H⟩
  · subst H
    show J _ _ _ _ _ _ _ _ (1 + 0) (6 + 0) _
    refine J_callS (kc := 0) (ks := 0) (kc' := 1) (ks' := 6) (as := [.int p0, .int (nI N3)]) (st := []) (mf_Bus_needIndex hw) (ms_Bus_65 hw) d_Bus_way_6 ln_Bus_needIndex (by decide) (by first | exact Nat.le_of_ble_eq_true rfl | (simp only [List.map_cons, List.map_nil, List.sum_cons, List.sum_nil, va_rf_cat]; exact Nat.le_of_ble_eq_true rfl)) rfl (p_Bus_needIndex hw hG hq4) (fun v9 h9 n9 x9 e9 => fq_nr e9) ?_
    intro E99 h9 n9 x9 e9
    obtain ⟨e91, e92, e93⟩ := e9
    have e91 := (Sum.inr.inj (show Sum.inr E99 = Sum.inr E7 from e91)).symm
    subst e91
    subst e92
    subst e93
    exact JT.out rfl ⟨rfl, rfl, rfl⟩
  refine J.kk (Nat.zero_add _) (Nat.zero_add _) ?_
  refine J_callS (kc := kt q.1) (ks := 6 * kt q.1) (kc' := 0) (ks' := 0) (as := [.int p0, .int (nI N3)]) (st := []) (mf_Bus_needIndex hw) (ms_Bus_65 hw) d_Bus_way_6 ln_Bus_needIndex (by decide) (by first | exact Nat.le_of_ble_eq_true rfl | (simp only [List.map_cons, List.map_nil, List.sum_cons, List.sum_nil, va_rf_cat]; exact Nat.le_of_ble_eq_true rfl)) rfl (p_Bus_needIndex hw hG hq4) ?_ (fun E9 h9 n9 x9 e9 => fq_nt e9)
  intro v9 h9 n9 x9 e9
  obtain ⟨e91, e92, e93⟩ := e9
  have e91 := Sum.inl.inj (show Sum.inl v9 = Sum.inl none from e91)
  subst e91
  subst e92
  subst e93
  clear x
  rename Bool => x
  show J _ _ _ _ [] _ _ _ _ _ _
  refine J_iload_n d_Bus_way_9 rfl ?_
  refine J_iconst (v := 0) d_Bus_way_10 (by decide) ?_
  refine J_bipush (v := 15) d_Bus_way_11 (by decide) ?_
  rcases bT_some H with ⟨E11, φ10, hq8, H⟩ | ⟨v9, φ10, hq8, H⟩
  · subst H
    show J _ _ _ _ _ _ _ _ (1 + 0) (6 + 0) _
    refine J_callS (kc := 0) (ks := 0) (kc' := 1) (ks' := 6) (as := [.int p1, .int (0 : Int32), .int (15 : Int32)]) (st := []) (mf_Bus_needNumber hw) (ms_Bus_84 hw) d_Bus_way_13 ln_Bus_needNumber (by decide) (by first | exact Nat.le_of_ble_eq_true rfl | (simp only [List.map_cons, List.map_nil, List.sum_cons, List.sum_nil, va_rf_cat]; exact Nat.le_of_ble_eq_true rfl)) rfl (p_Bus_needNumber hw hG hq8) (fun v9 h9 n9 x9 e9 => fq_nr e9) ?_
    intro E99 h9 n9 x9 e9
    obtain ⟨e91, e92, e93⟩ := e9
    have e91 := (Sum.inr.inj (show Sum.inr E99 = Sum.inr E11 from e91)).symm
    subst e91
    subst e92
    subst e93
    exact JT.out rfl ⟨rfl, rfl, rfl⟩
  refine J.kk (Nat.zero_add _) (Nat.zero_add _) ?_
  refine J_callS (kc := kt q.1) (ks := 6 * kt q.1) (kc' := 0) (ks' := 0) (as := [.int p1, .int (0 : Int32), .int (15 : Int32)]) (st := []) (mf_Bus_needNumber hw) (ms_Bus_84 hw) d_Bus_way_13 ln_Bus_needNumber (by decide) (by first | exact Nat.le_of_ble_eq_true rfl | (simp only [List.map_cons, List.map_nil, List.sum_cons, List.sum_nil, va_rf_cat]; exact Nat.le_of_ble_eq_true rfl)) rfl (p_Bus_needNumber hw hG hq8) ?_ (fun E9 h9 n9 x9 e9 => fq_nt e9)
  intro v9 h9 n9 x9 e9
  obtain ⟨e91, e92, e93⟩ := e9
  have e91 := Sum.inl.inj (show Sum.inl v9 = Sum.inl none from e91)
  subst e91
  subst e92
  subst e93
  clear x
  rename Bool => x
  show J _ _ _ _ [] _ _ _ _ _ _
  refine J_iload_n d_Bus_way_16 rfl ?_
  refine J_iconst (v := 0) d_Bus_way_17 (by decide) ?_
  refine J_iconst (v := 2) d_Bus_way_18 (by decide) ?_
  rcases bT_some H with ⟨E15, φ14, hq12, H⟩ | ⟨v13, φ14, hq12, H⟩
  · subst H
    show J _ _ _ _ _ _ _ _ (1 + 0) (6 + 0) _
    refine J_callS (kc := 0) (ks := 0) (kc' := 1) (ks' := 6) (as := [.int p2, .int (0 : Int32), .int (2 : Int32)]) (st := []) (mf_Bus_needNumber hw) (ms_Bus_84 hw) d_Bus_way_19 ln_Bus_needNumber (by decide) (by first | exact Nat.le_of_ble_eq_true rfl | (simp only [List.map_cons, List.map_nil, List.sum_cons, List.sum_nil, va_rf_cat]; exact Nat.le_of_ble_eq_true rfl)) rfl (p_Bus_needNumber hw hG hq12) (fun v9 h9 n9 x9 e9 => fq_nr e9) ?_
    intro E99 h9 n9 x9 e9
    obtain ⟨e91, e92, e93⟩ := e9
    have e91 := (Sum.inr.inj (show Sum.inr E99 = Sum.inr E15 from e91)).symm
    subst e91
    subst e92
    subst e93
    exact JT.out rfl ⟨rfl, rfl, rfl⟩
  refine J.kk (Nat.zero_add _) (Nat.zero_add _) ?_
  refine J_callS (kc := kt q.1) (ks := 6 * kt q.1) (kc' := 0) (ks' := 0) (as := [.int p2, .int (0 : Int32), .int (2 : Int32)]) (st := []) (mf_Bus_needNumber hw) (ms_Bus_84 hw) d_Bus_way_19 ln_Bus_needNumber (by decide) (by first | exact Nat.le_of_ble_eq_true rfl | (simp only [List.map_cons, List.map_nil, List.sum_cons, List.sum_nil, va_rf_cat]; exact Nat.le_of_ble_eq_true rfl)) rfl (p_Bus_needNumber hw hG hq12) ?_ (fun E9 h9 n9 x9 e9 => fq_nt e9)
  intro v9 h9 n9 x9 e9
  obtain ⟨e91, e92, e93⟩ := e9
  have e91 := Sum.inl.inj (show Sum.inl v9 = Sum.inl none from e91)
  subst e91
  subst e92
  subst e93
  clear x
  rename Bool => x
  show J _ _ _ _ [] _ _ _ _ _ _
  refine J_aload_n d_Bus_way_22 rfl ?_
  refine F_getR (ci := 11) (k := 3) hG (cf_Bus hw) (fl_Bus_45 hw) (by decide) (by decide) rfl d_Bus_way_23 g1 ?_
  refine J_iload_n d_Bus_way_26 rfl ?_
  obtain ⟨a16, ha16, H⟩ := Option.bind_eq_some_iff.mp H
  rw [j_rf ha16]
  obtain ⟨N17, hN17, H⟩ := Option.bind_eq_some_iff.mp H
  obtain ⟨k18, hk18, H⟩ := Option.bind_eq_some_iff.mp H
  refine F_aald k18 hw hG (t := 9) rfl (by decide) d_Bus_way_27 (gA_some hN17) (ix_some hk18) ?_
  refine J_astoreO d_Bus_way_28 (Nat.le_of_ble_eq_true rfl) ?_
  refine J.ls (ls' := [some (.ref this), some (.int p0), some (.int p1), some (.int p2), some (va_rf (φ14.2.2 a16 k18)), none]) rfl ?_
  refine J_bipush (v := 16) d_Bus_way_30 (by decide) ?_
  refine J_aloadO d_Bus_way_32 rfl ?_
  obtain ⟨a19, ha19, H⟩ := Option.bind_eq_some_iff.mp H
  rw [j_rf ha19]
  have g20 : Γ a19 = .inr 8 := by
    apply Classical.byContradiction
    intro q9
    rw [if_neg q9] at H
    cases H
  rw [if_pos g20] at H
  refine F_getI (ci := 8) (k := 7) hG (cf_Slave hw) (fl_Bus_106 hw) (by decide) (by decide) rfl d_Bus_way_34 g20 ?_
  refine J_imul d_Bus_way_37 ?_
  refine J_aload d_Bus_way_38 rfl ?_
  refine F_getI (ci := 8) (k := 6) hG (cf_Slave hw) (fl_Bus_109 hw) (by decide) (by decide) rfl d_Bus_way_40 g20 ?_
  refine J_iadd d_Bus_way_43 ?_
  refine J_istore d_Bus_way_44 (Nat.le_of_ble_eq_true rfl) ?_
  refine J.ls (ls' := [some (.ref this), some (.int p0), some (.int p1), some (.int p2), some (.ref a19), some (.int (((16 : Int32) * (φ14.1 a19 7)) + (φ14.1 a19 6)))]) rfl ?_
  refine J_aload d_Bus_way_46 rfl ?_
  refine J_iload_n d_Bus_way_48 rfl ?_
  refine F_putI (ci := 8) (k := 6) hG (cf_Slave hw) (fl_Bus_109 hw) (by decide) (by decide) rfl d_Bus_way_49 rfl rfl rfl g20 ?_
  refine J_aload d_Bus_way_52 rfl ?_
  refine J_iload_n d_Bus_way_54 rfl ?_
  refine F_putI (ci := 8) (k := 7) hG (cf_Slave hw) (fl_Bus_106 hw) (by decide) (by decide) rfl d_Bus_way_55 rfl rfl rfl g20 ?_
  refine J_iload d_Bus_way_58 rfl ?_
  have H := Option.some.inj H
  subst H
  show J _ _ _ _ _ _ _ _ 0 0 _
  exact J_iret (st := []) d_Bus_way_60 rfl rfl ⟨rfl, rfl, rfl⟩
theorem ln_Law_way : (parseMethodDescriptor y_Law_way.desc).map (fun q => q.parameters.length) = some 5 := by decide +kernel
def f_Law_way (Γ : gm_T) (φ : ph_T) (p0 : Option Nat) (p1 : Int32) (p2 : Int32) (p3 : Int32) (p4 : Option Nat) : Option (Int32 × ph_T) :=
  Option.bind p0 fun a1 =>
  @ite _ (Γ a1 = .inr 11) _ (
  bC (f_Bus_way Γ φ a1 p1 p2 p3) (fun E6 φ5 =>
    if E6 = "java/lang/IndexOutOfBoundsException" then
      some ((1 : Int32), φ5)
 else if E6 = "java/lang/IllegalArgumentException" then
      some ((2 : Int32), φ5)
 else none) fun v4 φ5 =>
  Option.bind p4 fun a11 =>
  Option.bind (gA Γ a11 1) fun N12 =>
  Option.bind (ix (0 : Int32) N12) fun k13 =>
  some ((0 : Int32), (uL φ5 a11 k13 (Int32.toInt64 v4)))
  ) none
set_option maxRecDepth 100000 in
set_option maxHeartbeats 4000000 in
theorem p_Law_way {w : jw_T} (hw : jok w) {Γ : gm_T} {n : Nat} (hG : gd w Γ n) {x : Bool} {φ : ph_T} {p0 : Option Nat} {p1 : Int32} {p2 : Int32} {p3 : Int32} {p4 : Option Nat} {q : Int32 × ph_T} (H : f_Law_way Γ φ p0 p1 p2 p3 p4 = some q) : jc w M_Law_way [va_rf p0, .int p1, .int p2, .int p3, va_rf p4] (pic Γ φ) n x 1 6 (fq Γ n (.inl (some (.int q.1))) q.2) := by
  refine jc.of (by simp only [jent_r, jent_i, jent_l, jent_a, jent_0]; exact Nat.le_of_ble_eq_true rfl) ?_
  have hls : jents [va_rf p0, .int p1, .int p2, .int p3, va_rf p4] (jm_nL M_Law_way) = [some (va_rf p0), some (.int p1), some (.int p2), some (.int p3), some (va_rf p4), none] := by simp only [jents, jent_r, jent_i, jent_l, jent_a, jent_0]; rfl
  rw [hls]
  clear hls
  unfold f_Law_way at H
  refine J_aloadO d_Law_way_0 rfl ?_
  refine J_iconst (v := 0) d_Law_way_2 (by decide) ?_
  refine J_aload_nO d_Law_way_3 rfl ?_
  refine J_iload_n d_Law_way_4 rfl ?_
  refine J_iload_n d_Law_way_5 rfl ?_
  refine J_iload_n d_Law_way_6 rfl ?_
  obtain ⟨a1, ha1, H⟩ := Option.bind_eq_some_iff.mp H
  rw [j_rf ha1]
  have g2 : Γ a1 = .inr 11 := by
    apply Classical.byContradiction
    intro q9
    rw [if_neg q9] at H
    cases H
  rw [if_pos g2] at H
  rcases bC_some H with ⟨E6, φ5, hq3, H⟩ | ⟨v4, φ5, hq3, H⟩
  · refine J_callV (kc := 0) (ks := 0) (kc' := 1) (ks' := 6) (a := a1) (ci := 11) (as := [.int p1, .int p2, .int p3]) (st := [.int (0 : Int32), va_rf p4]) (mf_Bus_way hw) (mv_Law_34 hw) d_Law_way_7 ln_Bus_way (by decide) (by first | exact Nat.le_of_ble_eq_true rfl | (simp only [List.map_cons, List.map_nil, List.sum_cons, List.sum_nil, va_rf_cat]; exact Nat.le_of_ble_eq_true rfl)) rfl ((hG _).1 _ g2 (by decide)).1 ((hG _).1 _ g2 (by decide)).2 (by unfold pic; rw [g2]; rfl) (jcl_at hw rfl) rfl (p_Bus_way hw hG hq3) (fun v9 h9 n9 x9 e9 => fq_nr e9) ?_
    intro E99 h9 n9 x9 e9
    obtain ⟨e91, e92, e93⟩ := e9
    have e91 := (Sum.inr.inj (show Sum.inr E99 = Sum.inr E6 from e91)).symm
    subst e91
    subst e92
    subst e93
    by_cases c8 : E6 = "java/lang/IndexOutOfBoundsException"
    · subst c8
      rw [if_pos rfl] at H
      refine JT.catch (name := "java/lang/IndexOutOfBoundsException") [] [(0, 12, 19, 21)] rfl ⟨by decide, by decide⟩ (by decide) (tb3 hw (i := 79) (by decide +kernel)) (tb3 hw (i := 90) (by decide +kernel)) (fun r9 hr9 => by cases hr9) (fun r7 => ?_)
      refine J_astore d_Law_way_15 (Nat.le_of_ble_eq_true rfl) ?_
      refine J.ls (ls' := [some (.ref a1), some (.int p1), some (.int p2), some (.int p3), some (va_rf p4), some (.ref r7)]) (jst1_o (i := 4) (r := p4) rfl) ?_
      refine J_iconst (v := 1) d_Law_way_17 (by decide) ?_
      have H := Option.some.inj H
      subst H
      exact J_iret (st := []) d_Law_way_18 rfl rfl ⟨rfl, rfl, rfl⟩
    rw [if_neg c8] at H
    by_cases c10 : E6 = "java/lang/IllegalArgumentException"
    · subst c10
      rw [if_pos rfl] at H
      refine JT.catch (name := "java/lang/IllegalArgumentException") [(0, 12, 15, 13)] [] rfl ⟨by decide, by decide⟩ (by decide) (tb3 hw (i := 176) (by decide +kernel)) (tb3 hw (i := 186) (by decide +kernel)) (fun r9 hr9 => by
          simp only [List.mem_cons, List.not_mem_nil, or_false] at hr9
          rcases hr9 with rfl
          · exact ⟨by decide, "java/lang/IndexOutOfBoundsException", tb3 hw (i := 79) (by decide +kernel), jnc_mem hw (by decide)⟩) (fun r9 => ?_)
      refine J_astore d_Law_way_19 (Nat.le_of_ble_eq_true rfl) ?_
      refine J.ls (ls' := [some (.ref a1), some (.int p1), some (.int p2), some (.int p3), some (va_rf p4), some (.ref r9)]) (jst1_o (i := 4) (r := p4) rfl) ?_
      refine J_iconst (v := 2) d_Law_way_21 (by decide) ?_
      have H := Option.some.inj H
      subst H
      exact J_iret (st := []) d_Law_way_22 rfl rfl ⟨rfl, rfl, rfl⟩
    rw [if_neg c10] at H
    cases H
  refine J.more (kc := 0) (ks := 0) (Nat.zero_le _) (Nat.zero_le _) ?_
  refine J_callV (kc := 0) (ks := 0) (kc' := 0) (ks' := 0) (a := a1) (ci := 11) (as := [.int p1, .int p2, .int p3]) (st := [.int (0 : Int32), va_rf p4]) (mf_Bus_way hw) (mv_Law_34 hw) d_Law_way_7 ln_Bus_way (by decide) (by first | exact Nat.le_of_ble_eq_true rfl | (simp only [List.map_cons, List.map_nil, List.sum_cons, List.sum_nil, va_rf_cat]; exact Nat.le_of_ble_eq_true rfl)) rfl ((hG _).1 _ g2 (by decide)).1 ((hG _).1 _ g2 (by decide)).2 (by unfold pic; rw [g2]; rfl) (jcl_at hw rfl) rfl (p_Bus_way hw hG hq3) ?_ (fun E9 h9 n9 x9 e9 => fq_nt e9)
  intro v9 h9 n9 x9 e9
  obtain ⟨e91, e92, e93⟩ := e9
  have e91 := Sum.inl.inj (show Sum.inl v9 = Sum.inl (some (.int v4)) from e91)
  subst e91
  subst e92
  subst e93
  clear x
  rename Bool => x
  show J _ _ _ _ (_ :: _) _ _ _ _ _ _
  refine J_i2l d_Law_way_10 ?_
  obtain ⟨a11, ha11, H⟩ := Option.bind_eq_some_iff.mp H
  rw [j_rf ha11]
  obtain ⟨N12, hN12, H⟩ := Option.bind_eq_some_iff.mp H
  obtain ⟨k13, hk13, H⟩ := Option.bind_eq_some_iff.mp H
  refine F_last k13 hw hG d_Law_way_11 (gA_some hN12) (ix_some hk13) ?_
  refine J_goto (tgt := 23) d_Law_way_12 (by decide) ?_
  refine J_iconst (v := 0) d_Law_way_23 (by decide) ?_
  have H := Option.some.inj H
  subst H
  exact J_iret (st := []) d_Law_way_24 rfl rfl ⟨rfl, rfl, rfl⟩
theorem ln_Bus_spoil : (parseMethodDescriptor y_Bus_spoil.desc).map (fun q => q.parameters.length) = some 3 := by decide +kernel
def f_Bus_spoil (Γ : gm_T) (φ : ph_T) (this : Nat) (p0 : Int32) (p1 : Int32) (p2 : Int32) : Option ((Int32 ⊕ String) × ph_T) :=
  bT (f_Bus_needIndex Γ φ p0 (65536 : Int32)) fun v2 φ3 =>
  if (1 : Int32) ≤ p1 then
    @ite _ (Γ this = .inr 11) _ (
    Option.bind (f_Math_min Γ φ3 p1 ((65536 : Int32) - p0)) fun q6 =>
    Option.bind (φ3.2.2 this 0) fun a7 =>
    @ite _ (Γ a7 = .inr 2) _ (
    Option.bind (f_Memory_mark Γ q6.2 a7 p0 q6.1 p2) fun q9 =>
    some (.inl (q9.1), q9.2)
    ) none
    ) none
  else
    some (.inr "java/lang/IllegalArgumentException", φ3)
set_option maxRecDepth 100000 in
set_option maxHeartbeats 4000000 in
theorem p_Bus_spoil {w : jw_T} (hw : jok w) {Γ : gm_T} {n : Nat} (hG : gd w Γ n) {x : Bool} {φ : ph_T} {this : Nat} {p0 : Int32} {p1 : Int32} {p2 : Int32} {q : (Int32 ⊕ String) × ph_T} (H : f_Bus_spoil Γ φ this p0 p1 p2 = some q) : jc w M_Bus_spoil [.ref this, .int p0, .int p1, .int p2] (pic Γ φ) n x (kt q.1) (6 * kt q.1) (fq Γ n (rsI q.1) q.2) := by
  refine jc.of (by simp only [jent_r, jent_i, jent_l, jent_a, jent_0]; exact Nat.le_of_ble_eq_true rfl) ?_
  have hls : jents [.ref this, .int p0, .int p1, .int p2] (jm_nL M_Bus_spoil) = [some (.ref this), some (.int p0), some (.int p1), some (.int p2)] := by simp only [jents, jent_r, jent_i, jent_l, jent_a, jent_0]; rfl
  rw [hls]
  clear hls
  unfold f_Bus_spoil at H
  refine J_iload_n d_Bus_spoil_0 rfl ?_
  refine J_ldc (v := 65536) d_Bus_spoil_1 (kn_Bus_112 hw) ?_
  rcases bT_some H with ⟨E4, φ3, hq1, H⟩ | ⟨v2, φ3, hq1, H⟩
  · subst H
    show J _ _ _ _ _ _ _ _ (1 + 0) (6 + 0) _
    refine J_callS (kc := 0) (ks := 0) (kc' := 1) (ks' := 6) (as := [.int p0, .int (65536 : Int32)]) (st := []) (mf_Bus_needIndex hw) (ms_Bus_65 hw) d_Bus_spoil_3 ln_Bus_needIndex (by decide) (by first | exact Nat.le_of_ble_eq_true rfl | (simp only [List.map_cons, List.map_nil, List.sum_cons, List.sum_nil, va_rf_cat]; exact Nat.le_of_ble_eq_true rfl)) rfl (p_Bus_needIndex hw hG hq1) (fun v9 h9 n9 x9 e9 => fq_nr e9) ?_
    intro E99 h9 n9 x9 e9
    obtain ⟨e91, e92, e93⟩ := e9
    have e91 := (Sum.inr.inj (show Sum.inr E99 = Sum.inr E4 from e91)).symm
    subst e91
    subst e92
    subst e93
    exact JT.out rfl ⟨rfl, rfl, rfl⟩
  refine J.kk (Nat.zero_add _) (Nat.zero_add _) ?_
  refine J_callS (kc := kt q.1) (ks := 6 * kt q.1) (kc' := 0) (ks' := 0) (as := [.int p0, .int (65536 : Int32)]) (st := []) (mf_Bus_needIndex hw) (ms_Bus_65 hw) d_Bus_spoil_3 ln_Bus_needIndex (by decide) (by first | exact Nat.le_of_ble_eq_true rfl | (simp only [List.map_cons, List.map_nil, List.sum_cons, List.sum_nil, va_rf_cat]; exact Nat.le_of_ble_eq_true rfl)) rfl (p_Bus_needIndex hw hG hq1) ?_ (fun E9 h9 n9 x9 e9 => fq_nt e9)
  intro v9 h9 n9 x9 e9
  obtain ⟨e91, e92, e93⟩ := e9
  have e91 := Sum.inl.inj (show Sum.inl v9 = Sum.inl none from e91)
  subst e91
  subst e92
  subst e93
  clear x
  rename Bool => x
  show J _ _ _ _ [] _ _ _ _ _ _
  refine J_iload_n d_Bus_spoil_6 rfl ?_
  refine J_iconst (v := 1) d_Bus_spoil_7 (by decide) ?_
  refine J_icmp_ge (tgt := 21) d_Bus_spoil_8 (by decide) ?_ ?_
  · intro c10
    rw [if_pos c10] at H
    refine J_aload_n d_Bus_spoil_21 rfl ?_
    have g5 : Γ this = .inr 11 := by
      apply Classical.byContradiction
      intro q9
      rw [if_neg q9] at H
      cases H
    rw [if_pos g5] at H
    refine F_getR (ci := 11) (k := 0) hG (cf_Bus hw) (fl_Bus_16 hw) (by decide) (by decide) rfl d_Bus_spoil_22 g5 ?_
    refine J_iload_n d_Bus_spoil_25 rfl ?_
    refine J_iload_n d_Bus_spoil_26 rfl ?_
    refine J_ldc (v := 65536) d_Bus_spoil_27 (kn_Bus_112 hw) ?_
    refine J_iload_n d_Bus_spoil_29 rfl ?_
    refine J_isub d_Bus_spoil_30 ?_
    obtain ⟨q6, hq6, H⟩ := Option.bind_eq_some_iff.mp H
    refine J.kk (Nat.zero_add _) (Nat.zero_add _) ?_
    refine J_callS (kc := kt q.1) (ks := 6 * kt q.1) (kc' := 0) (ks' := 0) (as := [.int p1, .int ((65536 : Int32) - p0)]) (st := [.int p0, va_rf (φ3.2.2 this 0)]) (mf_Math_min hw) (ms_Bus_118 hw) d_Bus_spoil_31 ln_Math_min (by decide) (by first | exact Nat.le_of_ble_eq_true rfl | (simp only [List.map_cons, List.map_nil, List.sum_cons, List.sum_nil, va_rf_cat]; exact Nat.le_of_ble_eq_true rfl)) rfl (p_Math_min hw hG hq6) ?_ (fun E h' n' x' e1 => by cases e1.1)
    intro v9 h9 n9 x9 e9
    obtain ⟨e91, e92, e93⟩ := e9
    cases e91
    subst e92
    subst e93
    clear x
    rename Bool => x
    show J _ _ _ _ (_ :: _) _ _ _ _ _ _
    refine J_iload_n d_Bus_spoil_34 rfl ?_
    obtain ⟨a7, ha7, H⟩ := Option.bind_eq_some_iff.mp H
    rw [j_rf ha7]
    have g8 : Γ a7 = .inr 2 := by
      apply Classical.byContradiction
      intro q9
      rw [if_neg q9] at H
      cases H
    rw [if_pos g8] at H
    obtain ⟨q9, hq9, H⟩ := Option.bind_eq_some_iff.mp H
    refine J.kk (Nat.zero_add _) (Nat.zero_add _) ?_
    refine J_callV (kc := kt q.1) (ks := 6 * kt q.1) (kc' := 0) (ks' := 0) (a := a7) (ci := 2) (as := [.int p0, .int q6.1, .int p2]) (st := []) (mf_Memory_mark hw) (mv_Bus_123 hw) d_Bus_spoil_35 ln_Memory_mark (by decide) (by first | exact Nat.le_of_ble_eq_true rfl | (simp only [List.map_cons, List.map_nil, List.sum_cons, List.sum_nil, va_rf_cat]; exact Nat.le_of_ble_eq_true rfl)) rfl ((hG _).1 _ g8 (by decide)).1 ((hG _).1 _ g8 (by decide)).2 (by unfold pic; rw [g8]; rfl) (jcl_at hw rfl) rfl (p_Memory_mark hw hG hq9) ?_ (fun E h' n' x' e1 => by cases e1.1)
    intro v9 h9 n9 x9 e9
    obtain ⟨e91, e92, e93⟩ := e9
    cases e91
    subst e92
    subst e93
    clear x
    rename Bool => x
    show J _ _ _ _ (_ :: _) _ _ _ _ _ _
    have H := Option.some.inj H
    subst H
    show J _ _ _ _ _ _ _ _ 0 0 _
    exact J_iret (st := []) d_Bus_spoil_38 rfl rfl ⟨rfl, rfl, rfl⟩
  · intro c10
    rw [if_neg c10] at H
    have H := Option.some.inj H
    subst H
    show J _ _ _ _ _ _ _ _ (0 + 1) (0 + 6) _
    exact J_throwS (kc := 0) (ks := 0) (cls := "java/lang/IllegalArgumentException") (names := jxn) xf_IllegalArgumentException jxn_fit (tb3 hw (i := 184) (by decide +kernel)) (tb1 hw (i := 21) (by decide +kernel)) (jsr_mem hw (text := "n is below 1") (by decide)) (xa_IllegalArgumentException hw) d_Bus_spoil_11 d_Bus_spoil_14 d_Bus_spoil_15 d_Bus_spoil_17 d_Bus_spoil_20 rfl rfl (by decide) (by decide) ⟨rfl, rfl, rfl⟩
theorem ln_Law_spoil : (parseMethodDescriptor y_Law_spoil.desc).map (fun q => q.parameters.length) = some 5 := by decide +kernel
def f_Law_spoil (Γ : gm_T) (φ : ph_T) (p0 : Option Nat) (p1 : Int32) (p2 : Int32) (p3 : Int32) (p4 : Option Nat) : Option (Int32 × ph_T) :=
  Option.bind p0 fun a1 =>
  @ite _ (Γ a1 = .inr 11) _ (
  bC (f_Bus_spoil Γ φ a1 p1 p2 p3) (fun E6 φ5 =>
    if E6 = "java/lang/IndexOutOfBoundsException" then
      some ((1 : Int32), φ5)
 else if E6 = "java/lang/IllegalArgumentException" then
      some ((2 : Int32), φ5)
 else none) fun v4 φ5 =>
  Option.bind p4 fun a11 =>
  Option.bind (gA Γ a11 1) fun N12 =>
  Option.bind (ix (0 : Int32) N12) fun k13 =>
  some ((0 : Int32), (uL φ5 a11 k13 (Int32.toInt64 v4)))
  ) none
set_option maxRecDepth 100000 in
set_option maxHeartbeats 4000000 in
theorem p_Law_spoil {w : jw_T} (hw : jok w) {Γ : gm_T} {n : Nat} (hG : gd w Γ n) {x : Bool} {φ : ph_T} {p0 : Option Nat} {p1 : Int32} {p2 : Int32} {p3 : Int32} {p4 : Option Nat} {q : Int32 × ph_T} (H : f_Law_spoil Γ φ p0 p1 p2 p3 p4 = some q) : jc w M_Law_spoil [va_rf p0, .int p1, .int p2, .int p3, va_rf p4] (pic Γ φ) n x 1 6 (fq Γ n (.inl (some (.int q.1))) q.2) := by
  refine jc.of (by simp only [jent_r, jent_i, jent_l, jent_a, jent_0]; exact Nat.le_of_ble_eq_true rfl) ?_
  have hls : jents [va_rf p0, .int p1, .int p2, .int p3, va_rf p4] (jm_nL M_Law_spoil) = [some (va_rf p0), some (.int p1), some (.int p2), some (.int p3), some (va_rf p4), none] := by simp only [jents, jent_r, jent_i, jent_l, jent_a, jent_0]; rfl
  rw [hls]
  clear hls
  unfold f_Law_spoil at H
  refine J_aloadO d_Law_spoil_0 rfl ?_
  refine J_iconst (v := 0) d_Law_spoil_2 (by decide) ?_
  refine J_aload_nO d_Law_spoil_3 rfl ?_
  refine J_iload_n d_Law_spoil_4 rfl ?_
  refine J_iload_n d_Law_spoil_5 rfl ?_
  refine J_iload_n d_Law_spoil_6 rfl ?_
  obtain ⟨a1, ha1, H⟩ := Option.bind_eq_some_iff.mp H
  rw [j_rf ha1]
  have g2 : Γ a1 = .inr 11 := by
    apply Classical.byContradiction
    intro q9
    rw [if_neg q9] at H
    cases H
  rw [if_pos g2] at H
  rcases bC_some H with ⟨E6, φ5, hq3, H⟩ | ⟨v4, φ5, hq3, H⟩
  · refine J_callV (kc := 0) (ks := 0) (kc' := 1) (ks' := 6) (a := a1) (ci := 11) (as := [.int p1, .int p2, .int p3]) (st := [.int (0 : Int32), va_rf p4]) (mf_Bus_spoil hw) (mv_Law_37 hw) d_Law_spoil_7 ln_Bus_spoil (by decide) (by first | exact Nat.le_of_ble_eq_true rfl | (simp only [List.map_cons, List.map_nil, List.sum_cons, List.sum_nil, va_rf_cat]; exact Nat.le_of_ble_eq_true rfl)) rfl ((hG _).1 _ g2 (by decide)).1 ((hG _).1 _ g2 (by decide)).2 (by unfold pic; rw [g2]; rfl) (jcl_at hw rfl) rfl (p_Bus_spoil hw hG hq3) (fun v9 h9 n9 x9 e9 => fq_nr e9) ?_
    intro E99 h9 n9 x9 e9
    obtain ⟨e91, e92, e93⟩ := e9
    have e91 := (Sum.inr.inj (show Sum.inr E99 = Sum.inr E6 from e91)).symm
    subst e91
    subst e92
    subst e93
    by_cases c8 : E6 = "java/lang/IndexOutOfBoundsException"
    · subst c8
      rw [if_pos rfl] at H
      refine JT.catch (name := "java/lang/IndexOutOfBoundsException") [] [(0, 12, 19, 21)] rfl ⟨by decide, by decide⟩ (by decide) (tb3 hw (i := 79) (by decide +kernel)) (tb3 hw (i := 90) (by decide +kernel)) (fun r9 hr9 => by cases hr9) (fun r7 => ?_)
      refine J_astore d_Law_spoil_15 (Nat.le_of_ble_eq_true rfl) ?_
      refine J.ls (ls' := [some (.ref a1), some (.int p1), some (.int p2), some (.int p3), some (va_rf p4), some (.ref r7)]) (jst1_o (i := 4) (r := p4) rfl) ?_
      refine J_iconst (v := 1) d_Law_spoil_17 (by decide) ?_
      have H := Option.some.inj H
      subst H
      exact J_iret (st := []) d_Law_spoil_18 rfl rfl ⟨rfl, rfl, rfl⟩
    rw [if_neg c8] at H
    by_cases c10 : E6 = "java/lang/IllegalArgumentException"
    · subst c10
      rw [if_pos rfl] at H
      refine JT.catch (name := "java/lang/IllegalArgumentException") [(0, 12, 15, 13)] [] rfl ⟨by decide, by decide⟩ (by decide) (tb3 hw (i := 176) (by decide +kernel)) (tb3 hw (i := 186) (by decide +kernel)) (fun r9 hr9 => by
          simp only [List.mem_cons, List.not_mem_nil, or_false] at hr9
          rcases hr9 with rfl
          · exact ⟨by decide, "java/lang/IndexOutOfBoundsException", tb3 hw (i := 79) (by decide +kernel), jnc_mem hw (by decide)⟩) (fun r9 => ?_)
      refine J_astore d_Law_spoil_19 (Nat.le_of_ble_eq_true rfl) ?_
      refine J.ls (ls' := [some (.ref a1), some (.int p1), some (.int p2), some (.int p3), some (va_rf p4), some (.ref r9)]) (jst1_o (i := 4) (r := p4) rfl) ?_
      refine J_iconst (v := 2) d_Law_spoil_21 (by decide) ?_
      have H := Option.some.inj H
      subst H
      exact J_iret (st := []) d_Law_spoil_22 rfl rfl ⟨rfl, rfl, rfl⟩
    rw [if_neg c10] at H
    cases H
  refine J.more (kc := 0) (ks := 0) (Nat.zero_le _) (Nat.zero_le _) ?_
  refine J_callV (kc := 0) (ks := 0) (kc' := 0) (ks' := 0) (a := a1) (ci := 11) (as := [.int p1, .int p2, .int p3]) (st := [.int (0 : Int32), va_rf p4]) (mf_Bus_spoil hw) (mv_Law_37 hw) d_Law_spoil_7 ln_Bus_spoil (by decide) (by first | exact Nat.le_of_ble_eq_true rfl | (simp only [List.map_cons, List.map_nil, List.sum_cons, List.sum_nil, va_rf_cat]; exact Nat.le_of_ble_eq_true rfl)) rfl ((hG _).1 _ g2 (by decide)).1 ((hG _).1 _ g2 (by decide)).2 (by unfold pic; rw [g2]; rfl) (jcl_at hw rfl) rfl (p_Bus_spoil hw hG hq3) ?_ (fun E9 h9 n9 x9 e9 => fq_nt e9)
  intro v9 h9 n9 x9 e9
  obtain ⟨e91, e92, e93⟩ := e9
  have e91 := Sum.inl.inj (show Sum.inl v9 = Sum.inl (some (.int v4)) from e91)
  subst e91
  subst e92
  subst e93
  clear x
  rename Bool => x
  show J _ _ _ _ (_ :: _) _ _ _ _ _ _
  refine J_i2l d_Law_spoil_10 ?_
  obtain ⟨a11, ha11, H⟩ := Option.bind_eq_some_iff.mp H
  rw [j_rf ha11]
  obtain ⟨N12, hN12, H⟩ := Option.bind_eq_some_iff.mp H
  obtain ⟨k13, hk13, H⟩ := Option.bind_eq_some_iff.mp H
  refine F_last k13 hw hG d_Law_spoil_11 (gA_some hN12) (ix_some hk13) ?_
  refine J_goto (tgt := 23) d_Law_spoil_12 (by decide) ?_
  refine J_iconst (v := 0) d_Law_spoil_23 (by decide) ?_
  have H := Option.some.inj H
  subst H
  exact J_iret (st := []) d_Law_spoil_24 rfl rfl ⟨rfl, rfl, rfl⟩
theorem ln_Bus_poke : (parseMethodDescriptor y_Bus_poke.desc).map (fun q => q.parameters.length) = some 2 := by decide +kernel
def f_Bus_poke (Γ : gm_T) (φ : ph_T) (this : Nat) (p0 : Int32) (p1 : Int32) : Option ((Int32 ⊕ String) × ph_T) :=
  bT (f_Bus_needIndex Γ φ p0 (65536 : Int32)) fun v2 φ3 =>
  bT (f_Bus_needNumber Γ φ3 p1 (0 : Int32) (255 : Int32)) fun v6 φ7 =>
  @ite _ (Γ this = .inr 11) _ (
  Option.bind (φ7.2.2 this 0) fun a10 =>
  @ite _ (Γ a10 = .inr 2) _ (
  Option.bind (f_Memory_byteAt Γ φ7 a10 p0) fun q12 =>
  Option.bind (q12.2.2.2 this 0) fun a13 =>
  @ite _ (Γ a13 = .inr 2) _ (
  Option.bind (f_Memory_store Γ q12.2 a13 p0 ((Int32.toInt64 p1) <<< (Int32.toInt64 ((8 : Int32) * (p0 &&& (7 : Int32))) &&& 63)) ((1 : Int32) <<< ((p0 &&& (7 : Int32)) &&& 31))) fun q15 =>
  some (.inl (q12.1), q15.2)
  ) none
  ) none
  ) none
set_option maxRecDepth 100000 in
set_option maxHeartbeats 4000000 in
theorem p_Bus_poke {w : jw_T} (hw : jok w) {Γ : gm_T} {n : Nat} (hG : gd w Γ n) {x : Bool} {φ : ph_T} {this : Nat} {p0 : Int32} {p1 : Int32} {q : (Int32 ⊕ String) × ph_T} (H : f_Bus_poke Γ φ this p0 p1 = some q) : jc w M_Bus_poke [.ref this, .int p0, .int p1] (pic Γ φ) n x (kt q.1) (6 * kt q.1) (fq Γ n (rsI q.1) q.2) := by
  refine jc.of (by simp only [jent_r, jent_i, jent_l, jent_a, jent_0]; exact Nat.le_of_ble_eq_true rfl) ?_
  have hls : jents [.ref this, .int p0, .int p1] (jm_nL M_Bus_poke) = [some (.ref this), some (.int p0), some (.int p1), none, none] := by simp only [jents, jent_r, jent_i, jent_l, jent_a, jent_0]; rfl
  rw [hls]
  clear hls
  unfold f_Bus_poke at H
  refine J_iload_n d_Bus_poke_0 rfl ?_
  refine J_ldc (v := 65536) d_Bus_poke_1 (kn_Bus_112 hw) ?_
  rcases bT_some H with ⟨E4, φ3, hq1, H⟩ | ⟨v2, φ3, hq1, H⟩
  · subst H
    show J _ _ _ _ _ _ _ _ (1 + 0) (6 + 0) _
    refine J_callS (kc := 0) (ks := 0) (kc' := 1) (ks' := 6) (as := [.int p0, .int (65536 : Int32)]) (st := []) (mf_Bus_needIndex hw) (ms_Bus_65 hw) d_Bus_poke_3 ln_Bus_needIndex (by decide) (by first | exact Nat.le_of_ble_eq_true rfl | (simp only [List.map_cons, List.map_nil, List.sum_cons, List.sum_nil, va_rf_cat]; exact Nat.le_of_ble_eq_true rfl)) rfl (p_Bus_needIndex hw hG hq1) (fun v9 h9 n9 x9 e9 => fq_nr e9) ?_
    intro E99 h9 n9 x9 e9
    obtain ⟨e91, e92, e93⟩ := e9
    have e91 := (Sum.inr.inj (show Sum.inr E99 = Sum.inr E4 from e91)).symm
    subst e91
    subst e92
    subst e93
    exact JT.out rfl ⟨rfl, rfl, rfl⟩
  refine J.kk (Nat.zero_add _) (Nat.zero_add _) ?_
  refine J_callS (kc := kt q.1) (ks := 6 * kt q.1) (kc' := 0) (ks' := 0) (as := [.int p0, .int (65536 : Int32)]) (st := []) (mf_Bus_needIndex hw) (ms_Bus_65 hw) d_Bus_poke_3 ln_Bus_needIndex (by decide) (by first | exact Nat.le_of_ble_eq_true rfl | (simp only [List.map_cons, List.map_nil, List.sum_cons, List.sum_nil, va_rf_cat]; exact Nat.le_of_ble_eq_true rfl)) rfl (p_Bus_needIndex hw hG hq1) ?_ (fun E9 h9 n9 x9 e9 => fq_nt e9)
  intro v9 h9 n9 x9 e9
  obtain ⟨e91, e92, e93⟩ := e9
  have e91 := Sum.inl.inj (show Sum.inl v9 = Sum.inl none from e91)
  subst e91
  subst e92
  subst e93
  clear x
  rename Bool => x
  show J _ _ _ _ [] _ _ _ _ _ _
  refine J_iload_n d_Bus_poke_6 rfl ?_
  refine J_iconst (v := 0) d_Bus_poke_7 (by decide) ?_
  refine J_sipush (v := 255) d_Bus_poke_8 (by decide) ?_
  rcases bT_some H with ⟨E8, φ7, hq5, H⟩ | ⟨v6, φ7, hq5, H⟩
  · subst H
    show J _ _ _ _ _ _ _ _ (1 + 0) (6 + 0) _
    refine J_callS (kc := 0) (ks := 0) (kc' := 1) (ks' := 6) (as := [.int p1, .int (0 : Int32), .int (255 : Int32)]) (st := []) (mf_Bus_needNumber hw) (ms_Bus_84 hw) d_Bus_poke_11 ln_Bus_needNumber (by decide) (by first | exact Nat.le_of_ble_eq_true rfl | (simp only [List.map_cons, List.map_nil, List.sum_cons, List.sum_nil, va_rf_cat]; exact Nat.le_of_ble_eq_true rfl)) rfl (p_Bus_needNumber hw hG hq5) (fun v9 h9 n9 x9 e9 => fq_nr e9) ?_
    intro E99 h9 n9 x9 e9
    obtain ⟨e91, e92, e93⟩ := e9
    have e91 := (Sum.inr.inj (show Sum.inr E99 = Sum.inr E8 from e91)).symm
    subst e91
    subst e92
    subst e93
    exact JT.out rfl ⟨rfl, rfl, rfl⟩
  refine J.kk (Nat.zero_add _) (Nat.zero_add _) ?_
  refine J_callS (kc := kt q.1) (ks := 6 * kt q.1) (kc' := 0) (ks' := 0) (as := [.int p1, .int (0 : Int32), .int (255 : Int32)]) (st := []) (mf_Bus_needNumber hw) (ms_Bus_84 hw) d_Bus_poke_11 ln_Bus_needNumber (by decide) (by first | exact Nat.le_of_ble_eq_true rfl | (simp only [List.map_cons, List.map_nil, List.sum_cons, List.sum_nil, va_rf_cat]; exact Nat.le_of_ble_eq_true rfl)) rfl (p_Bus_needNumber hw hG hq5) ?_ (fun E9 h9 n9 x9 e9 => fq_nt e9)
  intro v9 h9 n9 x9 e9
  obtain ⟨e91, e92, e93⟩ := e9
  have e91 := Sum.inl.inj (show Sum.inl v9 = Sum.inl none from e91)
  subst e91
  subst e92
  subst e93
  clear x
  rename Bool => x
  show J _ _ _ _ [] _ _ _ _ _ _
  refine J_aload_n d_Bus_poke_14 rfl ?_
  have g9 : Γ this = .inr 11 := by
    apply Classical.byContradiction
    intro q9
    rw [if_neg q9] at H
    cases H
  rw [if_pos g9] at H
  refine F_getR (ci := 11) (k := 0) hG (cf_Bus hw) (fl_Bus_16 hw) (by decide) (by decide) rfl d_Bus_poke_15 g9 ?_
  refine J_iload_n d_Bus_poke_18 rfl ?_
  obtain ⟨a10, ha10, H⟩ := Option.bind_eq_some_iff.mp H
  rw [j_rf ha10]
  have g11 : Γ a10 = .inr 2 := by
    apply Classical.byContradiction
    intro q9
    rw [if_neg q9] at H
    cases H
  rw [if_pos g11] at H
  obtain ⟨q12, hq12, H⟩ := Option.bind_eq_some_iff.mp H
  refine J.kk (Nat.zero_add _) (Nat.zero_add _) ?_
  refine J_callV (kc := kt q.1) (ks := 6 * kt q.1) (kc' := 0) (ks' := 0) (a := a10) (ci := 2) (as := [.int p0]) (st := []) (mf_Memory_byteAt hw) (mv_Bus_127 hw) d_Bus_poke_19 ln_Memory_byteAt (by decide) (by first | exact Nat.le_of_ble_eq_true rfl | (simp only [List.map_cons, List.map_nil, List.sum_cons, List.sum_nil, va_rf_cat]; exact Nat.le_of_ble_eq_true rfl)) rfl ((hG _).1 _ g11 (by decide)).1 ((hG _).1 _ g11 (by decide)).2 (by unfold pic; rw [g11]; rfl) (jcl_at hw rfl) rfl (p_Memory_byteAt hw hG hq12) ?_ (fun E h' n' x' e1 => by cases e1.1)
  intro v9 h9 n9 x9 e9
  obtain ⟨e91, e92, e93⟩ := e9
  cases e91
  subst e92
  subst e93
  clear x
  rename Bool => x
  show J _ _ _ _ (_ :: _) _ _ _ _ _ _
  refine J_istore_n d_Bus_poke_22 (Nat.le_of_ble_eq_true rfl) ?_
  refine J.ls (ls' := [some (.ref this), some (.int p0), some (.int p1), some (.int q12.1), none]) rfl ?_
  refine J_iload_n d_Bus_poke_23 rfl ?_
  refine J_bipush (v := 7) d_Bus_poke_24 (by decide) ?_
  refine J_iand d_Bus_poke_26 ?_
  refine J_istore d_Bus_poke_27 (Nat.le_of_ble_eq_true rfl) ?_
  refine J.ls (ls' := [some (.ref this), some (.int p0), some (.int p1), some (.int q12.1), some (.int (p0 &&& (7 : Int32)))]) rfl ?_
  refine J_aload_n d_Bus_poke_29 rfl ?_
  refine F_getR (ci := 11) (k := 0) hG (cf_Bus hw) (fl_Bus_16 hw) (by decide) (by decide) rfl d_Bus_poke_30 g9 ?_
  refine J_iload_n d_Bus_poke_33 rfl ?_
  refine J_iload_n d_Bus_poke_34 rfl ?_
  refine J_i2l d_Bus_poke_35 ?_
  refine J_bipush (v := 8) d_Bus_poke_36 (by decide) ?_
  refine J_iload d_Bus_poke_38 rfl ?_
  refine J_imul d_Bus_poke_40 ?_
  refine J_lshl d_Bus_poke_41 ?_
  refine J_iconst (v := 1) d_Bus_poke_42 (by decide) ?_
  refine J_iload d_Bus_poke_43 rfl ?_
  refine J_ishl d_Bus_poke_45 ?_
  obtain ⟨a13, ha13, H⟩ := Option.bind_eq_some_iff.mp H
  rw [j_rf ha13]
  have g14 : Γ a13 = .inr 2 := by
    apply Classical.byContradiction
    intro q9
    rw [if_neg q9] at H
    cases H
  rw [if_pos g14] at H
  obtain ⟨q15, hq15, H⟩ := Option.bind_eq_some_iff.mp H
  refine J.kk (Nat.zero_add _) (Nat.zero_add _) ?_
  refine J_callV (kc := kt q.1) (ks := 6 * kt q.1) (kc' := 0) (ks' := 0) (a := a13) (ci := 2) (as := [.int p0, .long ((Int32.toInt64 p1) <<< (Int32.toInt64 ((8 : Int32) * (p0 &&& (7 : Int32))) &&& 63)), .int ((1 : Int32) <<< ((p0 &&& (7 : Int32)) &&& 31))]) (st := []) (mf_Memory_store hw) (mv_Bus_131 hw) d_Bus_poke_46 ln_Memory_store (by decide) (by first | exact Nat.le_of_ble_eq_true rfl | (simp only [List.map_cons, List.map_nil, List.sum_cons, List.sum_nil, va_rf_cat]; exact Nat.le_of_ble_eq_true rfl)) rfl ((hG _).1 _ g14 (by decide)).1 ((hG _).1 _ g14 (by decide)).2 (by unfold pic; rw [g14]; rfl) (jcl_at hw rfl) rfl (p_Memory_store hw hG hq15) ?_ (fun E h' n' x' e1 => by cases e1.1)
  intro v9 h9 n9 x9 e9
  obtain ⟨e91, e92, e93⟩ := e9
  cases e91
  subst e92
  subst e93
  clear x
  rename Bool => x
  show J _ _ _ _ [] _ _ _ _ _ _
  refine J_iload_n d_Bus_poke_49 rfl ?_
  have H := Option.some.inj H
  subst H
  show J _ _ _ _ _ _ _ _ 0 0 _
  exact J_iret (st := []) d_Bus_poke_50 rfl rfl ⟨rfl, rfl, rfl⟩
theorem ln_Law_poke : (parseMethodDescriptor y_Law_poke.desc).map (fun q => q.parameters.length) = some 4 := by decide +kernel
def f_Law_poke (Γ : gm_T) (φ : ph_T) (p0 : Option Nat) (p1 : Int32) (p2 : Int32) (p3 : Option Nat) : Option (Int32 × ph_T) :=
  Option.bind p0 fun a1 =>
  @ite _ (Γ a1 = .inr 11) _ (
  bC (f_Bus_poke Γ φ a1 p1 p2) (fun E6 φ5 =>
    if E6 = "java/lang/IndexOutOfBoundsException" then
      some ((1 : Int32), φ5)
 else if E6 = "java/lang/IllegalArgumentException" then
      some ((2 : Int32), φ5)
 else none) fun v4 φ5 =>
  Option.bind p3 fun a11 =>
  Option.bind (gA Γ a11 1) fun N12 =>
  Option.bind (ix (0 : Int32) N12) fun k13 =>
  some ((0 : Int32), (uL φ5 a11 k13 (Int32.toInt64 v4)))
  ) none
set_option maxRecDepth 100000 in
set_option maxHeartbeats 4000000 in
theorem p_Law_poke {w : jw_T} (hw : jok w) {Γ : gm_T} {n : Nat} (hG : gd w Γ n) {x : Bool} {φ : ph_T} {p0 : Option Nat} {p1 : Int32} {p2 : Int32} {p3 : Option Nat} {q : Int32 × ph_T} (H : f_Law_poke Γ φ p0 p1 p2 p3 = some q) : jc w M_Law_poke [va_rf p0, .int p1, .int p2, va_rf p3] (pic Γ φ) n x 1 6 (fq Γ n (.inl (some (.int q.1))) q.2) := by
  refine jc.of (by simp only [jent_r, jent_i, jent_l, jent_a, jent_0]; exact Nat.le_of_ble_eq_true rfl) ?_
  have hls : jents [va_rf p0, .int p1, .int p2, va_rf p3] (jm_nL M_Law_poke) = [some (va_rf p0), some (.int p1), some (.int p2), some (va_rf p3), none] := by simp only [jents, jent_r, jent_i, jent_l, jent_a, jent_0]; rfl
  rw [hls]
  clear hls
  unfold f_Law_poke at H
  refine J_aload_nO d_Law_poke_0 rfl ?_
  refine J_iconst (v := 0) d_Law_poke_1 (by decide) ?_
  refine J_aload_nO d_Law_poke_2 rfl ?_
  refine J_iload_n d_Law_poke_3 rfl ?_
  refine J_iload_n d_Law_poke_4 rfl ?_
  obtain ⟨a1, ha1, H⟩ := Option.bind_eq_some_iff.mp H
  rw [j_rf ha1]
  have g2 : Γ a1 = .inr 11 := by
    apply Classical.byContradiction
    intro q9
    rw [if_neg q9] at H
    cases H
  rw [if_pos g2] at H
  rcases bC_some H with ⟨E6, φ5, hq3, H⟩ | ⟨v4, φ5, hq3, H⟩
  · refine J_callV (kc := 0) (ks := 0) (kc' := 1) (ks' := 6) (a := a1) (ci := 11) (as := [.int p1, .int p2]) (st := [.int (0 : Int32), va_rf p3]) (mf_Bus_poke hw) (mv_Law_41 hw) d_Law_poke_5 ln_Bus_poke (by decide) (by first | exact Nat.le_of_ble_eq_true rfl | (simp only [List.map_cons, List.map_nil, List.sum_cons, List.sum_nil, va_rf_cat]; exact Nat.le_of_ble_eq_true rfl)) rfl ((hG _).1 _ g2 (by decide)).1 ((hG _).1 _ g2 (by decide)).2 (by unfold pic; rw [g2]; rfl) (jcl_at hw rfl) rfl (p_Bus_poke hw hG hq3) (fun v9 h9 n9 x9 e9 => fq_nr e9) ?_
    intro E99 h9 n9 x9 e9
    obtain ⟨e91, e92, e93⟩ := e9
    have e91 := (Sum.inr.inj (show Sum.inr E99 = Sum.inr E6 from e91)).symm
    subst e91
    subst e92
    subst e93
    by_cases c8 : E6 = "java/lang/IndexOutOfBoundsException"
    · subst c8
      rw [if_pos rfl] at H
      refine JT.catch (name := "java/lang/IndexOutOfBoundsException") [] [(0, 10, 17, 21)] rfl ⟨by decide, by decide⟩ (by decide) (tb3 hw (i := 79) (by decide +kernel)) (tb3 hw (i := 90) (by decide +kernel)) (fun r9 hr9 => by cases hr9) (fun r7 => ?_)
      refine J_astore d_Law_poke_13 (Nat.le_of_ble_eq_true rfl) ?_
      refine J.ls (ls' := [some (.ref a1), some (.int p1), some (.int p2), some (va_rf p3), some (.ref r7)]) (jst1_o (i := 3) (r := p3) rfl) ?_
      refine J_iconst (v := 1) d_Law_poke_15 (by decide) ?_
      have H := Option.some.inj H
      subst H
      exact J_iret (st := []) d_Law_poke_16 rfl rfl ⟨rfl, rfl, rfl⟩
    rw [if_neg c8] at H
    by_cases c10 : E6 = "java/lang/IllegalArgumentException"
    · subst c10
      rw [if_pos rfl] at H
      refine JT.catch (name := "java/lang/IllegalArgumentException") [(0, 10, 13, 13)] [] rfl ⟨by decide, by decide⟩ (by decide) (tb3 hw (i := 176) (by decide +kernel)) (tb3 hw (i := 186) (by decide +kernel)) (fun r9 hr9 => by
          simp only [List.mem_cons, List.not_mem_nil, or_false] at hr9
          rcases hr9 with rfl
          · exact ⟨by decide, "java/lang/IndexOutOfBoundsException", tb3 hw (i := 79) (by decide +kernel), jnc_mem hw (by decide)⟩) (fun r9 => ?_)
      refine J_astore d_Law_poke_17 (Nat.le_of_ble_eq_true rfl) ?_
      refine J.ls (ls' := [some (.ref a1), some (.int p1), some (.int p2), some (va_rf p3), some (.ref r9)]) (jst1_o (i := 3) (r := p3) rfl) ?_
      refine J_iconst (v := 2) d_Law_poke_19 (by decide) ?_
      have H := Option.some.inj H
      subst H
      exact J_iret (st := []) d_Law_poke_20 rfl rfl ⟨rfl, rfl, rfl⟩
    rw [if_neg c10] at H
    cases H
  refine J.more (kc := 0) (ks := 0) (Nat.zero_le _) (Nat.zero_le _) ?_
  refine J_callV (kc := 0) (ks := 0) (kc' := 0) (ks' := 0) (a := a1) (ci := 11) (as := [.int p1, .int p2]) (st := [.int (0 : Int32), va_rf p3]) (mf_Bus_poke hw) (mv_Law_41 hw) d_Law_poke_5 ln_Bus_poke (by decide) (by first | exact Nat.le_of_ble_eq_true rfl | (simp only [List.map_cons, List.map_nil, List.sum_cons, List.sum_nil, va_rf_cat]; exact Nat.le_of_ble_eq_true rfl)) rfl ((hG _).1 _ g2 (by decide)).1 ((hG _).1 _ g2 (by decide)).2 (by unfold pic; rw [g2]; rfl) (jcl_at hw rfl) rfl (p_Bus_poke hw hG hq3) ?_ (fun E9 h9 n9 x9 e9 => fq_nt e9)
  intro v9 h9 n9 x9 e9
  obtain ⟨e91, e92, e93⟩ := e9
  have e91 := Sum.inl.inj (show Sum.inl v9 = Sum.inl (some (.int v4)) from e91)
  subst e91
  subst e92
  subst e93
  clear x
  rename Bool => x
  show J _ _ _ _ (_ :: _) _ _ _ _ _ _
  refine J_i2l d_Law_poke_8 ?_
  obtain ⟨a11, ha11, H⟩ := Option.bind_eq_some_iff.mp H
  rw [j_rf ha11]
  obtain ⟨N12, hN12, H⟩ := Option.bind_eq_some_iff.mp H
  obtain ⟨k13, hk13, H⟩ := Option.bind_eq_some_iff.mp H
  refine F_last k13 hw hG d_Law_poke_9 (gA_some hN12) (ix_some hk13) ?_
  refine J_goto (tgt := 21) d_Law_poke_10 (by decide) ?_
  refine J_iconst (v := 0) d_Law_poke_21 (by decide) ?_
  have H := Option.some.inj H
  subst H
  exact J_iret (st := []) d_Law_poke_22 rfl rfl ⟨rfl, rfl, rfl⟩
theorem ln_Bus_peek : (parseMethodDescriptor y_Bus_peek.desc).map (fun q => q.parameters.length) = some 1 := by decide +kernel
def f_Bus_peek (Γ : gm_T) (φ : ph_T) (this : Nat) (p0 : Int32) : Option ((Int32 ⊕ String) × ph_T) :=
  bT (f_Bus_needIndex Γ φ p0 (65536 : Int32)) fun v2 φ3 =>
  @ite _ (Γ this = .inr 11) _ (
  Option.bind (φ3.2.2 this 0) fun a6 =>
  @ite _ (Γ a6 = .inr 2) _ (
  Option.bind (f_Memory_byteAt Γ φ3 a6 p0) fun q8 =>
  some (.inl (q8.1), q8.2)
  ) none
  ) none
set_option maxRecDepth 100000 in
set_option maxHeartbeats 4000000 in
theorem p_Bus_peek {w : jw_T} (hw : jok w) {Γ : gm_T} {n : Nat} (hG : gd w Γ n) {x : Bool} {φ : ph_T} {this : Nat} {p0 : Int32} {q : (Int32 ⊕ String) × ph_T} (H : f_Bus_peek Γ φ this p0 = some q) : jc w M_Bus_peek [.ref this, .int p0] (pic Γ φ) n x (kt q.1) (6 * kt q.1) (fq Γ n (rsI q.1) q.2) := by
  refine jc.of (by simp only [jent_r, jent_i, jent_l, jent_a, jent_0]; exact Nat.le_of_ble_eq_true rfl) ?_
  have hls : jents [.ref this, .int p0] (jm_nL M_Bus_peek) = [some (.ref this), some (.int p0)] := by simp only [jents, jent_r, jent_i, jent_l, jent_a, jent_0]; rfl
  rw [hls]
  clear hls
  unfold f_Bus_peek at H
  refine J_iload_n d_Bus_peek_0 rfl ?_
  refine J_ldc (v := 65536) d_Bus_peek_1 (kn_Bus_112 hw) ?_
  rcases bT_some H with ⟨E4, φ3, hq1, H⟩ | ⟨v2, φ3, hq1, H⟩
  · subst H
    show J _ _ _ _ _ _ _ _ (1 + 0) (6 + 0) _
    refine J_callS (kc := 0) (ks := 0) (kc' := 1) (ks' := 6) (as := [.int p0, .int (65536 : Int32)]) (st := []) (mf_Bus_needIndex hw) (ms_Bus_65 hw) d_Bus_peek_3 ln_Bus_needIndex (by decide) (by first | exact Nat.le_of_ble_eq_true rfl | (simp only [List.map_cons, List.map_nil, List.sum_cons, List.sum_nil, va_rf_cat]; exact Nat.le_of_ble_eq_true rfl)) rfl (p_Bus_needIndex hw hG hq1) (fun v9 h9 n9 x9 e9 => fq_nr e9) ?_
    intro E99 h9 n9 x9 e9
    obtain ⟨e91, e92, e93⟩ := e9
    have e91 := (Sum.inr.inj (show Sum.inr E99 = Sum.inr E4 from e91)).symm
    subst e91
    subst e92
    subst e93
    exact JT.out rfl ⟨rfl, rfl, rfl⟩
  refine J.kk (Nat.zero_add _) (Nat.zero_add _) ?_
  refine J_callS (kc := kt q.1) (ks := 6 * kt q.1) (kc' := 0) (ks' := 0) (as := [.int p0, .int (65536 : Int32)]) (st := []) (mf_Bus_needIndex hw) (ms_Bus_65 hw) d_Bus_peek_3 ln_Bus_needIndex (by decide) (by first | exact Nat.le_of_ble_eq_true rfl | (simp only [List.map_cons, List.map_nil, List.sum_cons, List.sum_nil, va_rf_cat]; exact Nat.le_of_ble_eq_true rfl)) rfl (p_Bus_needIndex hw hG hq1) ?_ (fun E9 h9 n9 x9 e9 => fq_nt e9)
  intro v9 h9 n9 x9 e9
  obtain ⟨e91, e92, e93⟩ := e9
  have e91 := Sum.inl.inj (show Sum.inl v9 = Sum.inl none from e91)
  subst e91
  subst e92
  subst e93
  clear x
  rename Bool => x
  show J _ _ _ _ [] _ _ _ _ _ _
  refine J_aload_n d_Bus_peek_6 rfl ?_
  have g5 : Γ this = .inr 11 := by
    apply Classical.byContradiction
    intro q9
    rw [if_neg q9] at H
    cases H
  rw [if_pos g5] at H
  refine F_getR (ci := 11) (k := 0) hG (cf_Bus hw) (fl_Bus_16 hw) (by decide) (by decide) rfl d_Bus_peek_7 g5 ?_
  refine J_iload_n d_Bus_peek_10 rfl ?_
  obtain ⟨a6, ha6, H⟩ := Option.bind_eq_some_iff.mp H
  rw [j_rf ha6]
  have g7 : Γ a6 = .inr 2 := by
    apply Classical.byContradiction
    intro q9
    rw [if_neg q9] at H
    cases H
  rw [if_pos g7] at H
  obtain ⟨q8, hq8, H⟩ := Option.bind_eq_some_iff.mp H
  refine J.kk (Nat.zero_add _) (Nat.zero_add _) ?_
  refine J_callV (kc := kt q.1) (ks := 6 * kt q.1) (kc' := 0) (ks' := 0) (a := a6) (ci := 2) (as := [.int p0]) (st := []) (mf_Memory_byteAt hw) (mv_Bus_127 hw) d_Bus_peek_11 ln_Memory_byteAt (by decide) (by first | exact Nat.le_of_ble_eq_true rfl | (simp only [List.map_cons, List.map_nil, List.sum_cons, List.sum_nil, va_rf_cat]; exact Nat.le_of_ble_eq_true rfl)) rfl ((hG _).1 _ g7 (by decide)).1 ((hG _).1 _ g7 (by decide)).2 (by unfold pic; rw [g7]; rfl) (jcl_at hw rfl) rfl (p_Memory_byteAt hw hG hq8) ?_ (fun E h' n' x' e1 => by cases e1.1)
  intro v9 h9 n9 x9 e9
  obtain ⟨e91, e92, e93⟩ := e9
  cases e91
  subst e92
  subst e93
  clear x
  rename Bool => x
  show J _ _ _ _ (_ :: _) _ _ _ _ _ _
  have H := Option.some.inj H
  subst H
  show J _ _ _ _ _ _ _ _ 0 0 _
  exact J_iret (st := []) d_Bus_peek_14 rfl rfl ⟨rfl, rfl, rfl⟩
theorem ln_Law_peek : (parseMethodDescriptor y_Law_peek.desc).map (fun q => q.parameters.length) = some 3 := by decide +kernel
def f_Law_peek (Γ : gm_T) (φ : ph_T) (p0 : Option Nat) (p1 : Int32) (p2 : Option Nat) : Option (Int32 × ph_T) :=
  Option.bind p0 fun a1 =>
  @ite _ (Γ a1 = .inr 11) _ (
  bC (f_Bus_peek Γ φ a1 p1) (fun E6 φ5 =>
    if E6 = "java/lang/IndexOutOfBoundsException" then
      some ((1 : Int32), φ5)
 else none) fun v4 φ5 =>
  Option.bind p2 fun a9 =>
  Option.bind (gA Γ a9 1) fun N10 =>
  Option.bind (ix (0 : Int32) N10) fun k11 =>
  some ((0 : Int32), (uL φ5 a9 k11 (Int32.toInt64 v4)))
  ) none
set_option maxRecDepth 100000 in
set_option maxHeartbeats 4000000 in
theorem p_Law_peek {w : jw_T} (hw : jok w) {Γ : gm_T} {n : Nat} (hG : gd w Γ n) {x : Bool} {φ : ph_T} {p0 : Option Nat} {p1 : Int32} {p2 : Option Nat} {q : Int32 × ph_T} (H : f_Law_peek Γ φ p0 p1 p2 = some q) : jc w M_Law_peek [va_rf p0, .int p1, va_rf p2] (pic Γ φ) n x 1 6 (fq Γ n (.inl (some (.int q.1))) q.2) := by
  refine jc.of (by simp only [jent_r, jent_i, jent_l, jent_a, jent_0]; exact Nat.le_of_ble_eq_true rfl) ?_
  have hls : jents [va_rf p0, .int p1, va_rf p2] (jm_nL M_Law_peek) = [some (va_rf p0), some (.int p1), some (va_rf p2), none] := by simp only [jents, jent_r, jent_i, jent_l, jent_a, jent_0]; rfl
  rw [hls]
  clear hls
  unfold f_Law_peek at H
  refine J_aload_nO d_Law_peek_0 rfl ?_
  refine J_iconst (v := 0) d_Law_peek_1 (by decide) ?_
  refine J_aload_nO d_Law_peek_2 rfl ?_
  refine J_iload_n d_Law_peek_3 rfl ?_
  obtain ⟨a1, ha1, H⟩ := Option.bind_eq_some_iff.mp H
  rw [j_rf ha1]
  have g2 : Γ a1 = .inr 11 := by
    apply Classical.byContradiction
    intro q9
    rw [if_neg q9] at H
    cases H
  rw [if_pos g2] at H
  rcases bC_some H with ⟨E6, φ5, hq3, H⟩ | ⟨v4, φ5, hq3, H⟩
  · refine J_callV (kc := 0) (ks := 0) (kc' := 1) (ks' := 6) (a := a1) (ci := 11) (as := [.int p1]) (st := [.int (0 : Int32), va_rf p2]) (mf_Bus_peek hw) (mv_Law_44 hw) d_Law_peek_4 ln_Bus_peek (by decide) (by first | exact Nat.le_of_ble_eq_true rfl | (simp only [List.map_cons, List.map_nil, List.sum_cons, List.sum_nil, va_rf_cat]; exact Nat.le_of_ble_eq_true rfl)) rfl ((hG _).1 _ g2 (by decide)).1 ((hG _).1 _ g2 (by decide)).2 (by unfold pic; rw [g2]; rfl) (jcl_at hw rfl) rfl (p_Bus_peek hw hG hq3) (fun v9 h9 n9 x9 e9 => fq_nr e9) ?_
    intro E99 h9 n9 x9 e9
    obtain ⟨e91, e92, e93⟩ := e9
    have e91 := (Sum.inr.inj (show Sum.inr E99 = Sum.inr E6 from e91)).symm
    subst e91
    subst e92
    subst e93
    by_cases c8 : E6 = "java/lang/IndexOutOfBoundsException"
    · subst c8
      rw [if_pos rfl] at H
      refine JT.catch (name := "java/lang/IndexOutOfBoundsException") [] [] rfl ⟨by decide, by decide⟩ (by decide) (tb3 hw (i := 79) (by decide +kernel)) (tb3 hw (i := 90) (by decide +kernel)) (fun r9 hr9 => by cases hr9) (fun r7 => ?_)
      refine J_astore_n d_Law_peek_12 (Nat.le_of_ble_eq_true rfl) ?_
      refine J.ls (ls' := [some (.ref a1), some (.int p1), some (va_rf p2), some (.ref r7)]) (jst1_o (i := 2) (r := p2) rfl) ?_
      refine J_iconst (v := 1) d_Law_peek_13 (by decide) ?_
      have H := Option.some.inj H
      subst H
      exact J_iret (st := []) d_Law_peek_14 rfl rfl ⟨rfl, rfl, rfl⟩
    rw [if_neg c8] at H
    cases H
  refine J.more (kc := 0) (ks := 0) (Nat.zero_le _) (Nat.zero_le _) ?_
  refine J_callV (kc := 0) (ks := 0) (kc' := 0) (ks' := 0) (a := a1) (ci := 11) (as := [.int p1]) (st := [.int (0 : Int32), va_rf p2]) (mf_Bus_peek hw) (mv_Law_44 hw) d_Law_peek_4 ln_Bus_peek (by decide) (by first | exact Nat.le_of_ble_eq_true rfl | (simp only [List.map_cons, List.map_nil, List.sum_cons, List.sum_nil, va_rf_cat]; exact Nat.le_of_ble_eq_true rfl)) rfl ((hG _).1 _ g2 (by decide)).1 ((hG _).1 _ g2 (by decide)).2 (by unfold pic; rw [g2]; rfl) (jcl_at hw rfl) rfl (p_Bus_peek hw hG hq3) ?_ (fun E9 h9 n9 x9 e9 => fq_nt e9)
  intro v9 h9 n9 x9 e9
  obtain ⟨e91, e92, e93⟩ := e9
  have e91 := Sum.inl.inj (show Sum.inl v9 = Sum.inl (some (.int v4)) from e91)
  subst e91
  subst e92
  subst e93
  clear x
  rename Bool => x
  show J _ _ _ _ (_ :: _) _ _ _ _ _ _
  refine J_i2l d_Law_peek_7 ?_
  obtain ⟨a9, ha9, H⟩ := Option.bind_eq_some_iff.mp H
  rw [j_rf ha9]
  obtain ⟨N10, hN10, H⟩ := Option.bind_eq_some_iff.mp H
  obtain ⟨k11, hk11, H⟩ := Option.bind_eq_some_iff.mp H
  refine F_last k11 hw hG d_Law_peek_8 (gA_some hN10) (ix_some hk11) ?_
  refine J_goto (tgt := 15) d_Law_peek_9 (by decide) ?_
  refine J_iconst (v := 0) d_Law_peek_15 (by decide) ?_
  have H := Option.some.inj H
  subst H
  exact J_iret (st := []) d_Law_peek_16 rfl rfl ⟨rfl, rfl, rfl⟩
