theorem ln_Bus_request : (parseMethodDescriptor y_Bus_request.desc).map (fun q => q.parameters.length) = some 5 := by decide +kernel
def f_Bus_request_L158 (Γ : gm_T)  (φ : ph_T) (x0 : Nat) (x1 : Int32) (x10 : Option Nat) : Option ((Int32 ⊕ String) × ph_T) :=
  @ite _ (Γ x0 = .inr 11) _ (
  Option.bind (φ.2.2 x0 2) fun a2 =>
  Option.bind (gA Γ a2 8) fun N3 =>
  Option.bind (ix x1 N3) fun k4 =>
  Option.bind (φ.2.2 a2 k4) fun a5 =>
  @ite _ (Γ a5 = .inr 7) _ (
  Option.bind (f_Master_enqueue Γ φ a5 x10) fun q7 =>
  some (.inl ((((uI q7.2 x0 8 ((q7.2.1 x0 8) + (1 : Int32))).1 x0 8) - (1 : Int32))), (uI q7.2 x0 8 ((q7.2.1 x0 8) + (1 : Int32))))
  ) none
  ) none
set_option maxRecDepth 100000 in
set_option maxHeartbeats 4000000 in
theorem p_Bus_request_L158 {w : jw_T} (hw : jok w) {Γ : gm_T} {n : Nat} (hG : gd w Γ n)  {x : Bool} {φ : ph_T} {x0 : Nat} {x1 : Int32} {x10 : Option Nat} {q : (Int32 ⊕ String) × ph_T} (H : f_Bus_request_L158 Γ  φ x0 x1 x10 = some q) : J w M_Bus_request 158 [some (.ref x0), some (.int x1), none, none, none, none, none, none, none, none, some (va_rf x10)] [] (pic Γ φ) n x (kt q.1) (6 * kt q.1) (fq Γ n (rsI q.1) q.2) := by
  unfold f_Bus_request_L158 at H
  refine J_aload_n d_Bus_request_158 rfl ?_
  have g1 : Γ x0 = .inr 11 := by
    apply Classical.byContradiction
    intro q9
    rw [if_neg q9] at H
    cases H
  rw [if_pos g1] at H
  refine F_getR (ci := 11) (k := 2) hG (cf_Bus hw) (fl_Bus_31 hw) (by decide) (by decide) rfl d_Bus_request_159 g1 ?_
  refine J_iload_n d_Bus_request_162 rfl ?_
  obtain ⟨a2, ha2, H⟩ := Option.bind_eq_some_iff.mp H
  rw [j_rf ha2]
  obtain ⟨N3, hN3, H⟩ := Option.bind_eq_some_iff.mp H
  obtain ⟨k4, hk4, H⟩ := Option.bind_eq_some_iff.mp H
  refine F_aald k4 hw hG (t := 8) rfl (by decide) d_Bus_request_163 (gA_some hN3) (ix_some hk4) ?_
  refine J_aloadO d_Bus_request_164 rfl ?_
  obtain ⟨a5, ha5, H⟩ := Option.bind_eq_some_iff.mp H
  rw [j_rf ha5]
  have g6 : Γ a5 = .inr 7 := by
    apply Classical.byContradiction
    intro q9
    rw [if_neg q9] at H
    cases H
  rw [if_pos g6] at H
  obtain ⟨q7, hq7, H⟩ := Option.bind_eq_some_iff.mp H
  refine J.kk (Nat.zero_add _) (Nat.zero_add _) ?_
  refine J_callV (kc := kt q.1) (ks := 6 * kt q.1) (kc' := 0) (ks' := 0) (a := a5) (ci := 7) (as := [va_rf x10]) (st := []) (mf_Master_enqueue hw) (mv_Bus_174 hw) d_Bus_request_166 ln_Master_enqueue (by decide) (by first | exact Nat.le_of_ble_eq_true rfl | (simp only [List.map_cons, List.map_nil, List.sum_cons, List.sum_nil, va_rf_cat]; exact Nat.le_of_ble_eq_true rfl)) rfl ((hG _).1 _ g6 (by decide)).1 ((hG _).1 _ g6 (by decide)).2 (by unfold pic; rw [g6]; rfl) (jcl_at hw rfl) rfl (p_Master_enqueue hw hG hq7) ?_ (fun E h' n' x' e1 => by cases e1.1)
  intro v9 h9 n9 x9 e9
  obtain ⟨e91, e92, e93⟩ := e9
  cases e91
  subst e92
  subst e93
  clear x
  rename Bool => x
  show J _ _ _ _ [] _ _ _ _ _ _
  refine J_aload_n d_Bus_request_169 rfl ?_
  refine J_dup d_Bus_request_170 rfl ?_
  refine F_getI (ci := 11) (k := 8) hG (cf_Bus hw) (fl_Bus_147 hw) (by decide) (by decide) rfl d_Bus_request_171 g1 ?_
  refine J_iconst (v := 1) d_Bus_request_174 (by decide) ?_
  refine J_iadd d_Bus_request_175 ?_
  refine F_putI (ci := 11) (k := 8) hG (cf_Bus hw) (fl_Bus_147 hw) (by decide) (by decide) rfl d_Bus_request_176 rfl rfl rfl g1 ?_
  refine J_aload_n d_Bus_request_179 rfl ?_
  refine F_getI (ci := 11) (k := 8) hG (cf_Bus hw) (fl_Bus_147 hw) (by decide) (by decide) rfl d_Bus_request_180 g1 ?_
  refine J_iconst (v := 1) d_Bus_request_183 (by decide) ?_
  refine J_isub d_Bus_request_184 ?_
  have H := Option.some.inj H
  subst H
  show J _ _ _ _ _ _ _ _ 0 0 _
  exact J_iret (st := []) d_Bus_request_185 rfl rfl ⟨rfl, rfl, rfl⟩
def f_Bus_request_L155 (Γ : gm_T)  (φ : ph_T) (x0 : Nat) (x1 : Int32) (x10 : Option Nat) (y0 : Int32) (y1 : Int64) (y2 : Option Nat) : Option ((Int32 ⊕ String) × ph_T) :=
  Option.bind y2 fun a8 =>
  @ite _ (Γ a8 = .inr 0) _ (
  Option.bind (f_Burst_fillWrite Γ φ a8 y1 y0) fun q10 =>
  f_Bus_request_L158 Γ  q10.2 x0 x1 x10
  ) none
set_option maxRecDepth 100000 in
set_option maxHeartbeats 4000000 in
theorem p_Bus_request_L155 {w : jw_T} (hw : jok w) {Γ : gm_T} {n : Nat} (hG : gd w Γ n)  {x : Bool} {φ : ph_T} {x0 : Nat} {x1 : Int32} {x10 : Option Nat} {y0 : Int32} {y1 : Int64} {y2 : Option Nat} {q : (Int32 ⊕ String) × ph_T} (H : f_Bus_request_L155 Γ  φ x0 x1 x10 y0 y1 y2 = some q) : J w M_Bus_request 155 [some (.ref x0), some (.int x1), none, none, none, none, none, none, none, none, some (va_rf x10)] [.int y0, .long y1, va_rf y2] (pic Γ φ) n x (kt q.1) (6 * kt q.1) (fq Γ n (rsI q.1) q.2) := by
  unfold f_Bus_request_L155 at H
  obtain ⟨a8, ha8, H⟩ := Option.bind_eq_some_iff.mp H
  rw [j_rf ha8]
  have g9 : Γ a8 = .inr 0 := by
    apply Classical.byContradiction
    intro q9
    rw [if_neg q9] at H
    cases H
  rw [if_pos g9] at H
  obtain ⟨q10, hq10, H⟩ := Option.bind_eq_some_iff.mp H
  refine J.kk (Nat.zero_add _) (Nat.zero_add _) ?_
  refine J_callV (kc := kt q.1) (ks := 6 * kt q.1) (kc' := 0) (ks' := 0) (a := a8) (ci := 0) (as := [.long y1, .int y0]) (st := []) (mf_Burst_fillWrite hw) (mv_Bus_170 hw) d_Bus_request_155 ln_Burst_fillWrite (by decide) (by first | exact Nat.le_of_ble_eq_true rfl | (simp only [List.map_cons, List.map_nil, List.sum_cons, List.sum_nil, va_rf_cat]; exact Nat.le_of_ble_eq_true rfl)) rfl ((hG _).1 _ g9 (by decide)).1 ((hG _).1 _ g9 (by decide)).2 (by unfold pic; rw [g9]; rfl) (jcl_at hw rfl) rfl (p_Burst_fillWrite hw hG hq10) ?_ (fun E h' n' x' e1 => by cases e1.1)
  intro v9 h9 n9 x9 e9
  obtain ⟨e91, e92, e93⟩ := e9
  cases e91
  subst e92
  subst e93
  clear x
  rename Bool => x
  show J _ _ _ _ [] _ _ _ _ _ _
  refine J.drop [true, true, false, false, false, false, false, false, false, false, true] rfl ?_
  exact p_Bus_request_L158 hw hG  H
def f_Bus_request_L96 (Γ : gm_T)  (φ : ph_T) : Option ((Int32 ⊕ String) × ph_T) :=
  some (.inr "java/lang/UnsupportedOperationException", φ)
set_option maxRecDepth 100000 in
set_option maxHeartbeats 4000000 in
theorem p_Bus_request_L96 {w : jw_T} (hw : jok w) {Γ : gm_T} {n : Nat} (hG : gd w Γ n)  {x : Bool} {φ : ph_T} {q : (Int32 ⊕ String) × ph_T} (H : f_Bus_request_L96 Γ  φ  = some q) : J w M_Bus_request 96 [none, none, none, none, none, none, none, none, none, none, none] [] (pic Γ φ) n x (kt q.1) (6 * kt q.1) (fq Γ n (rsI q.1) q.2) := by
  unfold f_Bus_request_L96 at H
  have H := Option.some.inj H
  subst H
  show J _ _ _ _ _ _ _ _ (0 + 1) (0 + 6) _
  exact J_throwS (kc := 0) (ks := 0) (cls := "java/lang/UnsupportedOperationException") (names := jxn) xf_UnsupportedOperationException jxn_fit (tb4 hw (i := 95) (by decide +kernel)) (tb1 hw (i := 24) (by decide +kernel)) (jsr_mem hw (text := "there is no room") (by decide)) (xa_UnsupportedOperationException hw) d_Bus_request_96 d_Bus_request_99 d_Bus_request_100 d_Bus_request_102 d_Bus_request_105 rfl rfl (by decide) (by decide) ⟨rfl, rfl, rfl⟩
def f_Bus_request_L71 (Γ : gm_T)  (φ : ph_T) (x0 : Nat) (x1 : Int32) (x2 : Int32) (x5 : Int64) (x7 : Int64) (y0 : Int32) : Option ((Int32 ⊕ String) × ph_T) :=
  @ite _ (Γ x0 = .inr 11) _ (
  if (64 : Int32) ≤ (φ.1 x0 8) then
    f_Bus_request_L96 Γ  φ 
  else
    Option.bind (φ.2.2 x0 2) fun a12 =>
    Option.bind (gA Γ a12 8) fun N13 =>
    Option.bind (ix x1 N13) fun k14 =>
    Option.bind (φ.2.2 a12 k14) fun a15 =>
    @ite _ (Γ a15 = .inr 7) _ (
    Option.bind (f_Master_hasRoom Γ φ a15 y0) fun q17 =>
    if q17.1 = 0 then
      f_Bus_request_L96 Γ  q17.2 
    else
      Option.bind (q17.2.2.2 x0 7) fun a18 =>
      Option.bind (gA Γ a18 6) fun N19 =>
      Option.bind (ix (q17.2.1 x0 8) N19) fun k20 =>
      Option.bind (q17.2.2.2 a18 k20) fun a21 =>
      @ite _ (Γ a21 = .inr 6) _ (
      Option.bind (f_Request_start Γ q17.2 a21 x7 y0 (q17.2.1 x0 9)) fun q23 =>
      if y0 = 0 then
        f_Bus_request_L158 Γ  q23.2 x0 x1 (some a21)
      else
        if (x2 &&& (1024 : Int32)) = 0 then
          f_Bus_request_L155 Γ  q23.2 x0 x1 (some a21) (0 : Int32) x5 (q23.2.2.2 a21 0)
        else
          f_Bus_request_L155 Γ  q23.2 x0 x1 (some a21) (1 : Int32) x5 (q23.2.2.2 a21 0)
      ) none
    ) none
  ) none
set_option maxRecDepth 100000 in
set_option maxHeartbeats 4000000 in
theorem p_Bus_request_L71 {w : jw_T} (hw : jok w) {Γ : gm_T} {n : Nat} (hG : gd w Γ n)  {x : Bool} {φ : ph_T} {x0 : Nat} {x1 : Int32} {x2 : Int32} {x5 : Int64} {x7 : Int64} {y0 : Int32} {q : (Int32 ⊕ String) × ph_T} (H : f_Bus_request_L71 Γ  φ x0 x1 x2 x5 x7 y0 = some q) : J w M_Bus_request 71 [some (.ref x0), some (.int x1), some (.int x2), none, none, some (.long x5), none, some (.long x7), none, none, none] [.int y0] (pic Γ φ) n x (kt q.1) (6 * kt q.1) (fq Γ n (rsI q.1) q.2) := by
  unfold f_Bus_request_L71 at H
  refine J_istore d_Bus_request_71 (Nat.le_of_ble_eq_true rfl) ?_
  refine J.ls (ls' := [some (.ref x0), some (.int x1), some (.int x2), none, none, some (.long x5), none, some (.long x7), none, some (.int y0), none]) rfl ?_
  refine J_aload_n d_Bus_request_73 rfl ?_
  have g11 : Γ x0 = .inr 11 := by
    apply Classical.byContradiction
    intro q9
    rw [if_neg q9] at H
    cases H
  rw [if_pos g11] at H
  refine F_getI (ci := 11) (k := 8) hG (cf_Bus hw) (fl_Bus_147 hw) (by decide) (by decide) rfl d_Bus_request_74 g11 ?_
  refine J_bipush (v := 64) d_Bus_request_77 (by decide) ?_
  refine J_icmp_ge (tgt := 96) d_Bus_request_79 (by decide) ?_ ?_
  · intro c27
    rw [if_pos c27] at H
    refine J.drop [false, false, false, false, false, false, false, false, false, false, false] rfl ?_
    exact p_Bus_request_L96 hw hG  H
  · intro c27
    rw [if_neg c27] at H
    refine J_aload_n d_Bus_request_82 rfl ?_
    refine F_getR (ci := 11) (k := 2) hG (cf_Bus hw) (fl_Bus_31 hw) (by decide) (by decide) rfl d_Bus_request_83 g11 ?_
    refine J_iload_n d_Bus_request_86 rfl ?_
    obtain ⟨a12, ha12, H⟩ := Option.bind_eq_some_iff.mp H
    rw [j_rf ha12]
    obtain ⟨N13, hN13, H⟩ := Option.bind_eq_some_iff.mp H
    obtain ⟨k14, hk14, H⟩ := Option.bind_eq_some_iff.mp H
    refine F_aald k14 hw hG (t := 8) rfl (by decide) d_Bus_request_87 (gA_some hN13) (ix_some hk14) ?_
    refine J_iload d_Bus_request_88 rfl ?_
    obtain ⟨a15, ha15, H⟩ := Option.bind_eq_some_iff.mp H
    rw [j_rf ha15]
    have g16 : Γ a15 = .inr 7 := by
      apply Classical.byContradiction
      intro q9
      rw [if_neg q9] at H
      cases H
    rw [if_pos g16] at H
    obtain ⟨q17, hq17, H⟩ := Option.bind_eq_some_iff.mp H
    refine J.kk (Nat.zero_add _) (Nat.zero_add _) ?_
    refine J_callV (kc := kt q.1) (ks := 6 * kt q.1) (kc' := 0) (ks' := 0) (a := a15) (ci := 7) (as := [.int y0]) (st := []) (mf_Master_hasRoom hw) (mv_Bus_150 hw) d_Bus_request_90 ln_Master_hasRoom (by decide) (by first | exact Nat.le_of_ble_eq_true rfl | (simp only [List.map_cons, List.map_nil, List.sum_cons, List.sum_nil, va_rf_cat]; exact Nat.le_of_ble_eq_true rfl)) rfl ((hG _).1 _ g16 (by decide)).1 ((hG _).1 _ g16 (by decide)).2 (by unfold pic; rw [g16]; rfl) (jcl_at hw rfl) rfl (p_Master_hasRoom hw hG hq17) ?_ (fun E h' n' x' e1 => by cases e1.1)
    intro v9 h9 n9 x9 e9
    obtain ⟨e91, e92, e93⟩ := e9
    cases e91
    subst e92
    subst e93
    clear x
    rename Bool => x
    show J _ _ _ _ (_ :: _) _ _ _ _ _ _
    refine J_if_ne (tgt := 106) d_Bus_request_93 (by decide) ?_ ?_
    · intro c26
      rw [if_neg c26] at H
      refine J_aload_n d_Bus_request_106 rfl ?_
      refine F_getR (ci := 11) (k := 7) hG (cf_Bus hw) (fl_Bus_60 hw) (by decide) (by decide) rfl d_Bus_request_107 g11 ?_
      refine J_aload_n d_Bus_request_110 rfl ?_
      refine F_getI (ci := 11) (k := 8) hG (cf_Bus hw) (fl_Bus_147 hw) (by decide) (by decide) rfl d_Bus_request_111 g11 ?_
      obtain ⟨a18, ha18, H⟩ := Option.bind_eq_some_iff.mp H
      rw [j_rf ha18]
      obtain ⟨N19, hN19, H⟩ := Option.bind_eq_some_iff.mp H
      obtain ⟨k20, hk20, H⟩ := Option.bind_eq_some_iff.mp H
      refine F_aald k20 hw hG (t := 6) rfl (by decide) d_Bus_request_114 (gA_some hN19) (ix_some hk20) ?_
      refine J_astoreO d_Bus_request_115 (Nat.le_of_ble_eq_true rfl) ?_
      refine J.ls (ls' := [some (.ref x0), some (.int x1), some (.int x2), none, none, some (.long x5), none, some (.long x7), none, some (.int y0), some (va_rf (q17.2.2.2 a18 k20))]) rfl ?_
      refine J_aloadO d_Bus_request_117 rfl ?_
      refine J_lload d_Bus_request_119 rfl ?_
      refine J_iload d_Bus_request_121 rfl ?_
      refine J_aload_n d_Bus_request_123 rfl ?_
      refine F_getI (ci := 11) (k := 9) hG (cf_Bus hw) (fl_Bus_159 hw) (by decide) (by decide) rfl d_Bus_request_124 g11 ?_
      obtain ⟨a21, ha21, H⟩ := Option.bind_eq_some_iff.mp H
      rw [j_rf ha21]
      have g22 : Γ a21 = .inr 6 := by
        apply Classical.byContradiction
        intro q9
        rw [if_neg q9] at H
        cases H
      rw [if_pos g22] at H
      obtain ⟨q23, hq23, H⟩ := Option.bind_eq_some_iff.mp H
      refine J.kk (Nat.zero_add _) (Nat.zero_add _) ?_
      refine J_callV (kc := kt q.1) (ks := 6 * kt q.1) (kc' := 0) (ks' := 0) (a := a21) (ci := 6) (as := [.long x7, .int y0, .int (q17.2.1 x0 9)]) (st := []) (mf_Request_start hw) (mv_Bus_162 hw) d_Bus_request_127 ln_Request_start (by decide) (by first | exact Nat.le_of_ble_eq_true rfl | (simp only [List.map_cons, List.map_nil, List.sum_cons, List.sum_nil, va_rf_cat]; exact Nat.le_of_ble_eq_true rfl)) rfl ((hG _).1 _ g22 (by decide)).1 ((hG _).1 _ g22 (by decide)).2 (by unfold pic; rw [g22]; rfl) (jcl_at hw rfl) rfl (p_Request_start hw hG hq23) ?_ (fun E h' n' x' e1 => by cases e1.1)
      intro v9 h9 n9 x9 e9
      obtain ⟨e91, e92, e93⟩ := e9
      cases e91
      subst e92
      subst e93
      clear x
      rename Bool => x
      show J _ _ _ _ [] _ _ _ _ _ _
      refine J_iload d_Bus_request_130 rfl ?_
      refine J_if_eq (tgt := 158) d_Bus_request_132 (by decide) ?_ ?_
      · intro c25
        rw [if_pos c25] at H
        refine J.drop [true, true, false, false, false, false, false, false, false, false, true] rfl ?_
        exact p_Bus_request_L158 hw hG  H
      · intro c25
        rw [if_neg c25] at H
        refine J_aload d_Bus_request_135 rfl ?_
        refine F_getR (ci := 6) (k := 0) hG (cf_Request hw) (fl_Bus_166 hw) (by decide) (by decide) rfl d_Bus_request_137 g22 ?_
        refine J_lload d_Bus_request_140 rfl ?_
        refine J_iload_n d_Bus_request_142 rfl ?_
        refine J_sipush (v := 1024) d_Bus_request_143 (by decide) ?_
        refine J_iand d_Bus_request_146 ?_
        refine J_if_eq (tgt := 154) d_Bus_request_147 (by decide) ?_ ?_
        · intro c24
          rw [if_pos c24] at H
          refine J_iconst (v := 0) d_Bus_request_154 (by decide) ?_
          refine J.drop [true, true, false, false, false, false, false, false, false, false, true] rfl ?_
          exact p_Bus_request_L155 hw hG  H
        · intro c24
          rw [if_neg c24] at H
          refine J_iconst (v := 1) d_Bus_request_150 (by decide) ?_
          refine J_goto (tgt := 155) d_Bus_request_151 (by decide) ?_
          refine J.drop [true, true, false, false, false, false, false, false, false, false, true] rfl ?_
          exact p_Bus_request_L155 hw hG  H
    · intro c26
      rw [if_pos c26] at H
      refine J.drop [false, false, false, false, false, false, false, false, false, false, false] rfl ?_
      exact p_Bus_request_L96 hw hG  H
def f_Bus_request (Γ : gm_T) (φ : ph_T) (this : Nat) (p0 : Int32) (p1 : Int32) (p2 : Int32) (p3 : Int32) (p4 : Int64) : Option ((Int32 ⊕ String) × ph_T) :=
  @ite _ (Γ this = .inr 11) _ (
  Option.bind (φ.2.2 this 2) fun a29 =>
  Option.bind (gA Γ a29 8) fun N30 =>
  bT (f_Bus_needIndex Γ φ p0 (nI N30)) fun v32 φ33 =>
  bT (f_Bus_needIndex Γ φ33 p2 (65536 : Int32)) fun v36 φ37 =>
  bT (f_Bus_needNumber Γ φ37 p1 (0 : Int32) (32767 : Int32)) fun v40 φ41 =>
  bT (f_Bus_needNumber Γ φ41 p3 (0 : Int32) (15 : Int32)) fun v44 φ45 =>
  Option.bind (f_Burst_contentOf Γ φ45 p1 p2 p3) fun q47 =>
  Option.bind (f_Burst_brokenRule Γ q47.2 q47.1) fun q48 =>
  if q48.1 = 0 then
    if (p1 &&& (256 : Int32)) = 0 then
      f_Bus_request_L71 Γ  q48.2 this p0 p1 p4 q47.1 (0 : Int32)
    else
      f_Bus_request_L71 Γ  q48.2 this p0 p1 p4 q47.1 (1 : Int32)
  else
    some (.inr "java/lang/IllegalArgumentException", q48.2)
  ) none
set_option maxRecDepth 100000 in
set_option maxHeartbeats 4000000 in
theorem p_Bus_request {w : jw_T} (hw : jok w) {Γ : gm_T} {n : Nat} (hG : gd w Γ n) {x : Bool} {φ : ph_T} {this : Nat} {p0 : Int32} {p1 : Int32} {p2 : Int32} {p3 : Int32} {p4 : Int64} {q : (Int32 ⊕ String) × ph_T} (H : f_Bus_request Γ φ this p0 p1 p2 p3 p4 = some q) : jc w M_Bus_request [.ref this, .int p0, .int p1, .int p2, .int p3, .long p4] (pic Γ φ) n x (kt q.1) (6 * kt q.1) (fq Γ n (rsI q.1) q.2) := by
  refine jc.of (by simp only [jent_r, jent_i, jent_l, jent_a, jent_0]; exact Nat.le_of_ble_eq_true rfl) ?_
  have hls : jents [.ref this, .int p0, .int p1, .int p2, .int p3, .long p4] (jm_nL M_Bus_request) = [some (.ref this), some (.int p0), some (.int p1), some (.int p2), some (.int p3), some (.long p4), none, none, none, none, none] := by simp only [jents, jent_r, jent_i, jent_l, jent_a, jent_0]; rfl
  rw [hls]
  clear hls
  unfold f_Bus_request at H
  refine J_iload_n d_Bus_request_0 rfl ?_
  refine J_aload_n d_Bus_request_1 rfl ?_
  have g28 : Γ this = .inr 11 := by
    apply Classical.byContradiction
    intro q9
    rw [if_neg q9] at H
    cases H
  rw [if_pos g28] at H
  refine F_getR (ci := 11) (k := 2) hG (cf_Bus hw) (fl_Bus_31 hw) (by decide) (by decide) rfl d_Bus_request_2 g28 ?_
  obtain ⟨a29, ha29, H⟩ := Option.bind_eq_some_iff.mp H
  rw [j_rf ha29]
  obtain ⟨N30, hN30, H⟩ := Option.bind_eq_some_iff.mp H
  refine F_alen hw hG (t := 8) rfl d_Bus_request_5 (gA_some hN30) ?_
  rcases bT_some H with ⟨E34, φ33, hq31, H⟩ | ⟨v32, φ33, hq31, H⟩
  · subst H
    show J _ _ _ _ _ _ _ _ (1 + 0) (6 + 0) _
    refine J_callS (kc := 0) (ks := 0) (kc' := 1) (ks' := 6) (as := [.int p0, .int (nI N30)]) (st := []) (mf_Bus_needIndex hw) (ms_Bus_65 hw) d_Bus_request_6 ln_Bus_needIndex (by decide) (by first | exact Nat.le_of_ble_eq_true rfl | (simp only [List.map_cons, List.map_nil, List.sum_cons, List.sum_nil, va_rf_cat]; exact Nat.le_of_ble_eq_true rfl)) rfl (p_Bus_needIndex hw hG hq31) (fun v9 h9 n9 x9 e9 => fq_nr e9) ?_
    intro E99 h9 n9 x9 e9
    obtain ⟨e91, e92, e93⟩ := e9
    have e91 := (Sum.inr.inj (show Sum.inr E99 = Sum.inr E34 from e91)).symm
    subst e91
    subst e92
    subst e93
    exact JT.out rfl ⟨rfl, rfl, rfl⟩
  refine J.kk (Nat.zero_add _) (Nat.zero_add _) ?_
  refine J_callS (kc := kt q.1) (ks := 6 * kt q.1) (kc' := 0) (ks' := 0) (as := [.int p0, .int (nI N30)]) (st := []) (mf_Bus_needIndex hw) (ms_Bus_65 hw) d_Bus_request_6 ln_Bus_needIndex (by decide) (by first | exact Nat.le_of_ble_eq_true rfl | (simp only [List.map_cons, List.map_nil, List.sum_cons, List.sum_nil, va_rf_cat]; exact Nat.le_of_ble_eq_true rfl)) rfl (p_Bus_needIndex hw hG hq31) ?_ (fun E9 h9 n9 x9 e9 => fq_nt e9)
  intro v9 h9 n9 x9 e9
  obtain ⟨e91, e92, e93⟩ := e9
  have e91 := Sum.inl.inj (show Sum.inl v9 = Sum.inl none from e91)
  subst e91
  subst e92
  subst e93
  clear x
  rename Bool => x
  show J _ _ _ _ [] _ _ _ _ _ _
  refine J_iload_n d_Bus_request_9 rfl ?_
  refine J_ldc (v := 65536) d_Bus_request_10 (kn_Bus_112 hw) ?_
  rcases bT_some H with ⟨E38, φ37, hq35, H⟩ | ⟨v36, φ37, hq35, H⟩
  · subst H
    show J _ _ _ _ _ _ _ _ (1 + 0) (6 + 0) _
    refine J_callS (kc := 0) (ks := 0) (kc' := 1) (ks' := 6) (as := [.int p2, .int (65536 : Int32)]) (st := []) (mf_Bus_needIndex hw) (ms_Bus_65 hw) d_Bus_request_12 ln_Bus_needIndex (by decide) (by first | exact Nat.le_of_ble_eq_true rfl | (simp only [List.map_cons, List.map_nil, List.sum_cons, List.sum_nil, va_rf_cat]; exact Nat.le_of_ble_eq_true rfl)) rfl (p_Bus_needIndex hw hG hq35) (fun v9 h9 n9 x9 e9 => fq_nr e9) ?_
    intro E99 h9 n9 x9 e9
    obtain ⟨e91, e92, e93⟩ := e9
    have e91 := (Sum.inr.inj (show Sum.inr E99 = Sum.inr E38 from e91)).symm
    subst e91
    subst e92
    subst e93
    exact JT.out rfl ⟨rfl, rfl, rfl⟩
  refine J.kk (Nat.zero_add _) (Nat.zero_add _) ?_
  refine J_callS (kc := kt q.1) (ks := 6 * kt q.1) (kc' := 0) (ks' := 0) (as := [.int p2, .int (65536 : Int32)]) (st := []) (mf_Bus_needIndex hw) (ms_Bus_65 hw) d_Bus_request_12 ln_Bus_needIndex (by decide) (by first | exact Nat.le_of_ble_eq_true rfl | (simp only [List.map_cons, List.map_nil, List.sum_cons, List.sum_nil, va_rf_cat]; exact Nat.le_of_ble_eq_true rfl)) rfl (p_Bus_needIndex hw hG hq35) ?_ (fun E9 h9 n9 x9 e9 => fq_nt e9)
  intro v9 h9 n9 x9 e9
  obtain ⟨e91, e92, e93⟩ := e9
  have e91 := Sum.inl.inj (show Sum.inl v9 = Sum.inl none from e91)
  subst e91
  subst e92
  subst e93
  clear x
  rename Bool => x
  show J _ _ _ _ [] _ _ _ _ _ _
  refine J_iload_n d_Bus_request_15 rfl ?_
  refine J_iconst (v := 0) d_Bus_request_16 (by decide) ?_
  refine J_sipush (v := 32767) d_Bus_request_17 (by decide) ?_
  rcases bT_some H with ⟨E42, φ41, hq39, H⟩ | ⟨v40, φ41, hq39, H⟩
  · subst H
    show J _ _ _ _ _ _ _ _ (1 + 0) (6 + 0) _
    refine J_callS (kc := 0) (ks := 0) (kc' := 1) (ks' := 6) (as := [.int p1, .int (0 : Int32), .int (32767 : Int32)]) (st := []) (mf_Bus_needNumber hw) (ms_Bus_84 hw) d_Bus_request_20 ln_Bus_needNumber (by decide) (by first | exact Nat.le_of_ble_eq_true rfl | (simp only [List.map_cons, List.map_nil, List.sum_cons, List.sum_nil, va_rf_cat]; exact Nat.le_of_ble_eq_true rfl)) rfl (p_Bus_needNumber hw hG hq39) (fun v9 h9 n9 x9 e9 => fq_nr e9) ?_
    intro E99 h9 n9 x9 e9
    obtain ⟨e91, e92, e93⟩ := e9
    have e91 := (Sum.inr.inj (show Sum.inr E99 = Sum.inr E42 from e91)).symm
    subst e91
    subst e92
    subst e93
    exact JT.out rfl ⟨rfl, rfl, rfl⟩
  refine J.kk (Nat.zero_add _) (Nat.zero_add _) ?_
  refine J_callS (kc := kt q.1) (ks := 6 * kt q.1) (kc' := 0) (ks' := 0) (as := [.int p1, .int (0 : Int32), .int (32767 : Int32)]) (st := []) (mf_Bus_needNumber hw) (ms_Bus_84 hw) d_Bus_request_20 ln_Bus_needNumber (by decide) (by first | exact Nat.le_of_ble_eq_true rfl | (simp only [List.map_cons, List.map_nil, List.sum_cons, List.sum_nil, va_rf_cat]; exact Nat.le_of_ble_eq_true rfl)) rfl (p_Bus_needNumber hw hG hq39) ?_ (fun E9 h9 n9 x9 e9 => fq_nt e9)
  intro v9 h9 n9 x9 e9
  obtain ⟨e91, e92, e93⟩ := e9
  have e91 := Sum.inl.inj (show Sum.inl v9 = Sum.inl none from e91)
  subst e91
  subst e92
  subst e93
  clear x
  rename Bool => x
  show J _ _ _ _ [] _ _ _ _ _ _
  refine J_iload d_Bus_request_23 rfl ?_
  refine J_iconst (v := 0) d_Bus_request_25 (by decide) ?_
  refine J_bipush (v := 15) d_Bus_request_26 (by decide) ?_
  rcases bT_some H with ⟨E46, φ45, hq43, H⟩ | ⟨v44, φ45, hq43, H⟩
  · subst H
    show J _ _ _ _ _ _ _ _ (1 + 0) (6 + 0) _
    refine J_callS (kc := 0) (ks := 0) (kc' := 1) (ks' := 6) (as := [.int p3, .int (0 : Int32), .int (15 : Int32)]) (st := []) (mf_Bus_needNumber hw) (ms_Bus_84 hw) d_Bus_request_28 ln_Bus_needNumber (by decide) (by first | exact Nat.le_of_ble_eq_true rfl | (simp only [List.map_cons, List.map_nil, List.sum_cons, List.sum_nil, va_rf_cat]; exact Nat.le_of_ble_eq_true rfl)) rfl (p_Bus_needNumber hw hG hq43) (fun v9 h9 n9 x9 e9 => fq_nr e9) ?_
    intro E99 h9 n9 x9 e9
    obtain ⟨e91, e92, e93⟩ := e9
    have e91 := (Sum.inr.inj (show Sum.inr E99 = Sum.inr E46 from e91)).symm
    subst e91
    subst e92
    subst e93
    exact JT.out rfl ⟨rfl, rfl, rfl⟩
  refine J.kk (Nat.zero_add _) (Nat.zero_add _) ?_
  refine J_callS (kc := kt q.1) (ks := 6 * kt q.1) (kc' := 0) (ks' := 0) (as := [.int p3, .int (0 : Int32), .int (15 : Int32)]) (st := []) (mf_Bus_needNumber hw) (ms_Bus_84 hw) d_Bus_request_28 ln_Bus_needNumber (by decide) (by first | exact Nat.le_of_ble_eq_true rfl | (simp only [List.map_cons, List.map_nil, List.sum_cons, List.sum_nil, va_rf_cat]; exact Nat.le_of_ble_eq_true rfl)) rfl (p_Bus_needNumber hw hG hq43) ?_ (fun E9 h9 n9 x9 e9 => fq_nt e9)
  intro v9 h9 n9 x9 e9
  obtain ⟨e91, e92, e93⟩ := e9
  have e91 := Sum.inl.inj (show Sum.inl v9 = Sum.inl none from e91)
  subst e91
  subst e92
  subst e93
  clear x
  rename Bool => x
  show J _ _ _ _ [] _ _ _ _ _ _
  refine J_iload_n d_Bus_request_31 rfl ?_
  refine J_iload_n d_Bus_request_32 rfl ?_
  refine J_iload d_Bus_request_33 rfl ?_
  obtain ⟨q47, hq47, H⟩ := Option.bind_eq_some_iff.mp H
  refine J.kk (Nat.zero_add _) (Nat.zero_add _) ?_
  refine J_callS (kc := kt q.1) (ks := 6 * kt q.1) (kc' := 0) (ks' := 0) (as := [.int p1, .int p2, .int p3]) (st := []) (mf_Burst_contentOf hw) (ms_Bus_135 hw) d_Bus_request_35 ln_Burst_contentOf (by decide) (by first | exact Nat.le_of_ble_eq_true rfl | (simp only [List.map_cons, List.map_nil, List.sum_cons, List.sum_nil, va_rf_cat]; exact Nat.le_of_ble_eq_true rfl)) rfl (p_Burst_contentOf hw hG hq47) ?_ (fun E h' n' x' e1 => by cases e1.1)
  intro v9 h9 n9 x9 e9
  obtain ⟨e91, e92, e93⟩ := e9
  cases e91
  subst e92
  subst e93
  clear x
  rename Bool => x
  show J _ _ _ _ (_ :: _) _ _ _ _ _ _
  refine J_lstore d_Bus_request_38 (Nat.le_of_ble_eq_true rfl) ?_
  refine J.ls (ls' := [some (.ref this), some (.int p0), some (.int p1), some (.int p2), some (.int p3), some (.long p4), none, some (.long q47.1), none, none, none]) rfl ?_
  refine J_lload d_Bus_request_40 rfl ?_
  obtain ⟨q48, hq48, H⟩ := Option.bind_eq_some_iff.mp H
  refine J.kk (Nat.zero_add _) (Nat.zero_add _) ?_
  refine J_callS (kc := kt q.1) (ks := 6 * kt q.1) (kc' := 0) (ks' := 0) (as := [.long q47.1]) (st := []) (mf_Burst_brokenRule hw) (ms_Bus_141 hw) d_Bus_request_42 ln_Burst_brokenRule (by decide) (by first | exact Nat.le_of_ble_eq_true rfl | (simp only [List.map_cons, List.map_nil, List.sum_cons, List.sum_nil, va_rf_cat]; exact Nat.le_of_ble_eq_true rfl)) rfl (p_Burst_brokenRule hw hG hq48) ?_ (fun E h' n' x' e1 => by cases e1.1)
  intro v9 h9 n9 x9 e9
  obtain ⟨e91, e92, e93⟩ := e9
  cases e91
  subst e92
  subst e93
  clear x
  rename Bool => x
  show J _ _ _ _ (_ :: _) _ _ _ _ _ _
  refine J_if_eq (tgt := 58) d_Bus_request_45 (by decide) ?_ ?_
  · intro c50
    rw [if_pos c50] at H
    refine J_iload_n d_Bus_request_58 rfl ?_
    refine J_sipush (v := 256) d_Bus_request_59 (by decide) ?_
    refine J_iand d_Bus_request_62 ?_
    refine J_if_eq (tgt := 70) d_Bus_request_63 (by decide) ?_ ?_
    · intro c49
      rw [if_pos c49] at H
      refine J_iconst (v := 0) d_Bus_request_70 (by decide) ?_
      refine J.drop [true, true, true, false, false, true, false, true, false, false, false] rfl ?_
      exact p_Bus_request_L71 hw hG  H
    · intro c49
      rw [if_neg c49] at H
      refine J_iconst (v := 1) d_Bus_request_66 (by decide) ?_
      refine J_goto (tgt := 71) d_Bus_request_67 (by decide) ?_
      refine J.drop [true, true, true, false, false, true, false, true, false, false, false] rfl ?_
      exact p_Bus_request_L71 hw hG  H
  · intro c50
    rw [if_neg c50] at H
    have H := Option.some.inj H
    subst H
    show J _ _ _ _ _ _ _ _ (0 + 1) (0 + 6) _
    exact J_throwS (kc := 0) (ks := 0) (cls := "java/lang/IllegalArgumentException") (names := jxn) xf_IllegalArgumentException jxn_fit (tb3 hw (i := 184) (by decide +kernel)) (tb1 hw (i := 21) (by decide +kernel)) (jsr_mem hw (text := "the burst breaks a rule") (by decide)) (xa_IllegalArgumentException hw) d_Bus_request_48 d_Bus_request_51 d_Bus_request_52 d_Bus_request_54 d_Bus_request_57 rfl rfl (by decide) (by decide) ⟨rfl, rfl, rfl⟩
theorem ln_Law_request : (parseMethodDescriptor y_Law_request.desc).map (fun q => q.parameters.length) = some 7 := by decide +kernel
def f_Law_request (Γ : gm_T) (φ : ph_T) (p0 : Option Nat) (p1 : Int32) (p2 : Int32) (p3 : Int32) (p4 : Int32) (p5 : Int64) (p6 : Option Nat) : Option (Int32 × ph_T) :=
  Option.bind p0 fun a1 =>
  @ite _ (Γ a1 = .inr 11) _ (
  bC (f_Bus_request Γ φ a1 p1 p2 p3 p4 p5) (fun E6 φ5 =>
    if E6 = "java/lang/IndexOutOfBoundsException" then
      some ((1 : Int32), φ5)
 else if E6 = "java/lang/IllegalArgumentException" then
      some ((2 : Int32), φ5)
 else if E6 = "java/lang/UnsupportedOperationException" then
      some ((3 : Int32), φ5)
 else none) fun v4 φ5 =>
  Option.bind p6 fun a13 =>
  Option.bind (gA Γ a13 1) fun N14 =>
  Option.bind (ix (0 : Int32) N14) fun k15 =>
  some ((0 : Int32), (uL φ5 a13 k15 (Int32.toInt64 v4)))
  ) none
set_option maxRecDepth 100000 in
set_option maxHeartbeats 4000000 in
theorem p_Law_request {w : jw_T} (hw : jok w) {Γ : gm_T} {n : Nat} (hG : gd w Γ n) {x : Bool} {φ : ph_T} {p0 : Option Nat} {p1 : Int32} {p2 : Int32} {p3 : Int32} {p4 : Int32} {p5 : Int64} {p6 : Option Nat} {q : Int32 × ph_T} (H : f_Law_request Γ φ p0 p1 p2 p3 p4 p5 p6 = some q) : jc w M_Law_request [va_rf p0, .int p1, .int p2, .int p3, .int p4, .long p5, va_rf p6] (pic Γ φ) n x 1 6 (fq Γ n (.inl (some (.int q.1))) q.2) := by
  refine jc.of (by simp only [jent_r, jent_i, jent_l, jent_a, jent_0]; exact Nat.le_of_ble_eq_true rfl) ?_
  have hls : jents [va_rf p0, .int p1, .int p2, .int p3, .int p4, .long p5, va_rf p6] (jm_nL M_Law_request) = [some (va_rf p0), some (.int p1), some (.int p2), some (.int p3), some (.int p4), some (.long p5), none, some (va_rf p6), none] := by simp only [jents, jent_r, jent_i, jent_l, jent_a, jent_0]; rfl
  rw [hls]
  clear hls
  unfold f_Law_request at H
  refine J_aloadO d_Law_request_0 rfl ?_
  refine J_iconst (v := 0) d_Law_request_2 (by decide) ?_
  refine J_aload_nO d_Law_request_3 rfl ?_
  refine J_iload_n d_Law_request_4 rfl ?_
  refine J_iload_n d_Law_request_5 rfl ?_
  refine J_iload_n d_Law_request_6 rfl ?_
  refine J_iload d_Law_request_7 rfl ?_
  refine J_lload d_Law_request_9 rfl ?_
  obtain ⟨a1, ha1, H⟩ := Option.bind_eq_some_iff.mp H
  rw [j_rf ha1]
  have g2 : Γ a1 = .inr 11 := by
    apply Classical.byContradiction
    intro q9
    rw [if_neg q9] at H
    cases H
  rw [if_pos g2] at H
  rcases bC_some H with ⟨E6, φ5, hq3, H⟩ | ⟨v4, φ5, hq3, H⟩
  · refine J_callV (kc := 0) (ks := 0) (kc' := 1) (ks' := 6) (a := a1) (ci := 11) (as := [.int p1, .int p2, .int p3, .int p4, .long p5]) (st := [.int (0 : Int32), va_rf p6]) (mf_Bus_request hw) (mv_Law_48 hw) d_Law_request_11 ln_Bus_request (by decide) (by first | exact Nat.le_of_ble_eq_true rfl | (simp only [List.map_cons, List.map_nil, List.sum_cons, List.sum_nil, va_rf_cat]; exact Nat.le_of_ble_eq_true rfl)) rfl ((hG _).1 _ g2 (by decide)).1 ((hG _).1 _ g2 (by decide)).2 (by unfold pic; rw [g2]; rfl) (jcl_at hw rfl) rfl (p_Bus_request hw hG hq3) (fun v9 h9 n9 x9 e9 => fq_nr e9) ?_
    intro E99 h9 n9 x9 e9
    obtain ⟨e91, e92, e93⟩ := e9
    have e91 := (Sum.inr.inj (show Sum.inr E99 = Sum.inr E6 from e91)).symm
    subst e91
    subst e92
    subst e93
    by_cases c8 : E6 = "java/lang/IndexOutOfBoundsException"
    · subst c8
      rw [if_pos rfl] at H
      refine JT.catch (name := "java/lang/IndexOutOfBoundsException") [] [(0, 16, 23, 21), (0, 16, 27, 52)] rfl ⟨by decide, by decide⟩ (by decide) (tb3 hw (i := 79) (by decide +kernel)) (tb3 hw (i := 90) (by decide +kernel)) (fun r9 hr9 => by cases hr9) (fun r7 => ?_)
      refine J_astore d_Law_request_19 (Nat.le_of_ble_eq_true rfl) ?_
      refine J.ls (ls' := [some (.ref a1), some (.int p1), some (.int p2), some (.int p3), some (.int p4), some (.long p5), none, some (va_rf p6), some (.ref r7)]) (jst1_o (i := 7) (r := p6) rfl) ?_
      refine J_iconst (v := 1) d_Law_request_21 (by decide) ?_
      have H := Option.some.inj H
      subst H
      exact J_iret (st := []) d_Law_request_22 rfl rfl ⟨rfl, rfl, rfl⟩
    rw [if_neg c8] at H
    by_cases c10 : E6 = "java/lang/IllegalArgumentException"
    · subst c10
      rw [if_pos rfl] at H
      refine JT.catch (name := "java/lang/IllegalArgumentException") [(0, 16, 19, 13)] [(0, 16, 27, 52)] rfl ⟨by decide, by decide⟩ (by decide) (tb3 hw (i := 176) (by decide +kernel)) (tb3 hw (i := 186) (by decide +kernel)) (fun r9 hr9 => by
          simp only [List.mem_cons, List.not_mem_nil, or_false] at hr9
          rcases hr9 with rfl
          · exact ⟨by decide, "java/lang/IndexOutOfBoundsException", tb3 hw (i := 79) (by decide +kernel), jnc_mem hw (by decide)⟩) (fun r9 => ?_)
      refine J_astore d_Law_request_23 (Nat.le_of_ble_eq_true rfl) ?_
      refine J.ls (ls' := [some (.ref a1), some (.int p1), some (.int p2), some (.int p3), some (.int p4), some (.long p5), none, some (va_rf p6), some (.ref r9)]) (jst1_o (i := 7) (r := p6) rfl) ?_
      refine J_iconst (v := 2) d_Law_request_25 (by decide) ?_
      have H := Option.some.inj H
      subst H
      exact J_iret (st := []) d_Law_request_26 rfl rfl ⟨rfl, rfl, rfl⟩
    rw [if_neg c10] at H
    by_cases c12 : E6 = "java/lang/UnsupportedOperationException"
    · subst c12
      rw [if_pos rfl] at H
      refine JT.catch (name := "java/lang/UnsupportedOperationException") [(0, 16, 19, 13), (0, 16, 23, 21)] [] rfl ⟨by decide, by decide⟩ (by decide) (tb4 hw (i := 47) (by decide +kernel)) (tb4 hw (i := 97) (by decide +kernel)) (fun r9 hr9 => by
          simp only [List.mem_cons, List.not_mem_nil, or_false] at hr9
          rcases hr9 with rfl | rfl
          · exact ⟨by decide, "java/lang/IndexOutOfBoundsException", tb3 hw (i := 79) (by decide +kernel), jnc_mem hw (by decide)⟩
          · exact ⟨by decide, "java/lang/IllegalArgumentException", tb3 hw (i := 176) (by decide +kernel), jnc_mem hw (by decide)⟩) (fun r11 => ?_)
      refine J_astore d_Law_request_27 (Nat.le_of_ble_eq_true rfl) ?_
      refine J.ls (ls' := [some (.ref a1), some (.int p1), some (.int p2), some (.int p3), some (.int p4), some (.long p5), none, some (va_rf p6), some (.ref r11)]) (jst1_o (i := 7) (r := p6) rfl) ?_
      refine J_iconst (v := 3) d_Law_request_29 (by decide) ?_
      have H := Option.some.inj H
      subst H
      exact J_iret (st := []) d_Law_request_30 rfl rfl ⟨rfl, rfl, rfl⟩
    rw [if_neg c12] at H
    cases H
  refine J.more (kc := 0) (ks := 0) (Nat.zero_le _) (Nat.zero_le _) ?_
  refine J_callV (kc := 0) (ks := 0) (kc' := 0) (ks' := 0) (a := a1) (ci := 11) (as := [.int p1, .int p2, .int p3, .int p4, .long p5]) (st := [.int (0 : Int32), va_rf p6]) (mf_Bus_request hw) (mv_Law_48 hw) d_Law_request_11 ln_Bus_request (by decide) (by first | exact Nat.le_of_ble_eq_true rfl | (simp only [List.map_cons, List.map_nil, List.sum_cons, List.sum_nil, va_rf_cat]; exact Nat.le_of_ble_eq_true rfl)) rfl ((hG _).1 _ g2 (by decide)).1 ((hG _).1 _ g2 (by decide)).2 (by unfold pic; rw [g2]; rfl) (jcl_at hw rfl) rfl (p_Bus_request hw hG hq3) ?_ (fun E9 h9 n9 x9 e9 => fq_nt e9)
  intro v9 h9 n9 x9 e9
  obtain ⟨e91, e92, e93⟩ := e9
  have e91 := Sum.inl.inj (show Sum.inl v9 = Sum.inl (some (.int v4)) from e91)
  subst e91
  subst e92
  subst e93
  clear x
  rename Bool => x
  show J _ _ _ _ (_ :: _) _ _ _ _ _ _
  refine J_i2l d_Law_request_14 ?_
  obtain ⟨a13, ha13, H⟩ := Option.bind_eq_some_iff.mp H
  rw [j_rf ha13]
  obtain ⟨N14, hN14, H⟩ := Option.bind_eq_some_iff.mp H
  obtain ⟨k15, hk15, H⟩ := Option.bind_eq_some_iff.mp H
  refine F_last k15 hw hG d_Law_request_15 (gA_some hN14) (ix_some hk15) ?_
  refine J_goto (tgt := 31) d_Law_request_16 (by decide) ?_
  refine J_iconst (v := 0) d_Law_request_31 (by decide) ?_
  have H := Option.some.inj H
  subst H
  exact J_iret (st := []) d_Law_request_32 rfl rfl ⟨rfl, rfl, rfl⟩
theorem ln_Bus_tick : (parseMethodDescriptor y_Bus_tick.desc).map (fun q => q.parameters.length) = some 1 := by decide +kernel
def f_Bus_tick (Γ : gm_T) (φ : ph_T) (this : Nat) (p0 : Int32) : Option ((Int32 ⊕ String) × ph_T) :=
  bT (f_Bus_needNumber Γ φ p0 (1 : Int32) (100 : Int32)) fun v2 φ3 =>
  @ite _ (Γ this = .inr 11) _ (
  Option.bind (f_Bus_runTicks Γ φ3 this p0 (0 : Int32)) fun q6 =>
  some (.inl (q6.1), q6.2)
  ) none
set_option maxRecDepth 100000 in
set_option maxHeartbeats 4000000 in
theorem p_Bus_tick {w : jw_T} (hw : jok w) {Γ : gm_T} {n : Nat} (hG : gd w Γ n) {x : Bool} {φ : ph_T} {this : Nat} {p0 : Int32} {q : (Int32 ⊕ String) × ph_T} (H : f_Bus_tick Γ φ this p0 = some q) : jc w M_Bus_tick [.ref this, .int p0] (pic Γ φ) n x (kt q.1) (6 * kt q.1) (fq Γ n (rsI q.1) q.2) := by
  refine jc.of (by simp only [jent_r, jent_i, jent_l, jent_a, jent_0]; exact Nat.le_of_ble_eq_true rfl) ?_
  have hls : jents [.ref this, .int p0] (jm_nL M_Bus_tick) = [some (.ref this), some (.int p0)] := by simp only [jents, jent_r, jent_i, jent_l, jent_a, jent_0]; rfl
  rw [hls]
  clear hls
  unfold f_Bus_tick at H
  refine J_iload_n d_Bus_tick_0 rfl ?_
  refine J_iconst (v := 1) d_Bus_tick_1 (by decide) ?_
  refine J_bipush (v := 100) d_Bus_tick_2 (by decide) ?_
  rcases bT_some H with ⟨E4, φ3, hq1, H⟩ | ⟨v2, φ3, hq1, H⟩
  · subst H
    show J _ _ _ _ _ _ _ _ (1 + 0) (6 + 0) _
    refine J_callS (kc := 0) (ks := 0) (kc' := 1) (ks' := 6) (as := [.int p0, .int (1 : Int32), .int (100 : Int32)]) (st := []) (mf_Bus_needNumber hw) (ms_Bus_84 hw) d_Bus_tick_4 ln_Bus_needNumber (by decide) (by first | exact Nat.le_of_ble_eq_true rfl | (simp only [List.map_cons, List.map_nil, List.sum_cons, List.sum_nil, va_rf_cat]; exact Nat.le_of_ble_eq_true rfl)) rfl (p_Bus_needNumber hw hG hq1) (fun v9 h9 n9 x9 e9 => fq_nr e9) ?_
    intro E99 h9 n9 x9 e9
    obtain ⟨e91, e92, e93⟩ := e9
    have e91 := (Sum.inr.inj (show Sum.inr E99 = Sum.inr E4 from e91)).symm
    subst e91
    subst e92
    subst e93
    exact JT.out rfl ⟨rfl, rfl, rfl⟩
  refine J.kk (Nat.zero_add _) (Nat.zero_add _) ?_
  refine J_callS (kc := kt q.1) (ks := 6 * kt q.1) (kc' := 0) (ks' := 0) (as := [.int p0, .int (1 : Int32), .int (100 : Int32)]) (st := []) (mf_Bus_needNumber hw) (ms_Bus_84 hw) d_Bus_tick_4 ln_Bus_needNumber (by decide) (by first | exact Nat.le_of_ble_eq_true rfl | (simp only [List.map_cons, List.map_nil, List.sum_cons, List.sum_nil, va_rf_cat]; exact Nat.le_of_ble_eq_true rfl)) rfl (p_Bus_needNumber hw hG hq1) ?_ (fun E9 h9 n9 x9 e9 => fq_nt e9)
  intro v9 h9 n9 x9 e9
  obtain ⟨e91, e92, e93⟩ := e9
  have e91 := Sum.inl.inj (show Sum.inl v9 = Sum.inl none from e91)
  subst e91
  subst e92
  subst e93
  clear x
  rename Bool => x
  show J _ _ _ _ [] _ _ _ _ _ _
  refine J_aload_n d_Bus_tick_7 rfl ?_
  refine J_iload_n d_Bus_tick_8 rfl ?_
  refine J_iconst (v := 0) d_Bus_tick_9 (by decide) ?_
  have g5 : Γ this = .inr 11 := by
    apply Classical.byContradiction
    intro q9
    rw [if_neg q9] at H
    cases H
  rw [if_pos g5] at H
  obtain ⟨q6, hq6, H⟩ := Option.bind_eq_some_iff.mp H
  refine J.kk (Nat.zero_add _) (Nat.zero_add _) ?_
  refine J_callV (kc := kt q.1) (ks := 6 * kt q.1) (kc' := 0) (ks' := 0) (a := this) (ci := 11) (as := [.int p0, .int (0 : Int32)]) (st := []) (mf_Bus_runTicks hw) (mv_Bus_178 hw) d_Bus_tick_10 ln_Bus_runTicks (by decide) (by first | exact Nat.le_of_ble_eq_true rfl | (simp only [List.map_cons, List.map_nil, List.sum_cons, List.sum_nil, va_rf_cat]; exact Nat.le_of_ble_eq_true rfl)) rfl ((hG _).1 _ g5 (by decide)).1 ((hG _).1 _ g5 (by decide)).2 (by unfold pic; rw [g5]; rfl) (jcl_at hw rfl) rfl (p_Bus_runTicks hw hG hq6) ?_ (fun E h' n' x' e1 => by cases e1.1)
  intro v9 h9 n9 x9 e9
  obtain ⟨e91, e92, e93⟩ := e9
  cases e91
  subst e92
  subst e93
  clear x
  rename Bool => x
  show J _ _ _ _ (_ :: _) _ _ _ _ _ _
  have H := Option.some.inj H
  subst H
  show J _ _ _ _ _ _ _ _ 0 0 _
  exact J_iret (st := []) d_Bus_tick_13 rfl rfl ⟨rfl, rfl, rfl⟩
theorem ln_Law_tick : (parseMethodDescriptor y_Law_tick.desc).map (fun q => q.parameters.length) = some 3 := by decide +kernel
def f_Law_tick (Γ : gm_T) (φ : ph_T) (p0 : Option Nat) (p1 : Int32) (p2 : Option Nat) : Option (Int32 × ph_T) :=
  Option.bind p0 fun a1 =>
  @ite _ (Γ a1 = .inr 11) _ (
  bC (f_Bus_tick Γ φ a1 p1) (fun E6 φ5 =>
    if E6 = "java/lang/IllegalArgumentException" then
      some ((1 : Int32), φ5)
 else none) fun v4 φ5 =>
  Option.bind p2 fun a9 =>
  Option.bind (gA Γ a9 1) fun N10 =>
  Option.bind (ix (0 : Int32) N10) fun k11 =>
  some ((0 : Int32), (uL φ5 a9 k11 (Int32.toInt64 v4)))
  ) none
set_option maxRecDepth 100000 in
set_option maxHeartbeats 4000000 in
theorem p_Law_tick {w : jw_T} (hw : jok w) {Γ : gm_T} {n : Nat} (hG : gd w Γ n) {x : Bool} {φ : ph_T} {p0 : Option Nat} {p1 : Int32} {p2 : Option Nat} {q : Int32 × ph_T} (H : f_Law_tick Γ φ p0 p1 p2 = some q) : jc w M_Law_tick [va_rf p0, .int p1, va_rf p2] (pic Γ φ) n x 1 6 (fq Γ n (.inl (some (.int q.1))) q.2) := by
  refine jc.of (by simp only [jent_r, jent_i, jent_l, jent_a, jent_0]; exact Nat.le_of_ble_eq_true rfl) ?_
  have hls : jents [va_rf p0, .int p1, va_rf p2] (jm_nL M_Law_tick) = [some (va_rf p0), some (.int p1), some (va_rf p2), none] := by simp only [jents, jent_r, jent_i, jent_l, jent_a, jent_0]; rfl
  rw [hls]
  clear hls
  unfold f_Law_tick at H
  refine J_aload_nO d_Law_tick_0 rfl ?_
  refine J_iconst (v := 0) d_Law_tick_1 (by decide) ?_
  refine J_aload_nO d_Law_tick_2 rfl ?_
  refine J_iload_n d_Law_tick_3 rfl ?_
  obtain ⟨a1, ha1, H⟩ := Option.bind_eq_some_iff.mp H
  rw [j_rf ha1]
  have g2 : Γ a1 = .inr 11 := by
    apply Classical.byContradiction
    intro q9
    rw [if_neg q9] at H
    cases H
  rw [if_pos g2] at H
  rcases bC_some H with ⟨E6, φ5, hq3, H⟩ | ⟨v4, φ5, hq3, H⟩
  · refine J_callV (kc := 0) (ks := 0) (kc' := 1) (ks' := 6) (a := a1) (ci := 11) (as := [.int p1]) (st := [.int (0 : Int32), va_rf p2]) (mf_Bus_tick hw) (mv_Law_54 hw) d_Law_tick_4 ln_Bus_tick (by decide) (by first | exact Nat.le_of_ble_eq_true rfl | (simp only [List.map_cons, List.map_nil, List.sum_cons, List.sum_nil, va_rf_cat]; exact Nat.le_of_ble_eq_true rfl)) rfl ((hG _).1 _ g2 (by decide)).1 ((hG _).1 _ g2 (by decide)).2 (by unfold pic; rw [g2]; rfl) (jcl_at hw rfl) rfl (p_Bus_tick hw hG hq3) (fun v9 h9 n9 x9 e9 => fq_nr e9) ?_
    intro E99 h9 n9 x9 e9
    obtain ⟨e91, e92, e93⟩ := e9
    have e91 := (Sum.inr.inj (show Sum.inr E99 = Sum.inr E6 from e91)).symm
    subst e91
    subst e92
    subst e93
    by_cases c8 : E6 = "java/lang/IllegalArgumentException"
    · subst c8
      rw [if_pos rfl] at H
      refine JT.catch (name := "java/lang/IllegalArgumentException") [] [] rfl ⟨by decide, by decide⟩ (by decide) (tb3 hw (i := 176) (by decide +kernel)) (tb3 hw (i := 186) (by decide +kernel)) (fun r9 hr9 => by cases hr9) (fun r7 => ?_)
      refine J_astore_n d_Law_tick_12 (Nat.le_of_ble_eq_true rfl) ?_
      refine J.ls (ls' := [some (.ref a1), some (.int p1), some (va_rf p2), some (.ref r7)]) (jst1_o (i := 2) (r := p2) rfl) ?_
      refine J_iconst (v := 1) d_Law_tick_13 (by decide) ?_
      have H := Option.some.inj H
      subst H
      exact J_iret (st := []) d_Law_tick_14 rfl rfl ⟨rfl, rfl, rfl⟩
    rw [if_neg c8] at H
    cases H
  refine J.more (kc := 0) (ks := 0) (Nat.zero_le _) (Nat.zero_le _) ?_
  refine J_callV (kc := 0) (ks := 0) (kc' := 0) (ks' := 0) (a := a1) (ci := 11) (as := [.int p1]) (st := [.int (0 : Int32), va_rf p2]) (mf_Bus_tick hw) (mv_Law_54 hw) d_Law_tick_4 ln_Bus_tick (by decide) (by first | exact Nat.le_of_ble_eq_true rfl | (simp only [List.map_cons, List.map_nil, List.sum_cons, List.sum_nil, va_rf_cat]; exact Nat.le_of_ble_eq_true rfl)) rfl ((hG _).1 _ g2 (by decide)).1 ((hG _).1 _ g2 (by decide)).2 (by unfold pic; rw [g2]; rfl) (jcl_at hw rfl) rfl (p_Bus_tick hw hG hq3) ?_ (fun E9 h9 n9 x9 e9 => fq_nt e9)
  intro v9 h9 n9 x9 e9
  obtain ⟨e91, e92, e93⟩ := e9
  have e91 := Sum.inl.inj (show Sum.inl v9 = Sum.inl (some (.int v4)) from e91)
  subst e91
  subst e92
  subst e93
  clear x
  rename Bool => x
  show J _ _ _ _ (_ :: _) _ _ _ _ _ _
  refine J_i2l d_Law_tick_7 ?_
  obtain ⟨a9, ha9, H⟩ := Option.bind_eq_some_iff.mp H
  rw [j_rf ha9]
  obtain ⟨N10, hN10, H⟩ := Option.bind_eq_some_iff.mp H
  obtain ⟨k11, hk11, H⟩ := Option.bind_eq_some_iff.mp H
  refine F_last k11 hw hG d_Law_tick_8 (gA_some hN10) (ix_some hk11) ?_
  refine J_goto (tgt := 15) d_Law_tick_9 (by decide) ?_
  refine J_iconst (v := 0) d_Law_tick_15 (by decide) ?_
  have H := Option.some.inj H
  subst H
  exact J_iret (st := []) d_Law_tick_16 rfl rfl ⟨rfl, rfl, rfl⟩
theorem ln_Bus_drain : (parseMethodDescriptor y_Bus_drain.desc).map (fun q => q.parameters.length) = some 1 := by decide +kernel
def f_Bus_drain_L37 (Γ : gm_T)  (φ : ph_T) (y0 : Int32) : Option ((Int32 ⊕ String) × ph_T) :=
  some (.inl (y0), φ)
set_option maxRecDepth 100000 in
set_option maxHeartbeats 4000000 in
theorem p_Bus_drain_L37 {w : jw_T} (hw : jok w) {Γ : gm_T} {n : Nat} (hG : gd w Γ n)  {x : Bool} {φ : ph_T} {y0 : Int32} {q : (Int32 ⊕ String) × ph_T} (H : f_Bus_drain_L37 Γ  φ y0 = some q) : J w M_Bus_drain 37 [none, none, none] [.int y0] (pic Γ φ) n x (kt q.1) (6 * kt q.1) (fq Γ n (rsI q.1) q.2) := by
  unfold f_Bus_drain_L37 at H
  have H := Option.some.inj H
  subst H
  show J _ _ _ _ _ _ _ _ 0 0 _
  exact J_iret (st := []) d_Bus_drain_37 rfl rfl ⟨rfl, rfl, rfl⟩
def f_Bus_drain (Γ : gm_T) (φ : ph_T) (this : Nat) (p0 : Int32) : Option ((Int32 ⊕ String) × ph_T) :=
  bT (f_Bus_needNumber Γ φ p0 (1 : Int32) (1000 : Int32)) fun v2 φ3 =>
  @ite _ (Γ this = .inr 11) _ (
  Option.bind (f_Bus_runTicks Γ φ3 this p0 (1 : Int32)) fun q6 =>
  Option.bind (f_Bus_openRequests Γ q6.2 this) fun q7 =>
  if q7.1 ≤ 0 then
    f_Bus_drain_L37 Γ  q7.2 ((q7.2.1 this 9) - (φ3.1 this 9))
  else
    f_Bus_drain_L37 Γ  q7.2 (-1 : Int32)
  ) none
set_option maxRecDepth 100000 in
set_option maxHeartbeats 4000000 in
theorem p_Bus_drain {w : jw_T} (hw : jok w) {Γ : gm_T} {n : Nat} (hG : gd w Γ n) {x : Bool} {φ : ph_T} {this : Nat} {p0 : Int32} {q : (Int32 ⊕ String) × ph_T} (H : f_Bus_drain Γ φ this p0 = some q) : jc w M_Bus_drain [.ref this, .int p0] (pic Γ φ) n x (kt q.1) (6 * kt q.1) (fq Γ n (rsI q.1) q.2) := by
  refine jc.of (by simp only [jent_r, jent_i, jent_l, jent_a, jent_0]; exact Nat.le_of_ble_eq_true rfl) ?_
  have hls : jents [.ref this, .int p0] (jm_nL M_Bus_drain) = [some (.ref this), some (.int p0), none] := by simp only [jents, jent_r, jent_i, jent_l, jent_a, jent_0]; rfl
  rw [hls]
  clear hls
  unfold f_Bus_drain at H
  refine J_iload_n d_Bus_drain_0 rfl ?_
  refine J_iconst (v := 1) d_Bus_drain_1 (by decide) ?_
  refine J_sipush (v := 1000) d_Bus_drain_2 (by decide) ?_
  rcases bT_some H with ⟨E4, φ3, hq1, H⟩ | ⟨v2, φ3, hq1, H⟩
  · subst H
    show J _ _ _ _ _ _ _ _ (1 + 0) (6 + 0) _
    refine J_callS (kc := 0) (ks := 0) (kc' := 1) (ks' := 6) (as := [.int p0, .int (1 : Int32), .int (1000 : Int32)]) (st := []) (mf_Bus_needNumber hw) (ms_Bus_84 hw) d_Bus_drain_5 ln_Bus_needNumber (by decide) (by first | exact Nat.le_of_ble_eq_true rfl | (simp only [List.map_cons, List.map_nil, List.sum_cons, List.sum_nil, va_rf_cat]; exact Nat.le_of_ble_eq_true rfl)) rfl (p_Bus_needNumber hw hG hq1) (fun v9 h9 n9 x9 e9 => fq_nr e9) ?_
    intro E99 h9 n9 x9 e9
    obtain ⟨e91, e92, e93⟩ := e9
    have e91 := (Sum.inr.inj (show Sum.inr E99 = Sum.inr E4 from e91)).symm
    subst e91
    subst e92
    subst e93
    exact JT.out rfl ⟨rfl, rfl, rfl⟩
  refine J.kk (Nat.zero_add _) (Nat.zero_add _) ?_
  refine J_callS (kc := kt q.1) (ks := 6 * kt q.1) (kc' := 0) (ks' := 0) (as := [.int p0, .int (1 : Int32), .int (1000 : Int32)]) (st := []) (mf_Bus_needNumber hw) (ms_Bus_84 hw) d_Bus_drain_5 ln_Bus_needNumber (by decide) (by first | exact Nat.le_of_ble_eq_true rfl | (simp only [List.map_cons, List.map_nil, List.sum_cons, List.sum_nil, va_rf_cat]; exact Nat.le_of_ble_eq_true rfl)) rfl (p_Bus_needNumber hw hG hq1) ?_ (fun E9 h9 n9 x9 e9 => fq_nt e9)
  intro v9 h9 n9 x9 e9
  obtain ⟨e91, e92, e93⟩ := e9
  have e91 := Sum.inl.inj (show Sum.inl v9 = Sum.inl none from e91)
  subst e91
  subst e92
  subst e93
  clear x
  rename Bool => x
  show J _ _ _ _ [] _ _ _ _ _ _
  refine J_aload_n d_Bus_drain_8 rfl ?_
  have g5 : Γ this = .inr 11 := by
    apply Classical.byContradiction
    intro q9
    rw [if_neg q9] at H
    cases H
  rw [if_pos g5] at H
  refine F_getI (ci := 11) (k := 9) hG (cf_Bus hw) (fl_Bus_159 hw) (by decide) (by decide) rfl d_Bus_drain_9 g5 ?_
  refine J_istore_n d_Bus_drain_12 (Nat.le_of_ble_eq_true rfl) ?_
  refine J.ls (ls' := [some (.ref this), some (.int p0), some (.int (φ3.1 this 9))]) rfl ?_
  refine J_aload_n d_Bus_drain_13 rfl ?_
  refine J_iload_n d_Bus_drain_14 rfl ?_
  refine J_iconst (v := 1) d_Bus_drain_15 (by decide) ?_
  obtain ⟨q6, hq6, H⟩ := Option.bind_eq_some_iff.mp H
  refine J.kk (Nat.zero_add _) (Nat.zero_add _) ?_
  refine J_callV (kc := kt q.1) (ks := 6 * kt q.1) (kc' := 0) (ks' := 0) (a := this) (ci := 11) (as := [.int p0, .int (1 : Int32)]) (st := []) (mf_Bus_runTicks hw) (mv_Bus_178 hw) d_Bus_drain_16 ln_Bus_runTicks (by decide) (by first | exact Nat.le_of_ble_eq_true rfl | (simp only [List.map_cons, List.map_nil, List.sum_cons, List.sum_nil, va_rf_cat]; exact Nat.le_of_ble_eq_true rfl)) rfl ((hG _).1 _ g5 (by decide)).1 ((hG _).1 _ g5 (by decide)).2 (by unfold pic; rw [g5]; rfl) (jcl_at hw rfl) rfl (p_Bus_runTicks hw hG hq6) ?_ (fun E h' n' x' e1 => by cases e1.1)
  intro v9 h9 n9 x9 e9
  obtain ⟨e91, e92, e93⟩ := e9
  cases e91
  subst e92
  subst e93
  clear x
  rename Bool => x
  show J _ _ _ _ (_ :: _) _ _ _ _ _ _
  refine J_pop d_Bus_drain_19 rfl ?_
  refine J_aload_n d_Bus_drain_20 rfl ?_
  obtain ⟨q7, hq7, H⟩ := Option.bind_eq_some_iff.mp H
  refine J.kk (Nat.zero_add _) (Nat.zero_add _) ?_
  refine J_callV (kc := kt q.1) (ks := 6 * kt q.1) (kc' := 0) (ks' := 0) (a := this) (ci := 11) (as := []) (st := []) (mf_Bus_openRequests hw) (mv_Bus_69 hw) d_Bus_drain_21 ln_Bus_openRequests (by decide) (by first | exact Nat.le_of_ble_eq_true rfl | (simp only [List.map_cons, List.map_nil, List.sum_cons, List.sum_nil, va_rf_cat]; exact Nat.le_of_ble_eq_true rfl)) rfl ((hG _).1 _ g5 (by decide)).1 ((hG _).1 _ g5 (by decide)).2 (by unfold pic; rw [g5]; rfl) (jcl_at hw rfl) rfl (p_Bus_openRequests hw hG hq7) ?_ (fun E h' n' x' e1 => by cases e1.1)
  intro v9 h9 n9 x9 e9
  obtain ⟨e91, e92, e93⟩ := e9
  cases e91
  subst e92
  subst e93
  clear x
  rename Bool => x
  show J _ _ _ _ (_ :: _) _ _ _ _ _ _
  refine J_if_le (tgt := 31) d_Bus_drain_24 (by decide) ?_ ?_
  · intro c8
    rw [if_pos c8] at H
    refine J_aload_n d_Bus_drain_31 rfl ?_
    refine F_getI (ci := 11) (k := 9) hG (cf_Bus hw) (fl_Bus_159 hw) (by decide) (by decide) rfl d_Bus_drain_32 g5 ?_
    refine J_iload_n d_Bus_drain_35 rfl ?_
    refine J_isub d_Bus_drain_36 ?_
    refine J.drop [false, false, false] rfl ?_
    exact p_Bus_drain_L37 hw hG  H
  · intro c8
    rw [if_neg c8] at H
    refine J_iconst (v := -1) d_Bus_drain_27 (by decide) ?_
    refine J_goto (tgt := 37) d_Bus_drain_28 (by decide) ?_
    refine J.drop [false, false, false] rfl ?_
    exact p_Bus_drain_L37 hw hG  H
theorem ln_Law_drain : (parseMethodDescriptor y_Law_drain.desc).map (fun q => q.parameters.length) = some 3 := by decide +kernel
def f_Law_drain (Γ : gm_T) (φ : ph_T) (p0 : Option Nat) (p1 : Int32) (p2 : Option Nat) : Option (Int32 × ph_T) :=
  Option.bind p0 fun a1 =>
  @ite _ (Γ a1 = .inr 11) _ (
  bC (f_Bus_drain Γ φ a1 p1) (fun E6 φ5 =>
    if E6 = "java/lang/IllegalArgumentException" then
      some ((1 : Int32), φ5)
 else none) fun v4 φ5 =>
  Option.bind p2 fun a9 =>
  Option.bind (gA Γ a9 1) fun N10 =>
  Option.bind (ix (0 : Int32) N10) fun k11 =>
  some ((0 : Int32), (uL φ5 a9 k11 (Int32.toInt64 v4)))
  ) none
set_option maxRecDepth 100000 in
set_option maxHeartbeats 4000000 in
theorem p_Law_drain {w : jw_T} (hw : jok w) {Γ : gm_T} {n : Nat} (hG : gd w Γ n) {x : Bool} {φ : ph_T} {p0 : Option Nat} {p1 : Int32} {p2 : Option Nat} {q : Int32 × ph_T} (H : f_Law_drain Γ φ p0 p1 p2 = some q) : jc w M_Law_drain [va_rf p0, .int p1, va_rf p2] (pic Γ φ) n x 1 6 (fq Γ n (.inl (some (.int q.1))) q.2) := by
  refine jc.of (by simp only [jent_r, jent_i, jent_l, jent_a, jent_0]; exact Nat.le_of_ble_eq_true rfl) ?_
  have hls : jents [va_rf p0, .int p1, va_rf p2] (jm_nL M_Law_drain) = [some (va_rf p0), some (.int p1), some (va_rf p2), none] := by simp only [jents, jent_r, jent_i, jent_l, jent_a, jent_0]; rfl
  rw [hls]
  clear hls
  unfold f_Law_drain at H
  refine J_aload_nO d_Law_drain_0 rfl ?_
  refine J_iconst (v := 0) d_Law_drain_1 (by decide) ?_
  refine J_aload_nO d_Law_drain_2 rfl ?_
  refine J_iload_n d_Law_drain_3 rfl ?_
  obtain ⟨a1, ha1, H⟩ := Option.bind_eq_some_iff.mp H
  rw [j_rf ha1]
  have g2 : Γ a1 = .inr 11 := by
    apply Classical.byContradiction
    intro q9
    rw [if_neg q9] at H
    cases H
  rw [if_pos g2] at H
  rcases bC_some H with ⟨E6, φ5, hq3, H⟩ | ⟨v4, φ5, hq3, H⟩
  · refine J_callV (kc := 0) (ks := 0) (kc' := 1) (ks' := 6) (a := a1) (ci := 11) (as := [.int p1]) (st := [.int (0 : Int32), va_rf p2]) (mf_Bus_drain hw) (mv_Law_57 hw) d_Law_drain_4 ln_Bus_drain (by decide) (by first | exact Nat.le_of_ble_eq_true rfl | (simp only [List.map_cons, List.map_nil, List.sum_cons, List.sum_nil, va_rf_cat]; exact Nat.le_of_ble_eq_true rfl)) rfl ((hG _).1 _ g2 (by decide)).1 ((hG _).1 _ g2 (by decide)).2 (by unfold pic; rw [g2]; rfl) (jcl_at hw rfl) rfl (p_Bus_drain hw hG hq3) (fun v9 h9 n9 x9 e9 => fq_nr e9) ?_
    intro E99 h9 n9 x9 e9
    obtain ⟨e91, e92, e93⟩ := e9
    have e91 := (Sum.inr.inj (show Sum.inr E99 = Sum.inr E6 from e91)).symm
    subst e91
    subst e92
    subst e93
    by_cases c8 : E6 = "java/lang/IllegalArgumentException"
    · subst c8
      rw [if_pos rfl] at H
      refine JT.catch (name := "java/lang/IllegalArgumentException") [] [] rfl ⟨by decide, by decide⟩ (by decide) (tb3 hw (i := 176) (by decide +kernel)) (tb3 hw (i := 186) (by decide +kernel)) (fun r9 hr9 => by cases hr9) (fun r7 => ?_)
      refine J_astore_n d_Law_drain_12 (Nat.le_of_ble_eq_true rfl) ?_
      refine J.ls (ls' := [some (.ref a1), some (.int p1), some (va_rf p2), some (.ref r7)]) (jst1_o (i := 2) (r := p2) rfl) ?_
      refine J_iconst (v := 1) d_Law_drain_13 (by decide) ?_
      have H := Option.some.inj H
      subst H
      exact J_iret (st := []) d_Law_drain_14 rfl rfl ⟨rfl, rfl, rfl⟩
    rw [if_neg c8] at H
    cases H
  refine J.more (kc := 0) (ks := 0) (Nat.zero_le _) (Nat.zero_le _) ?_
  refine J_callV (kc := 0) (ks := 0) (kc' := 0) (ks' := 0) (a := a1) (ci := 11) (as := [.int p1]) (st := [.int (0 : Int32), va_rf p2]) (mf_Bus_drain hw) (mv_Law_57 hw) d_Law_drain_4 ln_Bus_drain (by decide) (by first | exact Nat.le_of_ble_eq_true rfl | (simp only [List.map_cons, List.map_nil, List.sum_cons, List.sum_nil, va_rf_cat]; exact Nat.le_of_ble_eq_true rfl)) rfl ((hG _).1 _ g2 (by decide)).1 ((hG _).1 _ g2 (by decide)).2 (by unfold pic; rw [g2]; rfl) (jcl_at hw rfl) rfl (p_Bus_drain hw hG hq3) ?_ (fun E9 h9 n9 x9 e9 => fq_nt e9)
  intro v9 h9 n9 x9 e9
  obtain ⟨e91, e92, e93⟩ := e9
  have e91 := Sum.inl.inj (show Sum.inl v9 = Sum.inl (some (.int v4)) from e91)
  subst e91
  subst e92
  subst e93
  clear x
  rename Bool => x
  show J _ _ _ _ (_ :: _) _ _ _ _ _ _
  refine J_i2l d_Law_drain_7 ?_
  obtain ⟨a9, ha9, H⟩ := Option.bind_eq_some_iff.mp H
  rw [j_rf ha9]
  obtain ⟨N10, hN10, H⟩ := Option.bind_eq_some_iff.mp H
  obtain ⟨k11, hk11, H⟩ := Option.bind_eq_some_iff.mp H
  refine F_last k11 hw hG d_Law_drain_8 (gA_some hN10) (ix_some hk11) ?_
  refine J_goto (tgt := 15) d_Law_drain_9 (by decide) ?_
  refine J_iconst (v := 0) d_Law_drain_15 (by decide) ?_
  have H := Option.some.inj H
  subst H
  exact J_iret (st := []) d_Law_drain_16 rfl rfl ⟨rfl, rfl, rfl⟩
theorem ln_Bus_ticket : (parseMethodDescriptor y_Bus_ticket.desc).map (fun q => q.parameters.length) = some 2 := by decide +kernel
def f_Bus_ticket (Γ : gm_T) (φ : ph_T) (this : Nat) (p0 : Int32) (p1 : Int32) : Option ((Int32 ⊕ String) × ph_T) :=
  @ite _ (Γ this = .inr 11) _ (
  bT (f_Bus_needIndex Γ φ p0 (φ.1 this 8)) fun v3 φ4 =>
  bT (f_Bus_needNumber Γ φ4 p1 (0 : Int32) (6 : Int32)) fun v7 φ8 =>
  Option.bind (φ8.2.2 this 7) fun a10 =>
  Option.bind (gA Γ a10 6) fun N11 =>
  Option.bind (ix p0 N11) fun k12 =>
  if p1 = 0 then
    Option.bind (φ8.2.2 a10 k12) fun a13 =>
    @ite _ (Γ a13 = .inr 6) _ (
    Option.bind (f_Request_stage Γ φ8 a13) fun q15 =>
    some (.inl (q15.1), q15.2)
    ) none
  else
    if p1 = 1 then
      Option.bind (φ8.2.2 a10 k12) fun a16 =>
      @ite _ (Γ a16 = .inr 6) _ (
      some (.inl ((φ8.1 a16 5)), φ8)
      ) none
    else
      if p1 = 2 then
        Option.bind (φ8.2.2 a10 k12) fun a18 =>
        @ite _ (Γ a18 = .inr 6) _ (
        some (.inl ((φ8.1 a18 2)), φ8)
        ) none
      else
        if p1 = 3 then
          Option.bind (φ8.2.2 a10 k12) fun a20 =>
          @ite _ (Γ a20 = .inr 6) _ (
          some (.inl ((φ8.1 a20 3)), φ8)
          ) none
        else
          if p1 = 4 then
            Option.bind (φ8.2.2 a10 k12) fun a22 =>
            @ite _ (Γ a22 = .inr 6) _ (
            some (.inl ((φ8.1 a22 4)), φ8)
            ) none
          else
            if p1 = 5 then
              Option.bind (φ8.2.2 a10 k12) fun a24 =>
              @ite _ (Γ a24 = .inr 6) _ (
              Option.bind (φ8.2.2 a24 0) fun a26 =>
              @ite _ (Γ a26 = .inr 0) _ (
              some (.inl ((φ8.1 a26 3)), φ8)
              ) none
              ) none
            else
              Option.bind (φ8.2.2 a10 k12) fun a28 =>
              @ite _ (Γ a28 = .inr 6) _ (
              Option.bind (φ8.2.2 a28 0) fun a30 =>
              @ite _ (Γ a30 = .inr 0) _ (
              Option.bind (φ8.2.2 this 1) fun a32 =>
              @ite _ (Γ a32 = .inr 10) _ (
              Option.bind (f_Switch_targetOf Γ φ8 a32 (φ8.2.1 a30 0)) fun q34 =>
              some (.inl (q34.1), q34.2)
              ) none
              ) none
              ) none
  ) none
set_option maxRecDepth 100000 in
set_option maxHeartbeats 4000000 in
theorem p_Bus_ticket {w : jw_T} (hw : jok w) {Γ : gm_T} {n : Nat} (hG : gd w Γ n) {x : Bool} {φ : ph_T} {this : Nat} {p0 : Int32} {p1 : Int32} {q : (Int32 ⊕ String) × ph_T} (H : f_Bus_ticket Γ φ this p0 p1 = some q) : jc w M_Bus_ticket [.ref this, .int p0, .int p1] (pic Γ φ) n x (kt q.1) (6 * kt q.1) (fq Γ n (rsI q.1) q.2) := by
  refine jc.of (by simp only [jent_r, jent_i, jent_l, jent_a, jent_0]; exact Nat.le_of_ble_eq_true rfl) ?_
  have hls : jents [.ref this, .int p0, .int p1] (jm_nL M_Bus_ticket) = [some (.ref this), some (.int p0), some (.int p1), none] := by simp only [jents, jent_r, jent_i, jent_l, jent_a, jent_0]; rfl
  rw [hls]
  clear hls
  unfold f_Bus_ticket at H
  refine J_iload_n d_Bus_ticket_0 rfl ?_
  refine J_aload_n d_Bus_ticket_1 rfl ?_
  have g1 : Γ this = .inr 11 := by
    apply Classical.byContradiction
    intro q9
    rw [if_neg q9] at H
    cases H
  rw [if_pos g1] at H
  refine F_getI (ci := 11) (k := 8) hG (cf_Bus hw) (fl_Bus_147 hw) (by decide) (by decide) rfl d_Bus_ticket_2 g1 ?_
  rcases bT_some H with ⟨E5, φ4, hq2, H⟩ | ⟨v3, φ4, hq2, H⟩
  · subst H
    show J _ _ _ _ _ _ _ _ (1 + 0) (6 + 0) _
    refine J_callS (kc := 0) (ks := 0) (kc' := 1) (ks' := 6) (as := [.int p0, .int (φ.1 this 8)]) (st := []) (mf_Bus_needIndex hw) (ms_Bus_65 hw) d_Bus_ticket_5 ln_Bus_needIndex (by decide) (by first | exact Nat.le_of_ble_eq_true rfl | (simp only [List.map_cons, List.map_nil, List.sum_cons, List.sum_nil, va_rf_cat]; exact Nat.le_of_ble_eq_true rfl)) rfl (p_Bus_needIndex hw hG hq2) (fun v9 h9 n9 x9 e9 => fq_nr e9) ?_
    intro E99 h9 n9 x9 e9
    obtain ⟨e91, e92, e93⟩ := e9
    have e91 := (Sum.inr.inj (show Sum.inr E99 = Sum.inr E5 from e91)).symm
    subst e91
    subst e92
    subst e93
    exact JT.out rfl ⟨rfl, rfl, rfl⟩
  refine J.kk (Nat.zero_add _) (Nat.zero_add _) ?_
  refine J_callS (kc := kt q.1) (ks := 6 * kt q.1) (kc' := 0) (ks' := 0) (as := [.int p0, .int (φ.1 this 8)]) (st := []) (mf_Bus_needIndex hw) (ms_Bus_65 hw) d_Bus_ticket_5 ln_Bus_needIndex (by decide) (by first | exact Nat.le_of_ble_eq_true rfl | (simp only [List.map_cons, List.map_nil, List.sum_cons, List.sum_nil, va_rf_cat]; exact Nat.le_of_ble_eq_true rfl)) rfl (p_Bus_needIndex hw hG hq2) ?_ (fun E9 h9 n9 x9 e9 => fq_nt e9)
  intro v9 h9 n9 x9 e9
  obtain ⟨e91, e92, e93⟩ := e9
  have e91 := Sum.inl.inj (show Sum.inl v9 = Sum.inl none from e91)
  subst e91
  subst e92
  subst e93
  clear x
  rename Bool => x
  show J _ _ _ _ [] _ _ _ _ _ _
  refine J_iload_n d_Bus_ticket_8 rfl ?_
  refine J_iconst (v := 0) d_Bus_ticket_9 (by decide) ?_
  refine J_bipush (v := 6) d_Bus_ticket_10 (by decide) ?_
  rcases bT_some H with ⟨E9, φ8, hq6, H⟩ | ⟨v7, φ8, hq6, H⟩
  · subst H
    show J _ _ _ _ _ _ _ _ (1 + 0) (6 + 0) _
    refine J_callS (kc := 0) (ks := 0) (kc' := 1) (ks' := 6) (as := [.int p1, .int (0 : Int32), .int (6 : Int32)]) (st := []) (mf_Bus_needNumber hw) (ms_Bus_84 hw) d_Bus_ticket_12 ln_Bus_needNumber (by decide) (by first | exact Nat.le_of_ble_eq_true rfl | (simp only [List.map_cons, List.map_nil, List.sum_cons, List.sum_nil, va_rf_cat]; exact Nat.le_of_ble_eq_true rfl)) rfl (p_Bus_needNumber hw hG hq6) (fun v9 h9 n9 x9 e9 => fq_nr e9) ?_
    intro E99 h9 n9 x9 e9
    obtain ⟨e91, e92, e93⟩ := e9
    have e91 := (Sum.inr.inj (show Sum.inr E99 = Sum.inr E9 from e91)).symm
    subst e91
    subst e92
    subst e93
    exact JT.out rfl ⟨rfl, rfl, rfl⟩
  refine J.kk (Nat.zero_add _) (Nat.zero_add _) ?_
  refine J_callS (kc := kt q.1) (ks := 6 * kt q.1) (kc' := 0) (ks' := 0) (as := [.int p1, .int (0 : Int32), .int (6 : Int32)]) (st := []) (mf_Bus_needNumber hw) (ms_Bus_84 hw) d_Bus_ticket_12 ln_Bus_needNumber (by decide) (by first | exact Nat.le_of_ble_eq_true rfl | (simp only [List.map_cons, List.map_nil, List.sum_cons, List.sum_nil, va_rf_cat]; exact Nat.le_of_ble_eq_true rfl)) rfl (p_Bus_needNumber hw hG hq6) ?_ (fun E9 h9 n9 x9 e9 => fq_nt e9)
  intro v9 h9 n9 x9 e9
  obtain ⟨e91, e92, e93⟩ := e9
  have e91 := Sum.inl.inj (show Sum.inl v9 = Sum.inl none from e91)
  subst e91
  subst e92
  subst e93
  clear x
  rename Bool => x
  show J _ _ _ _ [] _ _ _ _ _ _
  refine J_aload_n d_Bus_ticket_15 rfl ?_
  refine F_getR (ci := 11) (k := 7) hG (cf_Bus hw) (fl_Bus_60 hw) (by decide) (by decide) rfl d_Bus_ticket_16 g1 ?_
  refine J_iload_n d_Bus_ticket_19 rfl ?_
  obtain ⟨a10, ha10, H⟩ := Option.bind_eq_some_iff.mp H
  rw [j_rf ha10]
  obtain ⟨N11, hN11, H⟩ := Option.bind_eq_some_iff.mp H
  obtain ⟨k12, hk12, H⟩ := Option.bind_eq_some_iff.mp H
  refine F_aald k12 hw hG (t := 6) rfl (by decide) d_Bus_ticket_20 (gA_some hN11) (ix_some hk12) ?_
  refine J_astore_nO d_Bus_ticket_21 (Nat.le_of_ble_eq_true rfl) ?_
  refine J.ls (ls' := [some (.ref this), some (.int p0), some (.int p1), some (va_rf (φ8.2.2 a10 k12))]) rfl ?_
  refine J_iload_n d_Bus_ticket_22 rfl ?_
  by_cases c35 : p1 = 0
  · rw [if_pos c35] at H
    refine J_table (off := 37) (tgt := 60) d_Bus_ticket_23 (by rw [c35]; decide) (by decide) ?_
    refine J_aload_nO d_Bus_ticket_60 rfl ?_
    obtain ⟨a13, ha13, H⟩ := Option.bind_eq_some_iff.mp H
    rw [j_rf ha13]
    have g14 : Γ a13 = .inr 6 := by
      apply Classical.byContradiction
      intro q9
      rw [if_neg q9] at H
      cases H
    rw [if_pos g14] at H
    obtain ⟨q15, hq15, H⟩ := Option.bind_eq_some_iff.mp H
    refine J.kk (Nat.zero_add _) (Nat.zero_add _) ?_
    refine J_callV (kc := kt q.1) (ks := 6 * kt q.1) (kc' := 0) (ks' := 0) (a := a13) (ci := 6) (as := []) (st := []) (mf_Request_stage hw) (mv_Bus_182 hw) d_Bus_ticket_61 ln_Request_stage (by decide) (by first | exact Nat.le_of_ble_eq_true rfl | (simp only [List.map_cons, List.map_nil, List.sum_cons, List.sum_nil, va_rf_cat]; exact Nat.le_of_ble_eq_true rfl)) rfl ((hG _).1 _ g14 (by decide)).1 ((hG _).1 _ g14 (by decide)).2 (by unfold pic; rw [g14]; rfl) (jcl_at hw rfl) rfl (p_Request_stage hw hG hq15) ?_ (fun E h' n' x' e1 => by cases e1.1)
    intro v9 h9 n9 x9 e9
    obtain ⟨e91, e92, e93⟩ := e9
    cases e91
    subst e92
    subst e93
    clear x
    rename Bool => x
    show J _ _ _ _ (_ :: _) _ _ _ _ _ _
    have H := Option.some.inj H
    subst H
    show J _ _ _ _ _ _ _ _ 0 0 _
    exact J_iret (st := []) d_Bus_ticket_64 rfl rfl ⟨rfl, rfl, rfl⟩
  · rw [if_neg c35] at H
    by_cases c36 : p1 = 1
    · rw [if_pos c36] at H
      refine J_table (off := 42) (tgt := 65) d_Bus_ticket_23 (by rw [c36]; decide) (by decide) ?_
      refine J_aload_nO d_Bus_ticket_65 rfl ?_
      obtain ⟨a16, ha16, H⟩ := Option.bind_eq_some_iff.mp H
      rw [j_rf ha16]
      have g17 : Γ a16 = .inr 6 := by
        apply Classical.byContradiction
        intro q9
        rw [if_neg q9] at H
        cases H
      rw [if_pos g17] at H
      refine F_getI (ci := 6) (k := 5) hG (cf_Request hw) (fl_Bus_185 hw) (by decide) (by decide) rfl d_Bus_ticket_66 g17 ?_
      have H := Option.some.inj H
      subst H
      show J _ _ _ _ _ _ _ _ 0 0 _
      exact J_iret (st := []) d_Bus_ticket_69 rfl rfl ⟨rfl, rfl, rfl⟩
    · rw [if_neg c36] at H
      by_cases c37 : p1 = 2
      · rw [if_pos c37] at H
        refine J_table (off := 47) (tgt := 70) d_Bus_ticket_23 (by rw [c37]; decide) (by decide) ?_
        refine J_aload_nO d_Bus_ticket_70 rfl ?_
        obtain ⟨a18, ha18, H⟩ := Option.bind_eq_some_iff.mp H
        rw [j_rf ha18]
        have g19 : Γ a18 = .inr 6 := by
          apply Classical.byContradiction
          intro q9
          rw [if_neg q9] at H
          cases H
        rw [if_pos g19] at H
        refine F_getI (ci := 6) (k := 2) hG (cf_Request hw) (fl_Bus_188 hw) (by decide) (by decide) rfl d_Bus_ticket_71 g19 ?_
        have H := Option.some.inj H
        subst H
        show J _ _ _ _ _ _ _ _ 0 0 _
        exact J_iret (st := []) d_Bus_ticket_74 rfl rfl ⟨rfl, rfl, rfl⟩
      · rw [if_neg c37] at H
        by_cases c38 : p1 = 3
        · rw [if_pos c38] at H
          refine J_table (off := 52) (tgt := 75) d_Bus_ticket_23 (by rw [c38]; decide) (by decide) ?_
          refine J_aload_nO d_Bus_ticket_75 rfl ?_
          obtain ⟨a20, ha20, H⟩ := Option.bind_eq_some_iff.mp H
          rw [j_rf ha20]
          have g21 : Γ a20 = .inr 6 := by
            apply Classical.byContradiction
            intro q9
            rw [if_neg q9] at H
            cases H
          rw [if_pos g21] at H
          refine F_getI (ci := 6) (k := 3) hG (cf_Request hw) (fl_Bus_191 hw) (by decide) (by decide) rfl d_Bus_ticket_76 g21 ?_
          have H := Option.some.inj H
          subst H
          show J _ _ _ _ _ _ _ _ 0 0 _
          exact J_iret (st := []) d_Bus_ticket_79 rfl rfl ⟨rfl, rfl, rfl⟩
        · rw [if_neg c38] at H
          by_cases c39 : p1 = 4
          · rw [if_pos c39] at H
            refine J_table (off := 57) (tgt := 80) d_Bus_ticket_23 (by rw [c39]; decide) (by decide) ?_
            refine J_aload_nO d_Bus_ticket_80 rfl ?_
            obtain ⟨a22, ha22, H⟩ := Option.bind_eq_some_iff.mp H
            rw [j_rf ha22]
            have g23 : Γ a22 = .inr 6 := by
              apply Classical.byContradiction
              intro q9
              rw [if_neg q9] at H
              cases H
            rw [if_pos g23] at H
            refine F_getI (ci := 6) (k := 4) hG (cf_Request hw) (fl_Bus_194 hw) (by decide) (by decide) rfl d_Bus_ticket_81 g23 ?_
            have H := Option.some.inj H
            subst H
            show J _ _ _ _ _ _ _ _ 0 0 _
            exact J_iret (st := []) d_Bus_ticket_84 rfl rfl ⟨rfl, rfl, rfl⟩
          · rw [if_neg c39] at H
            by_cases c40 : p1 = 5
            · rw [if_pos c40] at H
              refine J_table (off := 62) (tgt := 85) d_Bus_ticket_23 (by rw [c40]; decide) (by decide) ?_
              refine J_aload_nO d_Bus_ticket_85 rfl ?_
              obtain ⟨a24, ha24, H⟩ := Option.bind_eq_some_iff.mp H
              rw [j_rf ha24]
              have g25 : Γ a24 = .inr 6 := by
                apply Classical.byContradiction
                intro q9
                rw [if_neg q9] at H
                cases H
              rw [if_pos g25] at H
              refine F_getR (ci := 6) (k := 0) hG (cf_Request hw) (fl_Bus_166 hw) (by decide) (by decide) rfl d_Bus_ticket_86 g25 ?_
              obtain ⟨a26, ha26, H⟩ := Option.bind_eq_some_iff.mp H
              rw [j_rf ha26]
              have g27 : Γ a26 = .inr 0 := by
                apply Classical.byContradiction
                intro q9
                rw [if_neg q9] at H
                cases H
              rw [if_pos g27] at H
              refine F_getI (ci := 0) (k := 3) hG (cf_Burst hw) (fl_Bus_197 hw) (by decide) (by decide) rfl d_Bus_ticket_89 g27 ?_
              have H := Option.some.inj H
              subst H
              show J _ _ _ _ _ _ _ _ 0 0 _
              exact J_iret (st := []) d_Bus_ticket_92 rfl rfl ⟨rfl, rfl, rfl⟩
            · rw [if_neg c40] at H
              refine J_table (off := 70) (tgt := 93) d_Bus_ticket_23 (by
                  rw [if_pos (by
                    apply Classical.byContradiction
                    intro h9
                    have h8 : (p1).toInt = 0 ∨ (p1).toInt = 1 ∨ (p1).toInt = 2 ∨ (p1).toInt = 3 ∨ (p1).toInt = 4 ∨ (p1).toInt = 5 := by omega
                    rcases h8 with h8 | h8 | h8 | h8 | h8 | h8
                    · exact c35 (j_inj (by rw [h8]; decide))
                    · exact c36 (j_inj (by rw [h8]; decide))
                    · exact c37 (j_inj (by rw [h8]; decide))
                    · exact c38 (j_inj (by rw [h8]; decide))
                    · exact c39 (j_inj (by rw [h8]; decide))
                    · exact c40 (j_inj (by rw [h8]; decide)))]) (by decide) ?_
              refine J_aload_n d_Bus_ticket_93 rfl ?_
              refine F_getR (ci := 11) (k := 1) hG (cf_Bus hw) (fl_Bus_25 hw) (by decide) (by decide) rfl d_Bus_ticket_94 g1 ?_
              refine J_aload_nO d_Bus_ticket_97 rfl ?_
              obtain ⟨a28, ha28, H⟩ := Option.bind_eq_some_iff.mp H
              rw [j_rf ha28]
              have g29 : Γ a28 = .inr 6 := by
                apply Classical.byContradiction
                intro q9
                rw [if_neg q9] at H
                cases H
              rw [if_pos g29] at H
              refine F_getR (ci := 6) (k := 0) hG (cf_Request hw) (fl_Bus_166 hw) (by decide) (by decide) rfl d_Bus_ticket_98 g29 ?_
              obtain ⟨a30, ha30, H⟩ := Option.bind_eq_some_iff.mp H
              rw [j_rf ha30]
              have g31 : Γ a30 = .inr 0 := by
                apply Classical.byContradiction
                intro q9
                rw [if_neg q9] at H
                cases H
              rw [if_pos g31] at H
              refine F_getL (ci := 0) (k := 0) hG (cf_Burst hw) (fl_Bus_200 hw) (by decide) (by decide) rfl d_Bus_ticket_101 g31 ?_
              obtain ⟨a32, ha32, H⟩ := Option.bind_eq_some_iff.mp H
              rw [j_rf ha32]
              have g33 : Γ a32 = .inr 10 := by
                apply Classical.byContradiction
                intro q9
                rw [if_neg q9] at H
                cases H
              rw [if_pos g33] at H
              obtain ⟨q34, hq34, H⟩ := Option.bind_eq_some_iff.mp H
              refine J.kk (Nat.zero_add _) (Nat.zero_add _) ?_
              refine J_callV (kc := kt q.1) (ks := 6 * kt q.1) (kc' := 0) (ks' := 0) (a := a32) (ci := 10) (as := [.long (φ8.2.1 a30 0)]) (st := []) (mf_Switch_targetOf hw) (mv_Bus_204 hw) d_Bus_ticket_104 ln_Switch_targetOf (by decide) (by first | exact Nat.le_of_ble_eq_true rfl | (simp only [List.map_cons, List.map_nil, List.sum_cons, List.sum_nil, va_rf_cat]; exact Nat.le_of_ble_eq_true rfl)) rfl ((hG _).1 _ g33 (by decide)).1 ((hG _).1 _ g33 (by decide)).2 (by unfold pic; rw [g33]; rfl) (jcl_at hw rfl) rfl (p_Switch_targetOf hw hG hq34) ?_ (fun E h' n' x' e1 => by cases e1.1)
              intro v9 h9 n9 x9 e9
              obtain ⟨e91, e92, e93⟩ := e9
              cases e91
              subst e92
              subst e93
              clear x
              rename Bool => x
              show J _ _ _ _ (_ :: _) _ _ _ _ _ _
              have H := Option.some.inj H
              subst H
              show J _ _ _ _ _ _ _ _ 0 0 _
              exact J_iret (st := []) d_Bus_ticket_107 rfl rfl ⟨rfl, rfl, rfl⟩
theorem ln_Law_ticket : (parseMethodDescriptor y_Law_ticket.desc).map (fun q => q.parameters.length) = some 4 := by decide +kernel
def f_Law_ticket (Γ : gm_T) (φ : ph_T) (p0 : Option Nat) (p1 : Int32) (p2 : Int32) (p3 : Option Nat) : Option (Int32 × ph_T) :=
  Option.bind p0 fun a1 =>
  @ite _ (Γ a1 = .inr 11) _ (
  bC (f_Bus_ticket Γ φ a1 p1 p2) (fun E6 φ5 =>
    if E6 = "java/lang/IndexOutOfBoundsException" then
      some ((1 : Int32), φ5)
 else if E6 = "java/lang/IllegalArgumentException" then
      some ((2 : Int32), φ5)
 else none) fun v4 φ5 =>
  Option.bind p3 fun a11 =>
  Option.bind (gA Γ a11 1) fun N12 =>
  Option.bind (ix (0 : Int32) N12) fun k13 =>
  some ((0 : Int32), (uL φ5 a11 k13 (Int32.toInt64 v4)))
  ) none
set_option maxRecDepth 100000 in
set_option maxHeartbeats 4000000 in
theorem p_Law_ticket {w : jw_T} (hw : jok w) {Γ : gm_T} {n : Nat} (hG : gd w Γ n) {x : Bool} {φ : ph_T} {p0 : Option Nat} {p1 : Int32} {p2 : Int32} {p3 : Option Nat} {q : Int32 × ph_T} (H : f_Law_ticket Γ φ p0 p1 p2 p3 = some q) : jc w M_Law_ticket [va_rf p0, .int p1, .int p2, va_rf p3] (pic Γ φ) n x 1 6 (fq Γ n (.inl (some (.int q.1))) q.2) := by
  refine jc.of (by simp only [jent_r, jent_i, jent_l, jent_a, jent_0]; exact Nat.le_of_ble_eq_true rfl) ?_
  have hls : jents [va_rf p0, .int p1, .int p2, va_rf p3] (jm_nL M_Law_ticket) = [some (va_rf p0), some (.int p1), some (.int p2), some (va_rf p3), none] := by simp only [jents, jent_r, jent_i, jent_l, jent_a, jent_0]; rfl
  rw [hls]
  clear hls
  unfold f_Law_ticket at H
  refine J_aload_nO d_Law_ticket_0 rfl ?_
  refine J_iconst (v := 0) d_Law_ticket_1 (by decide) ?_
  refine J_aload_nO d_Law_ticket_2 rfl ?_
  refine J_iload_n d_Law_ticket_3 rfl ?_
  refine J_iload_n d_Law_ticket_4 rfl ?_
  obtain ⟨a1, ha1, H⟩ := Option.bind_eq_some_iff.mp H
  rw [j_rf ha1]
  have g2 : Γ a1 = .inr 11 := by
    apply Classical.byContradiction
    intro q9
    rw [if_neg q9] at H
    cases H
  rw [if_pos g2] at H
  rcases bC_some H with ⟨E6, φ5, hq3, H⟩ | ⟨v4, φ5, hq3, H⟩
  · refine J_callV (kc := 0) (ks := 0) (kc' := 1) (ks' := 6) (a := a1) (ci := 11) (as := [.int p1, .int p2]) (st := [.int (0 : Int32), va_rf p3]) (mf_Bus_ticket hw) (mv_Law_60 hw) d_Law_ticket_5 ln_Bus_ticket (by decide) (by first | exact Nat.le_of_ble_eq_true rfl | (simp only [List.map_cons, List.map_nil, List.sum_cons, List.sum_nil, va_rf_cat]; exact Nat.le_of_ble_eq_true rfl)) rfl ((hG _).1 _ g2 (by decide)).1 ((hG _).1 _ g2 (by decide)).2 (by unfold pic; rw [g2]; rfl) (jcl_at hw rfl) rfl (p_Bus_ticket hw hG hq3) (fun v9 h9 n9 x9 e9 => fq_nr e9) ?_
    intro E99 h9 n9 x9 e9
    obtain ⟨e91, e92, e93⟩ := e9
    have e91 := (Sum.inr.inj (show Sum.inr E99 = Sum.inr E6 from e91)).symm
    subst e91
    subst e92
    subst e93
    by_cases c8 : E6 = "java/lang/IndexOutOfBoundsException"
    · subst c8
      rw [if_pos rfl] at H
      refine JT.catch (name := "java/lang/IndexOutOfBoundsException") [] [(0, 10, 17, 21)] rfl ⟨by decide, by decide⟩ (by decide) (tb3 hw (i := 79) (by decide +kernel)) (tb3 hw (i := 90) (by decide +kernel)) (fun r9 hr9 => by cases hr9) (fun r7 => ?_)
      refine J_astore d_Law_ticket_13 (Nat.le_of_ble_eq_true rfl) ?_
      refine J.ls (ls' := [some (.ref a1), some (.int p1), some (.int p2), some (va_rf p3), some (.ref r7)]) (jst1_o (i := 3) (r := p3) rfl) ?_
      refine J_iconst (v := 1) d_Law_ticket_15 (by decide) ?_
      have H := Option.some.inj H
      subst H
      exact J_iret (st := []) d_Law_ticket_16 rfl rfl ⟨rfl, rfl, rfl⟩
    rw [if_neg c8] at H
    by_cases c10 : E6 = "java/lang/IllegalArgumentException"
    · subst c10
      rw [if_pos rfl] at H
      refine JT.catch (name := "java/lang/IllegalArgumentException") [(0, 10, 13, 13)] [] rfl ⟨by decide, by decide⟩ (by decide) (tb3 hw (i := 176) (by decide +kernel)) (tb3 hw (i := 186) (by decide +kernel)) (fun r9 hr9 => by
          simp only [List.mem_cons, List.not_mem_nil, or_false] at hr9
          rcases hr9 with rfl
          · exact ⟨by decide, "java/lang/IndexOutOfBoundsException", tb3 hw (i := 79) (by decide +kernel), jnc_mem hw (by decide)⟩) (fun r9 => ?_)
      refine J_astore d_Law_ticket_17 (Nat.le_of_ble_eq_true rfl) ?_
      refine J.ls (ls' := [some (.ref a1), some (.int p1), some (.int p2), some (va_rf p3), some (.ref r9)]) (jst1_o (i := 3) (r := p3) rfl) ?_
      refine J_iconst (v := 2) d_Law_ticket_19 (by decide) ?_
      have H := Option.some.inj H
      subst H
      exact J_iret (st := []) d_Law_ticket_20 rfl rfl ⟨rfl, rfl, rfl⟩
    rw [if_neg c10] at H
    cases H
  refine J.more (kc := 0) (ks := 0) (Nat.zero_le _) (Nat.zero_le _) ?_
  refine J_callV (kc := 0) (ks := 0) (kc' := 0) (ks' := 0) (a := a1) (ci := 11) (as := [.int p1, .int p2]) (st := [.int (0 : Int32), va_rf p3]) (mf_Bus_ticket hw) (mv_Law_60 hw) d_Law_ticket_5 ln_Bus_ticket (by decide) (by first | exact Nat.le_of_ble_eq_true rfl | (simp only [List.map_cons, List.map_nil, List.sum_cons, List.sum_nil, va_rf_cat]; exact Nat.le_of_ble_eq_true rfl)) rfl ((hG _).1 _ g2 (by decide)).1 ((hG _).1 _ g2 (by decide)).2 (by unfold pic; rw [g2]; rfl) (jcl_at hw rfl) rfl (p_Bus_ticket hw hG hq3) ?_ (fun E9 h9 n9 x9 e9 => fq_nt e9)
  intro v9 h9 n9 x9 e9
  obtain ⟨e91, e92, e93⟩ := e9
  have e91 := Sum.inl.inj (show Sum.inl v9 = Sum.inl (some (.int v4)) from e91)
  subst e91
  subst e92
  subst e93
  clear x
  rename Bool => x
  show J _ _ _ _ (_ :: _) _ _ _ _ _ _
  refine J_i2l d_Law_ticket_8 ?_
  obtain ⟨a11, ha11, H⟩ := Option.bind_eq_some_iff.mp H
  rw [j_rf ha11]
  obtain ⟨N12, hN12, H⟩ := Option.bind_eq_some_iff.mp H
  obtain ⟨k13, hk13, H⟩ := Option.bind_eq_some_iff.mp H
  refine F_last k13 hw hG d_Law_ticket_9 (gA_some hN12) (ix_some hk13) ?_
  refine J_goto (tgt := 21) d_Law_ticket_10 (by decide) ?_
  refine J_iconst (v := 0) d_Law_ticket_21 (by decide) ?_
  have H := Option.some.inj H
  subst H
  exact J_iret (st := []) d_Law_ticket_22 rfl rfl ⟨rfl, rfl, rfl⟩
theorem ln_Bus_data : (parseMethodDescriptor y_Bus_data.desc).map (fun q => q.parameters.length) = some 2 := by decide +kernel
def f_Bus_data (Γ : gm_T) (φ : ph_T) (this : Nat) (p0 : Int32) (p1 : Int32) : Option ((Int64 ⊕ String) × ph_T) :=
  @ite _ (Γ this = .inr 11) _ (
  bT (f_Bus_needIndex Γ φ p0 (φ.1 this 8)) fun v3 φ4 =>
  Option.bind (φ4.2.2 this 7) fun a6 =>
  Option.bind (gA Γ a6 6) fun N7 =>
  Option.bind (ix p0 N7) fun k8 =>
  Option.bind (φ4.2.2 a6 k8) fun a9 =>
  @ite _ (Γ a9 = .inr 6) _ (
  Option.bind (φ4.2.2 a9 0) fun a11 =>
  @ite _ (Γ a11 = .inr 0) _ (
  bT (f_Bus_needIndex Γ φ4 p1 (φ4.1 a11 3)) fun v14 φ15 =>
  Option.bind (φ15.2.2 a11 6) fun a17 =>
  Option.bind (gA Γ a17 1) fun N18 =>
  Option.bind (ix p1 N18) fun k19 =>
  some (.inl ((φ15.2.1 a17 k19)), φ15)
  ) none
  ) none
  ) none
set_option maxRecDepth 100000 in
set_option maxHeartbeats 4000000 in
theorem p_Bus_data {w : jw_T} (hw : jok w) {Γ : gm_T} {n : Nat} (hG : gd w Γ n) {x : Bool} {φ : ph_T} {this : Nat} {p0 : Int32} {p1 : Int32} {q : (Int64 ⊕ String) × ph_T} (H : f_Bus_data Γ φ this p0 p1 = some q) : jc w M_Bus_data [.ref this, .int p0, .int p1] (pic Γ φ) n x (kt q.1) (6 * kt q.1) (fq Γ n (rsL q.1) q.2) := by
  refine jc.of (by simp only [jent_r, jent_i, jent_l, jent_a, jent_0]; exact Nat.le_of_ble_eq_true rfl) ?_
  have hls : jents [.ref this, .int p0, .int p1] (jm_nL M_Bus_data) = [some (.ref this), some (.int p0), some (.int p1), none] := by simp only [jents, jent_r, jent_i, jent_l, jent_a, jent_0]; rfl
  rw [hls]
  clear hls
  unfold f_Bus_data at H
  refine J_iload_n d_Bus_data_0 rfl ?_
  refine J_aload_n d_Bus_data_1 rfl ?_
  have g1 : Γ this = .inr 11 := by
    apply Classical.byContradiction
    intro q9
    rw [if_neg q9] at H
    cases H
  rw [if_pos g1] at H
  refine F_getI (ci := 11) (k := 8) hG (cf_Bus hw) (fl_Bus_147 hw) (by decide) (by decide) rfl d_Bus_data_2 g1 ?_
  rcases bT_some H with ⟨E5, φ4, hq2, H⟩ | ⟨v3, φ4, hq2, H⟩
  · subst H
    show J _ _ _ _ _ _ _ _ (1 + 0) (6 + 0) _
    refine J_callS (kc := 0) (ks := 0) (kc' := 1) (ks' := 6) (as := [.int p0, .int (φ.1 this 8)]) (st := []) (mf_Bus_needIndex hw) (ms_Bus_65 hw) d_Bus_data_5 ln_Bus_needIndex (by decide) (by first | exact Nat.le_of_ble_eq_true rfl | (simp only [List.map_cons, List.map_nil, List.sum_cons, List.sum_nil, va_rf_cat]; exact Nat.le_of_ble_eq_true rfl)) rfl (p_Bus_needIndex hw hG hq2) (fun v9 h9 n9 x9 e9 => fq_nr e9) ?_
    intro E99 h9 n9 x9 e9
    obtain ⟨e91, e92, e93⟩ := e9
    have e91 := (Sum.inr.inj (show Sum.inr E99 = Sum.inr E5 from e91)).symm
    subst e91
    subst e92
    subst e93
    exact JT.out rfl ⟨rfl, rfl, rfl⟩
  refine J.kk (Nat.zero_add _) (Nat.zero_add _) ?_
  refine J_callS (kc := kt q.1) (ks := 6 * kt q.1) (kc' := 0) (ks' := 0) (as := [.int p0, .int (φ.1 this 8)]) (st := []) (mf_Bus_needIndex hw) (ms_Bus_65 hw) d_Bus_data_5 ln_Bus_needIndex (by decide) (by first | exact Nat.le_of_ble_eq_true rfl | (simp only [List.map_cons, List.map_nil, List.sum_cons, List.sum_nil, va_rf_cat]; exact Nat.le_of_ble_eq_true rfl)) rfl (p_Bus_needIndex hw hG hq2) ?_ (fun E9 h9 n9 x9 e9 => fq_nt e9)
  intro v9 h9 n9 x9 e9
  obtain ⟨e91, e92, e93⟩ := e9
  have e91 := Sum.inl.inj (show Sum.inl v9 = Sum.inl none from e91)
  subst e91
  subst e92
  subst e93
  clear x
  rename Bool => x
  show J _ _ _ _ [] _ _ _ _ _ _
  refine J_aload_n d_Bus_data_8 rfl ?_
  refine F_getR (ci := 11) (k := 7) hG (cf_Bus hw) (fl_Bus_60 hw) (by decide) (by decide) rfl d_Bus_data_9 g1 ?_
  refine J_iload_n d_Bus_data_12 rfl ?_
  obtain ⟨a6, ha6, H⟩ := Option.bind_eq_some_iff.mp H
  rw [j_rf ha6]
  obtain ⟨N7, hN7, H⟩ := Option.bind_eq_some_iff.mp H
  obtain ⟨k8, hk8, H⟩ := Option.bind_eq_some_iff.mp H
  refine F_aald k8 hw hG (t := 6) rfl (by decide) d_Bus_data_13 (gA_some hN7) (ix_some hk8) ?_
  obtain ⟨a9, ha9, H⟩ := Option.bind_eq_some_iff.mp H
  rw [j_rf ha9]
  have g10 : Γ a9 = .inr 6 := by
    apply Classical.byContradiction
    intro q9
    rw [if_neg q9] at H
    cases H
  rw [if_pos g10] at H
  refine F_getR (ci := 6) (k := 0) hG (cf_Request hw) (fl_Bus_166 hw) (by decide) (by decide) rfl d_Bus_data_14 g10 ?_
  refine J_astore_nO d_Bus_data_17 (Nat.le_of_ble_eq_true rfl) ?_
  refine J.ls (ls' := [some (.ref this), some (.int p0), some (.int p1), some (va_rf (φ4.2.2 a9 0))]) rfl ?_
  refine J_iload_n d_Bus_data_18 rfl ?_
  refine J_aload_nO d_Bus_data_19 rfl ?_
  obtain ⟨a11, ha11, H⟩ := Option.bind_eq_some_iff.mp H
  rw [j_rf ha11]
  have g12 : Γ a11 = .inr 0 := by
    apply Classical.byContradiction
    intro q9
    rw [if_neg q9] at H
    cases H
  rw [if_pos g12] at H
  refine F_getI (ci := 0) (k := 3) hG (cf_Burst hw) (fl_Bus_197 hw) (by decide) (by decide) rfl d_Bus_data_20 g12 ?_
  rcases bT_some H with ⟨E16, φ15, hq13, H⟩ | ⟨v14, φ15, hq13, H⟩
  · subst H
    show J _ _ _ _ _ _ _ _ (1 + 0) (6 + 0) _
    refine J_callS (kc := 0) (ks := 0) (kc' := 1) (ks' := 6) (as := [.int p1, .int (φ4.1 a11 3)]) (st := []) (mf_Bus_needIndex hw) (ms_Bus_65 hw) d_Bus_data_23 ln_Bus_needIndex (by decide) (by first | exact Nat.le_of_ble_eq_true rfl | (simp only [List.map_cons, List.map_nil, List.sum_cons, List.sum_nil, va_rf_cat]; exact Nat.le_of_ble_eq_true rfl)) rfl (p_Bus_needIndex hw hG hq13) (fun v9 h9 n9 x9 e9 => fq_nr e9) ?_
    intro E99 h9 n9 x9 e9
    obtain ⟨e91, e92, e93⟩ := e9
    have e91 := (Sum.inr.inj (show Sum.inr E99 = Sum.inr E16 from e91)).symm
    subst e91
    subst e92
    subst e93
    exact JT.out rfl ⟨rfl, rfl, rfl⟩
  refine J.kk (Nat.zero_add _) (Nat.zero_add _) ?_
  refine J_callS (kc := kt q.1) (ks := 6 * kt q.1) (kc' := 0) (ks' := 0) (as := [.int p1, .int (φ4.1 a11 3)]) (st := []) (mf_Bus_needIndex hw) (ms_Bus_65 hw) d_Bus_data_23 ln_Bus_needIndex (by decide) (by first | exact Nat.le_of_ble_eq_true rfl | (simp only [List.map_cons, List.map_nil, List.sum_cons, List.sum_nil, va_rf_cat]; exact Nat.le_of_ble_eq_true rfl)) rfl (p_Bus_needIndex hw hG hq13) ?_ (fun E9 h9 n9 x9 e9 => fq_nt e9)
  intro v9 h9 n9 x9 e9
  obtain ⟨e91, e92, e93⟩ := e9
  have e91 := Sum.inl.inj (show Sum.inl v9 = Sum.inl none from e91)
  subst e91
  subst e92
  subst e93
  clear x
  rename Bool => x
  show J _ _ _ _ [] _ _ _ _ _ _
  refine J_aload_n d_Bus_data_26 rfl ?_
  refine F_getR (ci := 0) (k := 6) hG (cf_Burst hw) (fl_Bus_207 hw) (by decide) (by decide) rfl d_Bus_data_27 g12 ?_
  refine J_iload_n d_Bus_data_30 rfl ?_
  obtain ⟨a17, ha17, H⟩ := Option.bind_eq_some_iff.mp H
  rw [j_rf ha17]
  obtain ⟨N18, hN18, H⟩ := Option.bind_eq_some_iff.mp H
  obtain ⟨k19, hk19, H⟩ := Option.bind_eq_some_iff.mp H
  refine F_lald k19 hw hG d_Bus_data_31 (gA_some hN18) (ix_some hk19) ?_
  have H := Option.some.inj H
  subst H
  show J _ _ _ _ _ _ _ _ 0 0 _
  exact J_lret (st := []) d_Bus_data_32 rfl ⟨rfl, rfl, rfl⟩
theorem ln_Law_data : (parseMethodDescriptor y_Law_data.desc).map (fun q => q.parameters.length) = some 4 := by decide +kernel
def f_Law_data (Γ : gm_T) (φ : ph_T) (p0 : Option Nat) (p1 : Int32) (p2 : Int32) (p3 : Option Nat) : Option (Int32 × ph_T) :=
  Option.bind p0 fun a1 =>
  @ite _ (Γ a1 = .inr 11) _ (
  bC (f_Bus_data Γ φ a1 p1 p2) (fun E6 φ5 =>
    if E6 = "java/lang/IndexOutOfBoundsException" then
      some ((1 : Int32), φ5)
 else none) fun v4 φ5 =>
  Option.bind p3 fun a9 =>
  Option.bind (gA Γ a9 1) fun N10 =>
  Option.bind (ix (0 : Int32) N10) fun k11 =>
  some ((0 : Int32), (uL φ5 a9 k11 v4))
  ) none
set_option maxRecDepth 100000 in
set_option maxHeartbeats 4000000 in
theorem p_Law_data {w : jw_T} (hw : jok w) {Γ : gm_T} {n : Nat} (hG : gd w Γ n) {x : Bool} {φ : ph_T} {p0 : Option Nat} {p1 : Int32} {p2 : Int32} {p3 : Option Nat} {q : Int32 × ph_T} (H : f_Law_data Γ φ p0 p1 p2 p3 = some q) : jc w M_Law_data [va_rf p0, .int p1, .int p2, va_rf p3] (pic Γ φ) n x 1 6 (fq Γ n (.inl (some (.int q.1))) q.2) := by
  refine jc.of (by simp only [jent_r, jent_i, jent_l, jent_a, jent_0]; exact Nat.le_of_ble_eq_true rfl) ?_
  have hls : jents [va_rf p0, .int p1, .int p2, va_rf p3] (jm_nL M_Law_data) = [some (va_rf p0), some (.int p1), some (.int p2), some (va_rf p3), none] := by simp only [jents, jent_r, jent_i, jent_l, jent_a, jent_0]; rfl
  rw [hls]
  clear hls
  unfold f_Law_data at H
  refine J_aload_nO d_Law_data_0 rfl ?_
  refine J_iconst (v := 0) d_Law_data_1 (by decide) ?_
  refine J_aload_nO d_Law_data_2 rfl ?_
  refine J_iload_n d_Law_data_3 rfl ?_
  refine J_iload_n d_Law_data_4 rfl ?_
  obtain ⟨a1, ha1, H⟩ := Option.bind_eq_some_iff.mp H
  rw [j_rf ha1]
  have g2 : Γ a1 = .inr 11 := by
    apply Classical.byContradiction
    intro q9
    rw [if_neg q9] at H
    cases H
  rw [if_pos g2] at H
  rcases bC_some H with ⟨E6, φ5, hq3, H⟩ | ⟨v4, φ5, hq3, H⟩
  · refine J_callV (kc := 0) (ks := 0) (kc' := 1) (ks' := 6) (a := a1) (ci := 11) (as := [.int p1, .int p2]) (st := [.int (0 : Int32), va_rf p3]) (mf_Bus_data hw) (mv_Law_63 hw) d_Law_data_5 ln_Bus_data (by decide) (by first | exact Nat.le_of_ble_eq_true rfl | (simp only [List.map_cons, List.map_nil, List.sum_cons, List.sum_nil, va_rf_cat]; exact Nat.le_of_ble_eq_true rfl)) rfl ((hG _).1 _ g2 (by decide)).1 ((hG _).1 _ g2 (by decide)).2 (by unfold pic; rw [g2]; rfl) (jcl_at hw rfl) rfl (p_Bus_data hw hG hq3) (fun v9 h9 n9 x9 e9 => fq_nr e9) ?_
    intro E99 h9 n9 x9 e9
    obtain ⟨e91, e92, e93⟩ := e9
    have e91 := (Sum.inr.inj (show Sum.inr E99 = Sum.inr E6 from e91)).symm
    subst e91
    subst e92
    subst e93
    by_cases c8 : E6 = "java/lang/IndexOutOfBoundsException"
    · subst c8
      rw [if_pos rfl] at H
      refine JT.catch (name := "java/lang/IndexOutOfBoundsException") [] [] rfl ⟨by decide, by decide⟩ (by decide) (tb3 hw (i := 79) (by decide +kernel)) (tb3 hw (i := 90) (by decide +kernel)) (fun r9 hr9 => by cases hr9) (fun r7 => ?_)
      refine J_astore d_Law_data_12 (Nat.le_of_ble_eq_true rfl) ?_
      refine J.ls (ls' := [some (.ref a1), some (.int p1), some (.int p2), some (va_rf p3), some (.ref r7)]) (jst1_o (i := 3) (r := p3) rfl) ?_
      refine J_iconst (v := 1) d_Law_data_14 (by decide) ?_
      have H := Option.some.inj H
      subst H
      exact J_iret (st := []) d_Law_data_15 rfl rfl ⟨rfl, rfl, rfl⟩
    rw [if_neg c8] at H
    cases H
  refine J.more (kc := 0) (ks := 0) (Nat.zero_le _) (Nat.zero_le _) ?_
  refine J_callV (kc := 0) (ks := 0) (kc' := 0) (ks' := 0) (a := a1) (ci := 11) (as := [.int p1, .int p2]) (st := [.int (0 : Int32), va_rf p3]) (mf_Bus_data hw) (mv_Law_63 hw) d_Law_data_5 ln_Bus_data (by decide) (by first | exact Nat.le_of_ble_eq_true rfl | (simp only [List.map_cons, List.map_nil, List.sum_cons, List.sum_nil, va_rf_cat]; exact Nat.le_of_ble_eq_true rfl)) rfl ((hG _).1 _ g2 (by decide)).1 ((hG _).1 _ g2 (by decide)).2 (by unfold pic; rw [g2]; rfl) (jcl_at hw rfl) rfl (p_Bus_data hw hG hq3) ?_ (fun E9 h9 n9 x9 e9 => fq_nt e9)
  intro v9 h9 n9 x9 e9
  obtain ⟨e91, e92, e93⟩ := e9
  have e91 := Sum.inl.inj (show Sum.inl v9 = Sum.inl (some (.long v4)) from e91)
  subst e91
  subst e92
  subst e93
  clear x
  rename Bool => x
  show J _ _ _ _ (_ :: _) _ _ _ _ _ _
  obtain ⟨a9, ha9, H⟩ := Option.bind_eq_some_iff.mp H
  rw [j_rf ha9]
  obtain ⟨N10, hN10, H⟩ := Option.bind_eq_some_iff.mp H
  obtain ⟨k11, hk11, H⟩ := Option.bind_eq_some_iff.mp H
  refine F_last k11 hw hG d_Law_data_8 (gA_some hN10) (ix_some hk11) ?_
  refine J_goto (tgt := 16) d_Law_data_9 (by decide) ?_
  refine J_iconst (v := 0) d_Law_data_16 (by decide) ?_
  have H := Option.some.inj H
  subst H
  exact J_iret (st := []) d_Law_data_17 rfl rfl ⟨rfl, rfl, rfl⟩
theorem ln_Bus_forget : (parseMethodDescriptor y_Bus_forget.desc).map (fun q => q.parameters.length) = some 0 := by decide +kernel
def f_Bus_forget (Γ : gm_T) (φ : ph_T) (this : Nat) : Option ((Int32 ⊕ String) × ph_T) :=
  @ite _ (Γ this = .inr 11) _ (
  Option.bind (f_Bus_openRequests Γ φ this) fun q2 =>
  if q2.1 ≤ 0 then
    Option.bind (f_Bus_dropTickets Γ q2.2 this) fun q3 =>
    some (.inl ((q2.2.1 this 8)), q3.2)
  else
    some (.inr "java/lang/IllegalStateException", q2.2)
  ) none
set_option maxRecDepth 100000 in
set_option maxHeartbeats 4000000 in
theorem p_Bus_forget {w : jw_T} (hw : jok w) {Γ : gm_T} {n : Nat} (hG : gd w Γ n) {x : Bool} {φ : ph_T} {this : Nat} {q : (Int32 ⊕ String) × ph_T} (H : f_Bus_forget Γ φ this = some q) : jc w M_Bus_forget [.ref this] (pic Γ φ) n x (kt q.1) (6 * kt q.1) (fq Γ n (rsI q.1) q.2) := by
  refine jc.of (by simp only [jent_r, jent_i, jent_l, jent_a, jent_0]; exact Nat.le_of_ble_eq_true rfl) ?_
  have hls : jents [.ref this] (jm_nL M_Bus_forget) = [some (.ref this), none] := by simp only [jents, jent_r, jent_i, jent_l, jent_a, jent_0]; rfl
  rw [hls]
  clear hls
  unfold f_Bus_forget at H
  refine J_aload_n d_Bus_forget_0 rfl ?_
  have g1 : Γ this = .inr 11 := by
    apply Classical.byContradiction
    intro q9
    rw [if_neg q9] at H
    cases H
  rw [if_pos g1] at H
  obtain ⟨q2, hq2, H⟩ := Option.bind_eq_some_iff.mp H
  refine J.kk (Nat.zero_add _) (Nat.zero_add _) ?_
  refine J_callV (kc := kt q.1) (ks := 6 * kt q.1) (kc' := 0) (ks' := 0) (a := this) (ci := 11) (as := []) (st := []) (mf_Bus_openRequests hw) (mv_Bus_69 hw) d_Bus_forget_1 ln_Bus_openRequests (by decide) (by first | exact Nat.le_of_ble_eq_true rfl | (simp only [List.map_cons, List.map_nil, List.sum_cons, List.sum_nil, va_rf_cat]; exact Nat.le_of_ble_eq_true rfl)) rfl ((hG _).1 _ g1 (by decide)).1 ((hG _).1 _ g1 (by decide)).2 (by unfold pic; rw [g1]; rfl) (jcl_at hw rfl) rfl (p_Bus_openRequests hw hG hq2) ?_ (fun E h' n' x' e1 => by cases e1.1)
  intro v9 h9 n9 x9 e9
  obtain ⟨e91, e92, e93⟩ := e9
  cases e91
  subst e92
  subst e93
  clear x
  rename Bool => x
  show J _ _ _ _ (_ :: _) _ _ _ _ _ _
  refine J_if_le (tgt := 17) d_Bus_forget_4 (by decide) ?_ ?_
  · intro c4
    rw [if_pos c4] at H
    refine J_aload_n d_Bus_forget_17 rfl ?_
    refine F_getI (ci := 11) (k := 8) hG (cf_Bus hw) (fl_Bus_147 hw) (by decide) (by decide) rfl d_Bus_forget_18 g1 ?_
    refine J_istore_n d_Bus_forget_21 (Nat.le_of_ble_eq_true rfl) ?_
    refine J.ls (ls' := [some (.ref this), some (.int (q2.2.1 this 8))]) rfl ?_
    refine J_aload_n d_Bus_forget_22 rfl ?_
    obtain ⟨q3, hq3, H⟩ := Option.bind_eq_some_iff.mp H
    refine J.kk (Nat.zero_add _) (Nat.zero_add _) ?_
    refine J_callV (kc := kt q.1) (ks := 6 * kt q.1) (kc' := 0) (ks' := 0) (a := this) (ci := 11) (as := []) (st := []) (mf_Bus_dropTickets hw) (mv_Bus_211 hw) d_Bus_forget_23 ln_Bus_dropTickets (by decide) (by first | exact Nat.le_of_ble_eq_true rfl | (simp only [List.map_cons, List.map_nil, List.sum_cons, List.sum_nil, va_rf_cat]; exact Nat.le_of_ble_eq_true rfl)) rfl ((hG _).1 _ g1 (by decide)).1 ((hG _).1 _ g1 (by decide)).2 (by unfold pic; rw [g1]; rfl) (jcl_at hw rfl) rfl (p_Bus_dropTickets hw hG hq3) ?_ (fun E h' n' x' e1 => by cases e1.1)
    intro v9 h9 n9 x9 e9
    obtain ⟨e91, e92, e93⟩ := e9
    cases e91
    subst e92
    subst e93
    clear x
    rename Bool => x
    show J _ _ _ _ [] _ _ _ _ _ _
    refine J_iload_n d_Bus_forget_26 rfl ?_
    have H := Option.some.inj H
    subst H
    show J _ _ _ _ _ _ _ _ 0 0 _
    exact J_iret (st := []) d_Bus_forget_27 rfl rfl ⟨rfl, rfl, rfl⟩
  · intro c4
    rw [if_neg c4] at H
    have H := Option.some.inj H
    subst H
    show J _ _ _ _ _ _ _ _ (0 + 1) (0 + 6) _
    exact J_throwS (kc := 0) (ks := 0) (cls := "java/lang/IllegalStateException") (names := jxn) xf_IllegalStateException jxn_fit (tb3 hw (i := 157) (by decide +kernel)) (tb1 hw (i := 20) (by decide +kernel)) (jsr_mem hw (text := "a request is not done") (by decide)) (xa_IllegalStateException hw) d_Bus_forget_7 d_Bus_forget_10 d_Bus_forget_11 d_Bus_forget_13 d_Bus_forget_16 rfl rfl (by decide) (by decide) ⟨rfl, rfl, rfl⟩
theorem ln_Law_forget : (parseMethodDescriptor y_Law_forget.desc).map (fun q => q.parameters.length) = some 2 := by decide +kernel
def f_Law_forget (Γ : gm_T) (φ : ph_T) (p0 : Option Nat) (p1 : Option Nat) : Option (Int32 × ph_T) :=
  Option.bind p0 fun a1 =>
  @ite _ (Γ a1 = .inr 11) _ (
  bC (f_Bus_forget Γ φ a1) (fun E6 φ5 =>
    if E6 = "java/lang/IllegalStateException" then
      some ((1 : Int32), φ5)
 else none) fun v4 φ5 =>
  Option.bind p1 fun a9 =>
  Option.bind (gA Γ a9 1) fun N10 =>
  Option.bind (ix (0 : Int32) N10) fun k11 =>
  some ((0 : Int32), (uL φ5 a9 k11 (Int32.toInt64 v4)))
  ) none
set_option maxRecDepth 100000 in
set_option maxHeartbeats 4000000 in
theorem p_Law_forget {w : jw_T} (hw : jok w) {Γ : gm_T} {n : Nat} (hG : gd w Γ n) {x : Bool} {φ : ph_T} {p0 : Option Nat} {p1 : Option Nat} {q : Int32 × ph_T} (H : f_Law_forget Γ φ p0 p1 = some q) : jc w M_Law_forget [va_rf p0, va_rf p1] (pic Γ φ) n x 1 6 (fq Γ n (.inl (some (.int q.1))) q.2) := by
  refine jc.of (by simp only [jent_r, jent_i, jent_l, jent_a, jent_0]; exact Nat.le_of_ble_eq_true rfl) ?_
  have hls : jents [va_rf p0, va_rf p1] (jm_nL M_Law_forget) = [some (va_rf p0), some (va_rf p1), none] := by simp only [jents, jent_r, jent_i, jent_l, jent_a, jent_0]; rfl
  rw [hls]
  clear hls
  unfold f_Law_forget at H
  refine J_aload_nO d_Law_forget_0 rfl ?_
  refine J_iconst (v := 0) d_Law_forget_1 (by decide) ?_
  refine J_aload_nO d_Law_forget_2 rfl ?_
  obtain ⟨a1, ha1, H⟩ := Option.bind_eq_some_iff.mp H
  rw [j_rf ha1]
  have g2 : Γ a1 = .inr 11 := by
    apply Classical.byContradiction
    intro q9
    rw [if_neg q9] at H
    cases H
  rw [if_pos g2] at H
  rcases bC_some H with ⟨E6, φ5, hq3, H⟩ | ⟨v4, φ5, hq3, H⟩
  · refine J_callV (kc := 0) (ks := 0) (kc' := 1) (ks' := 6) (a := a1) (ci := 11) (as := []) (st := [.int (0 : Int32), va_rf p1]) (mf_Bus_forget hw) (mv_Law_67 hw) d_Law_forget_3 ln_Bus_forget (by decide) (by first | exact Nat.le_of_ble_eq_true rfl | (simp only [List.map_cons, List.map_nil, List.sum_cons, List.sum_nil, va_rf_cat]; exact Nat.le_of_ble_eq_true rfl)) rfl ((hG _).1 _ g2 (by decide)).1 ((hG _).1 _ g2 (by decide)).2 (by unfold pic; rw [g2]; rfl) (jcl_at hw rfl) rfl (p_Bus_forget hw hG hq3) (fun v9 h9 n9 x9 e9 => fq_nr e9) ?_
    intro E99 h9 n9 x9 e9
    obtain ⟨e91, e92, e93⟩ := e9
    have e91 := (Sum.inr.inj (show Sum.inr E99 = Sum.inr E6 from e91)).symm
    subst e91
    subst e92
    subst e93
    by_cases c8 : E6 = "java/lang/IllegalStateException"
    · subst c8
      rw [if_pos rfl] at H
      refine JT.catch (name := "java/lang/IllegalStateException") [] [] rfl ⟨by decide, by decide⟩ (by decide) (tb3 hw (i := 80) (by decide +kernel)) (tb3 hw (i := 159) (by decide +kernel)) (fun r9 hr9 => by cases hr9) (fun r7 => ?_)
      refine J_astore_n d_Law_forget_11 (Nat.le_of_ble_eq_true rfl) ?_
      refine J.ls (ls' := [some (.ref a1), some (va_rf p1), some (.ref r7)]) (jst1_o (i := 1) (r := p1) rfl) ?_
      refine J_iconst (v := 1) d_Law_forget_12 (by decide) ?_
      have H := Option.some.inj H
      subst H
      exact J_iret (st := []) d_Law_forget_13 rfl rfl ⟨rfl, rfl, rfl⟩
    rw [if_neg c8] at H
    cases H
  refine J.more (kc := 0) (ks := 0) (Nat.zero_le _) (Nat.zero_le _) ?_
  refine J_callV (kc := 0) (ks := 0) (kc' := 0) (ks' := 0) (a := a1) (ci := 11) (as := []) (st := [.int (0 : Int32), va_rf p1]) (mf_Bus_forget hw) (mv_Law_67 hw) d_Law_forget_3 ln_Bus_forget (by decide) (by first | exact Nat.le_of_ble_eq_true rfl | (simp only [List.map_cons, List.map_nil, List.sum_cons, List.sum_nil, va_rf_cat]; exact Nat.le_of_ble_eq_true rfl)) rfl ((hG _).1 _ g2 (by decide)).1 ((hG _).1 _ g2 (by decide)).2 (by unfold pic; rw [g2]; rfl) (jcl_at hw rfl) rfl (p_Bus_forget hw hG hq3) ?_ (fun E9 h9 n9 x9 e9 => fq_nt e9)
  intro v9 h9 n9 x9 e9
  obtain ⟨e91, e92, e93⟩ := e9
  have e91 := Sum.inl.inj (show Sum.inl v9 = Sum.inl (some (.int v4)) from e91)
  subst e91
  subst e92
  subst e93
  clear x
  rename Bool => x
  show J _ _ _ _ (_ :: _) _ _ _ _ _ _
  refine J_i2l d_Law_forget_6 ?_
  obtain ⟨a9, ha9, H⟩ := Option.bind_eq_some_iff.mp H
  rw [j_rf ha9]
  obtain ⟨N10, hN10, H⟩ := Option.bind_eq_some_iff.mp H
  obtain ⟨k11, hk11, H⟩ := Option.bind_eq_some_iff.mp H
  refine F_last k11 hw hG d_Law_forget_7 (gA_some hN10) (ix_some hk11) ?_
  refine J_goto (tgt := 14) d_Law_forget_8 (by decide) ?_
  refine J_iconst (v := 0) d_Law_forget_14 (by decide) ?_
  have H := Option.some.inj H
  subst H
  exact J_iret (st := []) d_Law_forget_15 rfl rfl ⟨rfl, rfl, rfl⟩
theorem ln_Bus_portAt : (parseMethodDescriptor y_Bus_portAt.desc).map (fun q => q.parameters.length) = some 2 := by decide +kernel
def f_Bus_portAt_L20 (Γ : gm_T)  (φ : ph_T) (x2 : Int32) (y0 : Option Nat) : Option ((Option Nat ⊕ String) × ph_T) :=
  Option.bind y0 fun a1 =>
  Option.bind (gA Γ a1 7) fun N2 =>
  bT (f_Bus_needIndex Γ φ x2 (nI N2)) fun v4 φ5 =>
  Option.bind (gA Γ a1 7) fun N7 =>
  Option.bind (ix x2 N7) fun k8 =>
  some (.inl ((φ5.2.2 a1 k8)), φ5)
set_option maxRecDepth 100000 in
set_option maxHeartbeats 4000000 in
theorem p_Bus_portAt_L20 {w : jw_T} (hw : jok w) {Γ : gm_T} {n : Nat} (hG : gd w Γ n)  {x : Bool} {φ : ph_T} {x2 : Int32} {y0 : Option Nat} {q : (Option Nat ⊕ String) × ph_T} (H : f_Bus_portAt_L20 Γ  φ x2 y0 = some q) : J w M_Bus_portAt 20 [none, none, some (.int x2), none] [va_rf y0] (pic Γ φ) n x (kt q.1) (6 * kt q.1) (fq Γ n (rsO q.1) q.2) := by
  unfold f_Bus_portAt_L20 at H
  refine J_astore_nO d_Bus_portAt_20 (Nat.le_of_ble_eq_true rfl) ?_
  refine J.ls (ls' := [none, none, some (.int x2), some (va_rf y0)]) rfl ?_
  refine J_iload_n d_Bus_portAt_21 rfl ?_
  refine J_aload_nO d_Bus_portAt_22 rfl ?_
  obtain ⟨a1, ha1, H⟩ := Option.bind_eq_some_iff.mp H
  rw [j_rf ha1]
  obtain ⟨N2, hN2, H⟩ := Option.bind_eq_some_iff.mp H
  refine F_alen hw hG (t := 7) rfl d_Bus_portAt_23 (gA_some hN2) ?_
  rcases bT_some H with ⟨E6, φ5, hq3, H⟩ | ⟨v4, φ5, hq3, H⟩
  · subst H
    show J _ _ _ _ _ _ _ _ (1 + 0) (6 + 0) _
    refine J_callS (kc := 0) (ks := 0) (kc' := 1) (ks' := 6) (as := [.int x2, .int (nI N2)]) (st := []) (mf_Bus_needIndex hw) (ms_Bus_65 hw) d_Bus_portAt_24 ln_Bus_needIndex (by decide) (by first | exact Nat.le_of_ble_eq_true rfl | (simp only [List.map_cons, List.map_nil, List.sum_cons, List.sum_nil, va_rf_cat]; exact Nat.le_of_ble_eq_true rfl)) rfl (p_Bus_needIndex hw hG hq3) (fun v9 h9 n9 x9 e9 => fq_nr e9) ?_
    intro E99 h9 n9 x9 e9
    obtain ⟨e91, e92, e93⟩ := e9
    have e91 := (Sum.inr.inj (show Sum.inr E99 = Sum.inr E6 from e91)).symm
    subst e91
    subst e92
    subst e93
    exact JT.out rfl ⟨rfl, rfl, rfl⟩
  refine J.kk (Nat.zero_add _) (Nat.zero_add _) ?_
  refine J_callS (kc := kt q.1) (ks := 6 * kt q.1) (kc' := 0) (ks' := 0) (as := [.int x2, .int (nI N2)]) (st := []) (mf_Bus_needIndex hw) (ms_Bus_65 hw) d_Bus_portAt_24 ln_Bus_needIndex (by decide) (by first | exact Nat.le_of_ble_eq_true rfl | (simp only [List.map_cons, List.map_nil, List.sum_cons, List.sum_nil, va_rf_cat]; exact Nat.le_of_ble_eq_true rfl)) rfl (p_Bus_needIndex hw hG hq3) ?_ (fun E9 h9 n9 x9 e9 => fq_nt e9)
  intro v9 h9 n9 x9 e9
  obtain ⟨e91, e92, e93⟩ := e9
  have e91 := Sum.inl.inj (show Sum.inl v9 = Sum.inl none from e91)
  subst e91
  subst e92
  subst e93
  clear x
  rename Bool => x
  show J _ _ _ _ [] _ _ _ _ _ _
  refine J_aload_n d_Bus_portAt_27 rfl ?_
  refine J_iload_n d_Bus_portAt_28 rfl ?_
  obtain ⟨N7, hN7, H⟩ := Option.bind_eq_some_iff.mp H
  obtain ⟨k8, hk8, H⟩ := Option.bind_eq_some_iff.mp H
  refine F_aald k8 hw hG (t := 7) rfl (by decide) d_Bus_portAt_29 (gA_some hN7) (ix_some hk8) ?_
  have H := Option.some.inj H
  subst H
  show J _ _ _ _ _ _ _ _ 0 0 _
  exact J_aret (st := []) d_Bus_portAt_30 rfl (Or.inl ⟨_, rfl⟩) (by first | exact Or.inr ⟨_, rfl⟩ | (generalize (φ5.2.2 a1 k8) = r9; cases r9; exact Or.inl rfl; exact Or.inr ⟨_, rfl⟩)) ⟨rfl, rfl, rfl⟩
def f_Bus_portAt (Γ : gm_T) (φ : ph_T) (this : Nat) (p0 : Int32) (p1 : Int32) : Option ((Option Nat ⊕ String) × ph_T) :=
  bT (f_Bus_needIndex Γ φ p0 (2 : Int32)) fun v10 φ11 =>
  if p0 = 0 then
    @ite _ (Γ this = .inr 11) _ (
    f_Bus_portAt_L20 Γ  φ11 p1 (φ11.2.2 this 4)
    ) none
  else
    @ite _ (Γ this = .inr 11) _ (
    f_Bus_portAt_L20 Γ  φ11 p1 (φ11.2.2 this 5)
    ) none
set_option maxRecDepth 100000 in
set_option maxHeartbeats 4000000 in
theorem p_Bus_portAt {w : jw_T} (hw : jok w) {Γ : gm_T} {n : Nat} (hG : gd w Γ n) {x : Bool} {φ : ph_T} {this : Nat} {p0 : Int32} {p1 : Int32} {q : (Option Nat ⊕ String) × ph_T} (H : f_Bus_portAt Γ φ this p0 p1 = some q) : jc w M_Bus_portAt [.ref this, .int p0, .int p1] (pic Γ φ) n x (kt q.1) (6 * kt q.1) (fq Γ n (rsO q.1) q.2) := by
  refine jc.of (by simp only [jent_r, jent_i, jent_l, jent_a, jent_0]; exact Nat.le_of_ble_eq_true rfl) ?_
  have hls : jents [.ref this, .int p0, .int p1] (jm_nL M_Bus_portAt) = [some (.ref this), some (.int p0), some (.int p1), none] := by simp only [jents, jent_r, jent_i, jent_l, jent_a, jent_0]; rfl
  rw [hls]
  clear hls
  unfold f_Bus_portAt at H
  refine J_iload_n d_Bus_portAt_0 rfl ?_
  refine J_iconst (v := 2) d_Bus_portAt_1 (by decide) ?_
  rcases bT_some H with ⟨E12, φ11, hq9, H⟩ | ⟨v10, φ11, hq9, H⟩
  · subst H
    show J _ _ _ _ _ _ _ _ (1 + 0) (6 + 0) _
    refine J_callS (kc := 0) (ks := 0) (kc' := 1) (ks' := 6) (as := [.int p0, .int (2 : Int32)]) (st := []) (mf_Bus_needIndex hw) (ms_Bus_65 hw) d_Bus_portAt_2 ln_Bus_needIndex (by decide) (by first | exact Nat.le_of_ble_eq_true rfl | (simp only [List.map_cons, List.map_nil, List.sum_cons, List.sum_nil, va_rf_cat]; exact Nat.le_of_ble_eq_true rfl)) rfl (p_Bus_needIndex hw hG hq9) (fun v9 h9 n9 x9 e9 => fq_nr e9) ?_
    intro E99 h9 n9 x9 e9
    obtain ⟨e91, e92, e93⟩ := e9
    have e91 := (Sum.inr.inj (show Sum.inr E99 = Sum.inr E12 from e91)).symm
    subst e91
    subst e92
    subst e93
    exact JT.out rfl ⟨rfl, rfl, rfl⟩
  refine J.kk (Nat.zero_add _) (Nat.zero_add _) ?_
  refine J_callS (kc := kt q.1) (ks := 6 * kt q.1) (kc' := 0) (ks' := 0) (as := [.int p0, .int (2 : Int32)]) (st := []) (mf_Bus_needIndex hw) (ms_Bus_65 hw) d_Bus_portAt_2 ln_Bus_needIndex (by decide) (by first | exact Nat.le_of_ble_eq_true rfl | (simp only [List.map_cons, List.map_nil, List.sum_cons, List.sum_nil, va_rf_cat]; exact Nat.le_of_ble_eq_true rfl)) rfl (p_Bus_needIndex hw hG hq9) ?_ (fun E9 h9 n9 x9 e9 => fq_nt e9)
  intro v9 h9 n9 x9 e9
  obtain ⟨e91, e92, e93⟩ := e9
  have e91 := Sum.inl.inj (show Sum.inl v9 = Sum.inl none from e91)
  subst e91
  subst e92
  subst e93
  clear x
  rename Bool => x
  show J _ _ _ _ [] _ _ _ _ _ _
  refine J_iload_n d_Bus_portAt_5 rfl ?_
  refine J_if_ne (tgt := 16) d_Bus_portAt_6 (by decide) ?_ ?_
  · intro c15
    rw [if_neg c15] at H
    refine J_aload_n d_Bus_portAt_16 rfl ?_
    have g13 : Γ this = .inr 11 := by
      apply Classical.byContradiction
      intro q9
      rw [if_neg q9] at H
      cases H
    rw [if_pos g13] at H
    refine F_getR (ci := 11) (k := 5) hG (cf_Bus hw) (fl_Bus_49 hw) (by decide) (by decide) rfl d_Bus_portAt_17 g13 ?_
    refine J.drop [false, false, true, false] rfl ?_
    exact p_Bus_portAt_L20 hw hG  H
  · intro c15
    rw [if_pos c15] at H
    refine J_aload_n d_Bus_portAt_9 rfl ?_
    have g14 : Γ this = .inr 11 := by
      apply Classical.byContradiction
      intro q9
      rw [if_neg q9] at H
      cases H
    rw [if_pos g14] at H
    refine F_getR (ci := 11) (k := 4) hG (cf_Bus hw) (fl_Bus_37 hw) (by decide) (by decide) rfl d_Bus_portAt_10 g14 ?_
    refine J_goto (tgt := 20) d_Bus_portAt_13 (by decide) ?_
    refine J.drop [false, false, true, false] rfl ?_
    exact p_Bus_portAt_L20 hw hG  H
theorem ln_Bus_wire : (parseMethodDescriptor y_Bus_wire.desc).map (fun q => q.parameters.length) = some 4 := by decide +kernel
def f_Bus_wire_L79 (Γ : gm_T)  (φ : ph_T) (y0 : Int32) : Option ((Int32 ⊕ String) × ph_T) :=
  some (.inl (y0), φ)
set_option maxRecDepth 100000 in
set_option maxHeartbeats 4000000 in
theorem p_Bus_wire_L79 {w : jw_T} (hw : jok w) {Γ : gm_T} {n : Nat} (hG : gd w Γ n)  {x : Bool} {φ : ph_T} {y0 : Int32} {q : (Int32 ⊕ String) × ph_T} (H : f_Bus_wire_L79 Γ  φ y0 = some q) : J w M_Bus_wire 79 [none, none, none, none, none, none] [.int y0] (pic Γ φ) n x (kt q.1) (6 * kt q.1) (fq Γ n (rsI q.1) q.2) := by
  unfold f_Bus_wire_L79 at H
  have H := Option.some.inj H
  subst H
  show J _ _ _ _ _ _ _ _ 0 0 _
  exact J_iret (st := []) d_Bus_wire_79 rfl rfl ⟨rfl, rfl, rfl⟩
def f_Bus_wire_L63 (Γ : gm_T)  (φ : ph_T) (y0 : Int32) : Option ((Int32 ⊕ String) × ph_T) :=
  some (.inl (y0), φ)
set_option maxRecDepth 100000 in
set_option maxHeartbeats 4000000 in
theorem p_Bus_wire_L63 {w : jw_T} (hw : jok w) {Γ : gm_T} {n : Nat} (hG : gd w Γ n)  {x : Bool} {φ : ph_T} {y0 : Int32} {q : (Int32 ⊕ String) × ph_T} (H : f_Bus_wire_L63 Γ  φ y0 = some q) : J w M_Bus_wire 63 [none, none, none, none, none, none] [.int y0] (pic Γ φ) n x (kt q.1) (6 * kt q.1) (fq Γ n (rsI q.1) q.2) := by
  unfold f_Bus_wire_L63 at H
  have H := Option.some.inj H
  subst H
  show J _ _ _ _ _ _ _ _ 0 0 _
  exact J_iret (st := []) d_Bus_wire_63 rfl rfl ⟨rfl, rfl, rfl⟩
def f_Bus_wire (Γ : gm_T) (φ : ph_T) (this : Nat) (p0 : Int32) (p1 : Int32) (p2 : Int32) (p3 : Int32) : Option ((Int32 ⊕ String) × ph_T) :=
  @ite _ (Γ this = .inr 11) _ (
  bT (f_Bus_portAt Γ φ this p0 p1) fun v3 φ4 =>
  bT (f_Bus_needIndex Γ φ4 p2 (5 : Int32)) fun v7 φ8 =>
  bT (f_Bus_needNumber Γ φ8 p3 (0 : Int32) (2 : Int32)) fun v11 φ12 =>
  if p3 = 0 then
    Option.bind v3 fun a14 =>
    @ite _ (Γ a14 = .inr 5) _ (
    Option.bind (φ12.2.2 a14 0) fun a16 =>
    Option.bind (gA Γ a16 2) fun N17 =>
    Option.bind (ix p2 N17) fun k18 =>
    if (φ12.1 a16 k18) = 0 then
      f_Bus_wire_L63 Γ  φ12 (0 : Int32)
    else
      f_Bus_wire_L63 Γ  φ12 (1 : Int32)
    ) none
  else
    if p3 = 1 then
      Option.bind v3 fun a20 =>
      @ite _ (Γ a20 = .inr 5) _ (
      Option.bind (φ12.2.2 a20 1) fun a22 =>
      Option.bind (gA Γ a22 2) fun N23 =>
      Option.bind (ix p2 N23) fun k24 =>
      if (φ12.1 a22 k24) = 0 then
        f_Bus_wire_L79 Γ  φ12 (0 : Int32)
      else
        f_Bus_wire_L79 Γ  φ12 (1 : Int32)
      ) none
    else
      Option.bind v3 fun a26 =>
      @ite _ (Γ a26 = .inr 5) _ (
      Option.bind (φ12.2.2 a26 4) fun a28 =>
      Option.bind (gA Γ a28 0) fun N29 =>
      Option.bind (ix p2 N29) fun k30 =>
      some (.inl ((φ12.1 a28 k30)), φ12)
      ) none
  ) none
set_option maxRecDepth 100000 in
set_option maxHeartbeats 4000000 in
theorem p_Bus_wire {w : jw_T} (hw : jok w) {Γ : gm_T} {n : Nat} (hG : gd w Γ n) {x : Bool} {φ : ph_T} {this : Nat} {p0 : Int32} {p1 : Int32} {p2 : Int32} {p3 : Int32} {q : (Int32 ⊕ String) × ph_T} (H : f_Bus_wire Γ φ this p0 p1 p2 p3 = some q) : jc w M_Bus_wire [.ref this, .int p0, .int p1, .int p2, .int p3] (pic Γ φ) n x (kt q.1) (6 * kt q.1) (fq Γ n (rsI q.1) q.2) := by
  refine jc.of (by simp only [jent_r, jent_i, jent_l, jent_a, jent_0]; exact Nat.le_of_ble_eq_true rfl) ?_
  have hls : jents [.ref this, .int p0, .int p1, .int p2, .int p3] (jm_nL M_Bus_wire) = [some (.ref this), some (.int p0), some (.int p1), some (.int p2), some (.int p3), none] := by simp only [jents, jent_r, jent_i, jent_l, jent_a, jent_0]; rfl
  rw [hls]
  clear hls
  unfold f_Bus_wire at H
  refine J_aload_n d_Bus_wire_0 rfl ?_
  refine J_iload_n d_Bus_wire_1 rfl ?_
  refine J_iload_n d_Bus_wire_2 rfl ?_
  have g1 : Γ this = .inr 11 := by
    apply Classical.byContradiction
    intro q9
    rw [if_neg q9] at H
    cases H
  rw [if_pos g1] at H
  rcases bT_some H with ⟨E5, φ4, hq2, H⟩ | ⟨v3, φ4, hq2, H⟩
  · subst H
    show J _ _ _ _ _ _ _ _ (1 + 0) (6 + 0) _
    refine J_callV (kc := 0) (ks := 0) (kc' := 1) (ks' := 6) (a := this) (ci := 11) (as := [.int p0, .int p1]) (st := []) (mf_Bus_portAt hw) (mv_Bus_214 hw) d_Bus_wire_3 ln_Bus_portAt (by decide) (by first | exact Nat.le_of_ble_eq_true rfl | (simp only [List.map_cons, List.map_nil, List.sum_cons, List.sum_nil, va_rf_cat]; exact Nat.le_of_ble_eq_true rfl)) rfl ((hG _).1 _ g1 (by decide)).1 ((hG _).1 _ g1 (by decide)).2 (by unfold pic; rw [g1]; rfl) (jcl_at hw rfl) rfl (p_Bus_portAt hw hG hq2) (fun v9 h9 n9 x9 e9 => fq_nr e9) ?_
    intro E99 h9 n9 x9 e9
    obtain ⟨e91, e92, e93⟩ := e9
    have e91 := (Sum.inr.inj (show Sum.inr E99 = Sum.inr E5 from e91)).symm
    subst e91
    subst e92
    subst e93
    exact JT.out rfl ⟨rfl, rfl, rfl⟩
  refine J.kk (Nat.zero_add _) (Nat.zero_add _) ?_
  refine J_callV (kc := kt q.1) (ks := 6 * kt q.1) (kc' := 0) (ks' := 0) (a := this) (ci := 11) (as := [.int p0, .int p1]) (st := []) (mf_Bus_portAt hw) (mv_Bus_214 hw) d_Bus_wire_3 ln_Bus_portAt (by decide) (by first | exact Nat.le_of_ble_eq_true rfl | (simp only [List.map_cons, List.map_nil, List.sum_cons, List.sum_nil, va_rf_cat]; exact Nat.le_of_ble_eq_true rfl)) rfl ((hG _).1 _ g1 (by decide)).1 ((hG _).1 _ g1 (by decide)).2 (by unfold pic; rw [g1]; rfl) (jcl_at hw rfl) rfl (p_Bus_portAt hw hG hq2) ?_ (fun E9 h9 n9 x9 e9 => fq_nt e9)
  intro v9 h9 n9 x9 e9
  obtain ⟨e91, e92, e93⟩ := e9
  have e91 := Sum.inl.inj (show Sum.inl v9 = Sum.inl (some (va_rf v3)) from e91)
  subst e91
  subst e92
  subst e93
  clear x
  rename Bool => x
  show J _ _ _ _ (_ :: _) _ _ _ _ _ _
  refine J_astoreO d_Bus_wire_6 (Nat.le_of_ble_eq_true rfl) ?_
  refine J.ls (ls' := [some (.ref this), some (.int p0), some (.int p1), some (.int p2), some (.int p3), some (va_rf v3)]) rfl ?_
  refine J_iload_n d_Bus_wire_8 rfl ?_
  refine J_iconst (v := 5) d_Bus_wire_9 (by decide) ?_
  rcases bT_some H with ⟨E9, φ8, hq6, H⟩ | ⟨v7, φ8, hq6, H⟩
  · subst H
    show J _ _ _ _ _ _ _ _ (1 + 0) (6 + 0) _
    refine J_callS (kc := 0) (ks := 0) (kc' := 1) (ks' := 6) (as := [.int p2, .int (5 : Int32)]) (st := []) (mf_Bus_needIndex hw) (ms_Bus_65 hw) d_Bus_wire_10 ln_Bus_needIndex (by decide) (by first | exact Nat.le_of_ble_eq_true rfl | (simp only [List.map_cons, List.map_nil, List.sum_cons, List.sum_nil, va_rf_cat]; exact Nat.le_of_ble_eq_true rfl)) rfl (p_Bus_needIndex hw hG hq6) (fun v9 h9 n9 x9 e9 => fq_nr e9) ?_
    intro E99 h9 n9 x9 e9
    obtain ⟨e91, e92, e93⟩ := e9
    have e91 := (Sum.inr.inj (show Sum.inr E99 = Sum.inr E9 from e91)).symm
    subst e91
    subst e92
    subst e93
    exact JT.out rfl ⟨rfl, rfl, rfl⟩
  refine J.kk (Nat.zero_add _) (Nat.zero_add _) ?_
  refine J_callS (kc := kt q.1) (ks := 6 * kt q.1) (kc' := 0) (ks' := 0) (as := [.int p2, .int (5 : Int32)]) (st := []) (mf_Bus_needIndex hw) (ms_Bus_65 hw) d_Bus_wire_10 ln_Bus_needIndex (by decide) (by first | exact Nat.le_of_ble_eq_true rfl | (simp only [List.map_cons, List.map_nil, List.sum_cons, List.sum_nil, va_rf_cat]; exact Nat.le_of_ble_eq_true rfl)) rfl (p_Bus_needIndex hw hG hq6) ?_ (fun E9 h9 n9 x9 e9 => fq_nt e9)
  intro v9 h9 n9 x9 e9
  obtain ⟨e91, e92, e93⟩ := e9
  have e91 := Sum.inl.inj (show Sum.inl v9 = Sum.inl none from e91)
  subst e91
  subst e92
  subst e93
  clear x
  rename Bool => x
  show J _ _ _ _ [] _ _ _ _ _ _
  refine J_iload d_Bus_wire_13 rfl ?_
  refine J_iconst (v := 0) d_Bus_wire_15 (by decide) ?_
  refine J_iconst (v := 2) d_Bus_wire_16 (by decide) ?_
  rcases bT_some H with ⟨E13, φ12, hq10, H⟩ | ⟨v11, φ12, hq10, H⟩
  · subst H
    show J _ _ _ _ _ _ _ _ (1 + 0) (6 + 0) _
    refine J_callS (kc := 0) (ks := 0) (kc' := 1) (ks' := 6) (as := [.int p3, .int (0 : Int32), .int (2 : Int32)]) (st := []) (mf_Bus_needNumber hw) (ms_Bus_84 hw) d_Bus_wire_17 ln_Bus_needNumber (by decide) (by first | exact Nat.le_of_ble_eq_true rfl | (simp only [List.map_cons, List.map_nil, List.sum_cons, List.sum_nil, va_rf_cat]; exact Nat.le_of_ble_eq_true rfl)) rfl (p_Bus_needNumber hw hG hq10) (fun v9 h9 n9 x9 e9 => fq_nr e9) ?_
    intro E99 h9 n9 x9 e9
    obtain ⟨e91, e92, e93⟩ := e9
    have e91 := (Sum.inr.inj (show Sum.inr E99 = Sum.inr E13 from e91)).symm
    subst e91
    subst e92
    subst e93
    exact JT.out rfl ⟨rfl, rfl, rfl⟩
  refine J.kk (Nat.zero_add _) (Nat.zero_add _) ?_
  refine J_callS (kc := kt q.1) (ks := 6 * kt q.1) (kc' := 0) (ks' := 0) (as := [.int p3, .int (0 : Int32), .int (2 : Int32)]) (st := []) (mf_Bus_needNumber hw) (ms_Bus_84 hw) d_Bus_wire_17 ln_Bus_needNumber (by decide) (by first | exact Nat.le_of_ble_eq_true rfl | (simp only [List.map_cons, List.map_nil, List.sum_cons, List.sum_nil, va_rf_cat]; exact Nat.le_of_ble_eq_true rfl)) rfl (p_Bus_needNumber hw hG hq10) ?_ (fun E9 h9 n9 x9 e9 => fq_nt e9)
  intro v9 h9 n9 x9 e9
  obtain ⟨e91, e92, e93⟩ := e9
  have e91 := Sum.inl.inj (show Sum.inl v9 = Sum.inl none from e91)
  subst e91
  subst e92
  subst e93
  clear x
  rename Bool => x
  show J _ _ _ _ [] _ _ _ _ _ _
  refine J_iload d_Bus_wire_20 rfl ?_
  by_cases c31 : p3 = 0
  · rw [if_pos c31] at H
    refine J_lookup (off := 26) (tgt := 48) d_Bus_wire_22 (by decide) (by first | (rw [c31]; done) | (rw [c31]; decide)) (by decide) ?_
    refine J_aloadO d_Bus_wire_48 rfl ?_
    obtain ⟨a14, ha14, H⟩ := Option.bind_eq_some_iff.mp H
    rw [j_rf ha14]
    have g15 : Γ a14 = .inr 5 := by
      apply Classical.byContradiction
      intro q9
      rw [if_neg q9] at H
      cases H
    rw [if_pos g15] at H
    refine F_getR (ci := 5) (k := 0) hG (cf_Port hw) (fl_Bus_218 hw) (by decide) (by decide) rfl d_Bus_wire_50 g15 ?_
    refine J_iload_n d_Bus_wire_53 rfl ?_
    obtain ⟨a16, ha16, H⟩ := Option.bind_eq_some_iff.mp H
    rw [j_rf ha16]
    obtain ⟨N17, hN17, H⟩ := Option.bind_eq_some_iff.mp H
    obtain ⟨k18, hk18, H⟩ := Option.bind_eq_some_iff.mp H
    refine F_zald k18 hw hG d_Bus_wire_54 (gA_some hN17) (ix_some hk18) ?_
    refine J_if_eq (tgt := 62) d_Bus_wire_55 (by decide) ?_ ?_
    · intro c19
      rw [if_pos c19] at H
      refine J_iconst (v := 0) d_Bus_wire_62 (by decide) ?_
      refine J.drop [false, false, false, false, false, false] rfl ?_
      exact p_Bus_wire_L63 hw hG  H
    · intro c19
      rw [if_neg c19] at H
      refine J_iconst (v := 1) d_Bus_wire_58 (by decide) ?_
      refine J_goto (tgt := 63) d_Bus_wire_59 (by decide) ?_
      refine J.drop [false, false, false, false, false, false] rfl ?_
      exact p_Bus_wire_L63 hw hG  H
  · rw [if_neg c31] at H
    by_cases c32 : p3 = 1
    · rw [if_pos c32] at H
      refine J_lookup (off := 42) (tgt := 64) d_Bus_wire_22 (by decide) (by rw [lv_osw c31 (by decide)]; first | (rw [c32]; done) | (rw [c32]; decide)) (by decide) ?_
      refine J_aloadO d_Bus_wire_64 rfl ?_
      obtain ⟨a20, ha20, H⟩ := Option.bind_eq_some_iff.mp H
      rw [j_rf ha20]
      have g21 : Γ a20 = .inr 5 := by
        apply Classical.byContradiction
        intro q9
        rw [if_neg q9] at H
        cases H
      rw [if_pos g21] at H
      refine F_getR (ci := 5) (k := 1) hG (cf_Port hw) (fl_Bus_222 hw) (by decide) (by decide) rfl d_Bus_wire_66 g21 ?_
      refine J_iload_n d_Bus_wire_69 rfl ?_
      obtain ⟨a22, ha22, H⟩ := Option.bind_eq_some_iff.mp H
      rw [j_rf ha22]
      obtain ⟨N23, hN23, H⟩ := Option.bind_eq_some_iff.mp H
      obtain ⟨k24, hk24, H⟩ := Option.bind_eq_some_iff.mp H
      refine F_zald k24 hw hG d_Bus_wire_70 (gA_some hN23) (ix_some hk24) ?_
      refine J_if_eq (tgt := 78) d_Bus_wire_71 (by decide) ?_ ?_
      · intro c25
        rw [if_pos c25] at H
        refine J_iconst (v := 0) d_Bus_wire_78 (by decide) ?_
        refine J.drop [false, false, false, false, false, false] rfl ?_
        exact p_Bus_wire_L79 hw hG  H
      · intro c25
        rw [if_neg c25] at H
        refine J_iconst (v := 1) d_Bus_wire_74 (by decide) ?_
        refine J_goto (tgt := 79) d_Bus_wire_75 (by decide) ?_
        refine J.drop [false, false, false, false, false, false] rfl ?_
        exact p_Bus_wire_L79 hw hG  H
    · rw [if_neg c32] at H
      refine J_lookup (off := 58) (tgt := 80) d_Bus_wire_22 (by decide) (by rw [lv_osw c31 (by decide)]; rw [lv_osw c32 (by decide)]; rfl) (by decide) ?_
      refine J_aloadO d_Bus_wire_80 rfl ?_
      obtain ⟨a26, ha26, H⟩ := Option.bind_eq_some_iff.mp H
      rw [j_rf ha26]
      have g27 : Γ a26 = .inr 5 := by
        apply Classical.byContradiction
        intro q9
        rw [if_neg q9] at H
        cases H
      rw [if_pos g27] at H
      refine F_getR (ci := 5) (k := 4) hG (cf_Port hw) (fl_Bus_225 hw) (by decide) (by decide) rfl d_Bus_wire_82 g27 ?_
      refine J_iload_n d_Bus_wire_85 rfl ?_
      obtain ⟨a28, ha28, H⟩ := Option.bind_eq_some_iff.mp H
      rw [j_rf ha28]
      obtain ⟨N29, hN29, H⟩ := Option.bind_eq_some_iff.mp H
      obtain ⟨k30, hk30, H⟩ := Option.bind_eq_some_iff.mp H
      refine F_iald k30 hw hG d_Bus_wire_86 (gA_some hN29) (ix_some hk30) ?_
      have H := Option.some.inj H
      subst H
      show J _ _ _ _ _ _ _ _ 0 0 _
      exact J_iret (st := []) d_Bus_wire_87 rfl rfl ⟨rfl, rfl, rfl⟩
theorem ln_Law_wire : (parseMethodDescriptor y_Law_wire.desc).map (fun q => q.parameters.length) = some 6 := by decide +kernel
def f_Law_wire (Γ : gm_T) (φ : ph_T) (p0 : Option Nat) (p1 : Int32) (p2 : Int32) (p3 : Int32) (p4 : Int32) (p5 : Option Nat) : Option (Int32 × ph_T) :=
  Option.bind p0 fun a1 =>
  @ite _ (Γ a1 = .inr 11) _ (
  bC (f_Bus_wire Γ φ a1 p1 p2 p3 p4) (fun E6 φ5 =>
    if E6 = "java/lang/IndexOutOfBoundsException" then
      some ((1 : Int32), φ5)
 else if E6 = "java/lang/IllegalArgumentException" then
      some ((2 : Int32), φ5)
 else none) fun v4 φ5 =>
  Option.bind p5 fun a11 =>
  Option.bind (gA Γ a11 1) fun N12 =>
  Option.bind (ix (0 : Int32) N12) fun k13 =>
  some ((0 : Int32), (uL φ5 a11 k13 (Int32.toInt64 v4)))
  ) none
set_option maxRecDepth 100000 in
set_option maxHeartbeats 4000000 in
theorem p_Law_wire {w : jw_T} (hw : jok w) {Γ : gm_T} {n : Nat} (hG : gd w Γ n) {x : Bool} {φ : ph_T} {p0 : Option Nat} {p1 : Int32} {p2 : Int32} {p3 : Int32} {p4 : Int32} {p5 : Option Nat} {q : Int32 × ph_T} (H : f_Law_wire Γ φ p0 p1 p2 p3 p4 p5 = some q) : jc w M_Law_wire [va_rf p0, .int p1, .int p2, .int p3, .int p4, va_rf p5] (pic Γ φ) n x 1 6 (fq Γ n (.inl (some (.int q.1))) q.2) := by
  refine jc.of (by simp only [jent_r, jent_i, jent_l, jent_a, jent_0]; exact Nat.le_of_ble_eq_true rfl) ?_
  have hls : jents [va_rf p0, .int p1, .int p2, .int p3, .int p4, va_rf p5] (jm_nL M_Law_wire) = [some (va_rf p0), some (.int p1), some (.int p2), some (.int p3), some (.int p4), some (va_rf p5), none] := by simp only [jents, jent_r, jent_i, jent_l, jent_a, jent_0]; rfl
  rw [hls]
  clear hls
  unfold f_Law_wire at H
  refine J_aloadO d_Law_wire_0 rfl ?_
  refine J_iconst (v := 0) d_Law_wire_2 (by decide) ?_
  refine J_aload_nO d_Law_wire_3 rfl ?_
  refine J_iload_n d_Law_wire_4 rfl ?_
  refine J_iload_n d_Law_wire_5 rfl ?_
  refine J_iload_n d_Law_wire_6 rfl ?_
  refine J_iload d_Law_wire_7 rfl ?_
  obtain ⟨a1, ha1, H⟩ := Option.bind_eq_some_iff.mp H
  rw [j_rf ha1]
  have g2 : Γ a1 = .inr 11 := by
    apply Classical.byContradiction
    intro q9
    rw [if_neg q9] at H
    cases H
  rw [if_pos g2] at H
  rcases bC_some H with ⟨E6, φ5, hq3, H⟩ | ⟨v4, φ5, hq3, H⟩
  · refine J_callV (kc := 0) (ks := 0) (kc' := 1) (ks' := 6) (a := a1) (ci := 11) (as := [.int p1, .int p2, .int p3, .int p4]) (st := [.int (0 : Int32), va_rf p5]) (mf_Bus_wire hw) (mv_Law_71 hw) d_Law_wire_9 ln_Bus_wire (by decide) (by first | exact Nat.le_of_ble_eq_true rfl | (simp only [List.map_cons, List.map_nil, List.sum_cons, List.sum_nil, va_rf_cat]; exact Nat.le_of_ble_eq_true rfl)) rfl ((hG _).1 _ g2 (by decide)).1 ((hG _).1 _ g2 (by decide)).2 (by unfold pic; rw [g2]; rfl) (jcl_at hw rfl) rfl (p_Bus_wire hw hG hq3) (fun v9 h9 n9 x9 e9 => fq_nr e9) ?_
    intro E99 h9 n9 x9 e9
    obtain ⟨e91, e92, e93⟩ := e9
    have e91 := (Sum.inr.inj (show Sum.inr E99 = Sum.inr E6 from e91)).symm
    subst e91
    subst e92
    subst e93
    by_cases c8 : E6 = "java/lang/IndexOutOfBoundsException"
    · subst c8
      rw [if_pos rfl] at H
      refine JT.catch (name := "java/lang/IndexOutOfBoundsException") [] [(0, 14, 21, 21)] rfl ⟨by decide, by decide⟩ (by decide) (tb3 hw (i := 79) (by decide +kernel)) (tb3 hw (i := 90) (by decide +kernel)) (fun r9 hr9 => by cases hr9) (fun r7 => ?_)
      refine J_astore d_Law_wire_17 (Nat.le_of_ble_eq_true rfl) ?_
      refine J.ls (ls' := [some (.ref a1), some (.int p1), some (.int p2), some (.int p3), some (.int p4), some (va_rf p5), some (.ref r7)]) (jst1_o (i := 5) (r := p5) rfl) ?_
      refine J_iconst (v := 1) d_Law_wire_19 (by decide) ?_
      have H := Option.some.inj H
      subst H
      exact J_iret (st := []) d_Law_wire_20 rfl rfl ⟨rfl, rfl, rfl⟩
    rw [if_neg c8] at H
    by_cases c10 : E6 = "java/lang/IllegalArgumentException"
    · subst c10
      rw [if_pos rfl] at H
      refine JT.catch (name := "java/lang/IllegalArgumentException") [(0, 14, 17, 13)] [] rfl ⟨by decide, by decide⟩ (by decide) (tb3 hw (i := 176) (by decide +kernel)) (tb3 hw (i := 186) (by decide +kernel)) (fun r9 hr9 => by
          simp only [List.mem_cons, List.not_mem_nil, or_false] at hr9
          rcases hr9 with rfl
          · exact ⟨by decide, "java/lang/IndexOutOfBoundsException", tb3 hw (i := 79) (by decide +kernel), jnc_mem hw (by decide)⟩) (fun r9 => ?_)
      refine J_astore d_Law_wire_21 (Nat.le_of_ble_eq_true rfl) ?_
      refine J.ls (ls' := [some (.ref a1), some (.int p1), some (.int p2), some (.int p3), some (.int p4), some (va_rf p5), some (.ref r9)]) (jst1_o (i := 5) (r := p5) rfl) ?_
      refine J_iconst (v := 2) d_Law_wire_23 (by decide) ?_
      have H := Option.some.inj H
      subst H
      exact J_iret (st := []) d_Law_wire_24 rfl rfl ⟨rfl, rfl, rfl⟩
    rw [if_neg c10] at H
    cases H
  refine J.more (kc := 0) (ks := 0) (Nat.zero_le _) (Nat.zero_le _) ?_
  refine J_callV (kc := 0) (ks := 0) (kc' := 0) (ks' := 0) (a := a1) (ci := 11) (as := [.int p1, .int p2, .int p3, .int p4]) (st := [.int (0 : Int32), va_rf p5]) (mf_Bus_wire hw) (mv_Law_71 hw) d_Law_wire_9 ln_Bus_wire (by decide) (by first | exact Nat.le_of_ble_eq_true rfl | (simp only [List.map_cons, List.map_nil, List.sum_cons, List.sum_nil, va_rf_cat]; exact Nat.le_of_ble_eq_true rfl)) rfl ((hG _).1 _ g2 (by decide)).1 ((hG _).1 _ g2 (by decide)).2 (by unfold pic; rw [g2]; rfl) (jcl_at hw rfl) rfl (p_Bus_wire hw hG hq3) ?_ (fun E9 h9 n9 x9 e9 => fq_nt e9)
  intro v9 h9 n9 x9 e9
  obtain ⟨e91, e92, e93⟩ := e9
  have e91 := Sum.inl.inj (show Sum.inl v9 = Sum.inl (some (.int v4)) from e91)
  subst e91
  subst e92
  subst e93
  clear x
  rename Bool => x
  show J _ _ _ _ (_ :: _) _ _ _ _ _ _
  refine J_i2l d_Law_wire_12 ?_
  obtain ⟨a11, ha11, H⟩ := Option.bind_eq_some_iff.mp H
  rw [j_rf ha11]
  obtain ⟨N12, hN12, H⟩ := Option.bind_eq_some_iff.mp H
  obtain ⟨k13, hk13, H⟩ := Option.bind_eq_some_iff.mp H
  refine F_last k13 hw hG d_Law_wire_13 (gA_some hN12) (ix_some hk13) ?_
  refine J_goto (tgt := 25) d_Law_wire_14 (by decide) ?_
  refine J_iconst (v := 0) d_Law_wire_25 (by decide) ?_
  have H := Option.some.inj H
  subst H
  exact J_iret (st := []) d_Law_wire_26 rfl rfl ⟨rfl, rfl, rfl⟩
