theorem ln_Ref_go : (parseMethodDescriptor y_Ref_go.desc).map (fun q => q.parameters.length) = some 3 := by decide +kernel
def f_Ref_go_L219 (Γ : gm_T)  (φ : ph_T) : Option (Unit × ph_T) :=
  some ((), φ)
set_option maxRecDepth 100000 in
set_option maxHeartbeats 4000000 in
theorem p_Ref_go_L219 {w : jw_T} (hw : jok w) {Γ : gm_T} {n : Nat} (hG : gd w Γ n)  {x : Bool} {φ : ph_T} {q : Unit × ph_T} (H : f_Ref_go_L219 Γ  φ  = some q) : J w M_Ref_go 219 [none, none, none, none] [] (pic Γ φ) n x 0 0 (fq Γ n (.inl none) q.2) := by
  unfold f_Ref_go_L219 at H
  have H := Option.some.inj H
  subst H
  exact J_vret (st := []) d_Ref_go_219 rfl ⟨rfl, rfl, rfl⟩
def f_Ref_go_L216 (Γ : gm_T)  (φ : ph_T) (y0 : Int32) (y1 : Int32) (y2 : Nat) : Option (Unit × ph_T) :=
  @ite _ (Γ y2 = .inr 12) _ (
  Option.bind (f_Ref_goW Γ φ y2 y1 y0) fun q2 =>
  f_Ref_go_L219 Γ  q2.2 
  ) none
set_option maxRecDepth 100000 in
set_option maxHeartbeats 4000000 in
theorem p_Ref_go_L216 {w : jw_T} (hw : jok w) {Γ : gm_T} {n : Nat} (hG : gd w Γ n)  {x : Bool} {φ : ph_T} {y0 : Int32} {y1 : Int32} {y2 : Nat} {q : Unit × ph_T} (H : f_Ref_go_L216 Γ  φ y0 y1 y2 = some q) : J w M_Ref_go 216 [none, none, none, none] [.int y0, .int y1, .ref y2] (pic Γ φ) n x 0 0 (fq Γ n (.inl none) q.2) := by
  unfold f_Ref_go_L216 at H
  have g1 : Γ y2 = .inr 12 := by
    apply Classical.byContradiction
    intro q9
    rw [if_neg q9] at H
    cases H
  rw [if_pos g1] at H
  obtain ⟨q2, hq2, H⟩ := Option.bind_eq_some_iff.mp H
  refine J_callV (kc := 0) (ks := 0) (kc' := 0) (ks' := 0) (a := y2) (ci := 12) (as := [.int y1, .int y0]) (st := []) (mf_Ref_goW hw) (mv_Ref_466 hw) d_Ref_go_216 ln_Ref_goW (by decide) (by first | exact Nat.le_of_ble_eq_true rfl | (simp only [List.map_cons, List.map_nil, List.sum_cons, List.sum_nil, va_rf_cat]; exact Nat.le_of_ble_eq_true rfl)) rfl ((hG _).1 _ g1 (by decide)).1 ((hG _).1 _ g1 (by decide)).2 (by unfold pic; rw [g1]; rfl) (jcl_at hw rfl) rfl (p_Ref_goW hw hG hq2) ?_ (fun E h' n' x' e1 => by cases e1.1)
  intro v9 h9 n9 x9 e9
  obtain ⟨e91, e92, e93⟩ := e9
  cases e91
  subst e92
  subst e93
  clear x
  rename Bool => x
  show J _ _ _ _ [] _ _ _ _ _ _
  refine J.drop [false, false, false, false] rfl ?_
  exact p_Ref_go_L219 hw hG  H
def f_Ref_go_L171 (Γ : gm_T)  (φ : ph_T) (x0 : Nat) (x1 : Int32) (x2 : Int32) (x3 : Int32) : Option (Unit × ph_T) :=
  @ite _ (Γ x0 = .inr 12) _ (
  Option.bind (φ.2.2 x0 86) fun a4 =>
  Option.bind (gA Γ a4 0) fun N5 =>
  Option.bind (ix x1 N5) fun k6 =>
  if (φ.1 a4 k6) = 0 then
    Option.bind (f_Ref_goes Γ φ x0 (x2 + (1 : Int32)) x3) fun q7 =>
    if q7.1 = 0 then
      f_Ref_go_L219 Γ  q7.2 
    else
      if x3 = 0 then
        Option.bind (q7.2.2.2 x0 36) fun a8 =>
        Option.bind (gA Γ a8 0) fun N9 =>
        Option.bind (ix (x2 + (1 : Int32)) N9) fun k10 =>
        f_Ref_go_L216 Γ  q7.2 (q7.2.1 a8 k10) x1 x0
      else
        Option.bind (q7.2.2.2 x0 101) fun a11 =>
        Option.bind (gA Γ a11 0) fun N12 =>
        Option.bind (ix (x2 + (1 : Int32)) N12) fun k13 =>
        f_Ref_go_L216 Γ  q7.2 (q7.2.1 a11 k13) x1 x0
  else
    f_Ref_go_L219 Γ  φ 
  ) none
set_option maxRecDepth 100000 in
set_option maxHeartbeats 4000000 in
theorem p_Ref_go_L171 {w : jw_T} (hw : jok w) {Γ : gm_T} {n : Nat} (hG : gd w Γ n)  {x : Bool} {φ : ph_T} {x0 : Nat} {x1 : Int32} {x2 : Int32} {x3 : Int32} {q : Unit × ph_T} (H : f_Ref_go_L171 Γ  φ x0 x1 x2 x3 = some q) : J w M_Ref_go 171 [some (.ref x0), some (.int x1), some (.int x2), some (.int x3)] [] (pic Γ φ) n x 0 0 (fq Γ n (.inl none) q.2) := by
  unfold f_Ref_go_L171 at H
  refine J_aload_n d_Ref_go_171 rfl ?_
  have g3 : Γ x0 = .inr 12 := by
    apply Classical.byContradiction
    intro q9
    rw [if_neg q9] at H
    cases H
  rw [if_pos g3] at H
  refine F_getR (ci := 12) (k := 86) hG (cf_Ref hw) (fl_Ref_238 hw) (by decide) (by decide) rfl d_Ref_go_172 g3 ?_
  refine J_iload_n d_Ref_go_175 rfl ?_
  obtain ⟨a4, ha4, H⟩ := Option.bind_eq_some_iff.mp H
  rw [j_rf ha4]
  obtain ⟨N5, hN5, H⟩ := Option.bind_eq_some_iff.mp H
  obtain ⟨k6, hk6, H⟩ := Option.bind_eq_some_iff.mp H
  refine F_iald k6 hw hG d_Ref_go_176 (gA_some hN5) (ix_some hk6) ?_
  refine J_if_ne (tgt := 219) d_Ref_go_177 (by decide) ?_ ?_
  · intro c16
    rw [if_neg c16] at H
    refine J.drop [false, false, false, false] rfl ?_
    exact p_Ref_go_L219 hw hG  H
  · intro c16
    rw [if_pos c16] at H
    refine J_aload_n d_Ref_go_180 rfl ?_
    refine J_iload_n d_Ref_go_181 rfl ?_
    refine J_iconst (v := 1) d_Ref_go_182 (by decide) ?_
    refine J_iadd d_Ref_go_183 ?_
    refine J_iload_n d_Ref_go_184 rfl ?_
    obtain ⟨q7, hq7, H⟩ := Option.bind_eq_some_iff.mp H
    refine J_callV (kc := 0) (ks := 0) (kc' := 0) (ks' := 0) (a := x0) (ci := 12) (as := [.int (x2 + (1 : Int32)), .int x3]) (st := []) (mf_Ref_goes hw) (mv_Ref_449 hw) d_Ref_go_185 ln_Ref_goes (by decide) (by first | exact Nat.le_of_ble_eq_true rfl | (simp only [List.map_cons, List.map_nil, List.sum_cons, List.sum_nil, va_rf_cat]; exact Nat.le_of_ble_eq_true rfl)) rfl ((hG _).1 _ g3 (by decide)).1 ((hG _).1 _ g3 (by decide)).2 (by unfold pic; rw [g3]; rfl) (jcl_at hw rfl) rfl (p_Ref_goes hw hG hq7) ?_ (fun E h' n' x' e1 => by cases e1.1)
    intro v9 h9 n9 x9 e9
    obtain ⟨e91, e92, e93⟩ := e9
    cases e91
    subst e92
    subst e93
    clear x
    rename Bool => x
    show J _ _ _ _ (_ :: _) _ _ _ _ _ _
    refine J_if_eq (tgt := 219) d_Ref_go_188 (by decide) ?_ ?_
    · intro c15
      rw [if_pos c15] at H
      refine J.drop [false, false, false, false] rfl ?_
      exact p_Ref_go_L219 hw hG  H
    · intro c15
      rw [if_neg c15] at H
      refine J_aload_n d_Ref_go_191 rfl ?_
      refine J_iload_n d_Ref_go_192 rfl ?_
      refine J_iload_n d_Ref_go_193 rfl ?_
      refine J_if_eq (tgt := 208) d_Ref_go_194 (by decide) ?_ ?_
      · intro c14
        rw [if_pos c14] at H
        refine J_aload_n d_Ref_go_208 rfl ?_
        refine F_getR (ci := 12) (k := 36) hG (cf_Ref hw) (fl_Ref_97 hw) (by decide) (by decide) rfl d_Ref_go_209 g3 ?_
        refine J_iload_n d_Ref_go_212 rfl ?_
        refine J_iconst (v := 1) d_Ref_go_213 (by decide) ?_
        refine J_iadd d_Ref_go_214 ?_
        obtain ⟨a8, ha8, H⟩ := Option.bind_eq_some_iff.mp H
        rw [j_rf ha8]
        obtain ⟨N9, hN9, H⟩ := Option.bind_eq_some_iff.mp H
        obtain ⟨k10, hk10, H⟩ := Option.bind_eq_some_iff.mp H
        refine F_iald k10 hw hG d_Ref_go_215 (gA_some hN9) (ix_some hk10) ?_
        refine J.drop [false, false, false, false] rfl ?_
        exact p_Ref_go_L216 hw hG  H
      · intro c14
        rw [if_neg c14] at H
        refine J_aload_n d_Ref_go_197 rfl ?_
        refine F_getR (ci := 12) (k := 101) hG (cf_Ref hw) (fl_Ref_283 hw) (by decide) (by decide) rfl d_Ref_go_198 g3 ?_
        refine J_iload_n d_Ref_go_201 rfl ?_
        refine J_iconst (v := 1) d_Ref_go_202 (by decide) ?_
        refine J_iadd d_Ref_go_203 ?_
        obtain ⟨a11, ha11, H⟩ := Option.bind_eq_some_iff.mp H
        rw [j_rf ha11]
        obtain ⟨N12, hN12, H⟩ := Option.bind_eq_some_iff.mp H
        obtain ⟨k13, hk13, H⟩ := Option.bind_eq_some_iff.mp H
        refine F_iald k13 hw hG d_Ref_go_204 (gA_some hN12) (ix_some hk13) ?_
        refine J_goto (tgt := 216) d_Ref_go_205 (by decide) ?_
        refine J.drop [false, false, false, false] rfl ?_
        exact p_Ref_go_L216 hw hG  H
def f_Ref_go_L168 (Γ : gm_T)  (φ : ph_T) (x0 : Nat) (x1 : Int32) (x2 : Int32) (x3 : Int32) (y0 : Int64) (y1 : Int32) (y2 : Nat) : Option (Unit × ph_T) :=
  @ite _ (Γ y2 = .inr 12) _ (
  Option.bind (f_Ref_goAw Γ φ y2 y1 y0) fun q18 =>
  f_Ref_go_L171 Γ  q18.2 x0 x1 x2 x3
  ) none
set_option maxRecDepth 100000 in
set_option maxHeartbeats 4000000 in
theorem p_Ref_go_L168 {w : jw_T} (hw : jok w) {Γ : gm_T} {n : Nat} (hG : gd w Γ n)  {x : Bool} {φ : ph_T} {x0 : Nat} {x1 : Int32} {x2 : Int32} {x3 : Int32} {y0 : Int64} {y1 : Int32} {y2 : Nat} {q : Unit × ph_T} (H : f_Ref_go_L168 Γ  φ x0 x1 x2 x3 y0 y1 y2 = some q) : J w M_Ref_go 168 [some (.ref x0), some (.int x1), some (.int x2), some (.int x3)] [.long y0, .int y1, .ref y2] (pic Γ φ) n x 0 0 (fq Γ n (.inl none) q.2) := by
  unfold f_Ref_go_L168 at H
  have g17 : Γ y2 = .inr 12 := by
    apply Classical.byContradiction
    intro q9
    rw [if_neg q9] at H
    cases H
  rw [if_pos g17] at H
  obtain ⟨q18, hq18, H⟩ := Option.bind_eq_some_iff.mp H
  refine J_callV (kc := 0) (ks := 0) (kc' := 0) (ks' := 0) (a := y2) (ci := 12) (as := [.int y1, .long y0]) (st := []) (mf_Ref_goAw hw) (mv_Ref_463 hw) d_Ref_go_168 ln_Ref_goAw (by decide) (by first | exact Nat.le_of_ble_eq_true rfl | (simp only [List.map_cons, List.map_nil, List.sum_cons, List.sum_nil, va_rf_cat]; exact Nat.le_of_ble_eq_true rfl)) rfl ((hG _).1 _ g17 (by decide)).1 ((hG _).1 _ g17 (by decide)).2 (by unfold pic; rw [g17]; rfl) (jcl_at hw rfl) rfl (p_Ref_goAw hw hG hq18) ?_ (fun E h' n' x' e1 => by cases e1.1)
  intro v9 h9 n9 x9 e9
  obtain ⟨e91, e92, e93⟩ := e9
  cases e91
  subst e92
  subst e93
  clear x
  rename Bool => x
  show J _ _ _ _ [] _ _ _ _ _ _
  refine J.drop [true, true, true, true] rfl ?_
  exact p_Ref_go_L171 hw hG  H
def f_Ref_go_L123 (Γ : gm_T)  (φ : ph_T) (x0 : Nat) (x1 : Int32) (x2 : Int32) (x3 : Int32) : Option (Unit × ph_T) :=
  @ite _ (Γ x0 = .inr 12) _ (
  Option.bind (φ.2.2 x0 86) fun a20 =>
  Option.bind (gA Γ a20 0) fun N21 =>
  Option.bind (ix x1 N21) fun k22 =>
  if (φ.1 a20 k22) = 0 then
    Option.bind (f_Ref_goes Γ φ x0 (x2 + (0 : Int32)) x3) fun q23 =>
    if q23.1 = 0 then
      f_Ref_go_L171 Γ  q23.2 x0 x1 x2 x3
    else
      if x3 = 0 then
        Option.bind (q23.2.2.2 x0 35) fun a24 =>
        Option.bind (gA Γ a24 1) fun N25 =>
        Option.bind (ix (x2 + (0 : Int32)) N25) fun k26 =>
        f_Ref_go_L168 Γ  q23.2 x0 x1 x2 x3 (q23.2.2.1 a24 k26) x1 x0
      else
        Option.bind (q23.2.2.2 x0 100) fun a27 =>
        Option.bind (gA Γ a27 1) fun N28 =>
        Option.bind (ix (x2 + (0 : Int32)) N28) fun k29 =>
        f_Ref_go_L168 Γ  q23.2 x0 x1 x2 x3 (q23.2.2.1 a27 k29) x1 x0
  else
    f_Ref_go_L171 Γ  φ x0 x1 x2 x3
  ) none
set_option maxRecDepth 100000 in
set_option maxHeartbeats 4000000 in
theorem p_Ref_go_L123 {w : jw_T} (hw : jok w) {Γ : gm_T} {n : Nat} (hG : gd w Γ n)  {x : Bool} {φ : ph_T} {x0 : Nat} {x1 : Int32} {x2 : Int32} {x3 : Int32} {q : Unit × ph_T} (H : f_Ref_go_L123 Γ  φ x0 x1 x2 x3 = some q) : J w M_Ref_go 123 [some (.ref x0), some (.int x1), some (.int x2), some (.int x3)] [] (pic Γ φ) n x 0 0 (fq Γ n (.inl none) q.2) := by
  unfold f_Ref_go_L123 at H
  refine J_aload_n d_Ref_go_123 rfl ?_
  have g19 : Γ x0 = .inr 12 := by
    apply Classical.byContradiction
    intro q9
    rw [if_neg q9] at H
    cases H
  rw [if_pos g19] at H
  refine F_getR (ci := 12) (k := 86) hG (cf_Ref hw) (fl_Ref_238 hw) (by decide) (by decide) rfl d_Ref_go_124 g19 ?_
  refine J_iload_n d_Ref_go_127 rfl ?_
  obtain ⟨a20, ha20, H⟩ := Option.bind_eq_some_iff.mp H
  rw [j_rf ha20]
  obtain ⟨N21, hN21, H⟩ := Option.bind_eq_some_iff.mp H
  obtain ⟨k22, hk22, H⟩ := Option.bind_eq_some_iff.mp H
  refine F_iald k22 hw hG d_Ref_go_128 (gA_some hN21) (ix_some hk22) ?_
  refine J_if_ne (tgt := 171) d_Ref_go_129 (by decide) ?_ ?_
  · intro c32
    rw [if_neg c32] at H
    refine J.drop [true, true, true, true] rfl ?_
    exact p_Ref_go_L171 hw hG  H
  · intro c32
    rw [if_pos c32] at H
    refine J_aload_n d_Ref_go_132 rfl ?_
    refine J_iload_n d_Ref_go_133 rfl ?_
    refine J_iconst (v := 0) d_Ref_go_134 (by decide) ?_
    refine J_iadd d_Ref_go_135 ?_
    refine J_iload_n d_Ref_go_136 rfl ?_
    obtain ⟨q23, hq23, H⟩ := Option.bind_eq_some_iff.mp H
    refine J_callV (kc := 0) (ks := 0) (kc' := 0) (ks' := 0) (a := x0) (ci := 12) (as := [.int (x2 + (0 : Int32)), .int x3]) (st := []) (mf_Ref_goes hw) (mv_Ref_449 hw) d_Ref_go_137 ln_Ref_goes (by decide) (by first | exact Nat.le_of_ble_eq_true rfl | (simp only [List.map_cons, List.map_nil, List.sum_cons, List.sum_nil, va_rf_cat]; exact Nat.le_of_ble_eq_true rfl)) rfl ((hG _).1 _ g19 (by decide)).1 ((hG _).1 _ g19 (by decide)).2 (by unfold pic; rw [g19]; rfl) (jcl_at hw rfl) rfl (p_Ref_goes hw hG hq23) ?_ (fun E h' n' x' e1 => by cases e1.1)
    intro v9 h9 n9 x9 e9
    obtain ⟨e91, e92, e93⟩ := e9
    cases e91
    subst e92
    subst e93
    clear x
    rename Bool => x
    show J _ _ _ _ (_ :: _) _ _ _ _ _ _
    refine J_if_eq (tgt := 171) d_Ref_go_140 (by decide) ?_ ?_
    · intro c31
      rw [if_pos c31] at H
      refine J.drop [true, true, true, true] rfl ?_
      exact p_Ref_go_L171 hw hG  H
    · intro c31
      rw [if_neg c31] at H
      refine J_aload_n d_Ref_go_143 rfl ?_
      refine J_iload_n d_Ref_go_144 rfl ?_
      refine J_iload_n d_Ref_go_145 rfl ?_
      refine J_if_eq (tgt := 160) d_Ref_go_146 (by decide) ?_ ?_
      · intro c30
        rw [if_pos c30] at H
        refine J_aload_n d_Ref_go_160 rfl ?_
        refine F_getR (ci := 12) (k := 35) hG (cf_Ref hw) (fl_Ref_94 hw) (by decide) (by decide) rfl d_Ref_go_161 g19 ?_
        refine J_iload_n d_Ref_go_164 rfl ?_
        refine J_iconst (v := 0) d_Ref_go_165 (by decide) ?_
        refine J_iadd d_Ref_go_166 ?_
        obtain ⟨a24, ha24, H⟩ := Option.bind_eq_some_iff.mp H
        rw [j_rf ha24]
        obtain ⟨N25, hN25, H⟩ := Option.bind_eq_some_iff.mp H
        obtain ⟨k26, hk26, H⟩ := Option.bind_eq_some_iff.mp H
        refine F_lald k26 hw hG d_Ref_go_167 (gA_some hN25) (ix_some hk26) ?_
        refine J.drop [true, true, true, true] rfl ?_
        exact p_Ref_go_L168 hw hG  H
      · intro c30
        rw [if_neg c30] at H
        refine J_aload_n d_Ref_go_149 rfl ?_
        refine F_getR (ci := 12) (k := 100) hG (cf_Ref hw) (fl_Ref_280 hw) (by decide) (by decide) rfl d_Ref_go_150 g19 ?_
        refine J_iload_n d_Ref_go_153 rfl ?_
        refine J_iconst (v := 0) d_Ref_go_154 (by decide) ?_
        refine J_iadd d_Ref_go_155 ?_
        obtain ⟨a27, ha27, H⟩ := Option.bind_eq_some_iff.mp H
        rw [j_rf ha27]
        obtain ⟨N28, hN28, H⟩ := Option.bind_eq_some_iff.mp H
        obtain ⟨k29, hk29, H⟩ := Option.bind_eq_some_iff.mp H
        refine F_lald k29 hw hG d_Ref_go_156 (gA_some hN28) (ix_some hk29) ?_
        refine J_goto (tgt := 168) d_Ref_go_157 (by decide) ?_
        refine J.drop [true, true, true, true] rfl ?_
        exact p_Ref_go_L168 hw hG  H
def f_Ref_go_L120 (Γ : gm_T)  (φ : ph_T) (x0 : Nat) (x1 : Int32) (x2 : Int32) (x3 : Int32) (y0 : Int64) (y1 : Int32) (y2 : Nat) : Option (Unit × ph_T) :=
  @ite _ (Γ y2 = .inr 12) _ (
  Option.bind (f_Ref_goAr Γ φ y2 y1 y0) fun q34 =>
  f_Ref_go_L123 Γ  q34.2 x0 x1 x2 x3
  ) none
set_option maxRecDepth 100000 in
set_option maxHeartbeats 4000000 in
theorem p_Ref_go_L120 {w : jw_T} (hw : jok w) {Γ : gm_T} {n : Nat} (hG : gd w Γ n)  {x : Bool} {φ : ph_T} {x0 : Nat} {x1 : Int32} {x2 : Int32} {x3 : Int32} {y0 : Int64} {y1 : Int32} {y2 : Nat} {q : Unit × ph_T} (H : f_Ref_go_L120 Γ  φ x0 x1 x2 x3 y0 y1 y2 = some q) : J w M_Ref_go 120 [some (.ref x0), some (.int x1), some (.int x2), some (.int x3)] [.long y0, .int y1, .ref y2] (pic Γ φ) n x 0 0 (fq Γ n (.inl none) q.2) := by
  unfold f_Ref_go_L120 at H
  have g33 : Γ y2 = .inr 12 := by
    apply Classical.byContradiction
    intro q9
    rw [if_neg q9] at H
    cases H
  rw [if_pos g33] at H
  obtain ⟨q34, hq34, H⟩ := Option.bind_eq_some_iff.mp H
  refine J_callV (kc := 0) (ks := 0) (kc' := 0) (ks' := 0) (a := y2) (ci := 12) (as := [.int y1, .long y0]) (st := []) (mf_Ref_goAr hw) (mv_Ref_459 hw) d_Ref_go_120 ln_Ref_goAr (by decide) (by first | exact Nat.le_of_ble_eq_true rfl | (simp only [List.map_cons, List.map_nil, List.sum_cons, List.sum_nil, va_rf_cat]; exact Nat.le_of_ble_eq_true rfl)) rfl ((hG _).1 _ g33 (by decide)).1 ((hG _).1 _ g33 (by decide)).2 (by unfold pic; rw [g33]; rfl) (jcl_at hw rfl) rfl (p_Ref_goAr hw hG hq34) ?_ (fun E h' n' x' e1 => by cases e1.1)
  intro v9 h9 n9 x9 e9
  obtain ⟨e91, e92, e93⟩ := e9
  cases e91
  subst e92
  subst e93
  clear x
  rename Bool => x
  show J _ _ _ _ [] _ _ _ _ _ _
  refine J.drop [true, true, true, true] rfl ?_
  exact p_Ref_go_L123 hw hG  H
def f_Ref_go_L84 (Γ : gm_T)  (φ : ph_T) (x0 : Nat) (x1 : Int32) (x2 : Int32) (x3 : Int32) : Option (Unit × ph_T) :=
  @ite _ (Γ x0 = .inr 12) _ (
  Option.bind (f_Ref_goes Γ φ x0 (x2 + (3 : Int32)) x3) fun q36 =>
  if q36.1 = 0 then
    f_Ref_go_L123 Γ  q36.2 x0 x1 x2 x3
  else
    if x3 = 0 then
      Option.bind (q36.2.2.2 x0 35) fun a37 =>
      Option.bind (gA Γ a37 1) fun N38 =>
      Option.bind (ix (x2 + (3 : Int32)) N38) fun k39 =>
      f_Ref_go_L120 Γ  q36.2 x0 x1 x2 x3 (q36.2.2.1 a37 k39) x1 x0
    else
      Option.bind (q36.2.2.2 x0 100) fun a40 =>
      Option.bind (gA Γ a40 1) fun N41 =>
      Option.bind (ix (x2 + (3 : Int32)) N41) fun k42 =>
      f_Ref_go_L120 Γ  q36.2 x0 x1 x2 x3 (q36.2.2.1 a40 k42) x1 x0
  ) none
set_option maxRecDepth 100000 in
set_option maxHeartbeats 4000000 in
theorem p_Ref_go_L84 {w : jw_T} (hw : jok w) {Γ : gm_T} {n : Nat} (hG : gd w Γ n)  {x : Bool} {φ : ph_T} {x0 : Nat} {x1 : Int32} {x2 : Int32} {x3 : Int32} {q : Unit × ph_T} (H : f_Ref_go_L84 Γ  φ x0 x1 x2 x3 = some q) : J w M_Ref_go 84 [some (.ref x0), some (.int x1), some (.int x2), some (.int x3)] [] (pic Γ φ) n x 0 0 (fq Γ n (.inl none) q.2) := by
  unfold f_Ref_go_L84 at H
  refine J_aload_n d_Ref_go_84 rfl ?_
  refine J_iload_n d_Ref_go_85 rfl ?_
  refine J_iconst (v := 3) d_Ref_go_86 (by decide) ?_
  refine J_iadd d_Ref_go_87 ?_
  refine J_iload_n d_Ref_go_88 rfl ?_
  have g35 : Γ x0 = .inr 12 := by
    apply Classical.byContradiction
    intro q9
    rw [if_neg q9] at H
    cases H
  rw [if_pos g35] at H
  obtain ⟨q36, hq36, H⟩ := Option.bind_eq_some_iff.mp H
  refine J_callV (kc := 0) (ks := 0) (kc' := 0) (ks' := 0) (a := x0) (ci := 12) (as := [.int (x2 + (3 : Int32)), .int x3]) (st := []) (mf_Ref_goes hw) (mv_Ref_449 hw) d_Ref_go_89 ln_Ref_goes (by decide) (by first | exact Nat.le_of_ble_eq_true rfl | (simp only [List.map_cons, List.map_nil, List.sum_cons, List.sum_nil, va_rf_cat]; exact Nat.le_of_ble_eq_true rfl)) rfl ((hG _).1 _ g35 (by decide)).1 ((hG _).1 _ g35 (by decide)).2 (by unfold pic; rw [g35]; rfl) (jcl_at hw rfl) rfl (p_Ref_goes hw hG hq36) ?_ (fun E h' n' x' e1 => by cases e1.1)
  intro v9 h9 n9 x9 e9
  obtain ⟨e91, e92, e93⟩ := e9
  cases e91
  subst e92
  subst e93
  clear x
  rename Bool => x
  show J _ _ _ _ (_ :: _) _ _ _ _ _ _
  refine J_if_eq (tgt := 123) d_Ref_go_92 (by decide) ?_ ?_
  · intro c44
    rw [if_pos c44] at H
    refine J.drop [true, true, true, true] rfl ?_
    exact p_Ref_go_L123 hw hG  H
  · intro c44
    rw [if_neg c44] at H
    refine J_aload_n d_Ref_go_95 rfl ?_
    refine J_iload_n d_Ref_go_96 rfl ?_
    refine J_iload_n d_Ref_go_97 rfl ?_
    refine J_if_eq (tgt := 112) d_Ref_go_98 (by decide) ?_ ?_
    · intro c43
      rw [if_pos c43] at H
      refine J_aload_n d_Ref_go_112 rfl ?_
      refine F_getR (ci := 12) (k := 35) hG (cf_Ref hw) (fl_Ref_94 hw) (by decide) (by decide) rfl d_Ref_go_113 g35 ?_
      refine J_iload_n d_Ref_go_116 rfl ?_
      refine J_iconst (v := 3) d_Ref_go_117 (by decide) ?_
      refine J_iadd d_Ref_go_118 ?_
      obtain ⟨a37, ha37, H⟩ := Option.bind_eq_some_iff.mp H
      rw [j_rf ha37]
      obtain ⟨N38, hN38, H⟩ := Option.bind_eq_some_iff.mp H
      obtain ⟨k39, hk39, H⟩ := Option.bind_eq_some_iff.mp H
      refine F_lald k39 hw hG d_Ref_go_119 (gA_some hN38) (ix_some hk39) ?_
      refine J.drop [true, true, true, true] rfl ?_
      exact p_Ref_go_L120 hw hG  H
    · intro c43
      rw [if_neg c43] at H
      refine J_aload_n d_Ref_go_101 rfl ?_
      refine F_getR (ci := 12) (k := 100) hG (cf_Ref hw) (fl_Ref_280 hw) (by decide) (by decide) rfl d_Ref_go_102 g35 ?_
      refine J_iload_n d_Ref_go_105 rfl ?_
      refine J_iconst (v := 3) d_Ref_go_106 (by decide) ?_
      refine J_iadd d_Ref_go_107 ?_
      obtain ⟨a40, ha40, H⟩ := Option.bind_eq_some_iff.mp H
      rw [j_rf ha40]
      obtain ⟨N41, hN41, H⟩ := Option.bind_eq_some_iff.mp H
      obtain ⟨k42, hk42, H⟩ := Option.bind_eq_some_iff.mp H
      refine F_lald k42 hw hG d_Ref_go_108 (gA_some hN41) (ix_some hk42) ?_
      refine J_goto (tgt := 120) d_Ref_go_109 (by decide) ?_
      refine J.drop [true, true, true, true] rfl ?_
      exact p_Ref_go_L120 hw hG  H
def f_Ref_go_L78 (Γ : gm_T)  (φ : ph_T) (x0 : Nat) (x1 : Int32) (x2 : Int32) (x3 : Int32) (y0 : Int32) (y1 : Int32) (y2 : Nat) : Option (Unit × ph_T) :=
  @ite _ (Γ y2 = .inr 12) _ (
  Option.bind (f_Ref_goR Γ φ y2 y1 (y0 &&& (63 : Int32))) fun q46 =>
  f_Ref_go_L84 Γ  q46.2 x0 x1 x2 x3
  ) none
set_option maxRecDepth 100000 in
set_option maxHeartbeats 4000000 in
theorem p_Ref_go_L78 {w : jw_T} (hw : jok w) {Γ : gm_T} {n : Nat} (hG : gd w Γ n)  {x : Bool} {φ : ph_T} {x0 : Nat} {x1 : Int32} {x2 : Int32} {x3 : Int32} {y0 : Int32} {y1 : Int32} {y2 : Nat} {q : Unit × ph_T} (H : f_Ref_go_L78 Γ  φ x0 x1 x2 x3 y0 y1 y2 = some q) : J w M_Ref_go 78 [some (.ref x0), some (.int x1), some (.int x2), some (.int x3)] [.int y0, .int y1, .ref y2] (pic Γ φ) n x 0 0 (fq Γ n (.inl none) q.2) := by
  unfold f_Ref_go_L78 at H
  refine J_bipush (v := 63) d_Ref_go_78 (by decide) ?_
  refine J_iand d_Ref_go_80 ?_
  have g45 : Γ y2 = .inr 12 := by
    apply Classical.byContradiction
    intro q9
    rw [if_neg q9] at H
    cases H
  rw [if_pos g45] at H
  obtain ⟨q46, hq46, H⟩ := Option.bind_eq_some_iff.mp H
  refine J_callV (kc := 0) (ks := 0) (kc' := 0) (ks' := 0) (a := y2) (ci := 12) (as := [.int y1, .int (y0 &&& (63 : Int32))]) (st := []) (mf_Ref_goR hw) (mv_Ref_456 hw) d_Ref_go_81 ln_Ref_goR (by decide) (by first | exact Nat.le_of_ble_eq_true rfl | (simp only [List.map_cons, List.map_nil, List.sum_cons, List.sum_nil, va_rf_cat]; exact Nat.le_of_ble_eq_true rfl)) rfl ((hG _).1 _ g45 (by decide)).1 ((hG _).1 _ g45 (by decide)).2 (by unfold pic; rw [g45]; rfl) (jcl_at hw rfl) rfl (p_Ref_goR hw hG hq46) ?_ (fun E h' n' x' e1 => by cases e1.1)
  intro v9 h9 n9 x9 e9
  obtain ⟨e91, e92, e93⟩ := e9
  cases e91
  subst e92
  subst e93
  clear x
  rename Bool => x
  show J _ _ _ _ [] _ _ _ _ _ _
  refine J.drop [true, true, true, true] rfl ?_
  exact p_Ref_go_L84 hw hG  H
def f_Ref_go_L42 (Γ : gm_T)  (φ : ph_T) (x0 : Nat) (x1 : Int32) (x2 : Int32) (x3 : Int32) : Option (Unit × ph_T) :=
  @ite _ (Γ x0 = .inr 12) _ (
  Option.bind (f_Ref_goes Γ φ x0 (x2 + (4 : Int32)) x3) fun q48 =>
  if q48.1 = 0 then
    f_Ref_go_L84 Γ  q48.2 x0 x1 x2 x3
  else
    if x3 = 0 then
      Option.bind (q48.2.2.2 x0 36) fun a49 =>
      Option.bind (gA Γ a49 0) fun N50 =>
      Option.bind (ix (x2 + (4 : Int32)) N50) fun k51 =>
      f_Ref_go_L78 Γ  q48.2 x0 x1 x2 x3 (q48.2.1 a49 k51) x1 x0
    else
      Option.bind (q48.2.2.2 x0 101) fun a52 =>
      Option.bind (gA Γ a52 0) fun N53 =>
      Option.bind (ix (x2 + (4 : Int32)) N53) fun k54 =>
      f_Ref_go_L78 Γ  q48.2 x0 x1 x2 x3 (q48.2.1 a52 k54) x1 x0
  ) none
set_option maxRecDepth 100000 in
set_option maxHeartbeats 4000000 in
theorem p_Ref_go_L42 {w : jw_T} (hw : jok w) {Γ : gm_T} {n : Nat} (hG : gd w Γ n)  {x : Bool} {φ : ph_T} {x0 : Nat} {x1 : Int32} {x2 : Int32} {x3 : Int32} {q : Unit × ph_T} (H : f_Ref_go_L42 Γ  φ x0 x1 x2 x3 = some q) : J w M_Ref_go 42 [some (.ref x0), some (.int x1), some (.int x2), some (.int x3)] [] (pic Γ φ) n x 0 0 (fq Γ n (.inl none) q.2) := by
  unfold f_Ref_go_L42 at H
  refine J_aload_n d_Ref_go_42 rfl ?_
  refine J_iload_n d_Ref_go_43 rfl ?_
  refine J_iconst (v := 4) d_Ref_go_44 (by decide) ?_
  refine J_iadd d_Ref_go_45 ?_
  refine J_iload_n d_Ref_go_46 rfl ?_
  have g47 : Γ x0 = .inr 12 := by
    apply Classical.byContradiction
    intro q9
    rw [if_neg q9] at H
    cases H
  rw [if_pos g47] at H
  obtain ⟨q48, hq48, H⟩ := Option.bind_eq_some_iff.mp H
  refine J_callV (kc := 0) (ks := 0) (kc' := 0) (ks' := 0) (a := x0) (ci := 12) (as := [.int (x2 + (4 : Int32)), .int x3]) (st := []) (mf_Ref_goes hw) (mv_Ref_449 hw) d_Ref_go_47 ln_Ref_goes (by decide) (by first | exact Nat.le_of_ble_eq_true rfl | (simp only [List.map_cons, List.map_nil, List.sum_cons, List.sum_nil, va_rf_cat]; exact Nat.le_of_ble_eq_true rfl)) rfl ((hG _).1 _ g47 (by decide)).1 ((hG _).1 _ g47 (by decide)).2 (by unfold pic; rw [g47]; rfl) (jcl_at hw rfl) rfl (p_Ref_goes hw hG hq48) ?_ (fun E h' n' x' e1 => by cases e1.1)
  intro v9 h9 n9 x9 e9
  obtain ⟨e91, e92, e93⟩ := e9
  cases e91
  subst e92
  subst e93
  clear x
  rename Bool => x
  show J _ _ _ _ (_ :: _) _ _ _ _ _ _
  refine J_if_eq (tgt := 84) d_Ref_go_50 (by decide) ?_ ?_
  · intro c56
    rw [if_pos c56] at H
    refine J.drop [true, true, true, true] rfl ?_
    exact p_Ref_go_L84 hw hG  H
  · intro c56
    rw [if_neg c56] at H
    refine J_aload_n d_Ref_go_53 rfl ?_
    refine J_iload_n d_Ref_go_54 rfl ?_
    refine J_iload_n d_Ref_go_55 rfl ?_
    refine J_if_eq (tgt := 70) d_Ref_go_56 (by decide) ?_ ?_
    · intro c55
      rw [if_pos c55] at H
      refine J_aload_n d_Ref_go_70 rfl ?_
      refine F_getR (ci := 12) (k := 36) hG (cf_Ref hw) (fl_Ref_97 hw) (by decide) (by decide) rfl d_Ref_go_71 g47 ?_
      refine J_iload_n d_Ref_go_74 rfl ?_
      refine J_iconst (v := 4) d_Ref_go_75 (by decide) ?_
      refine J_iadd d_Ref_go_76 ?_
      obtain ⟨a49, ha49, H⟩ := Option.bind_eq_some_iff.mp H
      rw [j_rf ha49]
      obtain ⟨N50, hN50, H⟩ := Option.bind_eq_some_iff.mp H
      obtain ⟨k51, hk51, H⟩ := Option.bind_eq_some_iff.mp H
      refine F_iald k51 hw hG d_Ref_go_77 (gA_some hN50) (ix_some hk51) ?_
      refine J.drop [true, true, true, true] rfl ?_
      exact p_Ref_go_L78 hw hG  H
    · intro c55
      rw [if_neg c55] at H
      refine J_aload_n d_Ref_go_59 rfl ?_
      refine F_getR (ci := 12) (k := 101) hG (cf_Ref hw) (fl_Ref_283 hw) (by decide) (by decide) rfl d_Ref_go_60 g47 ?_
      refine J_iload_n d_Ref_go_63 rfl ?_
      refine J_iconst (v := 4) d_Ref_go_64 (by decide) ?_
      refine J_iadd d_Ref_go_65 ?_
      obtain ⟨a52, ha52, H⟩ := Option.bind_eq_some_iff.mp H
      rw [j_rf ha52]
      obtain ⟨N53, hN53, H⟩ := Option.bind_eq_some_iff.mp H
      obtain ⟨k54, hk54, H⟩ := Option.bind_eq_some_iff.mp H
      refine F_iald k54 hw hG d_Ref_go_66 (gA_some hN53) (ix_some hk54) ?_
      refine J_goto (tgt := 78) d_Ref_go_67 (by decide) ?_
      refine J.drop [true, true, true, true] rfl ?_
      exact p_Ref_go_L78 hw hG  H
def f_Ref_go_L36 (Γ : gm_T)  (φ : ph_T) (x0 : Nat) (x1 : Int32) (x2 : Int32) (x3 : Int32) (y0 : Int32) (y1 : Int32) (y2 : Nat) : Option (Unit × ph_T) :=
  @ite _ (Γ y2 = .inr 12) _ (
  Option.bind (f_Ref_goB Γ φ y2 y1 (y0 &&& (63 : Int32))) fun q58 =>
  f_Ref_go_L42 Γ  q58.2 x0 x1 x2 x3
  ) none
set_option maxRecDepth 100000 in
set_option maxHeartbeats 4000000 in
theorem p_Ref_go_L36 {w : jw_T} (hw : jok w) {Γ : gm_T} {n : Nat} (hG : gd w Γ n)  {x : Bool} {φ : ph_T} {x0 : Nat} {x1 : Int32} {x2 : Int32} {x3 : Int32} {y0 : Int32} {y1 : Int32} {y2 : Nat} {q : Unit × ph_T} (H : f_Ref_go_L36 Γ  φ x0 x1 x2 x3 y0 y1 y2 = some q) : J w M_Ref_go 36 [some (.ref x0), some (.int x1), some (.int x2), some (.int x3)] [.int y0, .int y1, .ref y2] (pic Γ φ) n x 0 0 (fq Γ n (.inl none) q.2) := by
  unfold f_Ref_go_L36 at H
  refine J_bipush (v := 63) d_Ref_go_36 (by decide) ?_
  refine J_iand d_Ref_go_38 ?_
  have g57 : Γ y2 = .inr 12 := by
    apply Classical.byContradiction
    intro q9
    rw [if_neg q9] at H
    cases H
  rw [if_pos g57] at H
  obtain ⟨q58, hq58, H⟩ := Option.bind_eq_some_iff.mp H
  refine J_callV (kc := 0) (ks := 0) (kc' := 0) (ks' := 0) (a := y2) (ci := 12) (as := [.int y1, .int (y0 &&& (63 : Int32))]) (st := []) (mf_Ref_goB hw) (mv_Ref_453 hw) d_Ref_go_39 ln_Ref_goB (by decide) (by first | exact Nat.le_of_ble_eq_true rfl | (simp only [List.map_cons, List.map_nil, List.sum_cons, List.sum_nil, va_rf_cat]; exact Nat.le_of_ble_eq_true rfl)) rfl ((hG _).1 _ g57 (by decide)).1 ((hG _).1 _ g57 (by decide)).2 (by unfold pic; rw [g57]; rfl) (jcl_at hw rfl) rfl (p_Ref_goB hw hG hq58) ?_ (fun E h' n' x' e1 => by cases e1.1)
  intro v9 h9 n9 x9 e9
  obtain ⟨e91, e92, e93⟩ := e9
  cases e91
  subst e92
  subst e93
  clear x
  rename Bool => x
  show J _ _ _ _ [] _ _ _ _ _ _
  refine J.drop [true, true, true, true] rfl ?_
  exact p_Ref_go_L42 hw hG  H
def f_Ref_go (Γ : gm_T) (φ : ph_T) (this : Nat) (p0 : Int32) (p1 : Int32) (p2 : Int32) : Option (Unit × ph_T) :=
  @ite _ (Γ this = .inr 12) _ (
  Option.bind (f_Ref_goes Γ φ this (p1 + (2 : Int32)) p2) fun q60 =>
  if q60.1 = 0 then
    f_Ref_go_L42 Γ  q60.2 this p0 p1 p2
  else
    if p2 = 0 then
      Option.bind (q60.2.2.2 this 36) fun a61 =>
      Option.bind (gA Γ a61 0) fun N62 =>
      Option.bind (ix (p1 + (2 : Int32)) N62) fun k63 =>
      f_Ref_go_L36 Γ  q60.2 this p0 p1 p2 (q60.2.1 a61 k63) p0 this
    else
      Option.bind (q60.2.2.2 this 101) fun a64 =>
      Option.bind (gA Γ a64 0) fun N65 =>
      Option.bind (ix (p1 + (2 : Int32)) N65) fun k66 =>
      f_Ref_go_L36 Γ  q60.2 this p0 p1 p2 (q60.2.1 a64 k66) p0 this
  ) none
set_option maxRecDepth 100000 in
set_option maxHeartbeats 4000000 in
theorem p_Ref_go {w : jw_T} (hw : jok w) {Γ : gm_T} {n : Nat} (hG : gd w Γ n) {x : Bool} {φ : ph_T} {this : Nat} {p0 : Int32} {p1 : Int32} {p2 : Int32} {q : Unit × ph_T} (H : f_Ref_go Γ φ this p0 p1 p2 = some q) : jc w M_Ref_go [.ref this, .int p0, .int p1, .int p2] (pic Γ φ) n x 0 0 (fq Γ n (.inl none) q.2) := by
  refine jc.of (by simp only [jent_r, jent_i, jent_l, jent_a, jent_0]; exact Nat.le_of_ble_eq_true rfl) ?_
  have hls : jents [.ref this, .int p0, .int p1, .int p2] (jm_nL M_Ref_go) = [some (.ref this), some (.int p0), some (.int p1), some (.int p2)] := by simp only [jents, jent_r, jent_i, jent_l, jent_a, jent_0]; rfl
  rw [hls]
  clear hls
  unfold f_Ref_go at H
  refine J_aload_n d_Ref_go_0 rfl ?_
  refine J_iload_n d_Ref_go_1 rfl ?_
  refine J_iconst (v := 2) d_Ref_go_2 (by decide) ?_
  refine J_iadd d_Ref_go_3 ?_
  refine J_iload_n d_Ref_go_4 rfl ?_
  have g59 : Γ this = .inr 12 := by
    apply Classical.byContradiction
    intro q9
    rw [if_neg q9] at H
    cases H
  rw [if_pos g59] at H
  obtain ⟨q60, hq60, H⟩ := Option.bind_eq_some_iff.mp H
  refine J_callV (kc := 0) (ks := 0) (kc' := 0) (ks' := 0) (a := this) (ci := 12) (as := [.int (p1 + (2 : Int32)), .int p2]) (st := []) (mf_Ref_goes hw) (mv_Ref_449 hw) d_Ref_go_5 ln_Ref_goes (by decide) (by first | exact Nat.le_of_ble_eq_true rfl | (simp only [List.map_cons, List.map_nil, List.sum_cons, List.sum_nil, va_rf_cat]; exact Nat.le_of_ble_eq_true rfl)) rfl ((hG _).1 _ g59 (by decide)).1 ((hG _).1 _ g59 (by decide)).2 (by unfold pic; rw [g59]; rfl) (jcl_at hw rfl) rfl (p_Ref_goes hw hG hq60) ?_ (fun E h' n' x' e1 => by cases e1.1)
  intro v9 h9 n9 x9 e9
  obtain ⟨e91, e92, e93⟩ := e9
  cases e91
  subst e92
  subst e93
  clear x
  rename Bool => x
  show J _ _ _ _ (_ :: _) _ _ _ _ _ _
  refine J_if_eq (tgt := 42) d_Ref_go_8 (by decide) ?_ ?_
  · intro c68
    rw [if_pos c68] at H
    refine J.drop [true, true, true, true] rfl ?_
    exact p_Ref_go_L42 hw hG  H
  · intro c68
    rw [if_neg c68] at H
    refine J_aload_n d_Ref_go_11 rfl ?_
    refine J_iload_n d_Ref_go_12 rfl ?_
    refine J_iload_n d_Ref_go_13 rfl ?_
    refine J_if_eq (tgt := 28) d_Ref_go_14 (by decide) ?_ ?_
    · intro c67
      rw [if_pos c67] at H
      refine J_aload_n d_Ref_go_28 rfl ?_
      refine F_getR (ci := 12) (k := 36) hG (cf_Ref hw) (fl_Ref_97 hw) (by decide) (by decide) rfl d_Ref_go_29 g59 ?_
      refine J_iload_n d_Ref_go_32 rfl ?_
      refine J_iconst (v := 2) d_Ref_go_33 (by decide) ?_
      refine J_iadd d_Ref_go_34 ?_
      obtain ⟨a61, ha61, H⟩ := Option.bind_eq_some_iff.mp H
      rw [j_rf ha61]
      obtain ⟨N62, hN62, H⟩ := Option.bind_eq_some_iff.mp H
      obtain ⟨k63, hk63, H⟩ := Option.bind_eq_some_iff.mp H
      refine F_iald k63 hw hG d_Ref_go_35 (gA_some hN62) (ix_some hk63) ?_
      refine J.drop [true, true, true, true] rfl ?_
      exact p_Ref_go_L36 hw hG  H
    · intro c67
      rw [if_neg c67] at H
      refine J_aload_n d_Ref_go_17 rfl ?_
      refine F_getR (ci := 12) (k := 101) hG (cf_Ref hw) (fl_Ref_283 hw) (by decide) (by decide) rfl d_Ref_go_18 g59 ?_
      refine J_iload_n d_Ref_go_21 rfl ?_
      refine J_iconst (v := 2) d_Ref_go_22 (by decide) ?_
      refine J_iadd d_Ref_go_23 ?_
      obtain ⟨a64, ha64, H⟩ := Option.bind_eq_some_iff.mp H
      rw [j_rf ha64]
      obtain ⟨N65, hN65, H⟩ := Option.bind_eq_some_iff.mp H
      obtain ⟨k66, hk66, H⟩ := Option.bind_eq_some_iff.mp H
      refine F_iald k66 hw hG d_Ref_go_24 (gA_some hN65) (ix_some hk66) ?_
      refine J_goto (tgt := 36) d_Ref_go_25 (by decide) ?_
      refine J.drop [true, true, true, true] rfl ?_
      exact p_Ref_go_L36 hw hG  H
