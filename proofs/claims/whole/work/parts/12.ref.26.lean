theorem ln_Ref_workDefault : (parseMethodDescriptor y_Ref_workDefault.desc).map (fun q => q.parameters.length) = some 0 := by decide +kernel
def f_Ref_workDefault_L249 (Γ : gm_T)  (φ : ph_T) : Option (Unit × ph_T) :=
  some ((), φ)
set_option maxRecDepth 100000 in
set_option maxHeartbeats 4000000 in
theorem p_Ref_workDefault_L249 {w : jw_T} (hw : jok w) {Γ : gm_T} {n : Nat} (hG : gd w Γ n)  {x : Bool} {φ : ph_T} {q : Unit × ph_T} (H : f_Ref_workDefault_L249 Γ  φ  = some q) : J w M_Ref_workDefault 249 [none, none, none, none, none, none, none, none, none] [] (pic Γ φ) n x 0 0 (fq Γ n (.inl none) q.2) := by
  unfold f_Ref_workDefault_L249 at H
  have H := Option.some.inj H
  subst H
  exact J_vret (st := []) d_Ref_workDefault_249 rfl ⟨rfl, rfl, rfl⟩
def f_Ref_workDefault_L225 (Γ : gm_T)  (φ : ph_T) (x0 : Nat) (x4 : Int32) (x8 : Int32) (y0 : Int32) (y1 : Int32) (y2 : Int64) (y3 : Int32) (y4 : Nat) : Option (Unit × ph_T) :=
  @ite _ (Γ x0 = .inr 12) _ (
  @ite _ (Γ y4 = .inr 12) _ (
  Option.bind (f_Ref_put Γ φ y4 y3 y2 (y1 + y0) (φ.1 x0 6)) fun q3 =>
  if x8 = 0 then
    f_Ref_workDefault_L249 Γ  q3.2 
  else
    Option.bind (f_Ref_take Γ (uI q3.2 x0 57 (0 : Int32)) x0 x4) fun q4 =>
    f_Ref_workDefault_L249 Γ  q4.2 
  ) none
  ) none
set_option maxRecDepth 100000 in
set_option maxHeartbeats 4000000 in
theorem p_Ref_workDefault_L225 {w : jw_T} (hw : jok w) {Γ : gm_T} {n : Nat} (hG : gd w Γ n)  {x : Bool} {φ : ph_T} {x0 : Nat} {x4 : Int32} {x8 : Int32} {y0 : Int32} {y1 : Int32} {y2 : Int64} {y3 : Int32} {y4 : Nat} {q : Unit × ph_T} (H : f_Ref_workDefault_L225 Γ  φ x0 x4 x8 y0 y1 y2 y3 y4 = some q) : J w M_Ref_workDefault 225 [some (.ref x0), none, none, none, some (.int x4), none, none, none, some (.int x8)] [.int y0, .int y1, .long y2, .int y3, .ref y4] (pic Γ φ) n x 0 0 (fq Γ n (.inl none) q.2) := by
  unfold f_Ref_workDefault_L225 at H
  refine J_iadd d_Ref_workDefault_225 ?_
  refine J_aload_n d_Ref_workDefault_226 rfl ?_
  have g1 : Γ x0 = .inr 12 := by
    apply Classical.byContradiction
    intro q9
    rw [if_neg q9] at H
    cases H
  rw [if_pos g1] at H
  refine F_getI (ci := 12) (k := 6) hG (cf_Ref hw) (fl_Ref_348 hw) (by decide) (by decide) rfl d_Ref_workDefault_227 g1 ?_
  have g2 : Γ y4 = .inr 12 := by
    apply Classical.byContradiction
    intro q9
    rw [if_neg q9] at H
    cases H
  rw [if_pos g2] at H
  obtain ⟨q3, hq3, H⟩ := Option.bind_eq_some_iff.mp H
  refine J_callV (kc := 0) (ks := 0) (kc' := 0) (ks' := 0) (a := y4) (ci := 12) (as := [.int y3, .long y2, .int (y1 + y0), .int (φ.1 x0 6)]) (st := []) (mf_Ref_put hw) (mv_Ref_469 hw) d_Ref_workDefault_230 ln_Ref_put (by decide) (by first | exact Nat.le_of_ble_eq_true rfl | (simp only [List.map_cons, List.map_nil, List.sum_cons, List.sum_nil, va_rf_cat]; exact Nat.le_of_ble_eq_true rfl)) rfl ((hG _).1 _ g2 (by decide)).1 ((hG _).1 _ g2 (by decide)).2 (by unfold pic; rw [g2]; rfl) (jcl_at hw rfl) rfl (p_Ref_put hw hG hq3) ?_ (fun E h' n' x' e1 => by cases e1.1)
  intro v9 h9 n9 x9 e9
  obtain ⟨e91, e92, e93⟩ := e9
  cases e91
  subst e92
  subst e93
  clear x
  rename Bool => x
  show J _ _ _ _ [] _ _ _ _ _ _
  refine J_iload d_Ref_workDefault_233 rfl ?_
  refine J_if_eq (tgt := 249) d_Ref_workDefault_235 (by decide) ?_ ?_
  · intro c5
    rw [if_pos c5] at H
    refine J.drop [false, false, false, false, false, false, false, false, false] rfl ?_
    exact p_Ref_workDefault_L249 hw hG  H
  · intro c5
    rw [if_neg c5] at H
    refine J_aload_n d_Ref_workDefault_238 rfl ?_
    refine J_iconst (v := 0) d_Ref_workDefault_239 (by decide) ?_
    refine F_putI (ci := 12) (k := 57) hG (cf_Ref hw) (fl_Ref_553 hw) (by decide) (by decide) rfl d_Ref_workDefault_240 rfl rfl rfl g1 ?_
    refine J_aload_n d_Ref_workDefault_243 rfl ?_
    refine J_iload d_Ref_workDefault_244 rfl ?_
    obtain ⟨q4, hq4, H⟩ := Option.bind_eq_some_iff.mp H
    refine J_callV (kc := 0) (ks := 0) (kc' := 0) (ks' := 0) (a := x0) (ci := 12) (as := [.int x4]) (st := []) (mf_Ref_take hw) (mv_Ref_473 hw) d_Ref_workDefault_246 ln_Ref_take (by decide) (by first | exact Nat.le_of_ble_eq_true rfl | (simp only [List.map_cons, List.map_nil, List.sum_cons, List.sum_nil, va_rf_cat]; exact Nat.le_of_ble_eq_true rfl)) rfl ((hG _).1 _ g1 (by decide)).1 ((hG _).1 _ g1 (by decide)).2 (by unfold pic; rw [g1]; rfl) (jcl_at hw rfl) rfl (p_Ref_take hw hG hq4) ?_ (fun E h' n' x' e1 => by cases e1.1)
    intro v9 h9 n9 x9 e9
    obtain ⟨e91, e92, e93⟩ := e9
    cases e91
    subst e92
    subst e93
    clear x
    rename Bool => x
    show J _ _ _ _ [] _ _ _ _ _ _
    refine J.drop [false, false, false, false, false, false, false, false, false] rfl ?_
    exact p_Ref_workDefault_L249 hw hG  H
def f_Ref_workDefault_L198 (Γ : gm_T)  (φ : ph_T) (x0 : Nat) (x4 : Int32) (x5 : Int32) (x6 : Int64) (y0 : Int32) : Option (Unit × ph_T) :=
  Option.bind (f_Ref_idOf Γ φ x6) fun q6 =>
  if y0 = 0 then
    f_Ref_workDefault_L225 Γ  q6.2 x0 x4 y0 (0 : Int32) (q6.1 + (192 : Int32)) (0 : Int64) x5 x0
  else
    f_Ref_workDefault_L225 Γ  q6.2 x0 x4 y0 (256 : Int32) (q6.1 + (192 : Int32)) (0 : Int64) x5 x0
set_option maxRecDepth 100000 in
set_option maxHeartbeats 4000000 in
theorem p_Ref_workDefault_L198 {w : jw_T} (hw : jok w) {Γ : gm_T} {n : Nat} (hG : gd w Γ n)  {x : Bool} {φ : ph_T} {x0 : Nat} {x4 : Int32} {x5 : Int32} {x6 : Int64} {y0 : Int32} {q : Unit × ph_T} (H : f_Ref_workDefault_L198 Γ  φ x0 x4 x5 x6 y0 = some q) : J w M_Ref_workDefault 198 [some (.ref x0), none, none, none, some (.int x4), some (.int x5), some (.long x6), none, none] [.int y0] (pic Γ φ) n x 0 0 (fq Γ n (.inl none) q.2) := by
  unfold f_Ref_workDefault_L198 at H
  refine J_istore d_Ref_workDefault_198 (Nat.le_of_ble_eq_true rfl) ?_
  refine J.ls (ls' := [some (.ref x0), none, none, none, some (.int x4), some (.int x5), some (.long x6), none, some (.int y0)]) rfl ?_
  refine J_aload_n d_Ref_workDefault_200 rfl ?_
  refine J_iload d_Ref_workDefault_201 rfl ?_
  refine J_lconst (v := 0) d_Ref_workDefault_203 (by decide) ?_
  refine J_lload d_Ref_workDefault_204 rfl ?_
  obtain ⟨q6, hq6, H⟩ := Option.bind_eq_some_iff.mp H
  refine J_callS (kc := 0) (ks := 0) (kc' := 0) (ks' := 0) (as := [.long x6]) (st := [.long (0 : Int64), .int x5, .ref x0]) (mf_Ref_idOf hw) (ms_Ref_396 hw) d_Ref_workDefault_206 ln_Ref_idOf (by decide) (by first | exact Nat.le_of_ble_eq_true rfl | (simp only [List.map_cons, List.map_nil, List.sum_cons, List.sum_nil, va_rf_cat]; exact Nat.le_of_ble_eq_true rfl)) rfl (p_Ref_idOf hw hG hq6) ?_ (fun E h' n' x' e1 => by cases e1.1)
  intro v9 h9 n9 x9 e9
  obtain ⟨e91, e92, e93⟩ := e9
  cases e91
  subst e92
  subst e93
  clear x
  rename Bool => x
  show J _ _ _ _ (_ :: _) _ _ _ _ _ _
  refine J_sipush (v := 192) d_Ref_workDefault_209 (by decide) ?_
  refine J_iadd d_Ref_workDefault_212 ?_
  refine J_iload d_Ref_workDefault_213 rfl ?_
  refine J_if_eq (tgt := 224) d_Ref_workDefault_215 (by decide) ?_ ?_
  · intro c7
    rw [if_pos c7] at H
    refine J_iconst (v := 0) d_Ref_workDefault_224 (by decide) ?_
    refine J.drop [true, false, false, false, true, false, false, false, true] rfl ?_
    exact p_Ref_workDefault_L225 hw hG  H
  · intro c7
    rw [if_neg c7] at H
    refine J_sipush (v := 256) d_Ref_workDefault_218 (by decide) ?_
    refine J_goto (tgt := 225) d_Ref_workDefault_221 (by decide) ?_
    refine J.drop [true, false, false, false, true, false, false, false, true] rfl ?_
    exact p_Ref_workDefault_L225 hw hG  H
def f_Ref_workDefault_L117 (Γ : gm_T)  (φ : ph_T) (x0 : Nat) : Option (Unit × ph_T) :=
  @ite _ (Γ x0 = .inr 12) _ (
  Option.bind (f_Ref_rowOf Γ φ x0 (1 : Int32) (φ.1 x0 2) (3 : Int32)) fun q9 =>
  Option.bind (f_Ref_rowOf Γ q9.2 x0 (1 : Int32) (q9.2.1 x0 2) (4 : Int32)) fun q10 =>
  Option.bind (q10.2.2.2 x0 42) fun a11 =>
  Option.bind (gA Γ a11 0) fun N12 =>
  Option.bind (ix q9.1 N12) fun k13 =>
  if (q10.2.1 a11 k13) ≤ 0 then
    f_Ref_workDefault_L249 Γ  q10.2 
  else
    Option.bind (f_Ref_hasRoom Γ q10.2 x0 q10.1) fun q14 =>
    if q14.1 = 0 then
      f_Ref_workDefault_L249 Γ  q14.2 
    else
      Option.bind (q14.2.2.2 x0 39) fun a15 =>
      Option.bind (gA Γ a15 1) fun N16 =>
      Option.bind (ix ((4 : Int32) * q9.1) N16) fun k17 =>
      Option.bind (f_Ref_lengthOf Γ (uI q14.2 x0 57 ((q14.2.1 x0 57) + (1 : Int32))) (q14.2.2.1 a15 k17)) fun q18 =>
      if ((uI q14.2 x0 57 ((q14.2.1 x0 57) + (1 : Int32))).1 x0 57) = q18.1 then
        f_Ref_workDefault_L198 Γ  q18.2 x0 q9.1 q10.1 (q14.2.2.1 a15 k17) (1 : Int32)
      else
        f_Ref_workDefault_L198 Γ  q18.2 x0 q9.1 q10.1 (q14.2.2.1 a15 k17) (0 : Int32)
  ) none
set_option maxRecDepth 100000 in
set_option maxHeartbeats 4000000 in
theorem p_Ref_workDefault_L117 {w : jw_T} (hw : jok w) {Γ : gm_T} {n : Nat} (hG : gd w Γ n)  {x : Bool} {φ : ph_T} {x0 : Nat} {q : Unit × ph_T} (H : f_Ref_workDefault_L117 Γ  φ x0 = some q) : J w M_Ref_workDefault 117 [some (.ref x0), none, none, none, none, none, none, none, none] [] (pic Γ φ) n x 0 0 (fq Γ n (.inl none) q.2) := by
  unfold f_Ref_workDefault_L117 at H
  refine J_aload_n d_Ref_workDefault_117 rfl ?_
  refine J_iconst (v := 1) d_Ref_workDefault_118 (by decide) ?_
  refine J_aload_n d_Ref_workDefault_119 rfl ?_
  have g8 : Γ x0 = .inr 12 := by
    apply Classical.byContradiction
    intro q9
    rw [if_neg q9] at H
    cases H
  rw [if_pos g8] at H
  refine F_getI (ci := 12) (k := 2) hG (cf_Ref hw) (fl_Ref_294 hw) (by decide) (by decide) rfl d_Ref_workDefault_120 g8 ?_
  refine J_iconst (v := 3) d_Ref_workDefault_123 (by decide) ?_
  obtain ⟨q9, hq9, H⟩ := Option.bind_eq_some_iff.mp H
  refine J_callV (kc := 0) (ks := 0) (kc' := 0) (ks' := 0) (a := x0) (ci := 12) (as := [.int (1 : Int32), .int (φ.1 x0 2), .int (3 : Int32)]) (st := []) (mf_Ref_rowOf hw) (mv_Ref_388 hw) d_Ref_workDefault_124 ln_Ref_rowOf (by decide) (by first | exact Nat.le_of_ble_eq_true rfl | (simp only [List.map_cons, List.map_nil, List.sum_cons, List.sum_nil, va_rf_cat]; exact Nat.le_of_ble_eq_true rfl)) rfl ((hG _).1 _ g8 (by decide)).1 ((hG _).1 _ g8 (by decide)).2 (by unfold pic; rw [g8]; rfl) (jcl_at hw rfl) rfl (p_Ref_rowOf hw hG hq9) ?_ (fun E h' n' x' e1 => by cases e1.1)
  intro v9 h9 n9 x9 e9
  obtain ⟨e91, e92, e93⟩ := e9
  cases e91
  subst e92
  subst e93
  clear x
  rename Bool => x
  show J _ _ _ _ (_ :: _) _ _ _ _ _ _
  refine J_istore d_Ref_workDefault_127 (Nat.le_of_ble_eq_true rfl) ?_
  refine J.ls (ls' := [some (.ref x0), none, none, none, some (.int q9.1), none, none, none, none]) rfl ?_
  refine J_aload_n d_Ref_workDefault_129 rfl ?_
  refine J_iconst (v := 1) d_Ref_workDefault_130 (by decide) ?_
  refine J_aload_n d_Ref_workDefault_131 rfl ?_
  refine F_getI (ci := 12) (k := 2) hG (cf_Ref hw) (fl_Ref_294 hw) (by decide) (by decide) rfl d_Ref_workDefault_132 g8 ?_
  refine J_iconst (v := 4) d_Ref_workDefault_135 (by decide) ?_
  obtain ⟨q10, hq10, H⟩ := Option.bind_eq_some_iff.mp H
  refine J_callV (kc := 0) (ks := 0) (kc' := 0) (ks' := 0) (a := x0) (ci := 12) (as := [.int (1 : Int32), .int (q9.2.1 x0 2), .int (4 : Int32)]) (st := []) (mf_Ref_rowOf hw) (mv_Ref_388 hw) d_Ref_workDefault_136 ln_Ref_rowOf (by decide) (by first | exact Nat.le_of_ble_eq_true rfl | (simp only [List.map_cons, List.map_nil, List.sum_cons, List.sum_nil, va_rf_cat]; exact Nat.le_of_ble_eq_true rfl)) rfl ((hG _).1 _ g8 (by decide)).1 ((hG _).1 _ g8 (by decide)).2 (by unfold pic; rw [g8]; rfl) (jcl_at hw rfl) rfl (p_Ref_rowOf hw hG hq10) ?_ (fun E h' n' x' e1 => by cases e1.1)
  intro v9 h9 n9 x9 e9
  obtain ⟨e91, e92, e93⟩ := e9
  cases e91
  subst e92
  subst e93
  clear x
  rename Bool => x
  show J _ _ _ _ (_ :: _) _ _ _ _ _ _
  refine J_istore d_Ref_workDefault_139 (Nat.le_of_ble_eq_true rfl) ?_
  refine J.ls (ls' := [some (.ref x0), none, none, none, some (.int q9.1), some (.int q10.1), none, none, none]) rfl ?_
  refine J_aload_n d_Ref_workDefault_141 rfl ?_
  refine F_getR (ci := 12) (k := 42) hG (cf_Ref hw) (fl_Ref_115 hw) (by decide) (by decide) rfl d_Ref_workDefault_142 g8 ?_
  refine J_iload d_Ref_workDefault_145 rfl ?_
  obtain ⟨a11, ha11, H⟩ := Option.bind_eq_some_iff.mp H
  rw [j_rf ha11]
  obtain ⟨N12, hN12, H⟩ := Option.bind_eq_some_iff.mp H
  obtain ⟨k13, hk13, H⟩ := Option.bind_eq_some_iff.mp H
  refine F_iald k13 hw hG d_Ref_workDefault_147 (gA_some hN12) (ix_some hk13) ?_
  refine J_if_le (tgt := 249) d_Ref_workDefault_148 (by decide) ?_ ?_
  · intro c21
    rw [if_pos c21] at H
    refine J.drop [false, false, false, false, false, false, false, false, false] rfl ?_
    exact p_Ref_workDefault_L249 hw hG  H
  · intro c21
    rw [if_neg c21] at H
    refine J_aload_n d_Ref_workDefault_151 rfl ?_
    refine J_iload d_Ref_workDefault_152 rfl ?_
    obtain ⟨q14, hq14, H⟩ := Option.bind_eq_some_iff.mp H
    refine J_callV (kc := 0) (ks := 0) (kc' := 0) (ks' := 0) (a := x0) (ci := 12) (as := [.int q10.1]) (st := []) (mf_Ref_hasRoom hw) (mv_Ref_392 hw) d_Ref_workDefault_154 ln_Ref_hasRoom (by decide) (by first | exact Nat.le_of_ble_eq_true rfl | (simp only [List.map_cons, List.map_nil, List.sum_cons, List.sum_nil, va_rf_cat]; exact Nat.le_of_ble_eq_true rfl)) rfl ((hG _).1 _ g8 (by decide)).1 ((hG _).1 _ g8 (by decide)).2 (by unfold pic; rw [g8]; rfl) (jcl_at hw rfl) rfl (p_Ref_hasRoom hw hG hq14) ?_ (fun E h' n' x' e1 => by cases e1.1)
    intro v9 h9 n9 x9 e9
    obtain ⟨e91, e92, e93⟩ := e9
    cases e91
    subst e92
    subst e93
    clear x
    rename Bool => x
    show J _ _ _ _ (_ :: _) _ _ _ _ _ _
    refine J_if_eq (tgt := 249) d_Ref_workDefault_157 (by decide) ?_ ?_
    · intro c20
      rw [if_pos c20] at H
      refine J.drop [false, false, false, false, false, false, false, false, false] rfl ?_
      exact p_Ref_workDefault_L249 hw hG  H
    · intro c20
      rw [if_neg c20] at H
      refine J_aload_n d_Ref_workDefault_160 rfl ?_
      refine F_getR (ci := 12) (k := 39) hG (cf_Ref hw) (fl_Ref_106 hw) (by decide) (by decide) rfl d_Ref_workDefault_161 g8 ?_
      refine J_iconst (v := 4) d_Ref_workDefault_164 (by decide) ?_
      refine J_iload d_Ref_workDefault_165 rfl ?_
      refine J_imul d_Ref_workDefault_167 ?_
      obtain ⟨a15, ha15, H⟩ := Option.bind_eq_some_iff.mp H
      rw [j_rf ha15]
      obtain ⟨N16, hN16, H⟩ := Option.bind_eq_some_iff.mp H
      obtain ⟨k17, hk17, H⟩ := Option.bind_eq_some_iff.mp H
      refine F_lald k17 hw hG d_Ref_workDefault_168 (gA_some hN16) (ix_some hk17) ?_
      refine J_lstore d_Ref_workDefault_169 (Nat.le_of_ble_eq_true rfl) ?_
      refine J.ls (ls' := [some (.ref x0), none, none, none, some (.int q9.1), some (.int q10.1), some (.long (q14.2.2.1 a15 k17)), none, none]) rfl ?_
      refine J_aload_n d_Ref_workDefault_171 rfl ?_
      refine J_dup d_Ref_workDefault_172 rfl ?_
      refine F_getI (ci := 12) (k := 57) hG (cf_Ref hw) (fl_Ref_553 hw) (by decide) (by decide) rfl d_Ref_workDefault_173 g8 ?_
      refine J_iconst (v := 1) d_Ref_workDefault_176 (by decide) ?_
      refine J_iadd d_Ref_workDefault_177 ?_
      refine F_putI (ci := 12) (k := 57) hG (cf_Ref hw) (fl_Ref_553 hw) (by decide) (by decide) rfl d_Ref_workDefault_178 rfl rfl rfl g8 ?_
      refine J_aload_n d_Ref_workDefault_181 rfl ?_
      refine F_getI (ci := 12) (k := 57) hG (cf_Ref hw) (fl_Ref_553 hw) (by decide) (by decide) rfl d_Ref_workDefault_182 g8 ?_
      refine J_lload d_Ref_workDefault_185 rfl ?_
      obtain ⟨q18, hq18, H⟩ := Option.bind_eq_some_iff.mp H
      refine J_callS (kc := 0) (ks := 0) (kc' := 0) (ks' := 0) (as := [.long (q14.2.2.1 a15 k17)]) (st := [.int ((uI q14.2 x0 57 ((q14.2.1 x0 57) + (1 : Int32))).1 x0 57)]) (mf_Ref_lengthOf hw) (ms_Ref_321 hw) d_Ref_workDefault_187 ln_Ref_lengthOf (by decide) (by first | exact Nat.le_of_ble_eq_true rfl | (simp only [List.map_cons, List.map_nil, List.sum_cons, List.sum_nil, va_rf_cat]; exact Nat.le_of_ble_eq_true rfl)) rfl (p_Ref_lengthOf hw hG hq18) ?_ (fun E h' n' x' e1 => by cases e1.1)
      intro v9 h9 n9 x9 e9
      obtain ⟨e91, e92, e93⟩ := e9
      cases e91
      subst e92
      subst e93
      clear x
      rename Bool => x
      show J _ _ _ _ (_ :: _) _ _ _ _ _ _
      refine J_icmp_ne (tgt := 197) d_Ref_workDefault_190 (by decide) ?_ ?_
      · intro c19
        rw [if_neg c19] at H
        refine J_iconst (v := 0) d_Ref_workDefault_197 (by decide) ?_
        refine J.drop [true, false, false, false, true, true, true, false, false] rfl ?_
        exact p_Ref_workDefault_L198 hw hG  H
      · intro c19
        rw [if_pos c19] at H
        refine J_iconst (v := 1) d_Ref_workDefault_193 (by decide) ?_
        refine J_goto (tgt := 198) d_Ref_workDefault_194 (by decide) ?_
        refine J.drop [true, false, false, false, true, true, true, false, false] rfl ?_
        exact p_Ref_workDefault_L198 hw hG  H
def f_Ref_workDefault_L64 (Γ : gm_T)  (φ : ph_T) (x0 : Nat) (x1 : Int32) (x2 : Int32) (x3 : Int32) : Option (Unit × ph_T) :=
  @ite _ (Γ x0 = .inr 12) _ (
  Option.bind (f_Ref_take Γ φ x0 x1) fun q23 =>
  if x3 = 0 then
    f_Ref_workDefault_L117 Γ  q23.2 x0
  else
    Option.bind (f_Ref_rowOf Γ q23.2 x0 (1 : Int32) (q23.2.1 x0 2) (0 : Int32)) fun q24 =>
    Option.bind (q24.2.2.2 x0 39) fun a25 =>
    Option.bind (gA Γ a25 1) fun N26 =>
    Option.bind (ix ((4 : Int32) * q24.1) N26) fun k27 =>
    Option.bind (f_Ref_idOf Γ q24.2 (q24.2.2.1 a25 k27)) fun q28 =>
    Option.bind (f_Ref_put Γ q28.2 x0 x2 (0 : Int64) (q28.1 + (192 : Int32)) (q28.2.1 x0 6)) fun q29 =>
    Option.bind (f_Ref_take Γ q29.2 x0 q24.1) fun q30 =>
    f_Ref_workDefault_L117 Γ  q30.2 x0
  ) none
set_option maxRecDepth 100000 in
set_option maxHeartbeats 4000000 in
theorem p_Ref_workDefault_L64 {w : jw_T} (hw : jok w) {Γ : gm_T} {n : Nat} (hG : gd w Γ n)  {x : Bool} {φ : ph_T} {x0 : Nat} {x1 : Int32} {x2 : Int32} {x3 : Int32} {q : Unit × ph_T} (H : f_Ref_workDefault_L64 Γ  φ x0 x1 x2 x3 = some q) : J w M_Ref_workDefault 64 [some (.ref x0), some (.int x1), some (.int x2), some (.int x3), none, none, none, none, none] [] (pic Γ φ) n x 0 0 (fq Γ n (.inl none) q.2) := by
  unfold f_Ref_workDefault_L64 at H
  refine J_aload_n d_Ref_workDefault_64 rfl ?_
  refine J_iload_n d_Ref_workDefault_65 rfl ?_
  have g22 : Γ x0 = .inr 12 := by
    apply Classical.byContradiction
    intro q9
    rw [if_neg q9] at H
    cases H
  rw [if_pos g22] at H
  obtain ⟨q23, hq23, H⟩ := Option.bind_eq_some_iff.mp H
  refine J_callV (kc := 0) (ks := 0) (kc' := 0) (ks' := 0) (a := x0) (ci := 12) (as := [.int x1]) (st := []) (mf_Ref_take hw) (mv_Ref_473 hw) d_Ref_workDefault_66 ln_Ref_take (by decide) (by first | exact Nat.le_of_ble_eq_true rfl | (simp only [List.map_cons, List.map_nil, List.sum_cons, List.sum_nil, va_rf_cat]; exact Nat.le_of_ble_eq_true rfl)) rfl ((hG _).1 _ g22 (by decide)).1 ((hG _).1 _ g22 (by decide)).2 (by unfold pic; rw [g22]; rfl) (jcl_at hw rfl) rfl (p_Ref_take hw hG hq23) ?_ (fun E h' n' x' e1 => by cases e1.1)
  intro v9 h9 n9 x9 e9
  obtain ⟨e91, e92, e93⟩ := e9
  cases e91
  subst e92
  subst e93
  clear x
  rename Bool => x
  show J _ _ _ _ [] _ _ _ _ _ _
  refine J_iload_n d_Ref_workDefault_69 rfl ?_
  refine J_if_eq (tgt := 117) d_Ref_workDefault_70 (by decide) ?_ ?_
  · intro c31
    rw [if_pos c31] at H
    refine J.drop [true, false, false, false, false, false, false, false, false] rfl ?_
    exact p_Ref_workDefault_L117 hw hG  H
  · intro c31
    rw [if_neg c31] at H
    refine J_aload_n d_Ref_workDefault_73 rfl ?_
    refine J_iconst (v := 1) d_Ref_workDefault_74 (by decide) ?_
    refine J_aload_n d_Ref_workDefault_75 rfl ?_
    refine F_getI (ci := 12) (k := 2) hG (cf_Ref hw) (fl_Ref_294 hw) (by decide) (by decide) rfl d_Ref_workDefault_76 g22 ?_
    refine J_iconst (v := 0) d_Ref_workDefault_79 (by decide) ?_
    obtain ⟨q24, hq24, H⟩ := Option.bind_eq_some_iff.mp H
    refine J_callV (kc := 0) (ks := 0) (kc' := 0) (ks' := 0) (a := x0) (ci := 12) (as := [.int (1 : Int32), .int (q23.2.1 x0 2), .int (0 : Int32)]) (st := []) (mf_Ref_rowOf hw) (mv_Ref_388 hw) d_Ref_workDefault_80 ln_Ref_rowOf (by decide) (by first | exact Nat.le_of_ble_eq_true rfl | (simp only [List.map_cons, List.map_nil, List.sum_cons, List.sum_nil, va_rf_cat]; exact Nat.le_of_ble_eq_true rfl)) rfl ((hG _).1 _ g22 (by decide)).1 ((hG _).1 _ g22 (by decide)).2 (by unfold pic; rw [g22]; rfl) (jcl_at hw rfl) rfl (p_Ref_rowOf hw hG hq24) ?_ (fun E h' n' x' e1 => by cases e1.1)
    intro v9 h9 n9 x9 e9
    obtain ⟨e91, e92, e93⟩ := e9
    cases e91
    subst e92
    subst e93
    clear x
    rename Bool => x
    show J _ _ _ _ (_ :: _) _ _ _ _ _ _
    refine J_istore d_Ref_workDefault_83 (Nat.le_of_ble_eq_true rfl) ?_
    refine J.ls (ls' := [some (.ref x0), some (.int x1), some (.int x2), some (.int x3), some (.int q24.1), none, none, none, none]) rfl ?_
    refine J_aload_n d_Ref_workDefault_85 rfl ?_
    refine J_iload_n d_Ref_workDefault_86 rfl ?_
    refine J_lconst (v := 0) d_Ref_workDefault_87 (by decide) ?_
    refine J_aload_n d_Ref_workDefault_88 rfl ?_
    refine F_getR (ci := 12) (k := 39) hG (cf_Ref hw) (fl_Ref_106 hw) (by decide) (by decide) rfl d_Ref_workDefault_89 g22 ?_
    refine J_iconst (v := 4) d_Ref_workDefault_92 (by decide) ?_
    refine J_iload d_Ref_workDefault_93 rfl ?_
    refine J_imul d_Ref_workDefault_95 ?_
    obtain ⟨a25, ha25, H⟩ := Option.bind_eq_some_iff.mp H
    rw [j_rf ha25]
    obtain ⟨N26, hN26, H⟩ := Option.bind_eq_some_iff.mp H
    obtain ⟨k27, hk27, H⟩ := Option.bind_eq_some_iff.mp H
    refine F_lald k27 hw hG d_Ref_workDefault_96 (gA_some hN26) (ix_some hk27) ?_
    obtain ⟨q28, hq28, H⟩ := Option.bind_eq_some_iff.mp H
    refine J_callS (kc := 0) (ks := 0) (kc' := 0) (ks' := 0) (as := [.long (q24.2.2.1 a25 k27)]) (st := [.long (0 : Int64), .int x2, .ref x0]) (mf_Ref_idOf hw) (ms_Ref_396 hw) d_Ref_workDefault_97 ln_Ref_idOf (by decide) (by first | exact Nat.le_of_ble_eq_true rfl | (simp only [List.map_cons, List.map_nil, List.sum_cons, List.sum_nil, va_rf_cat]; exact Nat.le_of_ble_eq_true rfl)) rfl (p_Ref_idOf hw hG hq28) ?_ (fun E h' n' x' e1 => by cases e1.1)
    intro v9 h9 n9 x9 e9
    obtain ⟨e91, e92, e93⟩ := e9
    cases e91
    subst e92
    subst e93
    clear x
    rename Bool => x
    show J _ _ _ _ (_ :: _) _ _ _ _ _ _
    refine J_sipush (v := 192) d_Ref_workDefault_100 (by decide) ?_
    refine J_iadd d_Ref_workDefault_103 ?_
    refine J_aload_n d_Ref_workDefault_104 rfl ?_
    refine F_getI (ci := 12) (k := 6) hG (cf_Ref hw) (fl_Ref_348 hw) (by decide) (by decide) rfl d_Ref_workDefault_105 g22 ?_
    obtain ⟨q29, hq29, H⟩ := Option.bind_eq_some_iff.mp H
    refine J_callV (kc := 0) (ks := 0) (kc' := 0) (ks' := 0) (a := x0) (ci := 12) (as := [.int x2, .long (0 : Int64), .int (q28.1 + (192 : Int32)), .int (q28.2.1 x0 6)]) (st := []) (mf_Ref_put hw) (mv_Ref_469 hw) d_Ref_workDefault_108 ln_Ref_put (by decide) (by first | exact Nat.le_of_ble_eq_true rfl | (simp only [List.map_cons, List.map_nil, List.sum_cons, List.sum_nil, va_rf_cat]; exact Nat.le_of_ble_eq_true rfl)) rfl ((hG _).1 _ g22 (by decide)).1 ((hG _).1 _ g22 (by decide)).2 (by unfold pic; rw [g22]; rfl) (jcl_at hw rfl) rfl (p_Ref_put hw hG hq29) ?_ (fun E h' n' x' e1 => by cases e1.1)
    intro v9 h9 n9 x9 e9
    obtain ⟨e91, e92, e93⟩ := e9
    cases e91
    subst e92
    subst e93
    clear x
    rename Bool => x
    show J _ _ _ _ [] _ _ _ _ _ _
    refine J_aload_n d_Ref_workDefault_111 rfl ?_
    refine J_iload d_Ref_workDefault_112 rfl ?_
    obtain ⟨q30, hq30, H⟩ := Option.bind_eq_some_iff.mp H
    refine J_callV (kc := 0) (ks := 0) (kc' := 0) (ks' := 0) (a := x0) (ci := 12) (as := [.int q24.1]) (st := []) (mf_Ref_take hw) (mv_Ref_473 hw) d_Ref_workDefault_114 ln_Ref_take (by decide) (by first | exact Nat.le_of_ble_eq_true rfl | (simp only [List.map_cons, List.map_nil, List.sum_cons, List.sum_nil, va_rf_cat]; exact Nat.le_of_ble_eq_true rfl)) rfl ((hG _).1 _ g22 (by decide)).1 ((hG _).1 _ g22 (by decide)).2 (by unfold pic; rw [g22]; rfl) (jcl_at hw rfl) rfl (p_Ref_take hw hG hq30) ?_ (fun E h' n' x' e1 => by cases e1.1)
    intro v9 h9 n9 x9 e9
    obtain ⟨e91, e92, e93⟩ := e9
    cases e91
    subst e92
    subst e93
    clear x
    rename Bool => x
    show J _ _ _ _ [] _ _ _ _ _ _
    refine J.drop [true, false, false, false, false, false, false, false, false] rfl ?_
    exact p_Ref_workDefault_L117 hw hG  H
def f_Ref_workDefault_L42 (Γ : gm_T)  (φ : ph_T) (x0 : Nat) (x1 : Int32) (x2 : Int32) (y0 : Int32) : Option (Unit × ph_T) :=
  @ite _ (Γ x0 = .inr 12) _ (
  Option.bind (φ.2.2 x0 42) fun a33 =>
  Option.bind (gA Γ a33 0) fun N34 =>
  Option.bind (ix x1 N34) fun k35 =>
  if (φ.1 a33 k35) ≤ 0 then
    f_Ref_workDefault_L117 Γ  φ x0
  else
    if y0 = 0 then
      f_Ref_workDefault_L64 Γ  φ x0 x1 x2 y0
    else
      Option.bind (f_Ref_hasRoom Γ φ x0 x2) fun q36 =>
      if q36.1 = 0 then
        f_Ref_workDefault_L117 Γ  q36.2 x0
      else
        f_Ref_workDefault_L64 Γ  q36.2 x0 x1 x2 y0
  ) none
set_option maxRecDepth 100000 in
set_option maxHeartbeats 4000000 in
theorem p_Ref_workDefault_L42 {w : jw_T} (hw : jok w) {Γ : gm_T} {n : Nat} (hG : gd w Γ n)  {x : Bool} {φ : ph_T} {x0 : Nat} {x1 : Int32} {x2 : Int32} {y0 : Int32} {q : Unit × ph_T} (H : f_Ref_workDefault_L42 Γ  φ x0 x1 x2 y0 = some q) : J w M_Ref_workDefault 42 [some (.ref x0), some (.int x1), some (.int x2), none, none, none, none, none, none] [.int y0] (pic Γ φ) n x 0 0 (fq Γ n (.inl none) q.2) := by
  unfold f_Ref_workDefault_L42 at H
  refine J_istore_n d_Ref_workDefault_42 (Nat.le_of_ble_eq_true rfl) ?_
  refine J.ls (ls' := [some (.ref x0), some (.int x1), some (.int x2), some (.int y0), none, none, none, none, none]) rfl ?_
  refine J_aload_n d_Ref_workDefault_43 rfl ?_
  have g32 : Γ x0 = .inr 12 := by
    apply Classical.byContradiction
    intro q9
    rw [if_neg q9] at H
    cases H
  rw [if_pos g32] at H
  refine F_getR (ci := 12) (k := 42) hG (cf_Ref hw) (fl_Ref_115 hw) (by decide) (by decide) rfl d_Ref_workDefault_44 g32 ?_
  refine J_iload_n d_Ref_workDefault_47 rfl ?_
  obtain ⟨a33, ha33, H⟩ := Option.bind_eq_some_iff.mp H
  rw [j_rf ha33]
  obtain ⟨N34, hN34, H⟩ := Option.bind_eq_some_iff.mp H
  obtain ⟨k35, hk35, H⟩ := Option.bind_eq_some_iff.mp H
  refine F_iald k35 hw hG d_Ref_workDefault_48 (gA_some hN34) (ix_some hk35) ?_
  refine J_if_le (tgt := 117) d_Ref_workDefault_49 (by decide) ?_ ?_
  · intro c39
    rw [if_pos c39] at H
    refine J.drop [true, false, false, false, false, false, false, false, false] rfl ?_
    exact p_Ref_workDefault_L117 hw hG  H
  · intro c39
    rw [if_neg c39] at H
    refine J_iload_n d_Ref_workDefault_52 rfl ?_
    refine J_if_eq (tgt := 64) d_Ref_workDefault_53 (by decide) ?_ ?_
    · intro c38
      rw [if_pos c38] at H
      refine J.drop [true, true, true, true, false, false, false, false, false] rfl ?_
      exact p_Ref_workDefault_L64 hw hG  H
    · intro c38
      rw [if_neg c38] at H
      refine J_aload_n d_Ref_workDefault_56 rfl ?_
      refine J_iload_n d_Ref_workDefault_57 rfl ?_
      obtain ⟨q36, hq36, H⟩ := Option.bind_eq_some_iff.mp H
      refine J_callV (kc := 0) (ks := 0) (kc' := 0) (ks' := 0) (a := x0) (ci := 12) (as := [.int x2]) (st := []) (mf_Ref_hasRoom hw) (mv_Ref_392 hw) d_Ref_workDefault_58 ln_Ref_hasRoom (by decide) (by first | exact Nat.le_of_ble_eq_true rfl | (simp only [List.map_cons, List.map_nil, List.sum_cons, List.sum_nil, va_rf_cat]; exact Nat.le_of_ble_eq_true rfl)) rfl ((hG _).1 _ g32 (by decide)).1 ((hG _).1 _ g32 (by decide)).2 (by unfold pic; rw [g32]; rfl) (jcl_at hw rfl) rfl (p_Ref_hasRoom hw hG hq36) ?_ (fun E h' n' x' e1 => by cases e1.1)
      intro v9 h9 n9 x9 e9
      obtain ⟨e91, e92, e93⟩ := e9
      cases e91
      subst e92
      subst e93
      clear x
      rename Bool => x
      show J _ _ _ _ (_ :: _) _ _ _ _ _ _
      refine J_if_eq (tgt := 117) d_Ref_workDefault_61 (by decide) ?_ ?_
      · intro c37
        rw [if_pos c37] at H
        refine J.drop [true, false, false, false, false, false, false, false, false] rfl ?_
        exact p_Ref_workDefault_L117 hw hG  H
      · intro c37
        rw [if_neg c37] at H
        refine J.drop [true, true, true, true, false, false, false, false, false] rfl ?_
        exact p_Ref_workDefault_L64 hw hG  H
def f_Ref_workDefault (Γ : gm_T) (φ : ph_T) (this : Nat) : Option (Unit × ph_T) :=
  @ite _ (Γ this = .inr 12) _ (
  Option.bind (f_Ref_rowOf Γ φ this (1 : Int32) (φ.1 this 2) (1 : Int32)) fun q41 =>
  Option.bind (f_Ref_rowOf Γ q41.2 this (1 : Int32) (q41.2.1 this 2) (2 : Int32)) fun q42 =>
  Option.bind (q42.2.2.2 this 40) fun a43 =>
  Option.bind (gA Γ a43 0) fun N44 =>
  Option.bind (ix ((4 : Int32) * q41.1) N44) fun k45 =>
  if ((q42.2.1 a43 k45) &&& (256 : Int32)) = 0 then
    f_Ref_workDefault_L42 Γ  q42.2 this q41.1 q42.1 (0 : Int32)
  else
    f_Ref_workDefault_L42 Γ  q42.2 this q41.1 q42.1 (1 : Int32)
  ) none
set_option maxRecDepth 100000 in
set_option maxHeartbeats 4000000 in
theorem p_Ref_workDefault {w : jw_T} (hw : jok w) {Γ : gm_T} {n : Nat} (hG : gd w Γ n) {x : Bool} {φ : ph_T} {this : Nat} {q : Unit × ph_T} (H : f_Ref_workDefault Γ φ this = some q) : jc w M_Ref_workDefault [.ref this] (pic Γ φ) n x 0 0 (fq Γ n (.inl none) q.2) := by
  refine jc.of (by simp only [jent_r, jent_i, jent_l, jent_a, jent_0]; exact Nat.le_of_ble_eq_true rfl) ?_
  have hls : jents [.ref this] (jm_nL M_Ref_workDefault) = [some (.ref this), none, none, none, none, none, none, none, none] := by simp only [jents, jent_r, jent_i, jent_l, jent_a, jent_0]; rfl
  rw [hls]
  clear hls
  unfold f_Ref_workDefault at H
  refine J_aload_n d_Ref_workDefault_0 rfl ?_
  refine J_iconst (v := 1) d_Ref_workDefault_1 (by decide) ?_
  refine J_aload_n d_Ref_workDefault_2 rfl ?_
  have g40 : Γ this = .inr 12 := by
    apply Classical.byContradiction
    intro q9
    rw [if_neg q9] at H
    cases H
  rw [if_pos g40] at H
  refine F_getI (ci := 12) (k := 2) hG (cf_Ref hw) (fl_Ref_294 hw) (by decide) (by decide) rfl d_Ref_workDefault_3 g40 ?_
  refine J_iconst (v := 1) d_Ref_workDefault_6 (by decide) ?_
  obtain ⟨q41, hq41, H⟩ := Option.bind_eq_some_iff.mp H
  refine J_callV (kc := 0) (ks := 0) (kc' := 0) (ks' := 0) (a := this) (ci := 12) (as := [.int (1 : Int32), .int (φ.1 this 2), .int (1 : Int32)]) (st := []) (mf_Ref_rowOf hw) (mv_Ref_388 hw) d_Ref_workDefault_7 ln_Ref_rowOf (by decide) (by first | exact Nat.le_of_ble_eq_true rfl | (simp only [List.map_cons, List.map_nil, List.sum_cons, List.sum_nil, va_rf_cat]; exact Nat.le_of_ble_eq_true rfl)) rfl ((hG _).1 _ g40 (by decide)).1 ((hG _).1 _ g40 (by decide)).2 (by unfold pic; rw [g40]; rfl) (jcl_at hw rfl) rfl (p_Ref_rowOf hw hG hq41) ?_ (fun E h' n' x' e1 => by cases e1.1)
  intro v9 h9 n9 x9 e9
  obtain ⟨e91, e92, e93⟩ := e9
  cases e91
  subst e92
  subst e93
  clear x
  rename Bool => x
  show J _ _ _ _ (_ :: _) _ _ _ _ _ _
  refine J_istore_n d_Ref_workDefault_10 (Nat.le_of_ble_eq_true rfl) ?_
  refine J.ls (ls' := [some (.ref this), some (.int q41.1), none, none, none, none, none, none, none]) rfl ?_
  refine J_aload_n d_Ref_workDefault_11 rfl ?_
  refine J_iconst (v := 1) d_Ref_workDefault_12 (by decide) ?_
  refine J_aload_n d_Ref_workDefault_13 rfl ?_
  refine F_getI (ci := 12) (k := 2) hG (cf_Ref hw) (fl_Ref_294 hw) (by decide) (by decide) rfl d_Ref_workDefault_14 g40 ?_
  refine J_iconst (v := 2) d_Ref_workDefault_17 (by decide) ?_
  obtain ⟨q42, hq42, H⟩ := Option.bind_eq_some_iff.mp H
  refine J_callV (kc := 0) (ks := 0) (kc' := 0) (ks' := 0) (a := this) (ci := 12) (as := [.int (1 : Int32), .int (q41.2.1 this 2), .int (2 : Int32)]) (st := []) (mf_Ref_rowOf hw) (mv_Ref_388 hw) d_Ref_workDefault_18 ln_Ref_rowOf (by decide) (by first | exact Nat.le_of_ble_eq_true rfl | (simp only [List.map_cons, List.map_nil, List.sum_cons, List.sum_nil, va_rf_cat]; exact Nat.le_of_ble_eq_true rfl)) rfl ((hG _).1 _ g40 (by decide)).1 ((hG _).1 _ g40 (by decide)).2 (by unfold pic; rw [g40]; rfl) (jcl_at hw rfl) rfl (p_Ref_rowOf hw hG hq42) ?_ (fun E h' n' x' e1 => by cases e1.1)
  intro v9 h9 n9 x9 e9
  obtain ⟨e91, e92, e93⟩ := e9
  cases e91
  subst e92
  subst e93
  clear x
  rename Bool => x
  show J _ _ _ _ (_ :: _) _ _ _ _ _ _
  refine J_istore_n d_Ref_workDefault_21 (Nat.le_of_ble_eq_true rfl) ?_
  refine J.ls (ls' := [some (.ref this), some (.int q41.1), some (.int q42.1), none, none, none, none, none, none]) rfl ?_
  refine J_aload_n d_Ref_workDefault_22 rfl ?_
  refine F_getR (ci := 12) (k := 40) hG (cf_Ref hw) (fl_Ref_109 hw) (by decide) (by decide) rfl d_Ref_workDefault_23 g40 ?_
  refine J_iconst (v := 4) d_Ref_workDefault_26 (by decide) ?_
  refine J_iload_n d_Ref_workDefault_27 rfl ?_
  refine J_imul d_Ref_workDefault_28 ?_
  obtain ⟨a43, ha43, H⟩ := Option.bind_eq_some_iff.mp H
  rw [j_rf ha43]
  obtain ⟨N44, hN44, H⟩ := Option.bind_eq_some_iff.mp H
  obtain ⟨k45, hk45, H⟩ := Option.bind_eq_some_iff.mp H
  refine F_iald k45 hw hG d_Ref_workDefault_29 (gA_some hN44) (ix_some hk45) ?_
  refine J_sipush (v := 256) d_Ref_workDefault_30 (by decide) ?_
  refine J_iand d_Ref_workDefault_33 ?_
  refine J_if_eq (tgt := 41) d_Ref_workDefault_34 (by decide) ?_ ?_
  · intro c46
    rw [if_pos c46] at H
    refine J_iconst (v := 0) d_Ref_workDefault_41 (by decide) ?_
    refine J.drop [true, true, true, false, false, false, false, false, false] rfl ?_
    exact p_Ref_workDefault_L42 hw hG  H
  · intro c46
    rw [if_neg c46] at H
    refine J_iconst (v := 1) d_Ref_workDefault_37 (by decide) ?_
    refine J_goto (tgt := 42) d_Ref_workDefault_38 (by decide) ?_
    refine J.drop [true, true, true, false, false, false, false, false, false] rfl ?_
    exact p_Ref_workDefault_L42 hw hG  H
