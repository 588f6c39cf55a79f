theorem ln_Ref_workDefault : (parseMethodDescriptor y_Ref_workDefault.desc).map (fun q => q.parameters.length) = some 0 := by decide +kernel
def f_Ref_workDefault_L249 (Γ : gm_T)  (φ : ph_T) : Option (Unit × ph_T) :=
  some ((), φ)
set_option maxRecDepth 100000 in
set_option maxHeartbeats 4000000 in
theorem p_Ref_workDefault_L249 {w : jw_T} (hw : jok w) {Γ : gm_T} {n : Nat} (hG : gd w Γ n)  {x : Bool} {φ : ph_T} {q : Unit × ph_T} (H : f_Ref_workDefault_L249 Γ  φ  = some q) : J w M_Ref_workDefault 249 [none, none, none, none, none, none, none, none, none] [] (pic Γ φ) n x 0 0 (fq Γ n (.inl none) q.2) := by
  unfold f_Ref_workDefault_L249 at H
  cases H
  exact J_vret (st := []) d_Ref_workDefault_249 rfl ⟨rfl, rfl, rfl⟩
def f_Ref_workDefault_L225 (Γ : gm_T)  (φ : ph_T) (x0 : Nat) (x4 : Int32) (x8 : Int32) (y0 : Int32) (y1 : Int32) (y2 : Int64) (y3 : Int32) (y4 : Nat) : Option (Unit × ph_T) :=
  @ite _ (Γ x0 = .inr 12) _ (
  @ite _ (Γ y4 = .inr 12) _ (
  Option.bind (f_Ref_put Γ φ y4 y3 y2 (y1 + y0) (φ.1 x0 6)) fun q3 =>
  if x8 = 0 then
    f_Ref_workDefault_L249 Γ  q3.2 
  else
    Option.bind (f_Ref_take Γ (uI q3.2 x0 57 (0 : Int32)) x0 x4) fun q4 =>
    f_Ref_workDefault_L249 Γ  q4.2 
  ) none
  ) none
set_option maxRecDepth 100000 in
set_option maxHeartbeats 4000000 in
theorem p_Ref_workDefault_L225 {w : jw_T} (hw : jok w) {Γ : gm_T} {n : Nat} (hG : gd w Γ n)  {x : Bool} {φ : ph_T} {x0 : Nat} {x4 : Int32} {x8 : Int32} {y0 : Int32} {y1 : Int32} {y2 : Int64} {y3 : Int32} {y4 : Nat} {q : Unit × ph_T} (H : f_Ref_workDefault_L225 Γ  φ x0 x4 x8 y0 y1 y2 y3 y4 = some q) : J w M_Ref_workDefault 225 [some (.ref x0), none, none, none, some (.int x4), none, none, none, some (.int x8)] [.int y0, .int y1, .long y2, .int y3, .ref y4] (pic Γ φ) n x 0 0 (fq Γ n (.inl none) q.2) := by
  unfold f_Ref_workDefault_L225 at H
  refine J_iadd d_Ref_workDefault_225 ?_
  refine J_aload_n d_Ref_workDefault_226 rfl ?_
  have g1 : Γ x0 = .inr 12 := by
    apply Classical.byContradiction
    intro q9
    rw [if_neg q9] at H
    cases H
  rw [if_pos g1] at H
  refine F_getI (ci := 12) (k := 6) hG (cf_Ref hw) (fl_Ref_348 hw) (by decide) (by decide) rfl d_Ref_workDefault_227 g1 ?_
  have g2 : Γ y4 = .inr 12 := by
    apply Classical.byContradiction
    intro q9
    rw [if_neg q9] at H
    cases H
  rw [if_pos g2] at H
  obtain ⟨q3, hq3, H⟩ := Option.bind_eq_some_iff.mp H
  refine J_callV (kc := 0) (ks := 0) (kc' := 0) (ks' := 0) (a := y4) (ci := 12) (as := [.int y3, .long y2, .int (y1 + y0), .int (φ.1 x0 6)]) (st := []) (mf_Ref_put hw) (mv_Ref_469 hw) d_Ref_workDefault_230 ln_Ref_put (by decide) (by first | exact Nat.le_of_ble_eq_true rfl | (simp only [List.map_cons, List.map_nil, List.sum_cons, List.sum_nil, va_rf_cat]; exact Nat.le_of_ble_eq_true rfl)) rfl ((hG _).1 _ g2 (by decide)).1 ((hG _).1 _ g2 (by decide)).2 (by unfold pic; rw [g2]; rfl) (jcl_at hw rfl) rfl (p_Ref_put hw hG hq3) ?_ (fun E h' n' x' e1 => by cases e1.1)
  intro v9 h9 n9 x9 e9
  obtain ⟨e91, e92, e93⟩ := e9
  cases e91
  subst e92
  subst e93
  clear x
  rename Bool => x
  show J _ _ _ _ [] _ _ _ _ _ _
  refine J_iload d_Ref_workDefault_233 rfl ?_
  refine J_if_eq (tgt := 249) d_Ref_workDefault_235 (by decide) ?_ ?_
  · intro c5
    rw [if_pos c5] at H
    refine J.drop [false, false, false, false, false, false, false, false, false] rfl ?_
    exact p_Ref_workDefault_L249 hw hG  H
  · intro c5
    rw [if_neg c5] at H
    refine J_aload_n d_Ref_workDefault_238 rfl ?_
    refine J_iconst (v := 0) d_Ref_workDefault_239 (by decide) ?_
    refine F_putI (ci := 12) (k := 57) hG (cf_Ref hw) (fl_Ref_553 hw) (by decide) (by decide) rfl d_Ref_workDefault_240 rfl rfl rfl g1 ?_
    refine J_aload_n d_Ref_workDefault_243 rfl ?_
    refine J_iload d_Ref_workDefault_244 rfl ?_
    obtain ⟨q4, hq4, H⟩ := Option.bind_eq_some_iff.mp H
    refine J_callV (kc := 0) (ks := 0) (kc' := 0) (ks' := 0) (a := x0) (ci := 12) (as := [.int x4]) (st := []) (mf_Ref_take hw) (mv_Ref_473 hw) d_Ref_workDefault_246 ln_Ref_take (by decide) (by first | exact Nat.le_of_ble_eq_true rfl | (simp only [List.map_cons, List.map_nil, List.sum_cons, List.sum_nil, va_rf_cat]; exact Nat.le_of_ble_eq_true rfl)) rfl ((hG _).1 _ g1 (by decide)).1 ((hG _).1 _ g1 (by decide)).2 (by unfold pic; rw [g1]; rfl) (jcl_at hw rfl) rfl (p_Ref_take hw hG hq4) ?_ (fun E h' n' x' e1 => by cases e1.1)
    intro v9 h9 n9 x9 e9
    obtain ⟨e91, e92, e93⟩ := e9
    cases e91
    subst e92
    subst e93
    clear x
    rename Bool => x
    show J _ _ _ _ [] _ _ _ _ _ _
    refine J.drop [false, false, false, false, false, false, false, false, false] rfl ?_
    exact p_Ref_workDefault_L249 hw hG  H
def f_Ref_workDefault_L198 (Γ : gm_T)  (φ : ph_T) (x0 : Nat) (x4 : Int32) (x5 : Int32) (x6 : Int64) (y0 : Int32) : Option (Unit × ph_T) :=
  Option.bind (f_Ref_idOf Γ φ x6) fun q6 =>
  if y0 = 0 then
    f_Ref_workDefault_L225 Γ  q6.2 x0 x4 y0 (0 : Int32) (q6.1 + (192 : Int32)) (0 : Int64) x5 x0
  else
    f_Ref_workDefault_L225 Γ  q6.2 x0 x4 y0 (256 : Int32) (q6.1 + (192 : Int32)) (0 : Int64) x5 x0
set_option maxRecDepth 100000 in
set_option maxHeartbeats 4000000 in
theorem p_Ref_workDefault_L198 {w : jw_T} (hw : jok w) {Γ : gm_T} {n : Nat} (hG : gd w Γ n)  {x : Bool} {φ : ph_T} {x0 : Nat} {x4 : Int32} {x5 : Int32} {x6 : Int64} {y0 : Int32} {q : Unit × ph_T} (H : f_Ref_workDefault_L198 Γ  φ x0 x4 x5 x6 y0 = some q) : J w M_Ref_workDefault 198 [some (.ref x0), none, none, none, some (.int x4), some (.int x5), some (.long x6), none, none] [.int y0] (pic Γ φ) n x 0 0 (fq Γ n (.inl none) q.2) := by
  unfold f_Ref_workDefault_L198 at H
  refine J_istore d_Ref_workDefault_198 (Nat.le_of_ble_eq_true rfl) ?_
  refine J_aload_n d_Ref_workDefault_200 rfl ?_
  refine J_iload d_Ref_workDefault_201 rfl ?_
  refine J_lconst (v := 0) d_Ref_workDefault_203 (by decide) ?_
  refine J_lload d_Ref_workDefault_204 rfl ?_
  obtain ⟨q6, hq6, H⟩ := Option.bind_eq_some_iff.mp H
  refine J_callS (kc := 0) (ks := 0) (kc' := 0) (ks' := 0) (as := [.long x6]) (st := [.long (0 : Int64), .int x5, .ref x0]) (mf_Ref_idOf hw) (ms_Ref_396 hw) d_Ref_workDefault_206 ln_Ref_idOf (by decide) (by first | exact Nat.le_of_ble_eq_true rfl | (simp only [List.map_cons, List.map_nil, List.sum_cons, List.sum_nil, va_rf_cat]; exact Nat.le_of_ble_eq_true rfl)) rfl (p_Ref_idOf hw hG hq6) ?_ (fun E h' n' x' e1 => by cases e1.1)
  intro v9 h9 n9 x9 e9
  obtain ⟨e91, e92, e93⟩ := e9
  cases e91
  subst e92
  subst e93
  clear x
  rename Bool => x
  show J _ _ _ _ (_ :: _) _ _ _ _ _ _
  refine J_sipush (v := 192) d_Ref_workDefault_209 (by decide) ?_
  refine J_iadd d_Ref_workDefault_212 ?_
  refine J_iload d_Ref_workDefault_213 rfl ?_
  refine J_if_eq (tgt := 224) d_Ref_workDefault_215 (by decide) ?_ ?_
  · intro c7
    rw [if_pos c7] at H
    refine J_iconst (v := 0) d_Ref_workDefault_224 (by decide) ?_
    refine J.drop [true, false, false, false, true, false, false, false, true] rfl ?_
    exact p_Ref_workDefault_L225 hw hG  H
  · intro c7
    rw [if_neg c7] at H
    refine J_sipush (v := 256) d_Ref_workDefault_218 (by decide) ?_
    refine J_goto (tgt := 225) d_Ref_workDefault_221 (by decide) ?_
    refine J.drop [true, false, false, false, true, false, false, false, true] rfl ?_
    exact p_Ref_workDefault_L225 hw hG  H
def f_Ref_workDefault_L117 (Γ : gm_T)  (φ : ph_T) (x0 : Nat) : Option (Unit × ph_T) :=
  @ite _ (Γ x0 = .inr 12) _ (
  Option.bind (f_Ref_rowOf Γ φ x0 (1 : Int32) (φ.1 x0 2) (3 : Int32)) fun q9 =>
  Option.bind (f_Ref_rowOf Γ q9.2 x0 (1 : Int32) (q9.2.1 x0 2) (4 : Int32)) fun q10 =>
  Option.bind (q10.2.2.2 x0 42) fun a11 =>
  Option.bind (gA Γ a11 0) fun N12 =>
  Option.bind (ix q9.1 N12) fun k13 =>
  if (q10.2.1 a11 k13) ≤ 0 then
    f_Ref_workDefault_L249 Γ  q10.2 
  else
    Option.bind (f_Ref_hasRoom Γ q10.2 x0 q10.1) fun q14 =>
    if q14.1 = 0 then
      f_Ref_workDefault_L249 Γ  q14.2 
    else
      Option.bind (q14.2.2.2 x0 39) fun a15 =>
      Option.bind (gA Γ a15 1) fun N16 =>
      Option.bind (ix ((4 : Int32) * q9.1) N16) fun k17 =>
      Option.bind (f_Ref_lengthOf Γ (uI q14.2 x0 57 ((q14.2.1 x0 57) + (1 : Int32))) (q14.2.2.1 a15 k17)) fun q18 =>
      if ((uI q14.2 x0 57 ((q14.2.1 x0 57) + (1 : Int32))).1 x0 57) = q18.1 then
        f_Ref_workDefault_L198 Γ  q18.2 x0 q9.1 q10.1 (q14.2.2.1 a15 k17) (1 : Int32)
      else
        f_Ref_workDefault_L198 Γ  q18.2 x0 q9.1 q10.1 (q14.2.2.1 a15 k17) (0 : Int32)
  ) none
set_option maxRecDepth 100000 in
set_option maxHeartbeats 4000000 in
theorem p_Ref_workDefault_L117 {w : jw_T} (hw : jok w) {Γ : gm_T} {n : Nat} (hG : gd w Γ n)  {x : Bool} {φ : ph_T} {x0 : Nat} {q : Unit × ph_T} (H : f_Ref_workDefault_L117 Γ  φ x0 = some q) : J w M_Ref_workDefault 117 [some (.ref x0), none, none, none, none, none, none, none, none] [] (pic Γ φ) n x 0 0 (fq Γ n (.inl none) q.2) := by
  unfold f_Ref_workDefault_L117 at H
  refine J_aload_n d_Ref_workDefault_117 rfl ?_
  refine J_iconst (v := 1) d_Ref_workDefault_118 (by decide) ?_
  refine J_aload_n d_Ref_workDefault_119 rfl ?_
  have g8 : Γ x0 = .inr 12 := by
    apply Classical.byContradiction
    intro q9
    rw [if_neg q9] at H
    cases H
  rw [if_pos g8] at H
  refine F_getI (ci := 12) (k := 2) hG (cf_Ref hw) (fl_Ref_294 hw) (by decide) (by decide) rfl d_Ref_workDefault_120 g8 ?_
  refine J_iconst (v := 3) d_Ref_workDefault_123 (by decide) ?_
  obtain ⟨q9, hq9, H⟩ := Option.bind_eq_some_iff.mp H
  refine J_callV (kc := 0) (ks := 0) (kc' := 0) (ks' := 0) (a := x0) (ci := 12) (as := [.int (1 : Int32), .int (φ.1 x0 2), .int (3 : Int32)]) (st := []) (mf_Ref_rowOf hw) (mv_Ref_388 hw) d_Ref_workDefault_124 ln_Ref_rowOf (by decide) (by first | exact Nat.le_of_ble_eq_true rfl | (simp only [List.map_cons, List.map_nil, List.sum_cons, List.sum_nil, va_rf_cat]; exact Nat.le_of_ble_eq_true rfl)) rfl ((hG _).1 _ g8 (by decide)).1 ((hG _).1 _ g8 (by decide)).2 (by unfold pic; rw [g8]; rfl) (jcl_at hw rfl) rfl (p_Ref_rowOf hw hG hq9) ?_ (fun E h' n' x' e1 => by cases e1.1)
  intro v9 h9 n9 x9 e9
  obtain ⟨e91, e92, e93⟩ := e9
  cases e91
  subst e92
  subst e93
  clear x
  rename Bool => x
  show J _ _ _ _ (_ :: _) _ _ _ _ _ _
  refine J_istore d_Ref_workDefault_127 (Nat.le_of_ble_eq_true rfl) ?_
  refine J_aload_n d_Ref_workDefault_129 rfl ?_
  refine J_iconst (v := 1) d_Ref_workDefault_130 (by decide) ?_
  refine J_aload_n d_Ref_workDefault_131 rfl ?_
  refine F_getI (ci := 12) (k := 2) hG (cf_Ref hw) (fl_Ref_294 hw) (by decide) (by decide) rfl d_Ref_workDefault_132 g8 ?_
  refine J_iconst (v := 4) d_Ref_workDefault_135 (by decide) ?_
  obtain ⟨q10, hq10, H⟩ := Option.bind_eq_some_iff.mp H
  refine J_callV (kc := 0) (ks := 0) (kc' := 0) (ks' := 0) (a := x0) (ci := 12) (as := [.int (1 : Int32), .int (q9.2.1 x0 2), .int (4 : Int32)]) (st := []) (mf_Ref_rowOf hw) (mv_Ref_388 hw) d_Ref_workDefault_136 ln_Ref_rowOf (by decide) (by first | exact Nat.le_of_ble_eq_true rfl | (simp only [List.map_cons, List.map_nil, List.sum_cons, List.sum_nil, va_rf_cat]; exact Nat.le_of_ble_eq_true rfl)) rfl ((hG _).1 _ g8 (by decide)).1 ((hG _).1 _ g8 (by decide)).2 (by unfold pic; rw [g8]; rfl) (jcl_at hw rfl) rfl (p_Ref_rowOf hw hG hq10) ?_ (fun E h' n' x' e1 => by cases e1.1)
  intro v9 h9 n9 x9 e9
  obtain ⟨e91, e92, e93⟩ := e9
  cases e91
  subst e92
  subst e93
  clear x
  rename Bool => x
  show J _ _ _ _ (_ :: _) _ _ _ _ _ _
  refine J_istore d_Ref_workDefault_139 (Nat.le_of_ble_eq_true rfl) ?_
  refine J_aload_n d_Ref_workDefault_141 rfl ?_
  refine F_getR (ci := 12) (k := 42) hG (cf_Ref hw) (fl_Ref_115 hw) (by decide) (by decide) rfl d_Ref_workDefault_142 g8 ?_
  refine J_iload d_Ref_workDefault_145 rfl ?_
  obtain ⟨a11, ha11, H⟩ := Option.bind_eq_some_iff.mp H
  rw [j_rf ha11]
  obtain ⟨N12, hN12, H⟩ := Option.bind_eq_some_iff.mp H
  obtain ⟨k13, hk13, H⟩ := Option.bind_eq_some_iff.mp H
  refine F_iald k13 hw hG d_Ref_workDefault_147 (gA_some hN12) (ix_some hk13) ?_
  refine J_if_le (tgt := 249) d_Ref_workDefault_148 (by decide) ?_ ?_
  · intro c21
    rw [if_pos c21] at H
    refine J.drop [false, false, false, false, false, false, false, false, false] rfl ?_
    exact p_Ref_workDefault_L249 hw hG  H
  · intro c21
    rw [if_neg c21] at H
    refine J_aload_n d_Ref_workDefault_151 rfl ?_
    refine J_iload d_Ref_workDefault_152 rfl ?_
    obtain ⟨q14, hq14, H⟩ := Option.bind_eq_some_iff.mp H
    refine J_callV (kc := 0) (ks := 0) (kc' := 0) (ks' := 0) (a := x0) (ci := 12) (as := [.int q10.1]) (st := []) (mf_Ref_hasRoom hw) (mv_Ref_392 hw) d_Ref_workDefault_154 ln_Ref_hasRoom (by decide) (by first | exact Nat.le_of_ble_eq_true rfl | (simp only [List.map_cons, List.map_nil, List.sum_cons, List.sum_nil, va_rf_cat]; exact Nat.le_of_ble_eq_true rfl)) rfl ((hG _).1 _ g8 (by decide)).1 ((hG _).1 _ g8 (by decide)).2 (by unfold pic; rw [g8]; rfl) (jcl_at hw rfl) rfl (p_Ref_hasRoom hw hG hq14) ?_ (fun E h' n' x' e1 => by cases e1.1)
    intro v9 h9 n9 x9 e9
    obtain ⟨e91, e92, e93⟩ := e9
    cases e91
    subst e92
    subst e93
    clear x
    rename Bool => x
    show J _ _ _ _ (_ :: _) _ _ _ _ _ _
    refine J_if_eq (tgt := 249) d_Ref_workDefault_157 (by decide) ?_ ?_
    · intro c20
      rw [if_pos c20] at H
      refine J.drop [false, false, false, false, false, false, false, false, false] rfl ?_
      exact p_Ref_workDefault_L249 hw hG  H
    · intro c20
      rw [if_neg c20] at H
      refine J_aload_n d_Ref_workDefault_160 rfl ?_
      refine F_getR (ci := 12) (k := 39) hG (cf_Ref hw) (fl_Ref_106 hw) (by decide) (by decide) rfl d_Ref_workDefault_161 g8 ?_
      refine J_iconst (v := 4) d_Ref_workDefault_164 (by decide) ?_
      refine J_iload d_Ref_workDefault_165 rfl ?_
      refine J_imul d_Ref_workDefault_167 ?_
      obtain ⟨a15, ha15, H⟩ := Option.bind_eq_some_iff.mp H
      rw [j_rf ha15]
      obtain ⟨N16, hN16, H⟩ := Option.bind_eq_some_iff.mp H
      obtain ⟨k17, hk17, H⟩ := Option.bind_eq_some_iff.mp H
      refine F_lald k17 hw hG d_Ref_workDefault_168 (gA_some hN16) (ix_some hk17) ?_
      refine J_lstore d_Ref_workDefault_169 (Nat.le_of_ble_eq_true rfl) ?_
      refine J_aload_n d_Ref_workDefault_171 rfl ?_
      refine J_dup d_Ref_workDefault_172 rfl ?_
      refine F_getI (ci := 12) (k := 57) hG (cf_Ref hw) (fl_Ref_553 hw) (by decide) (by decide) rfl d_Ref_workDefault_173 g8 ?_
      refine J_iconst (v := 1) d_Ref_workDefault_176 (by decide) ?_
      refine J_iadd d_Ref_workDefault_177 ?_
      refine F_putI (ci := 12) (k := 57) hG (cf_Ref hw) (fl_Ref_553 hw) (by decide) (by decide) rfl d_Ref_workDefault_178 rfl rfl rfl g8 ?_
      refine J_aload_n d_Ref_workDefault_181 rfl ?_
      refine F_getI (ci := 12) (k := 57) hG (cf_Ref hw) (fl_Ref_553 hw) (by decide) (by decide) rfl d_Ref_workDefault_182 g8 ?_
      refine J_lload d_Ref_workDefault_185 rfl ?_
      obtain ⟨q18, hq18, H⟩ := Option.bind_eq_some_iff.mp H
      refine J_callS (kc := 0) (ks := 0) (kc' := 0) (ks' := 0) (as := [.long (q14.2.2.1 a15 k17)]) (st := [.int ((uI q14.2 x0 57 ((q14.2.1 x0 57) + (1 : Int32))).1 x0 57)]) (mf_Ref_lengthOf hw) (ms_Ref_321 hw) d_Ref_workDefault_187 ln_Ref_lengthOf (by decide) (by first | exact Nat.le_of_ble_eq_true rfl | (simp only [List.map_cons, List.map_nil, List.sum_cons, List.sum_nil, va_rf_cat]; exact Nat.le_of_ble_eq_true rfl)) rfl (p_Ref_lengthOf hw hG hq18) ?_ (fun E h' n' x' e1 => by cases e1.1)
      intro v9 h9 n9 x9 e9
      obtain ⟨e91, e92, e93⟩ := e9
      cases e91
      subst e92
      subst e93
      clear x
      rename Bool => x
      show J _ _ _ _ (_ :: _) _ _ _ _ _ _
      refine J_icmp_ne (tgt := 197) d_Ref_workDefault_190 (by decide) ?_ ?_
      · intro c19
        rw [if_neg c19] at H
        refine J_iconst (v := 0) d_Ref_workDefault_197 (by decide) ?_
        refine J.drop [true, false, false, false, true, true, true, false, false] rfl ?_
        exact p_Ref_workDefault_L198 hw hG  H
      · intro c19
        rw [if_pos c19] at H
        refine J_iconst (v := 1) d_Ref_workDefault_193 (by decide) ?_
        refine J_goto (tgt := 198) d_Ref_workDefault_194 (by decide) ?_
        refine J.drop [true, false, false, false, true, true, true, false, false] rfl ?_
        exact p_Ref_workDefault_L198 hw hG  H
def f_Ref_workDefault_L64 (Γ : gm_T)  (φ : ph_T) (x0 : Nat) (x1 : Int32) (x2 : Int32) (x3 : Int32) : Option (Unit × ph_T) :=
  @ite _ (Γ x0 = .inr 12) _ (
  Option.bind (f_Ref_take Γ φ x0 x1) fun q23 =>
  if x3 = 0 then
    f_Ref_workDefault_L117 Γ  q23.2 x0
  else
    Option.bind (f_Ref_rowOf Γ q23.2 x0 (1 : Int32) (q23.2.1 x0 2) (0 : Int32)) fun q24 =>
    Option.bind (q24.2.2.2 x0 39) fun a25 =>
    Option.bind (gA Γ a25 1) fun N26 =>
    Option.bind (ix ((4 : Int32) * q24.1) N26) fun k27 =>
    Option.bind (f_Ref_idOf Γ q24.2 (q24.2.2.1 a25 k27)) fun q28 =>
    Option.bind (f_Ref_put Γ q28.2 x0 x2 (0 : Int64) (q28.1 + (192 : Int32)) (q28.2.1 x0 6)) fun q29 =>
    Option.bind (f_Ref_take Γ q29.2 x0 q24.1) fun q30 =>
    f_Ref_workDefault_L117 Γ  q30.2 x0
  ) none
set_option maxRecDepth 100000 in
set_option maxHeartbeats 4000000 in
theorem p_Ref_workDefault_L64 {w : jw_T} (hw : jok w) {Γ : gm_T} {n : Nat} (hG : gd w Γ n)  {x : Bool} {φ : ph_T} {x0 : Nat} {x1 : Int32} {x2 : Int32} {x3 : Int32} {q : Unit × ph_T} (H : f_Ref_workDefault_L64 Γ  φ x0 x1 x2 x3 = some q) : J w M_Ref_workDefault 64 [some (.ref x0), some (.int x1), some (.int x2), some (.int x3), none, none, none, none, none] [] (pic Γ φ) n x 0 0 (fq Γ n (.inl none) q.2) := by
  unfold f_Ref_workDefault_L64 at H
  refine J_aload_n d_Ref_workDefault_64 rfl ?_
  refine J_iload_n d_Ref_workDefault_65 rfl ?_
  have g22 : Γ x0 = .inr 12 := by
    apply Classical.byContradiction
    intro q9
    rw [if_neg q9] at H
    cases H
  rw [if_pos g22] at H
  obtain ⟨q23, hq23, H⟩ := Option.bind_eq_some_iff.mp H
  refine J_callV (kc := 0) (ks := 0) (kc' := 0) (ks' := 0) (a := x0) (ci := 12) (as := [.int x1]) (st := []) (mf_Ref_take hw) (mv_Ref_473 hw) d_Ref_workDefault_66 ln_Ref_take (by decide) (by first | exact Nat.le_of_ble_eq_true rfl | (simp only [List.map_cons, List.map_nil, List.sum_cons, List.sum_nil, va_rf_cat]; exact Nat.le_of_ble_eq_true rfl)) rfl ((hG _).1 _ g22 (by decide)).1 ((hG _).1 _ g22 (by decide)).2 (by unfold pic; rw [g22]; rfl) (jcl_at hw rfl) rfl (p_Ref_take hw hG hq23) ?_ (fun E h' n' x' e1 => by cases e1.1)
  intro v9 h9 n9 x9 e9
  obtain ⟨e91, e92, e93⟩ := e9
  cases e91
  subst e92
  subst e93
  clear x
  rename Bool => x
  show J _ _ _ _ [] _ _ _ _ _ _
  refine J_iload_n d_Ref_workDefault_69 rfl ?_
  refine J_if_eq (tgt := 117) d_Ref_workDefault_70 (by decide) ?_ ?_
  · intro c31
    rw [if_pos c31] at H
    refine J.drop [true, false, false, false, false, false, false, false, false] rfl ?_
    exact p_Ref_workDefault_L117 hw hG  H
  · intro c31
    rw [if_neg c31] at H
    refine J_aload_n d_Ref_workDefault_73 rfl ?_
    refine J_iconst (v := 1) d_Ref_workDefault_74 (by decide) ?_
    refine J_aload_n d_Ref_workDefault_75 rfl ?_
    refine F_getI (ci := 12) (k := 2) hG (cf_Ref hw) (fl_Ref_294 hw) (by decide) (by decide) rfl d_Ref_workDefault_76 g22 ?_
    refine J_iconst (v := 0) d_Ref_workDefault_79 (by decide) ?_
    obtain ⟨q24, hq24, H⟩ := Option.bind_eq_some_iff.mp H
    refine J_callV (kc := 0) (ks := 0) (kc' := 0) (ks' := 0) (a := x0) (ci := 12) (as := [.int (1 : Int32), .int (q23.2.1 x0 2), .int (0 : Int32)]) (st := []) (mf_Ref_rowOf hw) (mv_Ref_388 hw) d_Ref_workDefault_80 ln_Ref_rowOf (by decide) (by first | exact Nat.le_of_ble_eq_true rfl | (simp only [List.map_cons, List.map_nil, List.sum_cons, List.sum_nil, va_rf_cat]; exact Nat.le_of_ble_eq_true rfl)) rfl ((hG _).1 _ g22 (by decide)).1 ((hG _).1 _ g22 (by decide)).2 (by unfold pic; rw [g22]; rfl) (jcl_at hw rfl) rfl (p_Ref_rowOf hw hG hq24) ?_ (fun E h' n' x' e1 => by cases e1.1)
    intro v9 h9 n9 x9 e9
    obtain ⟨e91, e92, e93⟩ := e9
    cases e91
    subst e92
    subst e93
    clear x
    rename Bool => x
    show J _ _ _ _ (_ :: _) _ _ _ _ _ _
    refine J_istore d_Ref_workDefault_83 (Nat.le_of_ble_eq_true rfl) ?_
    refine J_aload_n d_Ref_workDefault_85 rfl ?_
    refine J_iload_n d_Ref_workDefault_86 rfl ?_
    refine J_lconst (v := 0) d_Ref_workDefault_87 (by decide) ?_
    refine J_aload_n d_Ref_workDefault_88 rfl ?_
    refine F_getR (ci := 12) (k := 39) hG (cf_Ref hw) (fl_Ref_106 hw) (by decide) (by decide) rfl d_Ref_workDefault_89 g22 ?_
    refine J_iconst (v := 4) d_Ref_workDefault_92 (by decide) ?_
    refine J_iload d_Ref_workDefault_93 rfl ?_
    refine J_imul d_Ref_workDefault_95 ?_
    obtain ⟨a25, ha25, H⟩ := Option.bind_eq_some_iff.mp H
    rw [j_rf ha25]
    obtain ⟨N26, hN26, H⟩ := Option.bind_eq_some_iff.mp H
    obtain ⟨k27, hk27, H⟩ := Option.bind_eq_some_iff.mp H
    refine F_lald k27 hw hG d_Ref_workDefault_96 (gA_some hN26) (ix_some hk27) ?_
    obtain ⟨q28, hq28, H⟩ := Option.bind_eq_some_iff.mp H
    refine J_callS (kc := 0) (ks := 0) (kc' := 0) (ks' := 0) (as := [.long (q24.2.2.1 a25 k27)]) (st := [.long (0 : Int64), .int x2, .ref x0]) (mf_Ref_idOf hw) (ms_Ref_396 hw) d_Ref_workDefault_97 ln_Ref_idOf (by decide) (by first | exact Nat.le_of_ble_eq_true rfl | (simp only [List.map_cons, List.map_nil, List.sum_cons, List.sum_nil, va_rf_cat]; exact Nat.le_of_ble_eq_true rfl)) rfl (p_Ref_idOf hw hG hq28) ?_ (fun E h' n' x' e1 => by cases e1.1)
    intro v9 h9 n9 x9 e9
    obtain ⟨e91, e92, e93⟩ := e9
    cases e91
    subst e92
    subst e93
    clear x
    rename Bool => x
    show J _ _ _ _ (_ :: _) _ _ _ _ _ _
    refine J_sipush (v := 192) d_Ref_workDefault_100 (by decide) ?_
    refine J_iadd d_Ref_workDefault_103 ?_
    refine J_aload_n d_Ref_workDefault_104 rfl ?_
    refine F_getI (ci := 12) (k := 6) hG (cf_Ref hw) (fl_Ref_348 hw) (by decide) (by decide) rfl d_Ref_workDefault_105 g22 ?_
    obtain ⟨q29, hq29, H⟩ := Option.bind_eq_some_iff.mp H
    refine J_callV (kc := 0) (ks := 0) (kc' := 0) (ks' := 0) (a := x0) (ci := 12) (as := [.int x2, .long (0 : Int64), .int (q28.1 + (192 : Int32)), .int (q28.2.1 x0 6)]) (st := []) (mf_Ref_put hw) (mv_Ref_469 hw) d_Ref_workDefault_108 ln_Ref_put (by decide) (by first | exact Nat.le_of_ble_eq_true rfl | (simp only [List.map_cons, List.map_nil, List.sum_cons, List.sum_nil, va_rf_cat]; exact Nat.le_of_ble_eq_true rfl)) rfl ((hG _).1 _ g22 (by decide)).1 ((hG _).1 _ g22 (by decide)).2 (by unfold pic; rw [g22]; rfl) (jcl_at hw rfl) rfl (p_Ref_put hw hG hq29) ?_ (fun E h' n' x' e1 => by cases e1.1)
    intro v9 h9 n9 x9 e9
    obtain ⟨e91, e92, e93⟩ := e9
    cases e91
    subst e92
    subst e93
    clear x
    rename Bool => x
    show J _ _ _ _ [] _ _ _ _ _ _
    refine J_aload_n d_Ref_workDefault_111 rfl ?_
    refine J_iload d_Ref_workDefault_112 rfl ?_
    obtain ⟨q30, hq30, H⟩ := Option.bind_eq_some_iff.mp H
    refine J_callV (kc := 0) (ks := 0) (kc' := 0) (ks' := 0) (a := x0) (ci := 12) (as := [.int q24.1]) (st := []) (mf_Ref_take hw) (mv_Ref_473 hw) d_Ref_workDefault_114 ln_Ref_take (by decide) (by first | exact Nat.le_of_ble_eq_true rfl | (simp only [List.map_cons, List.map_nil, List.sum_cons, List.sum_nil, va_rf_cat]; exact Nat.le_of_ble_eq_true rfl)) rfl ((hG _).1 _ g22 (by decide)).1 ((hG _).1 _ g22 (by decide)).2 (by unfold pic; rw [g22]; rfl) (jcl_at hw rfl) rfl (p_Ref_take hw hG hq30) ?_ (fun E h' n' x' e1 => by cases e1.1)
    intro v9 h9 n9 x9 e9
    obtain ⟨e91, e92, e93⟩ := e9
    cases e91
    subst e92
    subst e93
    clear x
    rename Bool => x
    show J _ _ _ _ [] _ _ _ _ _ _
    refine J.drop [true, false, false, false, false, false, false, false, false] rfl ?_
    exact p_Ref_workDefault_L117 hw hG  H
def f_Ref_workDefault_L42 (Γ : gm_T)  (φ : ph_T) (x0 : Nat) (x1 : Int32) (x2 : Int32) (y0 : Int32) : Option (Unit × ph_T) :=
  @ite _ (Γ x0 = .inr 12) _ (
  Option.bind (φ.2.2 x0 42) fun a33 =>
  Option.bind (gA Γ a33 0) fun N34 =>
  Option.bind (ix x1 N34) fun k35 =>
  if (φ.1 a33 k35) ≤ 0 then
    f_Ref_workDefault_L117 Γ  φ x0
  else
    if y0 = 0 then
      f_Ref_workDefault_L64 Γ  φ x0 x1 x2 y0
    else
      Option.bind (f_Ref_hasRoom Γ φ x0 x2) fun q36 =>
      if q36.1 = 0 then
        f_Ref_workDefault_L117 Γ  q36.2 x0
      else
        f_Ref_workDefault_L64 Γ  q36.2 x0 x1 x2 y0
  ) none
set_option maxRecDepth 100000 in
set_option maxHeartbeats 4000000 in
theorem p_Ref_workDefault_L42 {w : jw_T} (hw : jok w) {Γ : gm_T} {n : Nat} (hG : gd w Γ n)  {x : Bool} {φ : ph_T} {x0 : Nat} {x1 : Int32} {x2 : Int32} {y0 : Int32} {q : Unit × ph_T} (H : f_Ref_workDefault_L42 Γ  φ x0 x1 x2 y0 = some q) : J w M_Ref_workDefault 42 [some (.ref x0), some (.int x1), some (.int x2), none, none, none, none, none, none] [.int y0] (pic Γ φ) n x 0 0 (fq Γ n (.inl none) q.2) := by
  unfold f_Ref_workDefault_L42 at H
  refine J_istore_n d_Ref_workDefault_42 (Nat.le_of_ble_eq_true rfl) ?_
  refine J_aload_n d_Ref_workDefault_43 rfl ?_
  have g32 : Γ x0 = .inr 12 := by
    apply Classical.byContradiction
    intro q9
    rw [if_neg q9] at H
    cases H
  rw [if_pos g32] at H
  refine F_getR (ci := 12) (k := 42) hG (cf_Ref hw) (fl_Ref_115 hw) (by decide) (by decide) rfl d_Ref_workDefault_44 g32 ?_
  refine J_iload_n d_Ref_workDefault_47 rfl ?_
  obtain ⟨a33, ha33, H⟩ := Option.bind_eq_some_iff.mp H
  rw [j_rf ha33]
  obtain ⟨N34, hN34, H⟩ := Option.bind_eq_some_iff.mp H
  obtain ⟨k35, hk35, H⟩ := Option.bind_eq_some_iff.mp H
  refine F_iald k35 hw hG d_Ref_workDefault_48 (gA_some hN34) (ix_some hk35) ?_
  refine J_if_le (tgt := 117) d_Ref_workDefault_49 (by decide) ?_ ?_
  · intro c39
    rw [if_pos c39] at H
    refine J.drop [true, false, false, false, false, false, false, false, false] rfl ?_
    exact p_Ref_workDefault_L117 hw hG  H
  · intro c39
    rw [if_neg c39] at H
    refine J_iload_n d_Ref_workDefault_52 rfl ?_
    refine J_if_eq (tgt := 64) d_Ref_workDefault_53 (by decide) ?_ ?_
    · intro c38
      rw [if_pos c38] at H
      refine J.drop [true, true, true, true, false, false, false, false, false] rfl ?_
      exact p_Ref_workDefault_L64 hw hG  H
    · intro c38
      rw [if_neg c38] at H
      refine J_aload_n d_Ref_workDefault_56 rfl ?_
      refine J_iload_n d_Ref_workDefault_57 rfl ?_
      obtain ⟨q36, hq36, H⟩ := Option.bind_eq_some_iff.mp H
      refine J_callV (kc := 0) (ks := 0) (kc' := 0) (ks' := 0) (a := x0) (ci := 12) (as := [.int x2]) (st := []) (mf_Ref_hasRoom hw) (mv_Ref_392 hw) d_Ref_workDefault_58 ln_Ref_hasRoom (by decide) (by first | exact Nat.le_of_ble_eq_true rfl | (simp only [List.map_cons, List.map_nil, List.sum_cons, List.sum_nil, va_rf_cat]; exact Nat.le_of_ble_eq_true rfl)) rfl ((hG _).1 _ g32 (by decide)).1 ((hG _).1 _ g32 (by decide)).2 (by unfold pic; rw [g32]; rfl) (jcl_at hw rfl) rfl (p_Ref_hasRoom hw hG hq36) ?_ (fun E h' n' x' e1 => by cases e1.1)
      intro v9 h9 n9 x9 e9
      obtain ⟨e91, e92, e93⟩ := e9
      cases e91
      subst e92
      subst e93
      clear x
      rename Bool => x
      show J _ _ _ _ (_ :: _) _ _ _ _ _ _
      refine J_if_eq (tgt := 117) d_Ref_workDefault_61 (by decide) ?_ ?_
      · intro c37
        rw [if_pos c37] at H
        refine J.drop [true, false, false, false, false, false, false, false, false] rfl ?_
        exact p_Ref_workDefault_L117 hw hG  H
      · intro c37
        rw [if_neg c37] at H
        refine J.drop [true, true, true, true, false, false, false, false, false] rfl ?_
        exact p_Ref_workDefault_L64 hw hG  H
def f_Ref_workDefault (Γ : gm_T) (φ : ph_T) (this : Nat) : Option (Unit × ph_T) :=
  @ite _ (Γ this = .inr 12) _ (
  Option.bind (f_Ref_rowOf Γ φ this (1 : Int32) (φ.1 this 2) (1 : Int32)) fun q41 =>
  Option.bind (f_Ref_rowOf Γ q41.2 this (1 : Int32) (q41.2.1 this 2) (2 : Int32)) fun q42 =>
  Option.bind (q42.2.2.2 this 40) fun a43 =>
  Option.bind (gA Γ a43 0) fun N44 =>
  Option.bind (ix ((4 : Int32) * q41.1) N44) fun k45 =>
  if ((q42.2.1 a43 k45) &&& (256 : Int32)) = 0 then
    f_Ref_workDefault_L42 Γ  q42.2 this q41.1 q42.1 (0 : Int32)
  else
    f_Ref_workDefault_L42 Γ  q42.2 this q41.1 q42.1 (1 : Int32)
  ) none
set_option maxRecDepth 100000 in
set_option maxHeartbeats 4000000 in
theorem p_Ref_workDefault {w : jw_T} (hw : jok w) {Γ : gm_T} {n : Nat} (hG : gd w Γ n) {x : Bool} {φ : ph_T} {this : Nat} {q : Unit × ph_T} (H : f_Ref_workDefault Γ φ this = some q) : jc w M_Ref_workDefault [.ref this] (pic Γ φ) n x 0 0 (fq Γ n (.inl none) q.2) := by
  refine jc.of (by simp only [jent_r, jent_i, jent_l, jent_a, jent_0]; exact Nat.le_of_ble_eq_true rfl) ?_
  have hls : jents [.ref this] (jm_nL M_Ref_workDefault) = [some (.ref this), none, none, none, none, none, none, none, none] := by simp only [jents, jent_r, jent_i, jent_l, jent_a, jent_0]; rfl
  rw [hls]
  clear hls
  unfold f_Ref_workDefault at H
  refine J_aload_n d_Ref_workDefault_0 rfl ?_
  refine J_iconst (v := 1) d_Ref_workDefault_1 (by decide) ?_
  refine J_aload_n d_Ref_workDefault_2 rfl ?_
  have g40 : Γ this = .inr 12 := by
    apply Classical.byContradiction
    intro q9
    rw [if_neg q9] at H
    cases H
  rw [if_pos g40] at H
  refine F_getI (ci := 12) (k := 2) hG (cf_Ref hw) (fl_Ref_294 hw) (by decide) (by decide) rfl d_Ref_workDefault_3 g40 ?_
  refine J_iconst (v := 1) d_Ref_workDefault_6 (by decide) ?_
  obtain ⟨q41, hq41, H⟩ := Option.bind_eq_some_iff.mp H
  refine J_callV (kc := 0) (ks := 0) (kc' := 0) (ks' := 0) (a := this) (ci := 12) (as := [.int (1 : Int32), .int (φ.1 this 2), .int (1 : Int32)]) (st := []) (mf_Ref_rowOf hw) (mv_Ref_388 hw) d_Ref_workDefault_7 ln_Ref_rowOf (by decide) (by first | exact Nat.le_of_ble_eq_true rfl | (simp only [List.map_cons, List.map_nil, List.sum_cons, List.sum_nil, va_rf_cat]; exact Nat.le_of_ble_eq_true rfl)) rfl ((hG _).1 _ g40 (by decide)).1 ((hG _).1 _ g40 (by decide)).2 (by unfold pic; rw [g40]; rfl) (jcl_at hw rfl) rfl (p_Ref_rowOf hw hG hq41) ?_ (fun E h' n' x' e1 => by cases e1.1)
  intro v9 h9 n9 x9 e9
  obtain ⟨e91, e92, e93⟩ := e9
  cases e91
  subst e92
  subst e93
  clear x
  rename Bool => x
  show J _ _ _ _ (_ :: _) _ _ _ _ _ _
  refine J_istore_n d_Ref_workDefault_10 (Nat.le_of_ble_eq_true rfl) ?_
  refine J_aload_n d_Ref_workDefault_11 rfl ?_
  refine J_iconst (v := 1) d_Ref_workDefault_12 (by decide) ?_
  refine J_aload_n d_Ref_workDefault_13 rfl ?_
  refine F_getI (ci := 12) (k := 2) hG (cf_Ref hw) (fl_Ref_294 hw) (by decide) (by decide) rfl d_Ref_workDefault_14 g40 ?_
  refine J_iconst (v := 2) d_Ref_workDefault_17 (by decide) ?_
  obtain ⟨q42, hq42, H⟩ := Option.bind_eq_some_iff.mp H
  refine J_callV (kc := 0) (ks := 0) (kc' := 0) (ks' := 0) (a := this) (ci := 12) (as := [.int (1 : Int32), .int (q41.2.1 this 2), .int (2 : Int32)]) (st := []) (mf_Ref_rowOf hw) (mv_Ref_388 hw) d_Ref_workDefault_18 ln_Ref_rowOf (by decide) (by first | exact Nat.le_of_ble_eq_true rfl | (simp only [List.map_cons, List.map_nil, List.sum_cons, List.sum_nil, va_rf_cat]; exact Nat.le_of_ble_eq_true rfl)) rfl ((hG _).1 _ g40 (by decide)).1 ((hG _).1 _ g40 (by decide)).2 (by unfold pic; rw [g40]; rfl) (jcl_at hw rfl) rfl (p_Ref_rowOf hw hG hq42) ?_ (fun E h' n' x' e1 => by cases e1.1)
  intro v9 h9 n9 x9 e9
  obtain ⟨e91, e92, e93⟩ := e9
  cases e91
  subst e92
  subst e93
  clear x
  rename Bool => x
  show J _ _ _ _ (_ :: _) _ _ _ _ _ _
  refine J_istore_n d_Ref_workDefault_21 (Nat.le_of_ble_eq_true rfl) ?_
  refine J_aload_n d_Ref_workDefault_22 rfl ?_
  refine F_getR (ci := 12) (k := 40) hG (cf_Ref hw) (fl_Ref_109 hw) (by decide) (by decide) rfl d_Ref_workDefault_23 g40 ?_
  refine J_iconst (v := 4) d_Ref_workDefault_26 (by decide) ?_
  refine J_iload_n d_Ref_workDefault_27 rfl ?_
  refine J_imul d_Ref_workDefault_28 ?_
  obtain ⟨a43, ha43, H⟩ := Option.bind_eq_some_iff.mp H
  rw [j_rf ha43]
  obtain ⟨N44, hN44, H⟩ := Option.bind_eq_some_iff.mp H
  obtain ⟨k45, hk45, H⟩ := Option.bind_eq_some_iff.mp H
  refine F_iald k45 hw hG d_Ref_workDefault_29 (gA_some hN44) (ix_some hk45) ?_
  refine J_sipush (v := 256) d_Ref_workDefault_30 (by decide) ?_
  refine J_iand d_Ref_workDefault_33 ?_
  refine J_if_eq (tgt := 41) d_Ref_workDefault_34 (by decide) ?_ ?_
  · intro c46
    rw [if_pos c46] at H
    refine J_iconst (v := 0) d_Ref_workDefault_41 (by decide) ?_
    refine J.drop [true, true, true, false, false, false, false, false, false] rfl ?_
    exact p_Ref_workDefault_L42 hw hG  H
  · intro c46
    rw [if_neg c46] at H
    refine J_iconst (v := 1) d_Ref_workDefault_37 (by decide) ?_
    refine J_goto (tgt := 42) d_Ref_workDefault_38 (by decide) ?_
    refine J.drop [true, true, true, false, false, false, false, false, false] rfl ?_
    exact p_Ref_workDefault_L42 hw hG  H
theorem ln_Ref_isFor : (parseMethodDescriptor y_Ref_isFor.desc).map (fun q => q.parameters.length) = some 3 := by decide +kernel
def f_Ref_isFor_L43 (Γ : gm_T)  (φ : ph_T) (y0 : Int32) : Option (Int32 × ph_T) :=
  @ite _ (y0 = 0 ∨ y0 = 1) _ (
  some (y0, φ)
  ) none
set_option maxRecDepth 100000 in
set_option maxHeartbeats 4000000 in
theorem p_Ref_isFor_L43 {w : jw_T} (hw : jok w) {Γ : gm_T} {n : Nat} (hG : gd w Γ n)  {x : Bool} {φ : ph_T} {y0 : Int32} {q : Int32 × ph_T} (H : f_Ref_isFor_L43 Γ  φ y0 = some q) : J w M_Ref_isFor 43 [none, none, none, none, none] [.int y0] (pic Γ φ) n x 0 0 (fq Γ n (.inl (some (.int q.1))) q.2) := by
  unfold f_Ref_isFor_L43 at H
  have z2 : y0 = 0 ∨ y0 = 1 := by
    apply Classical.byContradiction
    intro q9
    rw [if_neg q9] at H
    cases H
  rw [if_pos z2] at H
  cases H
  exact J_iret (st := []) d_Ref_isFor_43 rfl (narrow_z z2).1 ⟨rfl, rfl, rfl⟩
def f_Ref_isFor_L42 (Γ : gm_T)  (φ : ph_T) : Option (Int32 × ph_T) :=
  f_Ref_isFor_L43 Γ  φ (0 : Int32)
set_option maxRecDepth 100000 in
set_option maxHeartbeats 4000000 in
theorem p_Ref_isFor_L42 {w : jw_T} (hw : jok w) {Γ : gm_T} {n : Nat} (hG : gd w Γ n)  {x : Bool} {φ : ph_T} {q : Int32 × ph_T} (H : f_Ref_isFor_L42 Γ  φ  = some q) : J w M_Ref_isFor 42 [none, none, none, none, none] [] (pic Γ φ) n x 0 0 (fq Γ n (.inl (some (.int q.1))) q.2) := by
  unfold f_Ref_isFor_L42 at H
  refine J_iconst (v := 0) d_Ref_isFor_42 (by decide) ?_
  refine J.drop [false, false, false, false, false] rfl ?_
  exact p_Ref_isFor_L43 hw hG  H
def f_Ref_isFor (Γ : gm_T) (φ : ph_T) (this : Nat) (p0 : Int32) (p1 : Int32) (p2 : Int32) : Option (Int32 × ph_T) :=
  @ite _ (Γ this = .inr 12) _ (
  Option.bind (f_Ref_rowOf Γ φ this (1 : Int32) p0 p1) fun q4 =>
  Option.bind (q4.2.2.2 this 42) fun a5 =>
  Option.bind (gA Γ a5 0) fun N6 =>
  Option.bind (ix q4.1 N6) fun k7 =>
  if (q4.2.1 a5 k7) ≤ 0 then
    f_Ref_isFor_L42 Γ  q4.2 
  else
    Option.bind (q4.2.2.2 this 40) fun a8 =>
    Option.bind (gA Γ a8 0) fun N9 =>
    Option.bind (ix ((4 : Int32) * q4.1) N9) fun k10 =>
    @ite _ ((16 : Int32) = 0) _ none (
    if (((q4.2.1 a8 k10) &&& (63 : Int32)) / (16 : Int32)) = p2 then
      f_Ref_isFor_L43 Γ  q4.2 (1 : Int32)
    else
      f_Ref_isFor_L42 Γ  q4.2 
    )
  ) none
set_option maxRecDepth 100000 in
set_option maxHeartbeats 4000000 in
theorem p_Ref_isFor {w : jw_T} (hw : jok w) {Γ : gm_T} {n : Nat} (hG : gd w Γ n) {x : Bool} {φ : ph_T} {this : Nat} {p0 : Int32} {p1 : Int32} {p2 : Int32} {q : Int32 × ph_T} (H : f_Ref_isFor Γ φ this p0 p1 p2 = some q) : jc w M_Ref_isFor [.ref this, .int p0, .int p1, .int p2] (pic Γ φ) n x 0 0 (fq Γ n (.inl (some (.int q.1))) q.2) := by
  refine jc.of (by simp only [jent_r, jent_i, jent_l, jent_a, jent_0]; exact Nat.le_of_ble_eq_true rfl) ?_
  have hls : jents [.ref this, .int p0, .int p1, .int p2] (jm_nL M_Ref_isFor) = [some (.ref this), some (.int p0), some (.int p1), some (.int p2), none] := by simp only [jents, jent_r, jent_i, jent_l, jent_a, jent_0]; rfl
  rw [hls]
  clear hls
  unfold f_Ref_isFor at H
  refine J_aload_n d_Ref_isFor_0 rfl ?_
  refine J_iconst (v := 1) d_Ref_isFor_1 (by decide) ?_
  refine J_iload_n d_Ref_isFor_2 rfl ?_
  refine J_iload_n d_Ref_isFor_3 rfl ?_
  have g3 : Γ this = .inr 12 := by
    apply Classical.byContradiction
    intro q9
    rw [if_neg q9] at H
    cases H
  rw [if_pos g3] at H
  obtain ⟨q4, hq4, H⟩ := Option.bind_eq_some_iff.mp H
  refine J_callV (kc := 0) (ks := 0) (kc' := 0) (ks' := 0) (a := this) (ci := 12) (as := [.int (1 : Int32), .int p0, .int p1]) (st := []) (mf_Ref_rowOf hw) (mv_Ref_388 hw) d_Ref_isFor_4 ln_Ref_rowOf (by decide) (by first | exact Nat.le_of_ble_eq_true rfl | (simp only [List.map_cons, List.map_nil, List.sum_cons, List.sum_nil, va_rf_cat]; exact Nat.le_of_ble_eq_true rfl)) rfl ((hG _).1 _ g3 (by decide)).1 ((hG _).1 _ g3 (by decide)).2 (by unfold pic; rw [g3]; rfl) (jcl_at hw rfl) rfl (p_Ref_rowOf hw hG hq4) ?_ (fun E h' n' x' e1 => by cases e1.1)
  intro v9 h9 n9 x9 e9
  obtain ⟨e91, e92, e93⟩ := e9
  cases e91
  subst e92
  subst e93
  clear x
  rename Bool => x
  show J _ _ _ _ (_ :: _) _ _ _ _ _ _
  refine J_istore d_Ref_isFor_7 (Nat.le_of_ble_eq_true rfl) ?_
  refine J_aload_n d_Ref_isFor_9 rfl ?_
  refine F_getR (ci := 12) (k := 42) hG (cf_Ref hw) (fl_Ref_115 hw) (by decide) (by decide) rfl d_Ref_isFor_10 g3 ?_
  refine J_iload d_Ref_isFor_13 rfl ?_
  obtain ⟨a5, ha5, H⟩ := Option.bind_eq_some_iff.mp H
  rw [j_rf ha5]
  obtain ⟨N6, hN6, H⟩ := Option.bind_eq_some_iff.mp H
  obtain ⟨k7, hk7, H⟩ := Option.bind_eq_some_iff.mp H
  refine F_iald k7 hw hG d_Ref_isFor_15 (gA_some hN6) (ix_some hk7) ?_
  refine J_if_le (tgt := 42) d_Ref_isFor_16 (by decide) ?_ ?_
  · intro c13
    rw [if_pos c13] at H
    refine J.drop [false, false, false, false, false] rfl ?_
    exact p_Ref_isFor_L42 hw hG  H
  · intro c13
    rw [if_neg c13] at H
    refine J_aload_n d_Ref_isFor_19 rfl ?_
    refine F_getR (ci := 12) (k := 40) hG (cf_Ref hw) (fl_Ref_109 hw) (by decide) (by decide) rfl d_Ref_isFor_20 g3 ?_
    refine J_iconst (v := 4) d_Ref_isFor_23 (by decide) ?_
    refine J_iload d_Ref_isFor_24 rfl ?_
    refine J_imul d_Ref_isFor_26 ?_
    obtain ⟨a8, ha8, H⟩ := Option.bind_eq_some_iff.mp H
    rw [j_rf ha8]
    obtain ⟨N9, hN9, H⟩ := Option.bind_eq_some_iff.mp H
    obtain ⟨k10, hk10, H⟩ := Option.bind_eq_some_iff.mp H
    refine F_iald k10 hw hG d_Ref_isFor_27 (gA_some hN9) (ix_some hk10) ?_
    refine J_bipush (v := 63) d_Ref_isFor_28 (by decide) ?_
    refine J_iand d_Ref_isFor_30 ?_
    refine J_bipush (v := 16) d_Ref_isFor_31 (by decide) ?_
    have h11 : ¬ (16 : Int32) = 0 := by
      intro q9
      rw [if_pos q9] at H
      cases H
    rw [if_neg h11] at H
    refine J_idiv d_Ref_isFor_33 h11 ?_
    refine J_iload_n d_Ref_isFor_34 rfl ?_
    refine J_icmp_ne (tgt := 42) d_Ref_isFor_35 (by decide) ?_ ?_
    · intro c12
      rw [if_neg c12] at H
      refine J.drop [false, false, false, false, false] rfl ?_
      exact p_Ref_isFor_L42 hw hG  H
    · intro c12
      rw [if_pos c12] at H
      refine J_iconst (v := 1) d_Ref_isFor_38 (by decide) ?_
      refine J_goto (tgt := 43) d_Ref_isFor_39 (by decide) ?_
      refine J.drop [false, false, false, false, false] rfl ?_
      exact p_Ref_isFor_L43 hw hG  H
theorem ln_Ref_moveAnswer : (parseMethodDescriptor y_Ref_moveAnswer.desc).map (fun q => q.parameters.length) = some 1 := by decide +kernel
def f_Ref_moveAnswer_L187 (Γ : gm_T)  : Nat → ph_T → Nat → Int32 → Option (Unit × ph_T)
  | 0, _, _, _ => none
  | fu + 1, φ, x0, x8 =>
    @ite _ (Γ x0 = .inr 12) _ (
    if (φ.1 x0 47) ≤ x8 then
      some ((), φ)
    else
      Option.bind (φ.2.2 x0 43) fun a3 =>
      Option.bind (gA Γ a3 0) fun N4 =>
      Option.bind (ix (x8 + (1 : Int32)) N4) fun k5 =>
      Option.bind (gA Γ a3 0) fun N6 =>
      Option.bind (ix x8 N6) fun k7 =>
      Option.bind ((uI φ a3 k7 (φ.1 a3 k5)).2.2 x0 44) fun a8 =>
      Option.bind (gA Γ a8 0) fun N9 =>
      Option.bind (ix (x8 + (1 : Int32)) N9) fun k10 =>
      Option.bind (gA Γ a8 0) fun N11 =>
      Option.bind (ix x8 N11) fun k12 =>
      Option.bind ((uI (uI φ a3 k7 (φ.1 a3 k5)) a8 k12 ((uI φ a3 k7 (φ.1 a3 k5)).1 a8 k10)).2.2 x0 45) fun a13 =>
      Option.bind (gA Γ a13 0) fun N14 =>
      Option.bind (ix (x8 + (1 : Int32)) N14) fun k15 =>
      Option.bind (gA Γ a13 0) fun N16 =>
      Option.bind (ix x8 N16) fun k17 =>
      Option.bind ((uI (uI (uI φ a3 k7 (φ.1 a3 k5)) a8 k12 ((uI φ a3 k7 (φ.1 a3 k5)).1 a8 k10)) a13 k17 ((uI (uI φ a3 k7 (φ.1 a3 k5)) a8 k12 ((uI φ a3 k7 (φ.1 a3 k5)).1 a8 k10)).1 a13 k15)).2.2 x0 46) fun a18 =>
      Option.bind (gA Γ a18 0) fun N19 =>
      Option.bind (ix (x8 + (1 : Int32)) N19) fun k20 =>
      Option.bind (gA Γ a18 0) fun N21 =>
      Option.bind (ix x8 N21) fun k22 =>
      (f_Ref_moveAnswer_L187 Γ  fu) (uI (uI (uI (uI φ a3 k7 (φ.1 a3 k5)) a8 k12 ((uI φ a3 k7 (φ.1 a3 k5)).1 a8 k10)) a13 k17 ((uI (uI φ a3 k7 (φ.1 a3 k5)) a8 k12 ((uI φ a3 k7 (φ.1 a3 k5)).1 a8 k10)).1 a13 k15)) a18 k22 ((uI (uI (uI φ a3 k7 (φ.1 a3 k5)) a8 k12 ((uI φ a3 k7 (φ.1 a3 k5)).1 a8 k10)) a13 k17 ((uI (uI φ a3 k7 (φ.1 a3 k5)) a8 k12 ((uI φ a3 k7 (φ.1 a3 k5)).1 a8 k10)).1 a13 k15)).1 a18 k20)) x0 (x8 + (1 : Int32))
    ) none
set_option maxRecDepth 100000 in
set_option maxHeartbeats 4000000 in
theorem p_Ref_moveAnswer_L187 {w : jw_T} (hw : jok w) {Γ : gm_T} {n : Nat} (hG : gd w Γ n)  : ∀ (fu : Nat) {x : Bool} {φ : ph_T} {x0 : Nat} {x8 : Int32} {q : Unit × ph_T}, f_Ref_moveAnswer_L187 Γ  fu φ x0 x8 = some q → J w M_Ref_moveAnswer 187 [some (.ref x0), none, none, none, none, none, none, none, some (.int x8)] [] (pic Γ φ) n x 0 0 (fq Γ n (.inl none) q.2) := by
  intro fu
  induction fu with
  | zero =>
    intro x φ x0 x8 q H
    cases H
  | succ fu ih =>
    intro x φ x0 x8 q H
    unfold f_Ref_moveAnswer_L187 at H
    refine J_iload d_Ref_moveAnswer_187 rfl ?_
    refine J_aload_n d_Ref_moveAnswer_189 rfl ?_
    have g2 : Γ x0 = .inr 12 := by
      apply Classical.byContradiction
      intro q9
      rw [if_neg q9] at H
      cases H
    rw [if_pos g2] at H
    refine F_getI (ci := 12) (k := 47) hG (cf_Ref hw) (fl_Ref_526 hw) (by decide) (by decide) rfl d_Ref_moveAnswer_190 g2 ?_
    refine J_icmp_ge (tgt := 266) d_Ref_moveAnswer_193 (by decide) ?_ ?_
    · intro c23
      rw [if_pos c23] at H
      cases H
      exact J_vret (st := []) d_Ref_moveAnswer_266 rfl ⟨rfl, rfl, rfl⟩
    · intro c23
      rw [if_neg c23] at H
      refine J_aload_n d_Ref_moveAnswer_196 rfl ?_
      refine F_getR (ci := 12) (k := 43) hG (cf_Ref hw) (fl_Ref_118 hw) (by decide) (by decide) rfl d_Ref_moveAnswer_197 g2 ?_
      refine J_iload d_Ref_moveAnswer_200 rfl ?_
      refine J_aload_n d_Ref_moveAnswer_202 rfl ?_
      refine F_getR (ci := 12) (k := 43) hG (cf_Ref hw) (fl_Ref_118 hw) (by decide) (by decide) rfl d_Ref_moveAnswer_203 g2 ?_
      refine J_iload d_Ref_moveAnswer_206 rfl ?_
      refine J_iconst (v := 1) d_Ref_moveAnswer_208 (by decide) ?_
      refine J_iadd d_Ref_moveAnswer_209 ?_
      obtain ⟨a3, ha3, H⟩ := Option.bind_eq_some_iff.mp H
      rw [j_rf ha3]
      obtain ⟨N4, hN4, H⟩ := Option.bind_eq_some_iff.mp H
      obtain ⟨k5, hk5, H⟩ := Option.bind_eq_some_iff.mp H
      refine F_iald k5 hw hG d_Ref_moveAnswer_210 (gA_some hN4) (ix_some hk5) ?_
      obtain ⟨N6, hN6, H⟩ := Option.bind_eq_some_iff.mp H
      obtain ⟨k7, hk7, H⟩ := Option.bind_eq_some_iff.mp H
      refine F_iast k7 hw hG d_Ref_moveAnswer_211 (gA_some hN6) (ix_some hk7) ?_
      refine J_aload_n d_Ref_moveAnswer_212 rfl ?_
      refine F_getR (ci := 12) (k := 44) hG (cf_Ref hw) (fl_Ref_121 hw) (by decide) (by decide) rfl d_Ref_moveAnswer_213 g2 ?_
      refine J_iload d_Ref_moveAnswer_216 rfl ?_
      refine J_aload_n d_Ref_moveAnswer_218 rfl ?_
      refine F_getR (ci := 12) (k := 44) hG (cf_Ref hw) (fl_Ref_121 hw) (by decide) (by decide) rfl d_Ref_moveAnswer_219 g2 ?_
      refine J_iload d_Ref_moveAnswer_222 rfl ?_
      refine J_iconst (v := 1) d_Ref_moveAnswer_224 (by decide) ?_
      refine J_iadd d_Ref_moveAnswer_225 ?_
      obtain ⟨a8, ha8, H⟩ := Option.bind_eq_some_iff.mp H
      rw [j_rf ha8]
      obtain ⟨N9, hN9, H⟩ := Option.bind_eq_some_iff.mp H
      obtain ⟨k10, hk10, H⟩ := Option.bind_eq_some_iff.mp H
      refine F_iald k10 hw hG d_Ref_moveAnswer_226 (gA_some hN9) (ix_some hk10) ?_
      obtain ⟨N11, hN11, H⟩ := Option.bind_eq_some_iff.mp H
      obtain ⟨k12, hk12, H⟩ := Option.bind_eq_some_iff.mp H
      refine F_iast k12 hw hG d_Ref_moveAnswer_227 (gA_some hN11) (ix_some hk12) ?_
      refine J_aload_n d_Ref_moveAnswer_228 rfl ?_
      refine F_getR (ci := 12) (k := 45) hG (cf_Ref hw) (fl_Ref_124 hw) (by decide) (by decide) rfl d_Ref_moveAnswer_229 g2 ?_
      refine J_iload d_Ref_moveAnswer_232 rfl ?_
      refine J_aload_n d_Ref_moveAnswer_234 rfl ?_
      refine F_getR (ci := 12) (k := 45) hG (cf_Ref hw) (fl_Ref_124 hw) (by decide) (by decide) rfl d_Ref_moveAnswer_235 g2 ?_
      refine J_iload d_Ref_moveAnswer_238 rfl ?_
      refine J_iconst (v := 1) d_Ref_moveAnswer_240 (by decide) ?_
      refine J_iadd d_Ref_moveAnswer_241 ?_
      obtain ⟨a13, ha13, H⟩ := Option.bind_eq_some_iff.mp H
      rw [j_rf ha13]
      obtain ⟨N14, hN14, H⟩ := Option.bind_eq_some_iff.mp H
      obtain ⟨k15, hk15, H⟩ := Option.bind_eq_some_iff.mp H
      refine F_iald k15 hw hG d_Ref_moveAnswer_242 (gA_some hN14) (ix_some hk15) ?_
      obtain ⟨N16, hN16, H⟩ := Option.bind_eq_some_iff.mp H
      obtain ⟨k17, hk17, H⟩ := Option.bind_eq_some_iff.mp H
      refine F_iast k17 hw hG d_Ref_moveAnswer_243 (gA_some hN16) (ix_some hk17) ?_
      refine J_aload_n d_Ref_moveAnswer_244 rfl ?_
      refine F_getR (ci := 12) (k := 46) hG (cf_Ref hw) (fl_Ref_127 hw) (by decide) (by decide) rfl d_Ref_moveAnswer_245 g2 ?_
      refine J_iload d_Ref_moveAnswer_248 rfl ?_
      refine J_aload_n d_Ref_moveAnswer_250 rfl ?_
      refine F_getR (ci := 12) (k := 46) hG (cf_Ref hw) (fl_Ref_127 hw) (by decide) (by decide) rfl d_Ref_moveAnswer_251 g2 ?_
      refine J_iload d_Ref_moveAnswer_254 rfl ?_
      refine J_iconst (v := 1) d_Ref_moveAnswer_256 (by decide) ?_
      refine J_iadd d_Ref_moveAnswer_257 ?_
      obtain ⟨a18, ha18, H⟩ := Option.bind_eq_some_iff.mp H
      rw [j_rf ha18]
      obtain ⟨N19, hN19, H⟩ := Option.bind_eq_some_iff.mp H
      obtain ⟨k20, hk20, H⟩ := Option.bind_eq_some_iff.mp H
      refine F_iald k20 hw hG d_Ref_moveAnswer_258 (gA_some hN19) (ix_some hk20) ?_
      obtain ⟨N21, hN21, H⟩ := Option.bind_eq_some_iff.mp H
      obtain ⟨k22, hk22, H⟩ := Option.bind_eq_some_iff.mp H
      refine F_iast k22 hw hG d_Ref_moveAnswer_259 (gA_some hN21) (ix_some hk22) ?_
      refine J_iinc (v := x8 + 1) d_Ref_moveAnswer_260 rfl (by rw [show Int32.ofInt 1 = (1 : Int32) from by decide]) ?_
      refine J_goto (tgt := 187) d_Ref_moveAnswer_263 (by decide) ?_
      refine J.drop [true, false, false, false, false, false, false, false, true] rfl ?_
      exact ih H
def f_Ref_moveAnswer_L167 (Γ : gm_T) (Kc141 : ph_T → Nat → Int32 → Int32 → Int32 → Option (Unit × ph_T)) (φ : ph_T) (x0 : Nat) (x1 : Int32) (x6 : Int32) (x7 : Int32) : Option (Unit × ph_T) :=
  Kc141 φ x0 x1 x6 (x7 + (1 : Int32))
set_option maxRecDepth 100000 in
set_option maxHeartbeats 4000000 in
theorem p_Ref_moveAnswer_L167 {w : jw_T} (hw : jok w) {Γ : gm_T} {n : Nat} (hG : gd w Γ n) {Kc141 : ph_T → Nat → Int32 → Int32 → Int32 → Option (Unit × ph_T)} (hKc141 : ∀ {x : Bool} {φ : ph_T} {x0 : Nat} {x1 : Int32} {x6 : Int32} {x7 : Int32} {q : Unit × ph_T}, Kc141 φ x0 x1 x6 x7 = some q → J w M_Ref_moveAnswer 141 [some (.ref x0), some (.int x1), none, none, none, none, some (.int x6), some (.int x7), none] [] (pic Γ φ) n x 0 0 (fq Γ n (.inl none) q.2)) {x : Bool} {φ : ph_T} {x0 : Nat} {x1 : Int32} {x6 : Int32} {x7 : Int32} {q : Unit × ph_T} (H : f_Ref_moveAnswer_L167 Γ Kc141 φ x0 x1 x6 x7 = some q) : J w M_Ref_moveAnswer 167 [some (.ref x0), some (.int x1), none, none, none, none, some (.int x6), some (.int x7), none] [] (pic Γ φ) n x 0 0 (fq Γ n (.inl none) q.2) := by
  unfold f_Ref_moveAnswer_L167 at H
  refine J_iinc (v := x7 + 1) d_Ref_moveAnswer_167 rfl (by rw [show Int32.ofInt 1 = (1 : Int32) from by decide]) ?_
  refine J_goto (tgt := 141) d_Ref_moveAnswer_170 (by decide) ?_
  refine J.drop [true, true, false, false, false, false, true, true, false] rfl ?_
  exact hKc141 H
def f_Ref_moveAnswer_L141 (Γ : gm_T)  : Nat → ph_T → Nat → Int32 → Int32 → Int32 → Option (Unit × ph_T)
  | 0, _, _, _, _, _ => none
  | fu + 1, φ, x0, x1, x6, x7 =>
    @ite _ (Γ x0 = .inr 12) _ (
    Option.bind (φ.2.2 x0 43) fun a25 =>
    Option.bind (gA Γ a25 0) fun N26 =>
    Option.bind (ix x7 N26) fun k27 =>
    if (φ.1 a25 k27) = x1 then
      Option.bind (φ.2.2 x0 44) fun a28 =>
      Option.bind (gA Γ a28 0) fun N29 =>
      Option.bind (ix x7 N29) fun k30 =>
      if (φ.1 a28 k30) = (x6 &&& (15 : Int32)) then
        f_Ref_moveAnswer_L187 Γ  jF (uI φ x0 47 ((φ.1 x0 47) - (1 : Int32))) x0 x7
      else
        f_Ref_moveAnswer_L167 Γ (f_Ref_moveAnswer_L141 Γ  fu) φ x0 x1 x6 x7
    else
      f_Ref_moveAnswer_L167 Γ (f_Ref_moveAnswer_L141 Γ  fu) φ x0 x1 x6 x7
    ) none
set_option maxRecDepth 100000 in
set_option maxHeartbeats 4000000 in
theorem p_Ref_moveAnswer_L141 {w : jw_T} (hw : jok w) {Γ : gm_T} {n : Nat} (hG : gd w Γ n)  : ∀ (fu : Nat) {x : Bool} {φ : ph_T} {x0 : Nat} {x1 : Int32} {x6 : Int32} {x7 : Int32} {q : Unit × ph_T}, f_Ref_moveAnswer_L141 Γ  fu φ x0 x1 x6 x7 = some q → J w M_Ref_moveAnswer 141 [some (.ref x0), some (.int x1), none, none, none, none, some (.int x6), some (.int x7), none] [] (pic Γ φ) n x 0 0 (fq Γ n (.inl none) q.2) := by
  intro fu
  induction fu with
  | zero =>
    intro x φ x0 x1 x6 x7 q H
    cases H
  | succ fu ih =>
    intro x φ x0 x1 x6 x7 q H
    unfold f_Ref_moveAnswer_L141 at H
    refine J_aload_n d_Ref_moveAnswer_141 rfl ?_
    have g24 : Γ x0 = .inr 12 := by
      apply Classical.byContradiction
      intro q9
      rw [if_neg q9] at H
      cases H
    rw [if_pos g24] at H
    refine F_getR (ci := 12) (k := 43) hG (cf_Ref hw) (fl_Ref_118 hw) (by decide) (by decide) rfl d_Ref_moveAnswer_142 g24 ?_
    refine J_iload d_Ref_moveAnswer_145 rfl ?_
    obtain ⟨a25, ha25, H⟩ := Option.bind_eq_some_iff.mp H
    rw [j_rf ha25]
    obtain ⟨N26, hN26, H⟩ := Option.bind_eq_some_iff.mp H
    obtain ⟨k27, hk27, H⟩ := Option.bind_eq_some_iff.mp H
    refine F_iald k27 hw hG d_Ref_moveAnswer_147 (gA_some hN26) (ix_some hk27) ?_
    refine J_iload_n d_Ref_moveAnswer_148 rfl ?_
    refine J_icmp_ne (tgt := 167) d_Ref_moveAnswer_149 (by decide) ?_ ?_
    · intro c32
      rw [if_neg c32] at H
      refine J.drop [true, true, false, false, false, false, true, true, false] rfl ?_
      exact p_Ref_moveAnswer_L167 hw hG ih H
    · intro c32
      rw [if_pos c32] at H
      refine J_aload_n d_Ref_moveAnswer_152 rfl ?_
      refine F_getR (ci := 12) (k := 44) hG (cf_Ref hw) (fl_Ref_121 hw) (by decide) (by decide) rfl d_Ref_moveAnswer_153 g24 ?_
      refine J_iload d_Ref_moveAnswer_156 rfl ?_
      obtain ⟨a28, ha28, H⟩ := Option.bind_eq_some_iff.mp H
      rw [j_rf ha28]
      obtain ⟨N29, hN29, H⟩ := Option.bind_eq_some_iff.mp H
      obtain ⟨k30, hk30, H⟩ := Option.bind_eq_some_iff.mp H
      refine F_iald k30 hw hG d_Ref_moveAnswer_158 (gA_some hN29) (ix_some hk30) ?_
      refine J_iload d_Ref_moveAnswer_159 rfl ?_
      refine J_bipush (v := 15) d_Ref_moveAnswer_161 (by decide) ?_
      refine J_iand d_Ref_moveAnswer_163 ?_
      refine J_icmp_eq (tgt := 173) d_Ref_moveAnswer_164 (by decide) ?_ ?_
      · intro c31
        rw [if_pos c31] at H
        refine J_aload_n d_Ref_moveAnswer_173 rfl ?_
        refine J_dup d_Ref_moveAnswer_174 rfl ?_
        refine F_getI (ci := 12) (k := 47) hG (cf_Ref hw) (fl_Ref_526 hw) (by decide) (by decide) rfl d_Ref_moveAnswer_175 g24 ?_
        refine J_iconst (v := 1) d_Ref_moveAnswer_178 (by decide) ?_
        refine J_isub d_Ref_moveAnswer_179 ?_
        refine F_putI (ci := 12) (k := 47) hG (cf_Ref hw) (fl_Ref_526 hw) (by decide) (by decide) rfl d_Ref_moveAnswer_180 rfl rfl rfl g24 ?_
        refine J_iload d_Ref_moveAnswer_183 rfl ?_
        refine J_istore d_Ref_moveAnswer_185 (Nat.le_of_ble_eq_true rfl) ?_
        refine J.drop [true, false, false, false, false, false, false, false, true] rfl ?_
        exact p_Ref_moveAnswer_L187 hw hG  _ H
      · intro c31
        rw [if_neg c31] at H
        refine J.drop [true, true, false, false, false, false, true, true, false] rfl ?_
        exact p_Ref_moveAnswer_L167 hw hG ih H
def f_Ref_moveAnswer_L85 (Γ : gm_T)  (φ : ph_T) : Option (Unit × ph_T) :=
  some ((), φ)
set_option maxRecDepth 100000 in
set_option maxHeartbeats 4000000 in
theorem p_Ref_moveAnswer_L85 {w : jw_T} (hw : jok w) {Γ : gm_T} {n : Nat} (hG : gd w Γ n)  {x : Bool} {φ : ph_T} {q : Unit × ph_T} (H : f_Ref_moveAnswer_L85 Γ  φ  = some q) : J w M_Ref_moveAnswer 85 [none, none, none, none, none, none, none, none, none] [] (pic Γ φ) n x 0 0 (fq Γ n (.inl none) q.2) := by
  unfold f_Ref_moveAnswer_L85 at H
  cases H
  exact J_vret (st := []) d_Ref_moveAnswer_85 rfl ⟨rfl, rfl, rfl⟩
def f_Ref_moveAnswer_L71 (Γ : gm_T)  (φ : ph_T) (x0 : Nat) (x1 : Int32) (x2 : Int32) (x4 : Int32) : Option (Unit × ph_T) :=
  if x4 = (-1 : Int32) then
    f_Ref_moveAnswer_L85 Γ  φ 
  else
    @ite _ (Γ x0 = .inr 12) _ (
    Option.bind (f_Ref_hasRoom Γ φ x0 x2) fun q34 =>
    if q34.1 = 0 then
      f_Ref_moveAnswer_L85 Γ  q34.2 
    else
      Option.bind (f_Ref_rowOf Γ q34.2 x0 (1 : Int32) x4 (2 : Int32)) fun q35 =>
      Option.bind (q35.2.2.2 x0 40) fun a36 =>
      Option.bind (gA Γ a36 0) fun N37 =>
      Option.bind (ix ((4 : Int32) * q35.1) N37) fun k38 =>
      Option.bind (f_Ref_take Γ q35.2 x0 q35.1) fun q39 =>
      Option.bind (f_Ref_put Γ q39.2 x0 x2 (0 : Int64) ((q35.2.1 a36 k38) - ((16 : Int32) * x1)) (q39.2.1 x0 6)) fun q40 =>
      Option.bind (q40.2.2.2 x0 54) fun a41 =>
      Option.bind (gA Γ a41 0) fun N42 =>
      Option.bind (ix x1 N42) fun k43 =>
      f_Ref_moveAnswer_L141 Γ  jF (uI q40.2 a41 k43 x4) x0 x1 ((q35.2.1 a36 k38) - ((16 : Int32) * x1)) (0 : Int32)
    ) none
set_option maxRecDepth 100000 in
set_option maxHeartbeats 4000000 in
theorem p_Ref_moveAnswer_L71 {w : jw_T} (hw : jok w) {Γ : gm_T} {n : Nat} (hG : gd w Γ n)  {x : Bool} {φ : ph_T} {x0 : Nat} {x1 : Int32} {x2 : Int32} {x4 : Int32} {q : Unit × ph_T} (H : f_Ref_moveAnswer_L71 Γ  φ x0 x1 x2 x4 = some q) : J w M_Ref_moveAnswer 71 [some (.ref x0), some (.int x1), some (.int x2), none, some (.int x4), none, none, none, none] [] (pic Γ φ) n x 0 0 (fq Γ n (.inl none) q.2) := by
  unfold f_Ref_moveAnswer_L71 at H
  refine J_iload d_Ref_moveAnswer_71 rfl ?_
  refine J_iconst (v := -1) d_Ref_moveAnswer_73 (by decide) ?_
  refine J_icmp_eq (tgt := 85) d_Ref_moveAnswer_74 (by decide) ?_ ?_
  · intro c45
    rw [if_pos c45] at H
    refine J.drop [false, false, false, false, false, false, false, false, false] rfl ?_
    exact p_Ref_moveAnswer_L85 hw hG  H
  · intro c45
    rw [if_neg c45] at H
    refine J_aload_n d_Ref_moveAnswer_77 rfl ?_
    refine J_iload_n d_Ref_moveAnswer_78 rfl ?_
    have g33 : Γ x0 = .inr 12 := by
      apply Classical.byContradiction
      intro q9
      rw [if_neg q9] at H
      cases H
    rw [if_pos g33] at H
    obtain ⟨q34, hq34, H⟩ := Option.bind_eq_some_iff.mp H
    refine J_callV (kc := 0) (ks := 0) (kc' := 0) (ks' := 0) (a := x0) (ci := 12) (as := [.int x2]) (st := []) (mf_Ref_hasRoom hw) (mv_Ref_392 hw) d_Ref_moveAnswer_79 ln_Ref_hasRoom (by decide) (by first | exact Nat.le_of_ble_eq_true rfl | (simp only [List.map_cons, List.map_nil, List.sum_cons, List.sum_nil, va_rf_cat]; exact Nat.le_of_ble_eq_true rfl)) rfl ((hG _).1 _ g33 (by decide)).1 ((hG _).1 _ g33 (by decide)).2 (by unfold pic; rw [g33]; rfl) (jcl_at hw rfl) rfl (p_Ref_hasRoom hw hG hq34) ?_ (fun E h' n' x' e1 => by cases e1.1)
    intro v9 h9 n9 x9 e9
    obtain ⟨e91, e92, e93⟩ := e9
    cases e91
    subst e92
    subst e93
    clear x
    rename Bool => x
    show J _ _ _ _ (_ :: _) _ _ _ _ _ _
    refine J_if_ne (tgt := 86) d_Ref_moveAnswer_82 (by decide) ?_ ?_
    · intro c44
      rw [if_neg c44] at H
      refine J_aload_n d_Ref_moveAnswer_86 rfl ?_
      refine J_iconst (v := 1) d_Ref_moveAnswer_87 (by decide) ?_
      refine J_iload d_Ref_moveAnswer_88 rfl ?_
      refine J_iconst (v := 2) d_Ref_moveAnswer_90 (by decide) ?_
      obtain ⟨q35, hq35, H⟩ := Option.bind_eq_some_iff.mp H
      refine J_callV (kc := 0) (ks := 0) (kc' := 0) (ks' := 0) (a := x0) (ci := 12) (as := [.int (1 : Int32), .int x4, .int (2 : Int32)]) (st := []) (mf_Ref_rowOf hw) (mv_Ref_388 hw) d_Ref_moveAnswer_91 ln_Ref_rowOf (by decide) (by first | exact Nat.le_of_ble_eq_true rfl | (simp only [List.map_cons, List.map_nil, List.sum_cons, List.sum_nil, va_rf_cat]; exact Nat.le_of_ble_eq_true rfl)) rfl ((hG _).1 _ g33 (by decide)).1 ((hG _).1 _ g33 (by decide)).2 (by unfold pic; rw [g33]; rfl) (jcl_at hw rfl) rfl (p_Ref_rowOf hw hG hq35) ?_ (fun E h' n' x' e1 => by cases e1.1)
      intro v9 h9 n9 x9 e9
      obtain ⟨e91, e92, e93⟩ := e9
      cases e91
      subst e92
      subst e93
      clear x
      rename Bool => x
      show J _ _ _ _ (_ :: _) _ _ _ _ _ _
      refine J_istore d_Ref_moveAnswer_94 (Nat.le_of_ble_eq_true rfl) ?_
      refine J_aload_n d_Ref_moveAnswer_96 rfl ?_
      refine F_getR (ci := 12) (k := 40) hG (cf_Ref hw) (fl_Ref_109 hw) (by decide) (by decide) rfl d_Ref_moveAnswer_97 g33 ?_
      refine J_iconst (v := 4) d_Ref_moveAnswer_100 (by decide) ?_
      refine J_iload d_Ref_moveAnswer_101 rfl ?_
      refine J_imul d_Ref_moveAnswer_103 ?_
      obtain ⟨a36, ha36, H⟩ := Option.bind_eq_some_iff.mp H
      rw [j_rf ha36]
      obtain ⟨N37, hN37, H⟩ := Option.bind_eq_some_iff.mp H
      obtain ⟨k38, hk38, H⟩ := Option.bind_eq_some_iff.mp H
      refine F_iald k38 hw hG d_Ref_moveAnswer_104 (gA_some hN37) (ix_some hk38) ?_
      refine J_bipush (v := 16) d_Ref_moveAnswer_105 (by decide) ?_
      refine J_iload_n d_Ref_moveAnswer_107 rfl ?_
      refine J_imul d_Ref_moveAnswer_108 ?_
      refine J_isub d_Ref_moveAnswer_109 ?_
      refine J_istore d_Ref_moveAnswer_110 (Nat.le_of_ble_eq_true rfl) ?_
      refine J_aload_n d_Ref_moveAnswer_112 rfl ?_
      refine J_iload d_Ref_moveAnswer_113 rfl ?_
      obtain ⟨q39, hq39, H⟩ := Option.bind_eq_some_iff.mp H
      refine J_callV (kc := 0) (ks := 0) (kc' := 0) (ks' := 0) (a := x0) (ci := 12) (as := [.int q35.1]) (st := []) (mf_Ref_take hw) (mv_Ref_473 hw) d_Ref_moveAnswer_115 ln_Ref_take (by decide) (by first | exact Nat.le_of_ble_eq_true rfl | (simp only [List.map_cons, List.map_nil, List.sum_cons, List.sum_nil, va_rf_cat]; exact Nat.le_of_ble_eq_true rfl)) rfl ((hG _).1 _ g33 (by decide)).1 ((hG _).1 _ g33 (by decide)).2 (by unfold pic; rw [g33]; rfl) (jcl_at hw rfl) rfl (p_Ref_take hw hG hq39) ?_ (fun E h' n' x' e1 => by cases e1.1)
      intro v9 h9 n9 x9 e9
      obtain ⟨e91, e92, e93⟩ := e9
      cases e91
      subst e92
      subst e93
      clear x
      rename Bool => x
      show J _ _ _ _ [] _ _ _ _ _ _
      refine J_aload_n d_Ref_moveAnswer_118 rfl ?_
      refine J_iload_n d_Ref_moveAnswer_119 rfl ?_
      refine J_lconst (v := 0) d_Ref_moveAnswer_120 (by decide) ?_
      refine J_iload d_Ref_moveAnswer_121 rfl ?_
      refine J_aload_n d_Ref_moveAnswer_123 rfl ?_
      refine F_getI (ci := 12) (k := 6) hG (cf_Ref hw) (fl_Ref_348 hw) (by decide) (by decide) rfl d_Ref_moveAnswer_124 g33 ?_
      obtain ⟨q40, hq40, H⟩ := Option.bind_eq_some_iff.mp H
      refine J_callV (kc := 0) (ks := 0) (kc' := 0) (ks' := 0) (a := x0) (ci := 12) (as := [.int x2, .long (0 : Int64), .int ((q35.2.1 a36 k38) - ((16 : Int32) * x1)), .int (q39.2.1 x0 6)]) (st := []) (mf_Ref_put hw) (mv_Ref_469 hw) d_Ref_moveAnswer_127 ln_Ref_put (by decide) (by first | exact Nat.le_of_ble_eq_true rfl | (simp only [List.map_cons, List.map_nil, List.sum_cons, List.sum_nil, va_rf_cat]; exact Nat.le_of_ble_eq_true rfl)) rfl ((hG _).1 _ g33 (by decide)).1 ((hG _).1 _ g33 (by decide)).2 (by unfold pic; rw [g33]; rfl) (jcl_at hw rfl) rfl (p_Ref_put hw hG hq40) ?_ (fun E h' n' x' e1 => by cases e1.1)
      intro v9 h9 n9 x9 e9
      obtain ⟨e91, e92, e93⟩ := e9
      cases e91
      subst e92
      subst e93
      clear x
      rename Bool => x
      show J _ _ _ _ [] _ _ _ _ _ _
      refine J_aload_n d_Ref_moveAnswer_130 rfl ?_
      refine F_getR (ci := 12) (k := 54) hG (cf_Ref hw) (fl_Ref_145 hw) (by decide) (by decide) rfl d_Ref_moveAnswer_131 g33 ?_
      refine J_iload_n d_Ref_moveAnswer_134 rfl ?_
      refine J_iload d_Ref_moveAnswer_135 rfl ?_
      obtain ⟨a41, ha41, H⟩ := Option.bind_eq_some_iff.mp H
      rw [j_rf ha41]
      obtain ⟨N42, hN42, H⟩ := Option.bind_eq_some_iff.mp H
      obtain ⟨k43, hk43, H⟩ := Option.bind_eq_some_iff.mp H
      refine F_iast k43 hw hG d_Ref_moveAnswer_137 (gA_some hN42) (ix_some hk43) ?_
      refine J_iconst (v := 0) d_Ref_moveAnswer_138 (by decide) ?_
      refine J_istore d_Ref_moveAnswer_139 (Nat.le_of_ble_eq_true rfl) ?_
      refine J.drop [true, true, false, false, false, false, true, true, false] rfl ?_
      exact p_Ref_moveAnswer_L141 hw hG  _ H
    · intro c44
      rw [if_pos c44] at H
      refine J.drop [false, false, false, false, false, false, false, false, false] rfl ?_
      exact p_Ref_moveAnswer_L85 hw hG  H
def f_Ref_moveAnswer_L63 (Γ : gm_T) (Kc21 : ph_T → Nat → Int32 → Int32 → Int32 → Int32 → Int32 → Option (Unit × ph_T)) (φ : ph_T) (x0 : Nat) (x1 : Int32) (x2 : Int32) (x3 : Int32) (x5 : Int32) (y0 : Int32) : Option (Unit × ph_T) :=
  Kc21 φ x0 x1 x2 x3 y0 (x5 + (1 : Int32))
set_option maxRecDepth 100000 in
set_option maxHeartbeats 4000000 in
theorem p_Ref_moveAnswer_L63 {w : jw_T} (hw : jok w) {Γ : gm_T} {n : Nat} (hG : gd w Γ n) {Kc21 : ph_T → Nat → Int32 → Int32 → Int32 → Int32 → Int32 → Option (Unit × ph_T)} (hKc21 : ∀ {x : Bool} {φ : ph_T} {x0 : Nat} {x1 : Int32} {x2 : Int32} {x3 : Int32} {x4 : Int32} {x5 : Int32} {q : Unit × ph_T}, Kc21 φ x0 x1 x2 x3 x4 x5 = some q → J w M_Ref_moveAnswer 21 [some (.ref x0), some (.int x1), some (.int x2), some (.int x3), some (.int x4), some (.int x5), none, none, none] [] (pic Γ φ) n x 0 0 (fq Γ n (.inl none) q.2)) {x : Bool} {φ : ph_T} {x0 : Nat} {x1 : Int32} {x2 : Int32} {x3 : Int32} {x5 : Int32} {y0 : Int32} {q : Unit × ph_T} (H : f_Ref_moveAnswer_L63 Γ Kc21 φ x0 x1 x2 x3 x5 y0 = some q) : J w M_Ref_moveAnswer 63 [some (.ref x0), some (.int x1), some (.int x2), some (.int x3), none, some (.int x5), none, none, none] [.int y0] (pic Γ φ) n x 0 0 (fq Γ n (.inl none) q.2) := by
  unfold f_Ref_moveAnswer_L63 at H
  refine J_istore d_Ref_moveAnswer_63 (Nat.le_of_ble_eq_true rfl) ?_
  refine J_iinc (v := x5 + 1) d_Ref_moveAnswer_65 rfl (by rw [show Int32.ofInt 1 = (1 : Int32) from by decide]) ?_
  refine J_goto (tgt := 21) d_Ref_moveAnswer_68 (by decide) ?_
  refine J.drop [true, true, true, true, true, true, false, false, false] rfl ?_
  exact hKc21 H
def f_Ref_moveAnswer_L21 (Γ : gm_T)  : Nat → ph_T → Nat → Int32 → Int32 → Int32 → Int32 → Int32 → Option (Unit × ph_T)
  | 0, _, _, _, _, _, _, _ => none
  | fu + 1, φ, x0, x1, x2, x3, x4, x5 =>
    if x3 < x5 then
      f_Ref_moveAnswer_L71 Γ  φ x0 x1 x2 x4
    else
      if x4 = (-1 : Int32) then
        @ite _ (Γ x0 = .inr 12) _ (
        Option.bind (φ.2.2 x0 54) fun a47 =>
        Option.bind (gA Γ a47 0) fun N48 =>
        Option.bind (ix x1 N48) fun k49 =>
        @ite _ (x3 = 0) _ none (
        Option.bind (f_Ref_isFor Γ φ x0 (((φ.1 a47 k49) + x5) - ((φ.1 a47 k49) + x5) / x3 * x3) (2 : Int32) x1) fun q51 =>
        if q51.1 = 0 then
          f_Ref_moveAnswer_L63 Γ (f_Ref_moveAnswer_L21 Γ  fu) q51.2 x0 x1 x2 x3 x5 (-1 : Int32)
        else
          f_Ref_moveAnswer_L63 Γ (f_Ref_moveAnswer_L21 Γ  fu) q51.2 x0 x1 x2 x3 x5 (((φ.1 a47 k49) + x5) - ((φ.1 a47 k49) + x5) / x3 * x3)
        )
        ) none
      else
        f_Ref_moveAnswer_L71 Γ  φ x0 x1 x2 x4
set_option maxRecDepth 100000 in
set_option maxHeartbeats 4000000 in
theorem p_Ref_moveAnswer_L21 {w : jw_T} (hw : jok w) {Γ : gm_T} {n : Nat} (hG : gd w Γ n)  : ∀ (fu : Nat) {x : Bool} {φ : ph_T} {x0 : Nat} {x1 : Int32} {x2 : Int32} {x3 : Int32} {x4 : Int32} {x5 : Int32} {q : Unit × ph_T}, f_Ref_moveAnswer_L21 Γ  fu φ x0 x1 x2 x3 x4 x5 = some q → J w M_Ref_moveAnswer 21 [some (.ref x0), some (.int x1), some (.int x2), some (.int x3), some (.int x4), some (.int x5), none, none, none] [] (pic Γ φ) n x 0 0 (fq Γ n (.inl none) q.2) := by
  intro fu
  induction fu with
  | zero =>
    intro x φ x0 x1 x2 x3 x4 x5 q H
    cases H
  | succ fu ih =>
    intro x φ x0 x1 x2 x3 x4 x5 q H
    unfold f_Ref_moveAnswer_L21 at H
    refine J_iload d_Ref_moveAnswer_21 rfl ?_
    refine J_iload_n d_Ref_moveAnswer_23 rfl ?_
    refine J_icmp_gt (tgt := 71) d_Ref_moveAnswer_24 (by decide) ?_ ?_
    · intro c54
      rw [if_pos c54] at H
      refine J.drop [true, true, true, false, true, false, false, false, false] rfl ?_
      exact p_Ref_moveAnswer_L71 hw hG  H
    · intro c54
      rw [if_neg c54] at H
      refine J_iload d_Ref_moveAnswer_27 rfl ?_
      refine J_iconst (v := -1) d_Ref_moveAnswer_29 (by decide) ?_
      refine J_icmp_ne (tgt := 71) d_Ref_moveAnswer_30 (by decide) ?_ ?_
      · intro c53
        rw [if_neg c53] at H
        refine J.drop [true, true, true, false, true, false, false, false, false] rfl ?_
        exact p_Ref_moveAnswer_L71 hw hG  H
      · intro c53
        rw [if_pos c53] at H
        refine J_aload_n d_Ref_moveAnswer_33 rfl ?_
        have g46 : Γ x0 = .inr 12 := by
          apply Classical.byContradiction
          intro q9
          rw [if_neg q9] at H
          cases H
        rw [if_pos g46] at H
        refine F_getR (ci := 12) (k := 54) hG (cf_Ref hw) (fl_Ref_145 hw) (by decide) (by decide) rfl d_Ref_moveAnswer_34 g46 ?_
        refine J_iload_n d_Ref_moveAnswer_37 rfl ?_
        obtain ⟨a47, ha47, H⟩ := Option.bind_eq_some_iff.mp H
        rw [j_rf ha47]
        obtain ⟨N48, hN48, H⟩ := Option.bind_eq_some_iff.mp H
        obtain ⟨k49, hk49, H⟩ := Option.bind_eq_some_iff.mp H
        refine F_iald k49 hw hG d_Ref_moveAnswer_38 (gA_some hN48) (ix_some hk49) ?_
        refine J_iload d_Ref_moveAnswer_39 rfl ?_
        refine J_iadd d_Ref_moveAnswer_41 ?_
        refine J_iload_n d_Ref_moveAnswer_42 rfl ?_
        have h50 : ¬ x3 = 0 := by
          intro q9
          rw [if_pos q9] at H
          cases H
        rw [if_neg h50] at H
        refine J_irem d_Ref_moveAnswer_43 h50 ?_
        refine J_istore d_Ref_moveAnswer_44 (Nat.le_of_ble_eq_true rfl) ?_
        refine J_aload_n d_Ref_moveAnswer_46 rfl ?_
        refine J_iload d_Ref_moveAnswer_47 rfl ?_
        refine J_iconst (v := 2) d_Ref_moveAnswer_49 (by decide) ?_
        refine J_iload_n d_Ref_moveAnswer_50 rfl ?_
        obtain ⟨q51, hq51, H⟩ := Option.bind_eq_some_iff.mp H
        refine J_callV (kc := 0) (ks := 0) (kc' := 0) (ks' := 0) (a := x0) (ci := 12) (as := [.int (((φ.1 a47 k49) + x5) - ((φ.1 a47 k49) + x5) / x3 * x3), .int (2 : Int32), .int x1]) (st := []) (mf_Ref_isFor hw) (mv_Ref_556 hw) d_Ref_moveAnswer_51 ln_Ref_isFor (by decide) (by first | exact Nat.le_of_ble_eq_true rfl | (simp only [List.map_cons, List.map_nil, List.sum_cons, List.sum_nil, va_rf_cat]; exact Nat.le_of_ble_eq_true rfl)) rfl ((hG _).1 _ g46 (by decide)).1 ((hG _).1 _ g46 (by decide)).2 (by unfold pic; rw [g46]; rfl) (jcl_at hw rfl) rfl (p_Ref_isFor hw hG hq51) ?_ (fun E h' n' x' e1 => by cases e1.1)
        intro v9 h9 n9 x9 e9
        obtain ⟨e91, e92, e93⟩ := e9
        cases e91
        subst e92
        subst e93
        clear x
        rename Bool => x
        show J _ _ _ _ (_ :: _) _ _ _ _ _ _
        refine J_if_eq (tgt := 62) d_Ref_moveAnswer_54 (by decide) ?_ ?_
        · intro c52
          rw [if_pos c52] at H
          refine J_iconst (v := -1) d_Ref_moveAnswer_62 (by decide) ?_
          refine J.drop [true, true, true, true, false, true, false, false, false] rfl ?_
          exact p_Ref_moveAnswer_L63 hw hG ih H
        · intro c52
          rw [if_neg c52] at H
          refine J_iload d_Ref_moveAnswer_57 rfl ?_
          refine J_goto (tgt := 63) d_Ref_moveAnswer_59 (by decide) ?_
          refine J.drop [true, true, true, true, false, true, false, false, false] rfl ?_
          exact p_Ref_moveAnswer_L63 hw hG ih H
def f_Ref_moveAnswer (Γ : gm_T) (φ : ph_T) (this : Nat) (p0 : Int32) : Option (Unit × ph_T) :=
  @ite _ (Γ this = .inr 12) _ (
  Option.bind (f_Ref_rowOf Γ φ this (0 : Int32) p0 (2 : Int32)) fun q56 =>
  f_Ref_moveAnswer_L21 Γ  jF q56.2 this p0 q56.1 ((q56.2.1 this 2) + (1 : Int32)) (-1 : Int32) (1 : Int32)
  ) none
set_option maxRecDepth 100000 in
set_option maxHeartbeats 4000000 in
theorem p_Ref_moveAnswer {w : jw_T} (hw : jok w) {Γ : gm_T} {n : Nat} (hG : gd w Γ n) {x : Bool} {φ : ph_T} {this : Nat} {p0 : Int32} {q : Unit × ph_T} (H : f_Ref_moveAnswer Γ φ this p0 = some q) : jc w M_Ref_moveAnswer [.ref this, .int p0] (pic Γ φ) n x 0 0 (fq Γ n (.inl none) q.2) := by
  refine jc.of (by simp only [jent_r, jent_i, jent_l, jent_a, jent_0]; exact Nat.le_of_ble_eq_true rfl) ?_
  have hls : jents [.ref this, .int p0] (jm_nL M_Ref_moveAnswer) = [some (.ref this), some (.int p0), none, none, none, none, none, none, none] := by simp only [jents, jent_r, jent_i, jent_l, jent_a, jent_0]; rfl
  rw [hls]
  clear hls
  unfold f_Ref_moveAnswer at H
  refine J_aload_n d_Ref_moveAnswer_0 rfl ?_
  refine J_iconst (v := 0) d_Ref_moveAnswer_1 (by decide) ?_
  refine J_iload_n d_Ref_moveAnswer_2 rfl ?_
  refine J_iconst (v := 2) d_Ref_moveAnswer_3 (by decide) ?_
  have g55 : Γ this = .inr 12 := by
    apply Classical.byContradiction
    intro q9
    rw [if_neg q9] at H
    cases H
  rw [if_pos g55] at H
  obtain ⟨q56, hq56, H⟩ := Option.bind_eq_some_iff.mp H
  refine J_callV (kc := 0) (ks := 0) (kc' := 0) (ks' := 0) (a := this) (ci := 12) (as := [.int (0 : Int32), .int p0, .int (2 : Int32)]) (st := []) (mf_Ref_rowOf hw) (mv_Ref_388 hw) d_Ref_moveAnswer_4 ln_Ref_rowOf (by decide) (by first | exact Nat.le_of_ble_eq_true rfl | (simp only [List.map_cons, List.map_nil, List.sum_cons, List.sum_nil, va_rf_cat]; exact Nat.le_of_ble_eq_true rfl)) rfl ((hG _).1 _ g55 (by decide)).1 ((hG _).1 _ g55 (by decide)).2 (by unfold pic; rw [g55]; rfl) (jcl_at hw rfl) rfl (p_Ref_rowOf hw hG hq56) ?_ (fun E h' n' x' e1 => by cases e1.1)
  intro v9 h9 n9 x9 e9
  obtain ⟨e91, e92, e93⟩ := e9
  cases e91
  subst e92
  subst e93
  clear x
  rename Bool => x
  show J _ _ _ _ (_ :: _) _ _ _ _ _ _
  refine J_istore_n d_Ref_moveAnswer_7 (Nat.le_of_ble_eq_true rfl) ?_
  refine J_aload_n d_Ref_moveAnswer_8 rfl ?_
  refine F_getI (ci := 12) (k := 2) hG (cf_Ref hw) (fl_Ref_294 hw) (by decide) (by decide) rfl d_Ref_moveAnswer_9 g55 ?_
  refine J_iconst (v := 1) d_Ref_moveAnswer_12 (by decide) ?_
  refine J_iadd d_Ref_moveAnswer_13 ?_
  refine J_istore_n d_Ref_moveAnswer_14 (Nat.le_of_ble_eq_true rfl) ?_
  refine J_iconst (v := -1) d_Ref_moveAnswer_15 (by decide) ?_
  refine J_istore d_Ref_moveAnswer_16 (Nat.le_of_ble_eq_true rfl) ?_
  refine J_iconst (v := 1) d_Ref_moveAnswer_18 (by decide) ?_
  refine J_istore d_Ref_moveAnswer_19 (Nat.le_of_ble_eq_true rfl) ?_
  refine J.drop [true, true, true, true, true, true, false, false, false] rfl ?_
  exact p_Ref_moveAnswer_L21 hw hG  _ H
theorem ln_Ref_moveBeat : (parseMethodDescriptor y_Ref_moveBeat.desc).map (fun q => q.parameters.length) = some 1 := by decide +kernel
def f_Ref_moveBeat_L268 (Γ : gm_T)  : Nat → ph_T → Nat → Int32 → Option (Unit × ph_T)
  | 0, _, _, _ => none
  | fu + 1, φ, x0, x8 =>
    @ite _ (Γ x0 = .inr 12) _ (
    if (φ.1 x0 51) ≤ x8 then
      some ((), φ)
    else
      Option.bind (φ.2.2 x0 48) fun a3 =>
      Option.bind (gA Γ a3 0) fun N4 =>
      Option.bind (ix (x8 + (1 : Int32)) N4) fun k5 =>
      Option.bind (gA Γ a3 0) fun N6 =>
      Option.bind (ix x8 N6) fun k7 =>
      Option.bind ((uI φ a3 k7 (φ.1 a3 k5)).2.2 x0 49) fun a8 =>
      Option.bind (gA Γ a8 0) fun N9 =>
      Option.bind (ix (x8 + (1 : Int32)) N9) fun k10 =>
      Option.bind (gA Γ a8 0) fun N11 =>
      Option.bind (ix x8 N11) fun k12 =>
      Option.bind ((uI (uI φ a3 k7 (φ.1 a3 k5)) a8 k12 ((uI φ a3 k7 (φ.1 a3 k5)).1 a8 k10)).2.2 x0 50) fun a13 =>
      Option.bind (gA Γ a13 0) fun N14 =>
      Option.bind (ix (x8 + (1 : Int32)) N14) fun k15 =>
      Option.bind (gA Γ a13 0) fun N16 =>
      Option.bind (ix x8 N16) fun k17 =>
      (f_Ref_moveBeat_L268 Γ  fu) (uI (uI (uI φ a3 k7 (φ.1 a3 k5)) a8 k12 ((uI φ a3 k7 (φ.1 a3 k5)).1 a8 k10)) a13 k17 ((uI (uI φ a3 k7 (φ.1 a3 k5)) a8 k12 ((uI φ a3 k7 (φ.1 a3 k5)).1 a8 k10)).1 a13 k15)) x0 (x8 + (1 : Int32))
    ) none
set_option maxRecDepth 100000 in
set_option maxHeartbeats 4000000 in
theorem p_Ref_moveBeat_L268 {w : jw_T} (hw : jok w) {Γ : gm_T} {n : Nat} (hG : gd w Γ n)  : ∀ (fu : Nat) {x : Bool} {φ : ph_T} {x0 : Nat} {x8 : Int32} {q : Unit × ph_T}, f_Ref_moveBeat_L268 Γ  fu φ x0 x8 = some q → J w M_Ref_moveBeat 268 [some (.ref x0), none, none, none, none, none, none, none, some (.int x8)] [] (pic Γ φ) n x 0 0 (fq Γ n (.inl none) q.2) := by
  intro fu
  induction fu with
  | zero =>
    intro x φ x0 x8 q H
    cases H
  | succ fu ih =>
    intro x φ x0 x8 q H
    unfold f_Ref_moveBeat_L268 at H
    refine J_iload d_Ref_moveBeat_268 rfl ?_
    refine J_aload_n d_Ref_moveBeat_270 rfl ?_
    have g2 : Γ x0 = .inr 12 := by
      apply Classical.byContradiction
      intro q9
      rw [if_neg q9] at H
      cases H
    rw [if_pos g2] at H
    refine F_getI (ci := 12) (k := 51) hG (cf_Ref hw) (fl_Ref_529 hw) (by decide) (by decide) rfl d_Ref_moveBeat_271 g2 ?_
    refine J_icmp_ge (tgt := 331) d_Ref_moveBeat_274 (by decide) ?_ ?_
    · intro c18
      rw [if_pos c18] at H
      cases H
      exact J_vret (st := []) d_Ref_moveBeat_331 rfl ⟨rfl, rfl, rfl⟩
    · intro c18
      rw [if_neg c18] at H
      refine J_aload_n d_Ref_moveBeat_277 rfl ?_
      refine F_getR (ci := 12) (k := 48) hG (cf_Ref hw) (fl_Ref_130 hw) (by decide) (by decide) rfl d_Ref_moveBeat_278 g2 ?_
      refine J_iload d_Ref_moveBeat_281 rfl ?_
      refine J_aload_n d_Ref_moveBeat_283 rfl ?_
      refine F_getR (ci := 12) (k := 48) hG (cf_Ref hw) (fl_Ref_130 hw) (by decide) (by decide) rfl d_Ref_moveBeat_284 g2 ?_
      refine J_iload d_Ref_moveBeat_287 rfl ?_
      refine J_iconst (v := 1) d_Ref_moveBeat_289 (by decide) ?_
      refine J_iadd d_Ref_moveBeat_290 ?_
      obtain ⟨a3, ha3, H⟩ := Option.bind_eq_some_iff.mp H
      rw [j_rf ha3]
      obtain ⟨N4, hN4, H⟩ := Option.bind_eq_some_iff.mp H
      obtain ⟨k5, hk5, H⟩ := Option.bind_eq_some_iff.mp H
      refine F_iald k5 hw hG d_Ref_moveBeat_291 (gA_some hN4) (ix_some hk5) ?_
      obtain ⟨N6, hN6, H⟩ := Option.bind_eq_some_iff.mp H
      obtain ⟨k7, hk7, H⟩ := Option.bind_eq_some_iff.mp H
      refine F_iast k7 hw hG d_Ref_moveBeat_292 (gA_some hN6) (ix_some hk7) ?_
      refine J_aload_n d_Ref_moveBeat_293 rfl ?_
      refine F_getR (ci := 12) (k := 49) hG (cf_Ref hw) (fl_Ref_133 hw) (by decide) (by decide) rfl d_Ref_moveBeat_294 g2 ?_
      refine J_iload d_Ref_moveBeat_297 rfl ?_
      refine J_aload_n d_Ref_moveBeat_299 rfl ?_
      refine F_getR (ci := 12) (k := 49) hG (cf_Ref hw) (fl_Ref_133 hw) (by decide) (by decide) rfl d_Ref_moveBeat_300 g2 ?_
      refine J_iload d_Ref_moveBeat_303 rfl ?_
      refine J_iconst (v := 1) d_Ref_moveBeat_305 (by decide) ?_
      refine J_iadd d_Ref_moveBeat_306 ?_
      obtain ⟨a8, ha8, H⟩ := Option.bind_eq_some_iff.mp H
      rw [j_rf ha8]
      obtain ⟨N9, hN9, H⟩ := Option.bind_eq_some_iff.mp H
      obtain ⟨k10, hk10, H⟩ := Option.bind_eq_some_iff.mp H
      refine F_iald k10 hw hG d_Ref_moveBeat_307 (gA_some hN9) (ix_some hk10) ?_
      obtain ⟨N11, hN11, H⟩ := Option.bind_eq_some_iff.mp H
      obtain ⟨k12, hk12, H⟩ := Option.bind_eq_some_iff.mp H
      refine F_iast k12 hw hG d_Ref_moveBeat_308 (gA_some hN11) (ix_some hk12) ?_
      refine J_aload_n d_Ref_moveBeat_309 rfl ?_
      refine F_getR (ci := 12) (k := 50) hG (cf_Ref hw) (fl_Ref_136 hw) (by decide) (by decide) rfl d_Ref_moveBeat_310 g2 ?_
      refine J_iload d_Ref_moveBeat_313 rfl ?_
      refine J_aload_n d_Ref_moveBeat_315 rfl ?_
      refine F_getR (ci := 12) (k := 50) hG (cf_Ref hw) (fl_Ref_136 hw) (by decide) (by decide) rfl d_Ref_moveBeat_316 g2 ?_
      refine J_iload d_Ref_moveBeat_319 rfl ?_
      refine J_iconst (v := 1) d_Ref_moveBeat_321 (by decide) ?_
      refine J_iadd d_Ref_moveBeat_322 ?_
      obtain ⟨a13, ha13, H⟩ := Option.bind_eq_some_iff.mp H
      rw [j_rf ha13]
      obtain ⟨N14, hN14, H⟩ := Option.bind_eq_some_iff.mp H
      obtain ⟨k15, hk15, H⟩ := Option.bind_eq_some_iff.mp H
      refine F_iald k15 hw hG d_Ref_moveBeat_323 (gA_some hN14) (ix_some hk15) ?_
      obtain ⟨N16, hN16, H⟩ := Option.bind_eq_some_iff.mp H
      obtain ⟨k17, hk17, H⟩ := Option.bind_eq_some_iff.mp H
      refine F_iast k17 hw hG d_Ref_moveBeat_324 (gA_some hN16) (ix_some hk17) ?_
      refine J_iinc (v := x8 + 1) d_Ref_moveBeat_325 rfl (by rw [show Int32.ofInt 1 = (1 : Int32) from by decide]) ?_
      refine J_goto (tgt := 268) d_Ref_moveBeat_328 (by decide) ?_
      refine J.drop [true, false, false, false, false, false, false, false, true] rfl ?_
      exact ih H
def f_Ref_moveBeat_L248 (Γ : gm_T) (Kc222 : ph_T → Nat → Int32 → Int32 → Int32 → Option (Unit × ph_T)) (φ : ph_T) (x0 : Nat) (x1 : Int32) (x6 : Int32) (x7 : Int32) : Option (Unit × ph_T) :=
  Kc222 φ x0 x1 x6 (x7 + (1 : Int32))
set_option maxRecDepth 100000 in
set_option maxHeartbeats 4000000 in
theorem p_Ref_moveBeat_L248 {w : jw_T} (hw : jok w) {Γ : gm_T} {n : Nat} (hG : gd w Γ n) {Kc222 : ph_T → Nat → Int32 → Int32 → Int32 → Option (Unit × ph_T)} (hKc222 : ∀ {x : Bool} {φ : ph_T} {x0 : Nat} {x1 : Int32} {x6 : Int32} {x7 : Int32} {q : Unit × ph_T}, Kc222 φ x0 x1 x6 x7 = some q → J w M_Ref_moveBeat 222 [some (.ref x0), some (.int x1), none, none, none, none, some (.int x6), some (.int x7), none] [] (pic Γ φ) n x 0 0 (fq Γ n (.inl none) q.2)) {x : Bool} {φ : ph_T} {x0 : Nat} {x1 : Int32} {x6 : Int32} {x7 : Int32} {q : Unit × ph_T} (H : f_Ref_moveBeat_L248 Γ Kc222 φ x0 x1 x6 x7 = some q) : J w M_Ref_moveBeat 248 [some (.ref x0), some (.int x1), none, none, none, none, some (.int x6), some (.int x7), none] [] (pic Γ φ) n x 0 0 (fq Γ n (.inl none) q.2) := by
  unfold f_Ref_moveBeat_L248 at H
  refine J_iinc (v := x7 + 1) d_Ref_moveBeat_248 rfl (by rw [show Int32.ofInt 1 = (1 : Int32) from by decide]) ?_
  refine J_goto (tgt := 222) d_Ref_moveBeat_251 (by decide) ?_
  refine J.drop [true, true, false, false, false, false, true, true, false] rfl ?_
  exact hKc222 H
def f_Ref_moveBeat_L222 (Γ : gm_T)  : Nat → ph_T → Nat → Int32 → Int32 → Int32 → Option (Unit × ph_T)
  | 0, _, _, _, _, _ => none
  | fu + 1, φ, x0, x1, x6, x7 =>
    @ite _ (Γ x0 = .inr 12) _ (
    Option.bind (φ.2.2 x0 48) fun a20 =>
    Option.bind (gA Γ a20 0) fun N21 =>
    Option.bind (ix x7 N21) fun k22 =>
    if (φ.1 a20 k22) = x1 then
      Option.bind (φ.2.2 x0 49) fun a23 =>
      Option.bind (gA Γ a23 0) fun N24 =>
      Option.bind (ix x7 N24) fun k25 =>
      if (φ.1 a23 k25) = (x6 &&& (15 : Int32)) then
        f_Ref_moveBeat_L268 Γ  jF (uI φ x0 51 ((φ.1 x0 51) - (1 : Int32))) x0 x7
      else
        f_Ref_moveBeat_L248 Γ (f_Ref_moveBeat_L222 Γ  fu) φ x0 x1 x6 x7
    else
      f_Ref_moveBeat_L248 Γ (f_Ref_moveBeat_L222 Γ  fu) φ x0 x1 x6 x7
    ) none
set_option maxRecDepth 100000 in
set_option maxHeartbeats 4000000 in
theorem p_Ref_moveBeat_L222 {w : jw_T} (hw : jok w) {Γ : gm_T} {n : Nat} (hG : gd w Γ n)  : ∀ (fu : Nat) {x : Bool} {φ : ph_T} {x0 : Nat} {x1 : Int32} {x6 : Int32} {x7 : Int32} {q : Unit × ph_T}, f_Ref_moveBeat_L222 Γ  fu φ x0 x1 x6 x7 = some q → J w M_Ref_moveBeat 222 [some (.ref x0), some (.int x1), none, none, none, none, some (.int x6), some (.int x7), none] [] (pic Γ φ) n x 0 0 (fq Γ n (.inl none) q.2) := by
  intro fu
  induction fu with
  | zero =>
    intro x φ x0 x1 x6 x7 q H
    cases H
  | succ fu ih =>
    intro x φ x0 x1 x6 x7 q H
    unfold f_Ref_moveBeat_L222 at H
    refine J_aload_n d_Ref_moveBeat_222 rfl ?_
    have g19 : Γ x0 = .inr 12 := by
      apply Classical.byContradiction
      intro q9
      rw [if_neg q9] at H
      cases H
    rw [if_pos g19] at H
    refine F_getR (ci := 12) (k := 48) hG (cf_Ref hw) (fl_Ref_130 hw) (by decide) (by decide) rfl d_Ref_moveBeat_223 g19 ?_
    refine J_iload d_Ref_moveBeat_226 rfl ?_
    obtain ⟨a20, ha20, H⟩ := Option.bind_eq_some_iff.mp H
    rw [j_rf ha20]
    obtain ⟨N21, hN21, H⟩ := Option.bind_eq_some_iff.mp H
    obtain ⟨k22, hk22, H⟩ := Option.bind_eq_some_iff.mp H
    refine F_iald k22 hw hG d_Ref_moveBeat_228 (gA_some hN21) (ix_some hk22) ?_
    refine J_iload_n d_Ref_moveBeat_229 rfl ?_
    refine J_icmp_ne (tgt := 248) d_Ref_moveBeat_230 (by decide) ?_ ?_
    · intro c27
      rw [if_neg c27] at H
      refine J.drop [true, true, false, false, false, false, true, true, false] rfl ?_
      exact p_Ref_moveBeat_L248 hw hG ih H
    · intro c27
      rw [if_pos c27] at H
      refine J_aload_n d_Ref_moveBeat_233 rfl ?_
      refine F_getR (ci := 12) (k := 49) hG (cf_Ref hw) (fl_Ref_133 hw) (by decide) (by decide) rfl d_Ref_moveBeat_234 g19 ?_
      refine J_iload d_Ref_moveBeat_237 rfl ?_
      obtain ⟨a23, ha23, H⟩ := Option.bind_eq_some_iff.mp H
      rw [j_rf ha23]
      obtain ⟨N24, hN24, H⟩ := Option.bind_eq_some_iff.mp H
      obtain ⟨k25, hk25, H⟩ := Option.bind_eq_some_iff.mp H
      refine F_iald k25 hw hG d_Ref_moveBeat_239 (gA_some hN24) (ix_some hk25) ?_
      refine J_iload d_Ref_moveBeat_240 rfl ?_
      refine J_bipush (v := 15) d_Ref_moveBeat_242 (by decide) ?_
      refine J_iand d_Ref_moveBeat_244 ?_
      refine J_icmp_eq (tgt := 254) d_Ref_moveBeat_245 (by decide) ?_ ?_
      · intro c26
        rw [if_pos c26] at H
        refine J_aload_n d_Ref_moveBeat_254 rfl ?_
        refine J_dup d_Ref_moveBeat_255 rfl ?_
        refine F_getI (ci := 12) (k := 51) hG (cf_Ref hw) (fl_Ref_529 hw) (by decide) (by decide) rfl d_Ref_moveBeat_256 g19 ?_
        refine J_iconst (v := 1) d_Ref_moveBeat_259 (by decide) ?_
        refine J_isub d_Ref_moveBeat_260 ?_
        refine F_putI (ci := 12) (k := 51) hG (cf_Ref hw) (fl_Ref_529 hw) (by decide) (by decide) rfl d_Ref_moveBeat_261 rfl rfl rfl g19 ?_
        refine J_iload d_Ref_moveBeat_264 rfl ?_
        refine J_istore d_Ref_moveBeat_266 (Nat.le_of_ble_eq_true rfl) ?_
        refine J.drop [true, false, false, false, false, false, false, false, true] rfl ?_
        exact p_Ref_moveBeat_L268 hw hG  _ H
      · intro c26
        rw [if_neg c26] at H
        refine J.drop [true, true, false, false, false, false, true, true, false] rfl ?_
        exact p_Ref_moveBeat_L248 hw hG ih H
def f_Ref_moveBeat_L208 (Γ : gm_T)  (φ : ph_T) (x0 : Nat) (x1 : Int32) (x6 : Int32) (y0 : Int32) (y1 : Int32) (y2 : Option Nat) : Option (Unit × ph_T) :=
  Option.bind y2 fun a28 =>
  Option.bind (gA Γ a28 2) fun N29 =>
  Option.bind (ix y1 N29) fun k30 =>
  @ite _ (y0 = 0 ∨ y0 = 1) _ (
  @ite _ (Γ x0 = .inr 12) _ (
  Option.bind ((uI φ a28 k30 y0).2.2 x0 56) fun a33 =>
  Option.bind (gA Γ a33 2) fun N34 =>
  Option.bind (ix x1 N34) fun k35 =>
  if ((uI φ a28 k30 y0).1 a33 k35) = 0 then
    f_Ref_moveBeat_L222 Γ  jF (uI φ a28 k30 y0) x0 x1 x6 (0 : Int32)
  else
    some ((), (uI φ a28 k30 y0))
  ) none
  ) none
set_option maxRecDepth 100000 in
set_option maxHeartbeats 4000000 in
theorem p_Ref_moveBeat_L208 {w : jw_T} (hw : jok w) {Γ : gm_T} {n : Nat} (hG : gd w Γ n)  {x : Bool} {φ : ph_T} {x0 : Nat} {x1 : Int32} {x6 : Int32} {y0 : Int32} {y1 : Int32} {y2 : Option Nat} {q : Unit × ph_T} (H : f_Ref_moveBeat_L208 Γ  φ x0 x1 x6 y0 y1 y2 = some q) : J w M_Ref_moveBeat 208 [some (.ref x0), some (.int x1), none, none, none, none, some (.int x6), none, none] [.int y0, .int y1, va_rf y2] (pic Γ φ) n x 0 0 (fq Γ n (.inl none) q.2) := by
  unfold f_Ref_moveBeat_L208 at H
  obtain ⟨a28, ha28, H⟩ := Option.bind_eq_some_iff.mp H
  rw [j_rf ha28]
  obtain ⟨N29, hN29, H⟩ := Option.bind_eq_some_iff.mp H
  obtain ⟨k30, hk30, H⟩ := Option.bind_eq_some_iff.mp H
  have z31 : y0 = 0 ∨ y0 = 1 := by
    apply Classical.byContradiction
    intro q9
    rw [if_neg q9] at H
    cases H
  rw [if_pos z31] at H
  refine F_zast k30 hw hG d_Ref_moveBeat_208 (gA_some hN29) (ix_some hk30) z31 ?_
  refine J_aload_n d_Ref_moveBeat_209 rfl ?_
  have g32 : Γ x0 = .inr 12 := by
    apply Classical.byContradiction
    intro q9
    rw [if_neg q9] at H
    cases H
  rw [if_pos g32] at H
  refine F_getR (ci := 12) (k := 56) hG (cf_Ref hw) (fl_Ref_151 hw) (by decide) (by decide) rfl d_Ref_moveBeat_210 g32 ?_
  refine J_iload_n d_Ref_moveBeat_213 rfl ?_
  obtain ⟨a33, ha33, H⟩ := Option.bind_eq_some_iff.mp H
  rw [j_rf ha33]
  obtain ⟨N34, hN34, H⟩ := Option.bind_eq_some_iff.mp H
  obtain ⟨k35, hk35, H⟩ := Option.bind_eq_some_iff.mp H
  refine F_zald k35 hw hG d_Ref_moveBeat_214 (gA_some hN34) (ix_some hk35) ?_
  refine J_if_eq (tgt := 219) d_Ref_moveBeat_215 (by decide) ?_ ?_
  · intro c36
    rw [if_pos c36] at H
    refine J_iconst (v := 0) d_Ref_moveBeat_219 (by decide) ?_
    refine J_istore d_Ref_moveBeat_220 (Nat.le_of_ble_eq_true rfl) ?_
    refine J.drop [true, true, false, false, false, false, true, true, false] rfl ?_
    exact p_Ref_moveBeat_L222 hw hG  _ H
  · intro c36
    rw [if_neg c36] at H
    cases H
    exact J_vret (st := []) d_Ref_moveBeat_218 rfl ⟨rfl, rfl, rfl⟩
def f_Ref_moveBeat_L128 (Γ : gm_T)  (φ : ph_T) : Option (Unit × ph_T) :=
  some ((), φ)
set_option maxRecDepth 100000 in
set_option maxHeartbeats 4000000 in
theorem p_Ref_moveBeat_L128 {w : jw_T} (hw : jok w) {Γ : gm_T} {n : Nat} (hG : gd w Γ n)  {x : Bool} {φ : ph_T} {q : Unit × ph_T} (H : f_Ref_moveBeat_L128 Γ  φ  = some q) : J w M_Ref_moveBeat 128 [none, none, none, none, none, none, none, none, none] [] (pic Γ φ) n x 0 0 (fq Γ n (.inl none) q.2) := by
  unfold f_Ref_moveBeat_L128 at H
  cases H
  exact J_vret (st := []) d_Ref_moveBeat_128 rfl ⟨rfl, rfl, rfl⟩
def f_Ref_moveBeat_L114 (Γ : gm_T)  (φ : ph_T) (x0 : Nat) (x1 : Int32) (x2 : Int32) (x4 : Int32) : Option (Unit × ph_T) :=
  if x4 = (-1 : Int32) then
    f_Ref_moveBeat_L128 Γ  φ 
  else
    @ite _ (Γ x0 = .inr 12) _ (
    Option.bind (f_Ref_hasRoom Γ φ x0 x2) fun q38 =>
    if q38.1 = 0 then
      f_Ref_moveBeat_L128 Γ  q38.2 
    else
      Option.bind (f_Ref_rowOf Γ q38.2 x0 (1 : Int32) x4 (4 : Int32)) fun q39 =>
      Option.bind (q39.2.2.2 x0 40) fun a40 =>
      Option.bind (gA Γ a40 0) fun N41 =>
      Option.bind (ix ((4 : Int32) * q39.1) N41) fun k42 =>
      Option.bind (q39.2.2.2 x0 39) fun a43 =>
      Option.bind (gA Γ a43 1) fun N44 =>
      Option.bind (ix ((4 : Int32) * q39.1) N44) fun k45 =>
      Option.bind (f_Ref_put Γ q39.2 x0 x2 (q39.2.2.1 a43 k45) ((q39.2.1 a40 k42) - ((16 : Int32) * x1)) (q39.2.1 x0 6)) fun q46 =>
      Option.bind (f_Ref_take Γ q46.2 x0 q39.1) fun q47 =>
      Option.bind (q47.2.2.2 x0 55) fun a48 =>
      Option.bind (gA Γ a48 0) fun N49 =>
      Option.bind (ix x1 N49) fun k50 =>
      if (((q39.2.1 a40 k42) - ((16 : Int32) * x1)) &&& (256 : Int32)) = 0 then
        f_Ref_moveBeat_L208 Γ  (uI q47.2 a48 k50 x4) x0 x1 ((q39.2.1 a40 k42) - ((16 : Int32) * x1)) (1 : Int32) x1 ((uI q47.2 a48 k50 x4).2.2 x0 56)
      else
        f_Ref_moveBeat_L208 Γ  (uI q47.2 a48 k50 x4) x0 x1 ((q39.2.1 a40 k42) - ((16 : Int32) * x1)) (0 : Int32) x1 ((uI q47.2 a48 k50 x4).2.2 x0 56)
    ) none
set_option maxRecDepth 100000 in
set_option maxHeartbeats 4000000 in
theorem p_Ref_moveBeat_L114 {w : jw_T} (hw : jok w) {Γ : gm_T} {n : Nat} (hG : gd w Γ n)  {x : Bool} {φ : ph_T} {x0 : Nat} {x1 : Int32} {x2 : Int32} {x4 : Int32} {q : Unit × ph_T} (H : f_Ref_moveBeat_L114 Γ  φ x0 x1 x2 x4 = some q) : J w M_Ref_moveBeat 114 [some (.ref x0), some (.int x1), some (.int x2), none, some (.int x4), none, none, none, none] [] (pic Γ φ) n x 0 0 (fq Γ n (.inl none) q.2) := by
  unfold f_Ref_moveBeat_L114 at H
  refine J_iload d_Ref_moveBeat_114 rfl ?_
  refine J_iconst (v := -1) d_Ref_moveBeat_116 (by decide) ?_
  refine J_icmp_eq (tgt := 128) d_Ref_moveBeat_117 (by decide) ?_ ?_
  · intro c53
    rw [if_pos c53] at H
    refine J.drop [false, false, false, false, false, false, false, false, false] rfl ?_
    exact p_Ref_moveBeat_L128 hw hG  H
  · intro c53
    rw [if_neg c53] at H
    refine J_aload_n d_Ref_moveBeat_120 rfl ?_
    refine J_iload_n d_Ref_moveBeat_121 rfl ?_
    have g37 : Γ x0 = .inr 12 := by
      apply Classical.byContradiction
      intro q9
      rw [if_neg q9] at H
      cases H
    rw [if_pos g37] at H
    obtain ⟨q38, hq38, H⟩ := Option.bind_eq_some_iff.mp H
    refine J_callV (kc := 0) (ks := 0) (kc' := 0) (ks' := 0) (a := x0) (ci := 12) (as := [.int x2]) (st := []) (mf_Ref_hasRoom hw) (mv_Ref_392 hw) d_Ref_moveBeat_122 ln_Ref_hasRoom (by decide) (by first | exact Nat.le_of_ble_eq_true rfl | (simp only [List.map_cons, List.map_nil, List.sum_cons, List.sum_nil, va_rf_cat]; exact Nat.le_of_ble_eq_true rfl)) rfl ((hG _).1 _ g37 (by decide)).1 ((hG _).1 _ g37 (by decide)).2 (by unfold pic; rw [g37]; rfl) (jcl_at hw rfl) rfl (p_Ref_hasRoom hw hG hq38) ?_ (fun E h' n' x' e1 => by cases e1.1)
    intro v9 h9 n9 x9 e9
    obtain ⟨e91, e92, e93⟩ := e9
    cases e91
    subst e92
    subst e93
    clear x
    rename Bool => x
    show J _ _ _ _ (_ :: _) _ _ _ _ _ _
    refine J_if_ne (tgt := 129) d_Ref_moveBeat_125 (by decide) ?_ ?_
    · intro c52
      rw [if_neg c52] at H
      refine J_aload_n d_Ref_moveBeat_129 rfl ?_
      refine J_iconst (v := 1) d_Ref_moveBeat_130 (by decide) ?_
      refine J_iload d_Ref_moveBeat_131 rfl ?_
      refine J_iconst (v := 4) d_Ref_moveBeat_133 (by decide) ?_
      obtain ⟨q39, hq39, H⟩ := Option.bind_eq_some_iff.mp H
      refine J_callV (kc := 0) (ks := 0) (kc' := 0) (ks' := 0) (a := x0) (ci := 12) (as := [.int (1 : Int32), .int x4, .int (4 : Int32)]) (st := []) (mf_Ref_rowOf hw) (mv_Ref_388 hw) d_Ref_moveBeat_134 ln_Ref_rowOf (by decide) (by first | exact Nat.le_of_ble_eq_true rfl | (simp only [List.map_cons, List.map_nil, List.sum_cons, List.sum_nil, va_rf_cat]; exact Nat.le_of_ble_eq_true rfl)) rfl ((hG _).1 _ g37 (by decide)).1 ((hG _).1 _ g37 (by decide)).2 (by unfold pic; rw [g37]; rfl) (jcl_at hw rfl) rfl (p_Ref_rowOf hw hG hq39) ?_ (fun E h' n' x' e1 => by cases e1.1)
      intro v9 h9 n9 x9 e9
      obtain ⟨e91, e92, e93⟩ := e9
      cases e91
      subst e92
      subst e93
      clear x
      rename Bool => x
      show J _ _ _ _ (_ :: _) _ _ _ _ _ _
      refine J_istore d_Ref_moveBeat_137 (Nat.le_of_ble_eq_true rfl) ?_
      refine J_aload_n d_Ref_moveBeat_139 rfl ?_
      refine F_getR (ci := 12) (k := 40) hG (cf_Ref hw) (fl_Ref_109 hw) (by decide) (by decide) rfl d_Ref_moveBeat_140 g37 ?_
      refine J_iconst (v := 4) d_Ref_moveBeat_143 (by decide) ?_
      refine J_iload d_Ref_moveBeat_144 rfl ?_
      refine J_imul d_Ref_moveBeat_146 ?_
      obtain ⟨a40, ha40, H⟩ := Option.bind_eq_some_iff.mp H
      rw [j_rf ha40]
      obtain ⟨N41, hN41, H⟩ := Option.bind_eq_some_iff.mp H
      obtain ⟨k42, hk42, H⟩ := Option.bind_eq_some_iff.mp H
      refine F_iald k42 hw hG d_Ref_moveBeat_147 (gA_some hN41) (ix_some hk42) ?_
      refine J_bipush (v := 16) d_Ref_moveBeat_148 (by decide) ?_
      refine J_iload_n d_Ref_moveBeat_150 rfl ?_
      refine J_imul d_Ref_moveBeat_151 ?_
      refine J_isub d_Ref_moveBeat_152 ?_
      refine J_istore d_Ref_moveBeat_153 (Nat.le_of_ble_eq_true rfl) ?_
      refine J_aload_n d_Ref_moveBeat_155 rfl ?_
      refine J_iload_n d_Ref_moveBeat_156 rfl ?_
      refine J_aload_n d_Ref_moveBeat_157 rfl ?_
      refine F_getR (ci := 12) (k := 39) hG (cf_Ref hw) (fl_Ref_106 hw) (by decide) (by decide) rfl d_Ref_moveBeat_158 g37 ?_
      refine J_iconst (v := 4) d_Ref_moveBeat_161 (by decide) ?_
      refine J_iload d_Ref_moveBeat_162 rfl ?_
      refine J_imul d_Ref_moveBeat_164 ?_
      obtain ⟨a43, ha43, H⟩ := Option.bind_eq_some_iff.mp H
      rw [j_rf ha43]
      obtain ⟨N44, hN44, H⟩ := Option.bind_eq_some_iff.mp H
      obtain ⟨k45, hk45, H⟩ := Option.bind_eq_some_iff.mp H
      refine F_lald k45 hw hG d_Ref_moveBeat_165 (gA_some hN44) (ix_some hk45) ?_
      refine J_iload d_Ref_moveBeat_166 rfl ?_
      refine J_aload_n d_Ref_moveBeat_168 rfl ?_
      refine F_getI (ci := 12) (k := 6) hG (cf_Ref hw) (fl_Ref_348 hw) (by decide) (by decide) rfl d_Ref_moveBeat_169 g37 ?_
      obtain ⟨q46, hq46, H⟩ := Option.bind_eq_some_iff.mp H
      refine J_callV (kc := 0) (ks := 0) (kc' := 0) (ks' := 0) (a := x0) (ci := 12) (as := [.int x2, .long (q39.2.2.1 a43 k45), .int ((q39.2.1 a40 k42) - ((16 : Int32) * x1)), .int (q39.2.1 x0 6)]) (st := []) (mf_Ref_put hw) (mv_Ref_469 hw) d_Ref_moveBeat_172 ln_Ref_put (by decide) (by first | exact Nat.le_of_ble_eq_true rfl | (simp only [List.map_cons, List.map_nil, List.sum_cons, List.sum_nil, va_rf_cat]; exact Nat.le_of_ble_eq_true rfl)) rfl ((hG _).1 _ g37 (by decide)).1 ((hG _).1 _ g37 (by decide)).2 (by unfold pic; rw [g37]; rfl) (jcl_at hw rfl) rfl (p_Ref_put hw hG hq46) ?_ (fun E h' n' x' e1 => by cases e1.1)
      intro v9 h9 n9 x9 e9
      obtain ⟨e91, e92, e93⟩ := e9
      cases e91
      subst e92
      subst e93
      clear x
      rename Bool => x
      show J _ _ _ _ [] _ _ _ _ _ _
      refine J_aload_n d_Ref_moveBeat_175 rfl ?_
      refine J_iload d_Ref_moveBeat_176 rfl ?_
      obtain ⟨q47, hq47, H⟩ := Option.bind_eq_some_iff.mp H
      refine J_callV (kc := 0) (ks := 0) (kc' := 0) (ks' := 0) (a := x0) (ci := 12) (as := [.int q39.1]) (st := []) (mf_Ref_take hw) (mv_Ref_473 hw) d_Ref_moveBeat_178 ln_Ref_take (by decide) (by first | exact Nat.le_of_ble_eq_true rfl | (simp only [List.map_cons, List.map_nil, List.sum_cons, List.sum_nil, va_rf_cat]; exact Nat.le_of_ble_eq_true rfl)) rfl ((hG _).1 _ g37 (by decide)).1 ((hG _).1 _ g37 (by decide)).2 (by unfold pic; rw [g37]; rfl) (jcl_at hw rfl) rfl (p_Ref_take hw hG hq47) ?_ (fun E h' n' x' e1 => by cases e1.1)
      intro v9 h9 n9 x9 e9
      obtain ⟨e91, e92, e93⟩ := e9
      cases e91
      subst e92
      subst e93
      clear x
      rename Bool => x
      show J _ _ _ _ [] _ _ _ _ _ _
      refine J_aload_n d_Ref_moveBeat_181 rfl ?_
      refine F_getR (ci := 12) (k := 55) hG (cf_Ref hw) (fl_Ref_148 hw) (by decide) (by decide) rfl d_Ref_moveBeat_182 g37 ?_
      refine J_iload_n d_Ref_moveBeat_185 rfl ?_
      refine J_iload d_Ref_moveBeat_186 rfl ?_
      obtain ⟨a48, ha48, H⟩ := Option.bind_eq_some_iff.mp H
      rw [j_rf ha48]
      obtain ⟨N49, hN49, H⟩ := Option.bind_eq_some_iff.mp H
      obtain ⟨k50, hk50, H⟩ := Option.bind_eq_some_iff.mp H
      refine F_iast k50 hw hG d_Ref_moveBeat_188 (gA_some hN49) (ix_some hk50) ?_
      refine J_aload_n d_Ref_moveBeat_189 rfl ?_
      refine F_getR (ci := 12) (k := 56) hG (cf_Ref hw) (fl_Ref_151 hw) (by decide) (by decide) rfl d_Ref_moveBeat_190 g37 ?_
      refine J_iload_n d_Ref_moveBeat_193 rfl ?_
      refine J_iload d_Ref_moveBeat_194 rfl ?_
      refine J_sipush (v := 256) d_Ref_moveBeat_196 (by decide) ?_
      refine J_iand d_Ref_moveBeat_199 ?_
      refine J_if_ne (tgt := 207) d_Ref_moveBeat_200 (by decide) ?_ ?_
      · intro c51
        rw [if_neg c51] at H
        refine J_iconst (v := 0) d_Ref_moveBeat_207 (by decide) ?_
        refine J.drop [true, true, false, false, false, false, true, false, false] rfl ?_
        exact p_Ref_moveBeat_L208 hw hG  H
      · intro c51
        rw [if_pos c51] at H
        refine J_iconst (v := 1) d_Ref_moveBeat_203 (by decide) ?_
        refine J_goto (tgt := 208) d_Ref_moveBeat_204 (by decide) ?_
        refine J.drop [true, true, false, false, false, false, true, false, false] rfl ?_
        exact p_Ref_moveBeat_L208 hw hG  H
    · intro c52
      rw [if_pos c52] at H
      refine J.drop [false, false, false, false, false, false, false, false, false] rfl ?_
      exact p_Ref_moveBeat_L128 hw hG  H
def f_Ref_moveBeat_L112 (Γ : gm_T)  (φ : ph_T) (x0 : Nat) (x1 : Int32) (x2 : Int32) (y0 : Int32) : Option (Unit × ph_T) :=
  f_Ref_moveBeat_L114 Γ  φ x0 x1 x2 y0
set_option maxRecDepth 100000 in
set_option maxHeartbeats 4000000 in
theorem p_Ref_moveBeat_L112 {w : jw_T} (hw : jok w) {Γ : gm_T} {n : Nat} (hG : gd w Γ n)  {x : Bool} {φ : ph_T} {x0 : Nat} {x1 : Int32} {x2 : Int32} {y0 : Int32} {q : Unit × ph_T} (H : f_Ref_moveBeat_L112 Γ  φ x0 x1 x2 y0 = some q) : J w M_Ref_moveBeat 112 [some (.ref x0), some (.int x1), some (.int x2), none, none, none, none, none, none] [.int y0] (pic Γ φ) n x 0 0 (fq Γ n (.inl none) q.2) := by
  unfold f_Ref_moveBeat_L112 at H
  refine J_istore d_Ref_moveBeat_112 (Nat.le_of_ble_eq_true rfl) ?_
  refine J.drop [true, true, true, false, true, false, false, false, false] rfl ?_
  exact p_Ref_moveBeat_L114 hw hG  H
def f_Ref_moveBeat_L71 (Γ : gm_T)  (φ : ph_T) (x0 : Nat) (x1 : Int32) (x2 : Int32) (x4 : Int32) : Option (Unit × ph_T) :=
  @ite _ (Γ x0 = .inr 12) _ (
  if (φ.1 x0 5) = 0 then
    f_Ref_moveBeat_L114 Γ  φ x0 x1 x2 x4
  else
    Option.bind (φ.2.2 x0 56) fun a55 =>
    Option.bind (gA Γ a55 2) fun N56 =>
    Option.bind (ix x1 N56) fun k57 =>
    if (φ.1 a55 k57) = 0 then
      f_Ref_moveBeat_L114 Γ  φ x0 x1 x2 x4
    else
      Option.bind (φ.2.2 x0 55) fun a58 =>
      Option.bind (gA Γ a58 0) fun N59 =>
      Option.bind (ix x1 N59) fun k60 =>
      Option.bind (f_Ref_isFor Γ φ x0 (φ.1 a58 k60) (4 : Int32) x1) fun q61 =>
      if q61.1 = 0 then
        f_Ref_moveBeat_L112 Γ  q61.2 x0 x1 x2 (-1 : Int32)
      else
        Option.bind (q61.2.2.2 x0 55) fun a62 =>
        Option.bind (gA Γ a62 0) fun N63 =>
        Option.bind (ix x1 N63) fun k64 =>
        f_Ref_moveBeat_L112 Γ  q61.2 x0 x1 x2 (q61.2.1 a62 k64)
  ) none
set_option maxRecDepth 100000 in
set_option maxHeartbeats 4000000 in
theorem p_Ref_moveBeat_L71 {w : jw_T} (hw : jok w) {Γ : gm_T} {n : Nat} (hG : gd w Γ n)  {x : Bool} {φ : ph_T} {x0 : Nat} {x1 : Int32} {x2 : Int32} {x4 : Int32} {q : Unit × ph_T} (H : f_Ref_moveBeat_L71 Γ  φ x0 x1 x2 x4 = some q) : J w M_Ref_moveBeat 71 [some (.ref x0), some (.int x1), some (.int x2), none, some (.int x4), none, none, none, none] [] (pic Γ φ) n x 0 0 (fq Γ n (.inl none) q.2) := by
  unfold f_Ref_moveBeat_L71 at H
  refine J_aload_n d_Ref_moveBeat_71 rfl ?_
  have g54 : Γ x0 = .inr 12 := by
    apply Classical.byContradiction
    intro q9
    rw [if_neg q9] at H
    cases H
  rw [if_pos g54] at H
  refine F_getI (ci := 12) (k := 5) hG (cf_Ref hw) (fl_Ref_559 hw) (by decide) (by decide) rfl d_Ref_moveBeat_72 g54 ?_
  refine J_if_eq (tgt := 114) d_Ref_moveBeat_75 (by decide) ?_ ?_
  · intro c67
    rw [if_pos c67] at H
    refine J.drop [true, true, true, false, true, false, false, false, false] rfl ?_
    exact p_Ref_moveBeat_L114 hw hG  H
  · intro c67
    rw [if_neg c67] at H
    refine J_aload_n d_Ref_moveBeat_78 rfl ?_
    refine F_getR (ci := 12) (k := 56) hG (cf_Ref hw) (fl_Ref_151 hw) (by decide) (by decide) rfl d_Ref_moveBeat_79 g54 ?_
    refine J_iload_n d_Ref_moveBeat_82 rfl ?_
    obtain ⟨a55, ha55, H⟩ := Option.bind_eq_some_iff.mp H
    rw [j_rf ha55]
    obtain ⟨N56, hN56, H⟩ := Option.bind_eq_some_iff.mp H
    obtain ⟨k57, hk57, H⟩ := Option.bind_eq_some_iff.mp H
    refine F_zald k57 hw hG d_Ref_moveBeat_83 (gA_some hN56) (ix_some hk57) ?_
    refine J_if_eq (tgt := 114) d_Ref_moveBeat_84 (by decide) ?_ ?_
    · intro c66
      rw [if_pos c66] at H
      refine J.drop [true, true, true, false, true, false, false, false, false] rfl ?_
      exact p_Ref_moveBeat_L114 hw hG  H
    · intro c66
      rw [if_neg c66] at H
      refine J_aload_n d_Ref_moveBeat_87 rfl ?_
      refine J_aload_n d_Ref_moveBeat_88 rfl ?_
      refine F_getR (ci := 12) (k := 55) hG (cf_Ref hw) (fl_Ref_148 hw) (by decide) (by decide) rfl d_Ref_moveBeat_89 g54 ?_
      refine J_iload_n d_Ref_moveBeat_92 rfl ?_
      obtain ⟨a58, ha58, H⟩ := Option.bind_eq_some_iff.mp H
      rw [j_rf ha58]
      obtain ⟨N59, hN59, H⟩ := Option.bind_eq_some_iff.mp H
      obtain ⟨k60, hk60, H⟩ := Option.bind_eq_some_iff.mp H
      refine F_iald k60 hw hG d_Ref_moveBeat_93 (gA_some hN59) (ix_some hk60) ?_
      refine J_iconst (v := 4) d_Ref_moveBeat_94 (by decide) ?_
      refine J_iload_n d_Ref_moveBeat_95 rfl ?_
      obtain ⟨q61, hq61, H⟩ := Option.bind_eq_some_iff.mp H
      refine J_callV (kc := 0) (ks := 0) (kc' := 0) (ks' := 0) (a := x0) (ci := 12) (as := [.int (φ.1 a58 k60), .int (4 : Int32), .int x1]) (st := []) (mf_Ref_isFor hw) (mv_Ref_556 hw) d_Ref_moveBeat_96 ln_Ref_isFor (by decide) (by first | exact Nat.le_of_ble_eq_true rfl | (simp only [List.map_cons, List.map_nil, List.sum_cons, List.sum_nil, va_rf_cat]; exact Nat.le_of_ble_eq_true rfl)) rfl ((hG _).1 _ g54 (by decide)).1 ((hG _).1 _ g54 (by decide)).2 (by unfold pic; rw [g54]; rfl) (jcl_at hw rfl) rfl (p_Ref_isFor hw hG hq61) ?_ (fun E h' n' x' e1 => by cases e1.1)
      intro v9 h9 n9 x9 e9
      obtain ⟨e91, e92, e93⟩ := e9
      cases e91
      subst e92
      subst e93
      clear x
      rename Bool => x
      show J _ _ _ _ (_ :: _) _ _ _ _ _ _
      refine J_if_eq (tgt := 111) d_Ref_moveBeat_99 (by decide) ?_ ?_
      · intro c65
        rw [if_pos c65] at H
        refine J_iconst (v := -1) d_Ref_moveBeat_111 (by decide) ?_
        refine J.drop [true, true, true, false, false, false, false, false, false] rfl ?_
        exact p_Ref_moveBeat_L112 hw hG  H
      · intro c65
        rw [if_neg c65] at H
        refine J_aload_n d_Ref_moveBeat_102 rfl ?_
        refine F_getR (ci := 12) (k := 55) hG (cf_Ref hw) (fl_Ref_148 hw) (by decide) (by decide) rfl d_Ref_moveBeat_103 g54 ?_
        refine J_iload_n d_Ref_moveBeat_106 rfl ?_
        obtain ⟨a62, ha62, H⟩ := Option.bind_eq_some_iff.mp H
        rw [j_rf ha62]
        obtain ⟨N63, hN63, H⟩ := Option.bind_eq_some_iff.mp H
        obtain ⟨k64, hk64, H⟩ := Option.bind_eq_some_iff.mp H
        refine F_iald k64 hw hG d_Ref_moveBeat_107 (gA_some hN63) (ix_some hk64) ?_
        refine J_goto (tgt := 112) d_Ref_moveBeat_108 (by decide) ?_
        refine J.drop [true, true, true, false, false, false, false, false, false] rfl ?_
        exact p_Ref_moveBeat_L112 hw hG  H
def f_Ref_moveBeat_L63 (Γ : gm_T) (Kc21 : ph_T → Nat → Int32 → Int32 → Int32 → Int32 → Int32 → Option (Unit × ph_T)) (φ : ph_T) (x0 : Nat) (x1 : Int32) (x2 : Int32) (x3 : Int32) (x5 : Int32) (y0 : Int32) : Option (Unit × ph_T) :=
  Kc21 φ x0 x1 x2 x3 y0 (x5 + (1 : Int32))
set_option maxRecDepth 100000 in
set_option maxHeartbeats 4000000 in
theorem p_Ref_moveBeat_L63 {w : jw_T} (hw : jok w) {Γ : gm_T} {n : Nat} (hG : gd w Γ n) {Kc21 : ph_T → Nat → Int32 → Int32 → Int32 → Int32 → Int32 → Option (Unit × ph_T)} (hKc21 : ∀ {x : Bool} {φ : ph_T} {x0 : Nat} {x1 : Int32} {x2 : Int32} {x3 : Int32} {x4 : Int32} {x5 : Int32} {q : Unit × ph_T}, Kc21 φ x0 x1 x2 x3 x4 x5 = some q → J w M_Ref_moveBeat 21 [some (.ref x0), some (.int x1), some (.int x2), some (.int x3), some (.int x4), some (.int x5), none, none, none] [] (pic Γ φ) n x 0 0 (fq Γ n (.inl none) q.2)) {x : Bool} {φ : ph_T} {x0 : Nat} {x1 : Int32} {x2 : Int32} {x3 : Int32} {x5 : Int32} {y0 : Int32} {q : Unit × ph_T} (H : f_Ref_moveBeat_L63 Γ Kc21 φ x0 x1 x2 x3 x5 y0 = some q) : J w M_Ref_moveBeat 63 [some (.ref x0), some (.int x1), some (.int x2), some (.int x3), none, some (.int x5), none, none, none] [.int y0] (pic Γ φ) n x 0 0 (fq Γ n (.inl none) q.2) := by
  unfold f_Ref_moveBeat_L63 at H
  refine J_istore d_Ref_moveBeat_63 (Nat.le_of_ble_eq_true rfl) ?_
  refine J_iinc (v := x5 + 1) d_Ref_moveBeat_65 rfl (by rw [show Int32.ofInt 1 = (1 : Int32) from by decide]) ?_
  refine J_goto (tgt := 21) d_Ref_moveBeat_68 (by decide) ?_
  refine J.drop [true, true, true, true, true, true, false, false, false] rfl ?_
  exact hKc21 H
def f_Ref_moveBeat_L21 (Γ : gm_T)  : Nat → ph_T → Nat → Int32 → Int32 → Int32 → Int32 → Int32 → Option (Unit × ph_T)
  | 0, _, _, _, _, _, _, _ => none
  | fu + 1, φ, x0, x1, x2, x3, x4, x5 =>
    if x3 < x5 then
      f_Ref_moveBeat_L71 Γ  φ x0 x1 x2 x4
    else
      if x4 = (-1 : Int32) then
        @ite _ (Γ x0 = .inr 12) _ (
        Option.bind (φ.2.2 x0 55) fun a69 =>
        Option.bind (gA Γ a69 0) fun N70 =>
        Option.bind (ix x1 N70) fun k71 =>
        @ite _ (x3 = 0) _ none (
        Option.bind (f_Ref_isFor Γ φ x0 (((φ.1 a69 k71) + x5) - ((φ.1 a69 k71) + x5) / x3 * x3) (4 : Int32) x1) fun q73 =>
        if q73.1 = 0 then
          f_Ref_moveBeat_L63 Γ (f_Ref_moveBeat_L21 Γ  fu) q73.2 x0 x1 x2 x3 x5 (-1 : Int32)
        else
          f_Ref_moveBeat_L63 Γ (f_Ref_moveBeat_L21 Γ  fu) q73.2 x0 x1 x2 x3 x5 (((φ.1 a69 k71) + x5) - ((φ.1 a69 k71) + x5) / x3 * x3)
        )
        ) none
      else
        f_Ref_moveBeat_L71 Γ  φ x0 x1 x2 x4
set_option maxRecDepth 100000 in
set_option maxHeartbeats 4000000 in
theorem p_Ref_moveBeat_L21 {w : jw_T} (hw : jok w) {Γ : gm_T} {n : Nat} (hG : gd w Γ n)  : ∀ (fu : Nat) {x : Bool} {φ : ph_T} {x0 : Nat} {x1 : Int32} {x2 : Int32} {x3 : Int32} {x4 : Int32} {x5 : Int32} {q : Unit × ph_T}, f_Ref_moveBeat_L21 Γ  fu φ x0 x1 x2 x3 x4 x5 = some q → J w M_Ref_moveBeat 21 [some (.ref x0), some (.int x1), some (.int x2), some (.int x3), some (.int x4), some (.int x5), none, none, none] [] (pic Γ φ) n x 0 0 (fq Γ n (.inl none) q.2) := by
  intro fu
  induction fu with
  | zero =>
    intro x φ x0 x1 x2 x3 x4 x5 q H
    cases H
  | succ fu ih =>
    intro x φ x0 x1 x2 x3 x4 x5 q H
    unfold f_Ref_moveBeat_L21 at H
    refine J_iload d_Ref_moveBeat_21 rfl ?_
    refine J_iload_n d_Ref_moveBeat_23 rfl ?_
    refine J_icmp_gt (tgt := 71) d_Ref_moveBeat_24 (by decide) ?_ ?_
    · intro c76
      rw [if_pos c76] at H
      refine J.drop [true, true, true, false, true, false, false, false, false] rfl ?_
      exact p_Ref_moveBeat_L71 hw hG  H
    · intro c76
      rw [if_neg c76] at H
      refine J_iload d_Ref_moveBeat_27 rfl ?_
      refine J_iconst (v := -1) d_Ref_moveBeat_29 (by decide) ?_
      refine J_icmp_ne (tgt := 71) d_Ref_moveBeat_30 (by decide) ?_ ?_
      · intro c75
        rw [if_neg c75] at H
        refine J.drop [true, true, true, false, true, false, false, false, false] rfl ?_
        exact p_Ref_moveBeat_L71 hw hG  H
      · intro c75
        rw [if_pos c75] at H
        refine J_aload_n d_Ref_moveBeat_33 rfl ?_
        have g68 : Γ x0 = .inr 12 := by
          apply Classical.byContradiction
          intro q9
          rw [if_neg q9] at H
          cases H
        rw [if_pos g68] at H
        refine F_getR (ci := 12) (k := 55) hG (cf_Ref hw) (fl_Ref_148 hw) (by decide) (by decide) rfl d_Ref_moveBeat_34 g68 ?_
        refine J_iload_n d_Ref_moveBeat_37 rfl ?_
        obtain ⟨a69, ha69, H⟩ := Option.bind_eq_some_iff.mp H
        rw [j_rf ha69]
        obtain ⟨N70, hN70, H⟩ := Option.bind_eq_some_iff.mp H
        obtain ⟨k71, hk71, H⟩ := Option.bind_eq_some_iff.mp H
        refine F_iald k71 hw hG d_Ref_moveBeat_38 (gA_some hN70) (ix_some hk71) ?_
        refine J_iload d_Ref_moveBeat_39 rfl ?_
        refine J_iadd d_Ref_moveBeat_41 ?_
        refine J_iload_n d_Ref_moveBeat_42 rfl ?_
        have h72 : ¬ x3 = 0 := by
          intro q9
          rw [if_pos q9] at H
          cases H
        rw [if_neg h72] at H
        refine J_irem d_Ref_moveBeat_43 h72 ?_
        refine J_istore d_Ref_moveBeat_44 (Nat.le_of_ble_eq_true rfl) ?_
        refine J_aload_n d_Ref_moveBeat_46 rfl ?_
        refine J_iload d_Ref_moveBeat_47 rfl ?_
        refine J_iconst (v := 4) d_Ref_moveBeat_49 (by decide) ?_
        refine J_iload_n d_Ref_moveBeat_50 rfl ?_
        obtain ⟨q73, hq73, H⟩ := Option.bind_eq_some_iff.mp H
        refine J_callV (kc := 0) (ks := 0) (kc' := 0) (ks' := 0) (a := x0) (ci := 12) (as := [.int (((φ.1 a69 k71) + x5) - ((φ.1 a69 k71) + x5) / x3 * x3), .int (4 : Int32), .int x1]) (st := []) (mf_Ref_isFor hw) (mv_Ref_556 hw) d_Ref_moveBeat_51 ln_Ref_isFor (by decide) (by first | exact Nat.le_of_ble_eq_true rfl | (simp only [List.map_cons, List.map_nil, List.sum_cons, List.sum_nil, va_rf_cat]; exact Nat.le_of_ble_eq_true rfl)) rfl ((hG _).1 _ g68 (by decide)).1 ((hG _).1 _ g68 (by decide)).2 (by unfold pic; rw [g68]; rfl) (jcl_at hw rfl) rfl (p_Ref_isFor hw hG hq73) ?_ (fun E h' n' x' e1 => by cases e1.1)
        intro v9 h9 n9 x9 e9
        obtain ⟨e91, e92, e93⟩ := e9
        cases e91
        subst e92
        subst e93
        clear x
        rename Bool => x
        show J _ _ _ _ (_ :: _) _ _ _ _ _ _
        refine J_if_eq (tgt := 62) d_Ref_moveBeat_54 (by decide) ?_ ?_
        · intro c74
          rw [if_pos c74] at H
          refine J_iconst (v := -1) d_Ref_moveBeat_62 (by decide) ?_
          refine J.drop [true, true, true, true, false, true, false, false, false] rfl ?_
          exact p_Ref_moveBeat_L63 hw hG ih H
        · intro c74
          rw [if_neg c74] at H
          refine J_iload d_Ref_moveBeat_57 rfl ?_
          refine J_goto (tgt := 63) d_Ref_moveBeat_59 (by decide) ?_
          refine J.drop [true, true, true, true, false, true, false, false, false] rfl ?_
          exact p_Ref_moveBeat_L63 hw hG ih H
def f_Ref_moveBeat (Γ : gm_T) (φ : ph_T) (this : Nat) (p0 : Int32) : Option (Unit × ph_T) :=
  @ite _ (Γ this = .inr 12) _ (
  Option.bind (f_Ref_rowOf Γ φ this (0 : Int32) p0 (4 : Int32)) fun q78 =>
  f_Ref_moveBeat_L21 Γ  jF q78.2 this p0 q78.1 ((q78.2.1 this 2) + (1 : Int32)) (-1 : Int32) (1 : Int32)
  ) none
set_option maxRecDepth 100000 in
set_option maxHeartbeats 4000000 in
theorem p_Ref_moveBeat {w : jw_T} (hw : jok w) {Γ : gm_T} {n : Nat} (hG : gd w Γ n) {x : Bool} {φ : ph_T} {this : Nat} {p0 : Int32} {q : Unit × ph_T} (H : f_Ref_moveBeat Γ φ this p0 = some q) : jc w M_Ref_moveBeat [.ref this, .int p0] (pic Γ φ) n x 0 0 (fq Γ n (.inl none) q.2) := by
  refine jc.of (by simp only [jent_r, jent_i, jent_l, jent_a, jent_0]; exact Nat.le_of_ble_eq_true rfl) ?_
  have hls : jents [.ref this, .int p0] (jm_nL M_Ref_moveBeat) = [some (.ref this), some (.int p0), none, none, none, none, none, none, none] := by simp only [jents, jent_r, jent_i, jent_l, jent_a, jent_0]; rfl
  rw [hls]
  clear hls
  unfold f_Ref_moveBeat at H
  refine J_aload_n d_Ref_moveBeat_0 rfl ?_
  refine J_iconst (v := 0) d_Ref_moveBeat_1 (by decide) ?_
  refine J_iload_n d_Ref_moveBeat_2 rfl ?_
  refine J_iconst (v := 4) d_Ref_moveBeat_3 (by decide) ?_
  have g77 : Γ this = .inr 12 := by
    apply Classical.byContradiction
    intro q9
    rw [if_neg q9] at H
    cases H
  rw [if_pos g77] at H
  obtain ⟨q78, hq78, H⟩ := Option.bind_eq_some_iff.mp H
  refine J_callV (kc := 0) (ks := 0) (kc' := 0) (ks' := 0) (a := this) (ci := 12) (as := [.int (0 : Int32), .int p0, .int (4 : Int32)]) (st := []) (mf_Ref_rowOf hw) (mv_Ref_388 hw) d_Ref_moveBeat_4 ln_Ref_rowOf (by decide) (by first | exact Nat.le_of_ble_eq_true rfl | (simp only [List.map_cons, List.map_nil, List.sum_cons, List.sum_nil, va_rf_cat]; exact Nat.le_of_ble_eq_true rfl)) rfl ((hG _).1 _ g77 (by decide)).1 ((hG _).1 _ g77 (by decide)).2 (by unfold pic; rw [g77]; rfl) (jcl_at hw rfl) rfl (p_Ref_rowOf hw hG hq78) ?_ (fun E h' n' x' e1 => by cases e1.1)
  intro v9 h9 n9 x9 e9
  obtain ⟨e91, e92, e93⟩ := e9
  cases e91
  subst e92
  subst e93
  clear x
  rename Bool => x
  show J _ _ _ _ (_ :: _) _ _ _ _ _ _
  refine J_istore_n d_Ref_moveBeat_7 (Nat.le_of_ble_eq_true rfl) ?_
  refine J_aload_n d_Ref_moveBeat_8 rfl ?_
  refine F_getI (ci := 12) (k := 2) hG (cf_Ref hw) (fl_Ref_294 hw) (by decide) (by decide) rfl d_Ref_moveBeat_9 g77 ?_
  refine J_iconst (v := 1) d_Ref_moveBeat_12 (by decide) ?_
  refine J_iadd d_Ref_moveBeat_13 ?_
  refine J_istore_n d_Ref_moveBeat_14 (Nat.le_of_ble_eq_true rfl) ?_
  refine J_iconst (v := -1) d_Ref_moveBeat_15 (by decide) ?_
  refine J_istore d_Ref_moveBeat_16 (Nat.le_of_ble_eq_true rfl) ?_
  refine J_iconst (v := 1) d_Ref_moveBeat_18 (by decide) ?_
  refine J_istore d_Ref_moveBeat_19 (Nat.le_of_ble_eq_true rfl) ?_
  refine J.drop [true, true, true, true, true, true, false, false, false] rfl ?_
  exact p_Ref_moveBeat_L21 hw hG  _ H
theorem ln_Ref_move : (parseMethodDescriptor y_Ref_move.desc).map (fun q => q.parameters.length) = some 0 := by decide +kernel
def f_Ref_move_L92 (Γ : gm_T)  : Nat → ph_T → Nat → Int32 → Option (Unit × ph_T)
  | 0, _, _, _ => none
  | fu + 1, φ, x0, x1 =>
    @ite _ (Γ x0 = .inr 12) _ (
    if (φ.1 x0 1) ≤ x1 then
      some ((), φ)
    else
      Option.bind (f_Ref_moveBeat Γ φ x0 x1) fun q2 =>
      (f_Ref_move_L92 Γ  fu) q2.2 x0 (x1 + (1 : Int32))
    ) none
set_option maxRecDepth 100000 in
set_option maxHeartbeats 4000000 in
theorem p_Ref_move_L92 {w : jw_T} (hw : jok w) {Γ : gm_T} {n : Nat} (hG : gd w Γ n)  : ∀ (fu : Nat) {x : Bool} {φ : ph_T} {x0 : Nat} {x1 : Int32} {q : Unit × ph_T}, f_Ref_move_L92 Γ  fu φ x0 x1 = some q → J w M_Ref_move 92 [some (.ref x0), some (.int x1)] [] (pic Γ φ) n x 0 0 (fq Γ n (.inl none) q.2) := by
  intro fu
  induction fu with
  | zero =>
    intro x φ x0 x1 q H
    cases H
  | succ fu ih =>
    intro x φ x0 x1 q H
    unfold f_Ref_move_L92 at H
    refine J_iload_n d_Ref_move_92 rfl ?_
    refine J_aload_n d_Ref_move_93 rfl ?_
    have g1 : Γ x0 = .inr 12 := by
      apply Classical.byContradiction
      intro q9
      rw [if_neg q9] at H
      cases H
    rw [if_pos g1] at H
    refine F_getI (ci := 12) (k := 1) hG (cf_Ref hw) (fl_Ref_290 hw) (by decide) (by decide) rfl d_Ref_move_94 g1 ?_
    refine J_icmp_ge (tgt := 111) d_Ref_move_97 (by decide) ?_ ?_
    · intro c3
      rw [if_pos c3] at H
      cases H
      exact J_vret (st := []) d_Ref_move_111 rfl ⟨rfl, rfl, rfl⟩
    · intro c3
      rw [if_neg c3] at H
      refine J_aload_n d_Ref_move_100 rfl ?_
      refine J_iload_n d_Ref_move_101 rfl ?_
      obtain ⟨q2, hq2, H⟩ := Option.bind_eq_some_iff.mp H
      refine J_callV (kc := 0) (ks := 0) (kc' := 0) (ks' := 0) (a := x0) (ci := 12) (as := [.int x1]) (st := []) (mf_Ref_moveBeat hw) (mv_Ref_575 hw) d_Ref_move_102 ln_Ref_moveBeat (by decide) (by first | exact Nat.le_of_ble_eq_true rfl | (simp only [List.map_cons, List.map_nil, List.sum_cons, List.sum_nil, va_rf_cat]; exact Nat.le_of_ble_eq_true rfl)) rfl ((hG _).1 _ g1 (by decide)).1 ((hG _).1 _ g1 (by decide)).2 (by unfold pic; rw [g1]; rfl) (jcl_at hw rfl) rfl (p_Ref_moveBeat hw hG hq2) ?_ (fun E h' n' x' e1 => by cases e1.1)
      intro v9 h9 n9 x9 e9
      obtain ⟨e91, e92, e93⟩ := e9
      cases e91
      subst e92
      subst e93
      clear x
      rename Bool => x
      show J _ _ _ _ [] _ _ _ _ _ _
      refine J_iinc (v := x1 + 1) d_Ref_move_105 rfl (by rw [show Int32.ofInt 1 = (1 : Int32) from by decide]) ?_
      refine J_goto (tgt := 92) d_Ref_move_108 (by decide) ?_
      refine J.drop [true, true] rfl ?_
      exact ih H
def f_Ref_move_L71 (Γ : gm_T)  : Nat → ph_T → Nat → Int32 → Option (Unit × ph_T)
  | 0, _, _, _ => none
  | fu + 1, φ, x0, x1 =>
    @ite _ (Γ x0 = .inr 12) _ (
    if (φ.1 x0 1) ≤ x1 then
      f_Ref_move_L92 Γ  jF φ x0 (0 : Int32)
    else
      Option.bind (f_Ref_moveAnswer Γ φ x0 x1) fun q5 =>
      (f_Ref_move_L71 Γ  fu) q5.2 x0 (x1 + (1 : Int32))
    ) none
set_option maxRecDepth 100000 in
set_option maxHeartbeats 4000000 in
theorem p_Ref_move_L71 {w : jw_T} (hw : jok w) {Γ : gm_T} {n : Nat} (hG : gd w Γ n)  : ∀ (fu : Nat) {x : Bool} {φ : ph_T} {x0 : Nat} {x1 : Int32} {q : Unit × ph_T}, f_Ref_move_L71 Γ  fu φ x0 x1 = some q → J w M_Ref_move 71 [some (.ref x0), some (.int x1)] [] (pic Γ φ) n x 0 0 (fq Γ n (.inl none) q.2) := by
  intro fu
  induction fu with
  | zero =>
    intro x φ x0 x1 q H
    cases H
  | succ fu ih =>
    intro x φ x0 x1 q H
    unfold f_Ref_move_L71 at H
    refine J_iload_n d_Ref_move_71 rfl ?_
    refine J_aload_n d_Ref_move_72 rfl ?_
    have g4 : Γ x0 = .inr 12 := by
      apply Classical.byContradiction
      intro q9
      rw [if_neg q9] at H
      cases H
    rw [if_pos g4] at H
    refine F_getI (ci := 12) (k := 1) hG (cf_Ref hw) (fl_Ref_290 hw) (by decide) (by decide) rfl d_Ref_move_73 g4 ?_
    refine J_icmp_ge (tgt := 90) d_Ref_move_76 (by decide) ?_ ?_
    · intro c6
      rw [if_pos c6] at H
      refine J_iconst (v := 0) d_Ref_move_90 (by decide) ?_
      refine J_istore_n d_Ref_move_91 (Nat.le_of_ble_eq_true rfl) ?_
      refine J.drop [true, true] rfl ?_
      exact p_Ref_move_L92 hw hG  _ H
    · intro c6
      rw [if_neg c6] at H
      refine J_aload_n d_Ref_move_79 rfl ?_
      refine J_iload_n d_Ref_move_80 rfl ?_
      obtain ⟨q5, hq5, H⟩ := Option.bind_eq_some_iff.mp H
      refine J_callV (kc := 0) (ks := 0) (kc' := 0) (ks' := 0) (a := x0) (ci := 12) (as := [.int x1]) (st := []) (mf_Ref_moveAnswer hw) (mv_Ref_572 hw) d_Ref_move_81 ln_Ref_moveAnswer (by decide) (by first | exact Nat.le_of_ble_eq_true rfl | (simp only [List.map_cons, List.map_nil, List.sum_cons, List.sum_nil, va_rf_cat]; exact Nat.le_of_ble_eq_true rfl)) rfl ((hG _).1 _ g4 (by decide)).1 ((hG _).1 _ g4 (by decide)).2 (by unfold pic; rw [g4]; rfl) (jcl_at hw rfl) rfl (p_Ref_moveAnswer hw hG hq5) ?_ (fun E h' n' x' e1 => by cases e1.1)
      intro v9 h9 n9 x9 e9
      obtain ⟨e91, e92, e93⟩ := e9
      cases e91
      subst e92
      subst e93
      clear x
      rename Bool => x
      show J _ _ _ _ [] _ _ _ _ _ _
      refine J_iinc (v := x1 + 1) d_Ref_move_84 rfl (by rw [show Int32.ofInt 1 = (1 : Int32) from by decide]) ?_
      refine J_goto (tgt := 71) d_Ref_move_87 (by decide) ?_
      refine J.drop [true, true] rfl ?_
      exact ih H
def f_Ref_move_L46 (Γ : gm_T)  : Nat → ph_T → Nat → Int32 → Option (Unit × ph_T)
  | 0, _, _, _ => none
  | fu + 1, φ, x0, x1 =>
    @ite _ (Γ x0 = .inr 12) _ (
    if (φ.1 x0 1) ≤ x1 then
      Option.bind (f_Ref_workDefault Γ φ x0) fun q8 =>
      f_Ref_move_L71 Γ  jF q8.2 x0 (0 : Int32)
    else
      Option.bind (f_Ref_moveData Γ φ x0 x1) fun q9 =>
      (f_Ref_move_L46 Γ  fu) q9.2 x0 (x1 + (1 : Int32))
    ) none
set_option maxRecDepth 100000 in
set_option maxHeartbeats 4000000 in
theorem p_Ref_move_L46 {w : jw_T} (hw : jok w) {Γ : gm_T} {n : Nat} (hG : gd w Γ n)  : ∀ (fu : Nat) {x : Bool} {φ : ph_T} {x0 : Nat} {x1 : Int32} {q : Unit × ph_T}, f_Ref_move_L46 Γ  fu φ x0 x1 = some q → J w M_Ref_move 46 [some (.ref x0), some (.int x1)] [] (pic Γ φ) n x 0 0 (fq Γ n (.inl none) q.2) := by
  intro fu
  induction fu with
  | zero =>
    intro x φ x0 x1 q H
    cases H
  | succ fu ih =>
    intro x φ x0 x1 q H
    unfold f_Ref_move_L46 at H
    refine J_iload_n d_Ref_move_46 rfl ?_
    refine J_aload_n d_Ref_move_47 rfl ?_
    have g7 : Γ x0 = .inr 12 := by
      apply Classical.byContradiction
      intro q9
      rw [if_neg q9] at H
      cases H
    rw [if_pos g7] at H
    refine F_getI (ci := 12) (k := 1) hG (cf_Ref hw) (fl_Ref_290 hw) (by decide) (by decide) rfl d_Ref_move_48 g7 ?_
    refine J_icmp_ge (tgt := 65) d_Ref_move_51 (by decide) ?_ ?_
    · intro c10
      rw [if_pos c10] at H
      refine J_aload_n d_Ref_move_65 rfl ?_
      obtain ⟨q8, hq8, H⟩ := Option.bind_eq_some_iff.mp H
      refine J_callV (kc := 0) (ks := 0) (kc' := 0) (ks' := 0) (a := x0) (ci := 12) (as := []) (st := []) (mf_Ref_workDefault hw) (mv_Ref_569 hw) d_Ref_move_66 ln_Ref_workDefault (by decide) (by first | exact Nat.le_of_ble_eq_true rfl | (simp only [List.map_cons, List.map_nil, List.sum_cons, List.sum_nil, va_rf_cat]; exact Nat.le_of_ble_eq_true rfl)) rfl ((hG _).1 _ g7 (by decide)).1 ((hG _).1 _ g7 (by decide)).2 (by unfold pic; rw [g7]; rfl) (jcl_at hw rfl) rfl (p_Ref_workDefault hw hG hq8) ?_ (fun E h' n' x' e1 => by cases e1.1)
      intro v9 h9 n9 x9 e9
      obtain ⟨e91, e92, e93⟩ := e9
      cases e91
      subst e92
      subst e93
      clear x
      rename Bool => x
      show J _ _ _ _ [] _ _ _ _ _ _
      refine J_iconst (v := 0) d_Ref_move_69 (by decide) ?_
      refine J_istore_n d_Ref_move_70 (Nat.le_of_ble_eq_true rfl) ?_
      refine J.drop [true, true] rfl ?_
      exact p_Ref_move_L71 hw hG  _ H
    · intro c10
      rw [if_neg c10] at H
      refine J_aload_n d_Ref_move_54 rfl ?_
      refine J_iload_n d_Ref_move_55 rfl ?_
      obtain ⟨q9, hq9, H⟩ := Option.bind_eq_some_iff.mp H
      refine J_callV (kc := 0) (ks := 0) (kc' := 0) (ks' := 0) (a := x0) (ci := 12) (as := [.int x1]) (st := []) (mf_Ref_moveData hw) (mv_Ref_566 hw) d_Ref_move_56 ln_Ref_moveData (by decide) (by first | exact Nat.le_of_ble_eq_true rfl | (simp only [List.map_cons, List.map_nil, List.sum_cons, List.sum_nil, va_rf_cat]; exact Nat.le_of_ble_eq_true rfl)) rfl ((hG _).1 _ g7 (by decide)).1 ((hG _).1 _ g7 (by decide)).2 (by unfold pic; rw [g7]; rfl) (jcl_at hw rfl) rfl (p_Ref_moveData hw hG hq9) ?_ (fun E h' n' x' e1 => by cases e1.1)
      intro v9 h9 n9 x9 e9
      obtain ⟨e91, e92, e93⟩ := e9
      cases e91
      subst e92
      subst e93
      clear x
      rename Bool => x
      show J _ _ _ _ [] _ _ _ _ _ _
      refine J_iinc (v := x1 + 1) d_Ref_move_59 rfl (by rw [show Int32.ofInt 1 = (1 : Int32) from by decide]) ?_
      refine J_goto (tgt := 46) d_Ref_move_62 (by decide) ?_
      refine J.drop [true, true] rfl ?_
      exact ih H
def f_Ref_move_L24 (Γ : gm_T)  : Nat → ph_T → Nat → Int32 → Option (Unit × ph_T)
  | 0, _, _, _ => none
  | fu + 1, φ, x0, x1 =>
    @ite _ (Γ x0 = .inr 12) _ (
    if (φ.1 x0 2) < x1 then
      f_Ref_move_L46 Γ  jF φ x0 (0 : Int32)
    else
      Option.bind (f_Ref_moveAddress Γ φ x0 x1 (3 : Int32)) fun q12 =>
      (f_Ref_move_L24 Γ  fu) q12.2 x0 (x1 + (1 : Int32))
    ) none
set_option maxRecDepth 100000 in
set_option maxHeartbeats 4000000 in
theorem p_Ref_move_L24 {w : jw_T} (hw : jok w) {Γ : gm_T} {n : Nat} (hG : gd w Γ n)  : ∀ (fu : Nat) {x : Bool} {φ : ph_T} {x0 : Nat} {x1 : Int32} {q : Unit × ph_T}, f_Ref_move_L24 Γ  fu φ x0 x1 = some q → J w M_Ref_move 24 [some (.ref x0), some (.int x1)] [] (pic Γ φ) n x 0 0 (fq Γ n (.inl none) q.2) := by
  intro fu
  induction fu with
  | zero =>
    intro x φ x0 x1 q H
    cases H
  | succ fu ih =>
    intro x φ x0 x1 q H
    unfold f_Ref_move_L24 at H
    refine J_iload_n d_Ref_move_24 rfl ?_
    refine J_aload_n d_Ref_move_25 rfl ?_
    have g11 : Γ x0 = .inr 12 := by
      apply Classical.byContradiction
      intro q9
      rw [if_neg q9] at H
      cases H
    rw [if_pos g11] at H
    refine F_getI (ci := 12) (k := 2) hG (cf_Ref hw) (fl_Ref_294 hw) (by decide) (by decide) rfl d_Ref_move_26 g11 ?_
    refine J_icmp_gt (tgt := 44) d_Ref_move_29 (by decide) ?_ ?_
    · intro c13
      rw [if_pos c13] at H
      refine J_iconst (v := 0) d_Ref_move_44 (by decide) ?_
      refine J_istore_n d_Ref_move_45 (Nat.le_of_ble_eq_true rfl) ?_
      refine J.drop [true, true] rfl ?_
      exact p_Ref_move_L46 hw hG  _ H
    · intro c13
      rw [if_neg c13] at H
      refine J_aload_n d_Ref_move_32 rfl ?_
      refine J_iload_n d_Ref_move_33 rfl ?_
      refine J_iconst (v := 3) d_Ref_move_34 (by decide) ?_
      obtain ⟨q12, hq12, H⟩ := Option.bind_eq_some_iff.mp H
      refine J_callV (kc := 0) (ks := 0) (kc' := 0) (ks' := 0) (a := x0) (ci := 12) (as := [.int x1, .int (3 : Int32)]) (st := []) (mf_Ref_moveAddress hw) (mv_Ref_563 hw) d_Ref_move_35 ln_Ref_moveAddress (by decide) (by first | exact Nat.le_of_ble_eq_true rfl | (simp only [List.map_cons, List.map_nil, List.sum_cons, List.sum_nil, va_rf_cat]; exact Nat.le_of_ble_eq_true rfl)) rfl ((hG _).1 _ g11 (by decide)).1 ((hG _).1 _ g11 (by decide)).2 (by unfold pic; rw [g11]; rfl) (jcl_at hw rfl) rfl (p_Ref_moveAddress hw hG hq12) ?_ (fun E h' n' x' e1 => by cases e1.1)
      intro v9 h9 n9 x9 e9
      obtain ⟨e91, e92, e93⟩ := e9
      cases e91
      subst e92
      subst e93
      clear x
      rename Bool => x
      show J _ _ _ _ [] _ _ _ _ _ _
      refine J_iinc (v := x1 + 1) d_Ref_move_38 rfl (by rw [show Int32.ofInt 1 = (1 : Int32) from by decide]) ?_
      refine J_goto (tgt := 24) d_Ref_move_41 (by decide) ?_
      refine J.drop [true, true] rfl ?_
      exact ih H
def f_Ref_move_L2 (Γ : gm_T)  : Nat → ph_T → Nat → Int32 → Option (Unit × ph_T)
  | 0, _, _, _ => none
  | fu + 1, φ, x0, x1 =>
    @ite _ (Γ x0 = .inr 12) _ (
    if (φ.1 x0 2) < x1 then
      f_Ref_move_L24 Γ  jF φ x0 (0 : Int32)
    else
      Option.bind (f_Ref_moveAddress Γ φ x0 x1 (0 : Int32)) fun q15 =>
      (f_Ref_move_L2 Γ  fu) q15.2 x0 (x1 + (1 : Int32))
    ) none
set_option maxRecDepth 100000 in
set_option maxHeartbeats 4000000 in
theorem p_Ref_move_L2 {w : jw_T} (hw : jok w) {Γ : gm_T} {n : Nat} (hG : gd w Γ n)  : ∀ (fu : Nat) {x : Bool} {φ : ph_T} {x0 : Nat} {x1 : Int32} {q : Unit × ph_T}, f_Ref_move_L2 Γ  fu φ x0 x1 = some q → J w M_Ref_move 2 [some (.ref x0), some (.int x1)] [] (pic Γ φ) n x 0 0 (fq Γ n (.inl none) q.2) := by
  intro fu
  induction fu with
  | zero =>
    intro x φ x0 x1 q H
    cases H
  | succ fu ih =>
    intro x φ x0 x1 q H
    unfold f_Ref_move_L2 at H
    refine J_iload_n d_Ref_move_2 rfl ?_
    refine J_aload_n d_Ref_move_3 rfl ?_
    have g14 : Γ x0 = .inr 12 := by
      apply Classical.byContradiction
      intro q9
      rw [if_neg q9] at H
      cases H
    rw [if_pos g14] at H
    refine F_getI (ci := 12) (k := 2) hG (cf_Ref hw) (fl_Ref_294 hw) (by decide) (by decide) rfl d_Ref_move_4 g14 ?_
    refine J_icmp_gt (tgt := 22) d_Ref_move_7 (by decide) ?_ ?_
    · intro c16
      rw [if_pos c16] at H
      refine J_iconst (v := 0) d_Ref_move_22 (by decide) ?_
      refine J_istore_n d_Ref_move_23 (Nat.le_of_ble_eq_true rfl) ?_
      refine J.drop [true, true] rfl ?_
      exact p_Ref_move_L24 hw hG  _ H
    · intro c16
      rw [if_neg c16] at H
      refine J_aload_n d_Ref_move_10 rfl ?_
      refine J_iload_n d_Ref_move_11 rfl ?_
      refine J_iconst (v := 0) d_Ref_move_12 (by decide) ?_
      obtain ⟨q15, hq15, H⟩ := Option.bind_eq_some_iff.mp H
      refine J_callV (kc := 0) (ks := 0) (kc' := 0) (ks' := 0) (a := x0) (ci := 12) (as := [.int x1, .int (0 : Int32)]) (st := []) (mf_Ref_moveAddress hw) (mv_Ref_563 hw) d_Ref_move_13 ln_Ref_moveAddress (by decide) (by first | exact Nat.le_of_ble_eq_true rfl | (simp only [List.map_cons, List.map_nil, List.sum_cons, List.sum_nil, va_rf_cat]; exact Nat.le_of_ble_eq_true rfl)) rfl ((hG _).1 _ g14 (by decide)).1 ((hG _).1 _ g14 (by decide)).2 (by unfold pic; rw [g14]; rfl) (jcl_at hw rfl) rfl (p_Ref_moveAddress hw hG hq15) ?_ (fun E h' n' x' e1 => by cases e1.1)
      intro v9 h9 n9 x9 e9
      obtain ⟨e91, e92, e93⟩ := e9
      cases e91
      subst e92
      subst e93
      clear x
      rename Bool => x
      show J _ _ _ _ [] _ _ _ _ _ _
      refine J_iinc (v := x1 + 1) d_Ref_move_16 rfl (by rw [show Int32.ofInt 1 = (1 : Int32) from by decide]) ?_
      refine J_goto (tgt := 2) d_Ref_move_19 (by decide) ?_
      refine J.drop [true, true] rfl ?_
      exact ih H
def f_Ref_move (Γ : gm_T) (φ : ph_T) (this : Nat) : Option (Unit × ph_T) :=
  f_Ref_move_L2 Γ  jF φ this (0 : Int32)
set_option maxRecDepth 100000 in
set_option maxHeartbeats 4000000 in
theorem p_Ref_move {w : jw_T} (hw : jok w) {Γ : gm_T} {n : Nat} (hG : gd w Γ n) {x : Bool} {φ : ph_T} {this : Nat} {q : Unit × ph_T} (H : f_Ref_move Γ φ this = some q) : jc w M_Ref_move [.ref this] (pic Γ φ) n x 0 0 (fq Γ n (.inl none) q.2) := by
  refine jc.of (by simp only [jent_r, jent_i, jent_l, jent_a, jent_0]; exact Nat.le_of_ble_eq_true rfl) ?_
  have hls : jents [.ref this] (jm_nL M_Ref_move) = [some (.ref this), none] := by simp only [jents, jent_r, jent_i, jent_l, jent_a, jent_0]; rfl
  rw [hls]
  clear hls
  unfold f_Ref_move at H
  refine J_iconst (v := 0) d_Ref_move_0 (by decide) ?_
  refine J_istore_n d_Ref_move_1 (Nat.le_of_ble_eq_true rfl) ?_
  refine J.drop [true, true] rfl ?_
  exact p_Ref_move_L2 hw hG  _ H
theorem ln_Ref_step : (parseMethodDescriptor y_Ref_step.desc).map (fun q => q.parameters.length) = some 0 := by decide +kernel
def f_Ref_step_L204 (Γ : gm_T) (Kc77 : ph_T → Nat → Int32 → Int32 → Option (Int32 × ph_T)) (φ : ph_T) (x0 : Nat) (x1 : Int32) (x2 : Int32) : Option (Int32 × ph_T) :=
  Kc77 φ x0 x1 (x2 + (1 : Int32))
set_option maxRecDepth 100000 in
set_option maxHeartbeats 4000000 in
theorem p_Ref_step_L204 {w : jw_T} (hw : jok w) {Γ : gm_T} {n : Nat} (hG : gd w Γ n) {Kc77 : ph_T → Nat → Int32 → Int32 → Option (Int32 × ph_T)} (hKc77 : ∀ {x : Bool} {φ : ph_T} {x0 : Nat} {x1 : Int32} {x2 : Int32} {q : Int32 × ph_T}, Kc77 φ x0 x1 x2 = some q → J w M_Ref_step 77 [some (.ref x0), some (.int x1), some (.int x2), none] [] (pic Γ φ) n x 0 0 (fq Γ n (.inl (some (.int q.1))) q.2)) {x : Bool} {φ : ph_T} {x0 : Nat} {x1 : Int32} {x2 : Int32} {q : Int32 × ph_T} (H : f_Ref_step_L204 Γ Kc77 φ x0 x1 x2 = some q) : J w M_Ref_step 204 [some (.ref x0), some (.int x1), some (.int x2), none] [] (pic Γ φ) n x 0 0 (fq Γ n (.inl (some (.int q.1))) q.2) := by
  unfold f_Ref_step_L204 at H
  refine J_iinc (v := x2 + 1) d_Ref_step_204 rfl (by rw [show Int32.ofInt 1 = (1 : Int32) from by decide]) ?_
  refine J_goto (tgt := 77) d_Ref_step_207 (by decide) ?_
  refine J.drop [true, true, true, false] rfl ?_
  exact hKc77 H
def f_Ref_step_L155 (Γ : gm_T) (Kc77 : ph_T → Nat → Int32 → Int32 → Option (Int32 × ph_T)) (φ : ph_T) (x0 : Nat) (x1 : Int32) (x2 : Int32) (x3 : Int32) (y0 : Int32) (y1 : Int32) (y2 : Option Nat) : Option (Int32 × ph_T) :=
  Option.bind y2 fun a7 =>
  Option.bind (gA Γ a7 2) fun N8 =>
  Option.bind (ix y1 N8) fun k9 =>
  @ite _ (y0 = 0 ∨ y0 = 1) _ (
  if x3 = 0 then
    f_Ref_step_L204 Γ Kc77 (uI φ a7 k9 y0) x0 x1 x2
  else
    @ite _ (Γ x0 = .inr 12) _ (
    Option.bind ((uI φ a7 k9 y0).2.2 x0 38) fun a12 =>
    Option.bind (gA Γ a12 0) fun N13 =>
    Option.bind (ix x2 N13) fun k14 =>
    Option.bind (gA Γ a12 0) fun N15 =>
    Option.bind (ix x2 N15) fun k16 =>
    if (20 : Int32) ≤ x2 then
      @ite _ ((5 : Int32) = 0) _ none (
      @ite _ ((5 : Int32) = 0) _ none (
      Option.bind (f_Ref_goSlave Γ (uI (uI φ a7 k9 y0) a12 k16 (((uI φ a7 k9 y0).1 a12 k14) + (1 : Int32))) x0 ((x2 / (5 : Int32)) - (4 : Int32)) (x2 - x2 / (5 : Int32) * (5 : Int32))) fun q19 =>
      f_Ref_step_L204 Γ Kc77 q19.2 x0 (x1 + (1 : Int32)) x2
      )
      )
    else
      @ite _ ((5 : Int32) = 0) _ none (
      @ite _ ((5 : Int32) = 0) _ none (
      Option.bind (f_Ref_goMaster Γ (uI (uI φ a7 k9 y0) a12 k16 (((uI φ a7 k9 y0).1 a12 k14) + (1 : Int32))) x0 (x2 / (5 : Int32)) (x2 - x2 / (5 : Int32) * (5 : Int32))) fun q22 =>
      f_Ref_step_L204 Γ Kc77 q22.2 x0 (x1 + (1 : Int32)) x2
      )
      )
    ) none
  ) none
set_option maxRecDepth 100000 in
set_option maxHeartbeats 4000000 in
theorem p_Ref_step_L155 {w : jw_T} (hw : jok w) {Γ : gm_T} {n : Nat} (hG : gd w Γ n) {Kc77 : ph_T → Nat → Int32 → Int32 → Option (Int32 × ph_T)} (hKc77 : ∀ {x : Bool} {φ : ph_T} {x0 : Nat} {x1 : Int32} {x2 : Int32} {q : Int32 × ph_T}, Kc77 φ x0 x1 x2 = some q → J w M_Ref_step 77 [some (.ref x0), some (.int x1), some (.int x2), none] [] (pic Γ φ) n x 0 0 (fq Γ n (.inl (some (.int q.1))) q.2)) {x : Bool} {φ : ph_T} {x0 : Nat} {x1 : Int32} {x2 : Int32} {x3 : Int32} {y0 : Int32} {y1 : Int32} {y2 : Option Nat} {q : Int32 × ph_T} (H : f_Ref_step_L155 Γ Kc77 φ x0 x1 x2 x3 y0 y1 y2 = some q) : J w M_Ref_step 155 [some (.ref x0), some (.int x1), some (.int x2), some (.int x3)] [.int y0, .int y1, va_rf y2] (pic Γ φ) n x 0 0 (fq Γ n (.inl (some (.int q.1))) q.2) := by
  unfold f_Ref_step_L155 at H
  obtain ⟨a7, ha7, H⟩ := Option.bind_eq_some_iff.mp H
  rw [j_rf ha7]
  obtain ⟨N8, hN8, H⟩ := Option.bind_eq_some_iff.mp H
  obtain ⟨k9, hk9, H⟩ := Option.bind_eq_some_iff.mp H
  have z10 : y0 = 0 ∨ y0 = 1 := by
    apply Classical.byContradiction
    intro q9
    rw [if_neg q9] at H
    cases H
  rw [if_pos z10] at H
  refine F_zast k9 hw hG d_Ref_step_155 (gA_some hN8) (ix_some hk9) z10 ?_
  refine J_iload_n d_Ref_step_156 rfl ?_
  refine J_if_eq (tgt := 204) d_Ref_step_157 (by decide) ?_ ?_
  · intro c24
    rw [if_pos c24] at H
    refine J.drop [true, true, true, false] rfl ?_
    exact p_Ref_step_L204 hw hG hKc77 H
  · intro c24
    rw [if_neg c24] at H
    refine J_iinc (v := x1 + 1) d_Ref_step_160 rfl (by rw [show Int32.ofInt 1 = (1 : Int32) from by decide]) ?_
    refine J_aload_n d_Ref_step_163 rfl ?_
    have g11 : Γ x0 = .inr 12 := by
      apply Classical.byContradiction
      intro q9
      rw [if_neg q9] at H
      cases H
    rw [if_pos g11] at H
    refine F_getR (ci := 12) (k := 38) hG (cf_Ref hw) (fl_Ref_103 hw) (by decide) (by decide) rfl d_Ref_step_164 g11 ?_
    refine J_iload_n d_Ref_step_167 rfl ?_
    refine J_dup2 d_Ref_step_168 rfl (va_rf_cat _) ?_
    obtain ⟨a12, ha12, H⟩ := Option.bind_eq_some_iff.mp H
    rw [j_rf ha12]
    obtain ⟨N13, hN13, H⟩ := Option.bind_eq_some_iff.mp H
    obtain ⟨k14, hk14, H⟩ := Option.bind_eq_some_iff.mp H
    refine F_iald k14 hw hG d_Ref_step_169 (gA_some hN13) (ix_some hk14) ?_
    refine J_iconst (v := 1) d_Ref_step_170 (by decide) ?_
    refine J_iadd d_Ref_step_171 ?_
    obtain ⟨N15, hN15, H⟩ := Option.bind_eq_some_iff.mp H
    obtain ⟨k16, hk16, H⟩ := Option.bind_eq_some_iff.mp H
    refine F_iast k16 hw hG d_Ref_step_172 (gA_some hN15) (ix_some hk16) ?_
    refine J_iload_n d_Ref_step_173 rfl ?_
    refine J_bipush (v := 20) d_Ref_step_174 (by decide) ?_
    refine J_icmp_ge (tgt := 192) d_Ref_step_176 (by decide) ?_ ?_
    · intro c23
      rw [if_pos c23] at H
      refine J_aload_n d_Ref_step_192 rfl ?_
      refine J_iload_n d_Ref_step_193 rfl ?_
      refine J_iconst (v := 5) d_Ref_step_194 (by decide) ?_
      have h17 : ¬ (5 : Int32) = 0 := by
        intro q9
        rw [if_pos q9] at H
        cases H
      rw [if_neg h17] at H
      refine J_idiv d_Ref_step_195 h17 ?_
      refine J_iconst (v := 4) d_Ref_step_196 (by decide) ?_
      refine J_isub d_Ref_step_197 ?_
      refine J_iload_n d_Ref_step_198 rfl ?_
      refine J_iconst (v := 5) d_Ref_step_199 (by decide) ?_
      have h18 : ¬ (5 : Int32) = 0 := by
        intro q9
        rw [if_pos q9] at H
        cases H
      rw [if_neg h18] at H
      refine J_irem d_Ref_step_200 h18 ?_
      obtain ⟨q19, hq19, H⟩ := Option.bind_eq_some_iff.mp H
      refine J_callV (kc := 0) (ks := 0) (kc' := 0) (ks' := 0) (a := x0) (ci := 12) (as := [.int ((x2 / (5 : Int32)) - (4 : Int32)), .int (x2 - x2 / (5 : Int32) * (5 : Int32))]) (st := []) (mf_Ref_goSlave hw) (mv_Ref_593 hw) d_Ref_step_201 ln_Ref_goSlave (by decide) (by first | exact Nat.le_of_ble_eq_true rfl | (simp only [List.map_cons, List.map_nil, List.sum_cons, List.sum_nil, va_rf_cat]; exact Nat.le_of_ble_eq_true rfl)) rfl ((hG _).1 _ g11 (by decide)).1 ((hG _).1 _ g11 (by decide)).2 (by unfold pic; rw [g11]; rfl) (jcl_at hw rfl) rfl (p_Ref_goSlave hw hG hq19) ?_ (fun E h' n' x' e1 => by cases e1.1)
      intro v9 h9 n9 x9 e9
      obtain ⟨e91, e92, e93⟩ := e9
      cases e91
      subst e92
      subst e93
      clear x
      rename Bool => x
      show J _ _ _ _ [] _ _ _ _ _ _
      refine J.drop [true, true, true, false] rfl ?_
      exact p_Ref_step_L204 hw hG hKc77 H
    · intro c23
      rw [if_neg c23] at H
      refine J_aload_n d_Ref_step_179 rfl ?_
      refine J_iload_n d_Ref_step_180 rfl ?_
      refine J_iconst (v := 5) d_Ref_step_181 (by decide) ?_
      have h20 : ¬ (5 : Int32) = 0 := by
        intro q9
        rw [if_pos q9] at H
        cases H
      rw [if_neg h20] at H
      refine J_idiv d_Ref_step_182 h20 ?_
      refine J_iload_n d_Ref_step_183 rfl ?_
      refine J_iconst (v := 5) d_Ref_step_184 (by decide) ?_
      have h21 : ¬ (5 : Int32) = 0 := by
        intro q9
        rw [if_pos q9] at H
        cases H
      rw [if_neg h21] at H
      refine J_irem d_Ref_step_185 h21 ?_
      obtain ⟨q22, hq22, H⟩ := Option.bind_eq_some_iff.mp H
      refine J_callV (kc := 0) (ks := 0) (kc' := 0) (ks' := 0) (a := x0) (ci := 12) (as := [.int (x2 / (5 : Int32)), .int (x2 - x2 / (5 : Int32) * (5 : Int32))]) (st := []) (mf_Ref_goMaster hw) (mv_Ref_590 hw) d_Ref_step_186 ln_Ref_goMaster (by decide) (by first | exact Nat.le_of_ble_eq_true rfl | (simp only [List.map_cons, List.map_nil, List.sum_cons, List.sum_nil, va_rf_cat]; exact Nat.le_of_ble_eq_true rfl)) rfl ((hG _).1 _ g11 (by decide)).1 ((hG _).1 _ g11 (by decide)).2 (by unfold pic; rw [g11]; rfl) (jcl_at hw rfl) rfl (p_Ref_goMaster hw hG hq22) ?_ (fun E h' n' x' e1 => by cases e1.1)
      intro v9 h9 n9 x9 e9
      obtain ⟨e91, e92, e93⟩ := e9
      cases e91
      subst e92
      subst e93
      clear x
      rename Bool => x
      show J _ _ _ _ [] _ _ _ _ _ _
      refine J_goto (tgt := 204) d_Ref_step_189 (by decide) ?_
      refine J.drop [true, true, true, false] rfl ?_
      exact p_Ref_step_L204 hw hG hKc77 H
def f_Ref_step_L154 (Γ : gm_T) (Kc77 : ph_T → Nat → Int32 → Int32 → Option (Int32 × ph_T)) (φ : ph_T) (x0 : Nat) (x1 : Int32) (x2 : Int32) (x3 : Int32) (y0 : Int32) (y1 : Option Nat) : Option (Int32 × ph_T) :=
  f_Ref_step_L155 Γ Kc77 φ x0 x1 x2 x3 (0 : Int32) y0 y1
set_option maxRecDepth 100000 in
set_option maxHeartbeats 4000000 in
theorem p_Ref_step_L154 {w : jw_T} (hw : jok w) {Γ : gm_T} {n : Nat} (hG : gd w Γ n) {Kc77 : ph_T → Nat → Int32 → Int32 → Option (Int32 × ph_T)} (hKc77 : ∀ {x : Bool} {φ : ph_T} {x0 : Nat} {x1 : Int32} {x2 : Int32} {q : Int32 × ph_T}, Kc77 φ x0 x1 x2 = some q → J w M_Ref_step 77 [some (.ref x0), some (.int x1), some (.int x2), none] [] (pic Γ φ) n x 0 0 (fq Γ n (.inl (some (.int q.1))) q.2)) {x : Bool} {φ : ph_T} {x0 : Nat} {x1 : Int32} {x2 : Int32} {x3 : Int32} {y0 : Int32} {y1 : Option Nat} {q : Int32 × ph_T} (H : f_Ref_step_L154 Γ Kc77 φ x0 x1 x2 x3 y0 y1 = some q) : J w M_Ref_step 154 [some (.ref x0), some (.int x1), some (.int x2), some (.int x3)] [.int y0, va_rf y1] (pic Γ φ) n x 0 0 (fq Γ n (.inl (some (.int q.1))) q.2) := by
  unfold f_Ref_step_L154 at H
  refine J_iconst (v := 0) d_Ref_step_154 (by decide) ?_
  refine J.drop [true, true, true, true] rfl ?_
  exact p_Ref_step_L155 hw hG hKc77 H
def f_Ref_step_L116 (Γ : gm_T) (Kc77 : ph_T → Nat → Int32 → Int32 → Option (Int32 × ph_T)) (φ : ph_T) (x0 : Nat) (x1 : Int32) (x2 : Int32) (y0 : Int32) : Option (Int32 × ph_T) :=
  @ite _ (Γ x0 = .inr 12) _ (
  @ite _ ((5 : Int32) = 0) _ none (
  Option.bind (f_Ref_isPort Γ φ x0 (x2 / (5 : Int32))) fun q27 =>
  if q27.1 = 0 then
    f_Ref_step_L154 Γ Kc77 q27.2 x0 x1 x2 y0 x2 (φ.2.2 x0 37)
  else
    Option.bind (q27.2.2.2 x0 33) fun a28 =>
    Option.bind (gA Γ a28 2) fun N29 =>
    Option.bind (ix x2 N29) fun k30 =>
    if (q27.2.1 a28 k30) = 0 then
      f_Ref_step_L154 Γ Kc77 q27.2 x0 x1 x2 y0 x2 (φ.2.2 x0 37)
    else
      Option.bind (q27.2.2.2 x0 34) fun a31 =>
      Option.bind (gA Γ a31 2) fun N32 =>
      Option.bind (ix x2 N32) fun k33 =>
      if (q27.2.1 a31 k33) = 0 then
        f_Ref_step_L155 Γ Kc77 q27.2 x0 x1 x2 y0 (1 : Int32) x2 (φ.2.2 x0 37)
      else
        f_Ref_step_L154 Γ Kc77 q27.2 x0 x1 x2 y0 x2 (φ.2.2 x0 37)
  )
  ) none
set_option maxRecDepth 100000 in
set_option maxHeartbeats 4000000 in
theorem p_Ref_step_L116 {w : jw_T} (hw : jok w) {Γ : gm_T} {n : Nat} (hG : gd w Γ n) {Kc77 : ph_T → Nat → Int32 → Int32 → Option (Int32 × ph_T)} (hKc77 : ∀ {x : Bool} {φ : ph_T} {x0 : Nat} {x1 : Int32} {x2 : Int32} {q : Int32 × ph_T}, Kc77 φ x0 x1 x2 = some q → J w M_Ref_step 77 [some (.ref x0), some (.int x1), some (.int x2), none] [] (pic Γ φ) n x 0 0 (fq Γ n (.inl (some (.int q.1))) q.2)) {x : Bool} {φ : ph_T} {x0 : Nat} {x1 : Int32} {x2 : Int32} {y0 : Int32} {q : Int32 × ph_T} (H : f_Ref_step_L116 Γ Kc77 φ x0 x1 x2 y0 = some q) : J w M_Ref_step 116 [some (.ref x0), some (.int x1), some (.int x2), none] [.int y0] (pic Γ φ) n x 0 0 (fq Γ n (.inl (some (.int q.1))) q.2) := by
  unfold f_Ref_step_L116 at H
  refine J_istore_n d_Ref_step_116 (Nat.le_of_ble_eq_true rfl) ?_
  refine J_aload_n d_Ref_step_117 rfl ?_
  have g25 : Γ x0 = .inr 12 := by
    apply Classical.byContradiction
    intro q9
    rw [if_neg q9] at H
    cases H
  rw [if_pos g25] at H
  refine F_getR (ci := 12) (k := 37) hG (cf_Ref hw) (fl_Ref_100 hw) (by decide) (by decide) rfl d_Ref_step_118 g25 ?_
  refine J_iload_n d_Ref_step_121 rfl ?_
  refine J_aload_n d_Ref_step_122 rfl ?_
  refine J_iload_n d_Ref_step_123 rfl ?_
  refine J_iconst (v := 5) d_Ref_step_124 (by decide) ?_
  have h26 : ¬ (5 : Int32) = 0 := by
    intro q9
    rw [if_pos q9] at H
    cases H
  rw [if_neg h26] at H
  refine J_idiv d_Ref_step_125 h26 ?_
  obtain ⟨q27, hq27, H⟩ := Option.bind_eq_some_iff.mp H
  refine J_callV (kc := 0) (ks := 0) (kc' := 0) (ks' := 0) (a := x0) (ci := 12) (as := [.int (x2 / (5 : Int32))]) (st := [.int x2, va_rf (φ.2.2 x0 37)]) (mf_Ref_isPort hw) (mv_Ref_584 hw) d_Ref_step_126 ln_Ref_isPort (by decide) (by first | exact Nat.le_of_ble_eq_true rfl | (simp only [List.map_cons, List.map_nil, List.sum_cons, List.sum_nil, va_rf_cat]; exact Nat.le_of_ble_eq_true rfl)) rfl ((hG _).1 _ g25 (by decide)).1 ((hG _).1 _ g25 (by decide)).2 (by unfold pic; rw [g25]; rfl) (jcl_at hw rfl) rfl (p_Ref_isPort hw hG hq27) ?_ (fun E h' n' x' e1 => by cases e1.1)
  intro v9 h9 n9 x9 e9
  obtain ⟨e91, e92, e93⟩ := e9
  cases e91
  subst e92
  subst e93
  clear x
  rename Bool => x
  show J _ _ _ _ (_ :: _) _ _ _ _ _ _
  refine J_if_eq (tgt := 154) d_Ref_step_129 (by decide) ?_ ?_
  · intro c36
    rw [if_pos c36] at H
    refine J.drop [true, true, true, true] rfl ?_
    exact p_Ref_step_L154 hw hG hKc77 H
  · intro c36
    rw [if_neg c36] at H
    refine J_aload_n d_Ref_step_132 rfl ?_
    refine F_getR (ci := 12) (k := 33) hG (cf_Ref hw) (fl_Ref_88 hw) (by decide) (by decide) rfl d_Ref_step_133 g25 ?_
    refine J_iload_n d_Ref_step_136 rfl ?_
    obtain ⟨a28, ha28, H⟩ := Option.bind_eq_some_iff.mp H
    rw [j_rf ha28]
    obtain ⟨N29, hN29, H⟩ := Option.bind_eq_some_iff.mp H
    obtain ⟨k30, hk30, H⟩ := Option.bind_eq_some_iff.mp H
    refine F_zald k30 hw hG d_Ref_step_137 (gA_some hN29) (ix_some hk30) ?_
    refine J_if_eq (tgt := 154) d_Ref_step_138 (by decide) ?_ ?_
    · intro c35
      rw [if_pos c35] at H
      refine J.drop [true, true, true, true] rfl ?_
      exact p_Ref_step_L154 hw hG hKc77 H
    · intro c35
      rw [if_neg c35] at H
      refine J_aload_n d_Ref_step_141 rfl ?_
      refine F_getR (ci := 12) (k := 34) hG (cf_Ref hw) (fl_Ref_91 hw) (by decide) (by decide) rfl d_Ref_step_142 g25 ?_
      refine J_iload_n d_Ref_step_145 rfl ?_
      obtain ⟨a31, ha31, H⟩ := Option.bind_eq_some_iff.mp H
      rw [j_rf ha31]
      obtain ⟨N32, hN32, H⟩ := Option.bind_eq_some_iff.mp H
      obtain ⟨k33, hk33, H⟩ := Option.bind_eq_some_iff.mp H
      refine F_zald k33 hw hG d_Ref_step_146 (gA_some hN32) (ix_some hk33) ?_
      refine J_if_ne (tgt := 154) d_Ref_step_147 (by decide) ?_ ?_
      · intro c34
        rw [if_neg c34] at H
        refine J.drop [true, true, true, true] rfl ?_
        exact p_Ref_step_L154 hw hG hKc77 H
      · intro c34
        rw [if_pos c34] at H
        refine J_iconst (v := 1) d_Ref_step_150 (by decide) ?_
        refine J_goto (tgt := 155) d_Ref_step_151 (by decide) ?_
        refine J.drop [true, true, true, true] rfl ?_
        exact p_Ref_step_L155 hw hG hKc77 H
def f_Ref_step_L115 (Γ : gm_T) (Kc77 : ph_T → Nat → Int32 → Int32 → Option (Int32 × ph_T)) (φ : ph_T) (x0 : Nat) (x1 : Int32) (x2 : Int32) : Option (Int32 × ph_T) :=
  f_Ref_step_L116 Γ Kc77 φ x0 x1 x2 (0 : Int32)
set_option maxRecDepth 100000 in
set_option maxHeartbeats 4000000 in
theorem p_Ref_step_L115 {w : jw_T} (hw : jok w) {Γ : gm_T} {n : Nat} (hG : gd w Γ n) {Kc77 : ph_T → Nat → Int32 → Int32 → Option (Int32 × ph_T)} (hKc77 : ∀ {x : Bool} {φ : ph_T} {x0 : Nat} {x1 : Int32} {x2 : Int32} {q : Int32 × ph_T}, Kc77 φ x0 x1 x2 = some q → J w M_Ref_step 77 [some (.ref x0), some (.int x1), some (.int x2), none] [] (pic Γ φ) n x 0 0 (fq Γ n (.inl (some (.int q.1))) q.2)) {x : Bool} {φ : ph_T} {x0 : Nat} {x1 : Int32} {x2 : Int32} {q : Int32 × ph_T} (H : f_Ref_step_L115 Γ Kc77 φ x0 x1 x2 = some q) : J w M_Ref_step 115 [some (.ref x0), some (.int x1), some (.int x2), none] [] (pic Γ φ) n x 0 0 (fq Γ n (.inl (some (.int q.1))) q.2) := by
  unfold f_Ref_step_L115 at H
  refine J_iconst (v := 0) d_Ref_step_115 (by decide) ?_
  refine J.drop [true, true, true, false] rfl ?_
  exact p_Ref_step_L116 hw hG hKc77 H
def f_Ref_step_L77 (Γ : gm_T)  : Nat → ph_T → Nat → Int32 → Int32 → Option (Int32 × ph_T)
  | 0, _, _, _, _ => none
  | fu + 1, φ, x0, x1, x2 =>
    if (40 : Int32) ≤ x2 then
      @ite _ (Γ x0 = .inr 12) _ (
      Option.bind (f_Ref_move Γ φ x0) fun q38 =>
      some (x1, (uI q38.2 x0 6 ((q38.2.1 x0 6) + (1 : Int32))))
      ) none
    else
      @ite _ ((5 : Int32) = 0) _ none (
      @ite _ (Γ x0 = .inr 12) _ (
      Option.bind (f_Ref_isPort Γ φ x0 (x2 / (5 : Int32))) fun q41 =>
      if q41.1 = 0 then
        f_Ref_step_L115 Γ (f_Ref_step_L77 Γ  fu) q41.2 x0 x1 x2
      else
        Option.bind (q41.2.2.2 x0 33) fun a42 =>
        Option.bind (gA Γ a42 2) fun N43 =>
        Option.bind (ix x2 N43) fun k44 =>
        if (q41.2.1 a42 k44) = 0 then
          f_Ref_step_L115 Γ (f_Ref_step_L77 Γ  fu) q41.2 x0 x1 x2
        else
          Option.bind (q41.2.2.2 x0 34) fun a45 =>
          Option.bind (gA Γ a45 2) fun N46 =>
          Option.bind (ix x2 N46) fun k47 =>
          if (q41.2.1 a45 k47) = 0 then
            f_Ref_step_L115 Γ (f_Ref_step_L77 Γ  fu) q41.2 x0 x1 x2
          else
            f_Ref_step_L116 Γ (f_Ref_step_L77 Γ  fu) q41.2 x0 x1 x2 (1 : Int32)
      ) none
      )
set_option maxRecDepth 100000 in
set_option maxHeartbeats 4000000 in
theorem p_Ref_step_L77 {w : jw_T} (hw : jok w) {Γ : gm_T} {n : Nat} (hG : gd w Γ n)  : ∀ (fu : Nat) {x : Bool} {φ : ph_T} {x0 : Nat} {x1 : Int32} {x2 : Int32} {q : Int32 × ph_T}, f_Ref_step_L77 Γ  fu φ x0 x1 x2 = some q → J w M_Ref_step 77 [some (.ref x0), some (.int x1), some (.int x2), none] [] (pic Γ φ) n x 0 0 (fq Γ n (.inl (some (.int q.1))) q.2) := by
  intro fu
  induction fu with
  | zero =>
    intro x φ x0 x1 x2 q H
    cases H
  | succ fu ih =>
    intro x φ x0 x1 x2 q H
    unfold f_Ref_step_L77 at H
    refine J_iload_n d_Ref_step_77 rfl ?_
    refine J_bipush (v := 40) d_Ref_step_78 (by decide) ?_
    refine J_icmp_ge (tgt := 210) d_Ref_step_80 (by decide) ?_ ?_
    · intro c51
      rw [if_pos c51] at H
      refine J_aload_n d_Ref_step_210 rfl ?_
      have g37 : Γ x0 = .inr 12 := by
        apply Classical.byContradiction
        intro q9
        rw [if_neg q9] at H
        cases H
      rw [if_pos g37] at H
      obtain ⟨q38, hq38, H⟩ := Option.bind_eq_some_iff.mp H
      refine J_callV (kc := 0) (ks := 0) (kc' := 0) (ks' := 0) (a := x0) (ci := 12) (as := []) (st := []) (mf_Ref_move hw) (mv_Ref_596 hw) d_Ref_step_211 ln_Ref_move (by decide) (by first | exact Nat.le_of_ble_eq_true rfl | (simp only [List.map_cons, List.map_nil, List.sum_cons, List.sum_nil, va_rf_cat]; exact Nat.le_of_ble_eq_true rfl)) rfl ((hG _).1 _ g37 (by decide)).1 ((hG _).1 _ g37 (by decide)).2 (by unfold pic; rw [g37]; rfl) (jcl_at hw rfl) rfl (p_Ref_move hw hG hq38) ?_ (fun E h' n' x' e1 => by cases e1.1)
      intro v9 h9 n9 x9 e9
      obtain ⟨e91, e92, e93⟩ := e9
      cases e91
      subst e92
      subst e93
      clear x
      rename Bool => x
      show J _ _ _ _ [] _ _ _ _ _ _
      refine J_aload_n d_Ref_step_214 rfl ?_
      refine J_dup d_Ref_step_215 rfl ?_
      refine F_getI (ci := 12) (k := 6) hG (cf_Ref hw) (fl_Ref_348 hw) (by decide) (by decide) rfl d_Ref_step_216 g37 ?_
      refine J_iconst (v := 1) d_Ref_step_219 (by decide) ?_
      refine J_iadd d_Ref_step_220 ?_
      refine F_putI (ci := 12) (k := 6) hG (cf_Ref hw) (fl_Ref_348 hw) (by decide) (by decide) rfl d_Ref_step_221 rfl rfl rfl g37 ?_
      refine J_iload_n d_Ref_step_224 rfl ?_
      cases H
      exact J_iret (st := []) d_Ref_step_225 rfl rfl ⟨rfl, rfl, rfl⟩
    · intro c51
      rw [if_neg c51] at H
      refine J_aload_n d_Ref_step_83 rfl ?_
      refine J_iload_n d_Ref_step_84 rfl ?_
      refine J_iconst (v := 5) d_Ref_step_85 (by decide) ?_
      have h39 : ¬ (5 : Int32) = 0 := by
        intro q9
        rw [if_pos q9] at H
        cases H
      rw [if_neg h39] at H
      refine J_idiv d_Ref_step_86 h39 ?_
      have g40 : Γ x0 = .inr 12 := by
        apply Classical.byContradiction
        intro q9
        rw [if_neg q9] at H
        cases H
      rw [if_pos g40] at H
      obtain ⟨q41, hq41, H⟩ := Option.bind_eq_some_iff.mp H
      refine J_callV (kc := 0) (ks := 0) (kc' := 0) (ks' := 0) (a := x0) (ci := 12) (as := [.int (x2 / (5 : Int32))]) (st := []) (mf_Ref_isPort hw) (mv_Ref_584 hw) d_Ref_step_87 ln_Ref_isPort (by decide) (by first | exact Nat.le_of_ble_eq_true rfl | (simp only [List.map_cons, List.map_nil, List.sum_cons, List.sum_nil, va_rf_cat]; exact Nat.le_of_ble_eq_true rfl)) rfl ((hG _).1 _ g40 (by decide)).1 ((hG _).1 _ g40 (by decide)).2 (by unfold pic; rw [g40]; rfl) (jcl_at hw rfl) rfl (p_Ref_isPort hw hG hq41) ?_ (fun E h' n' x' e1 => by cases e1.1)
      intro v9 h9 n9 x9 e9
      obtain ⟨e91, e92, e93⟩ := e9
      cases e91
      subst e92
      subst e93
      clear x
      rename Bool => x
      show J _ _ _ _ (_ :: _) _ _ _ _ _ _
      refine J_if_eq (tgt := 115) d_Ref_step_90 (by decide) ?_ ?_
      · intro c50
        rw [if_pos c50] at H
        refine J.drop [true, true, true, false] rfl ?_
        exact p_Ref_step_L115 hw hG ih H
      · intro c50
        rw [if_neg c50] at H
        refine J_aload_n d_Ref_step_93 rfl ?_
        refine F_getR (ci := 12) (k := 33) hG (cf_Ref hw) (fl_Ref_88 hw) (by decide) (by decide) rfl d_Ref_step_94 g40 ?_
        refine J_iload_n d_Ref_step_97 rfl ?_
        obtain ⟨a42, ha42, H⟩ := Option.bind_eq_some_iff.mp H
        rw [j_rf ha42]
        obtain ⟨N43, hN43, H⟩ := Option.bind_eq_some_iff.mp H
        obtain ⟨k44, hk44, H⟩ := Option.bind_eq_some_iff.mp H
        refine F_zald k44 hw hG d_Ref_step_98 (gA_some hN43) (ix_some hk44) ?_
        refine J_if_eq (tgt := 115) d_Ref_step_99 (by decide) ?_ ?_
        · intro c49
          rw [if_pos c49] at H
          refine J.drop [true, true, true, false] rfl ?_
          exact p_Ref_step_L115 hw hG ih H
        · intro c49
          rw [if_neg c49] at H
          refine J_aload_n d_Ref_step_102 rfl ?_
          refine F_getR (ci := 12) (k := 34) hG (cf_Ref hw) (fl_Ref_91 hw) (by decide) (by decide) rfl d_Ref_step_103 g40 ?_
          refine J_iload_n d_Ref_step_106 rfl ?_
          obtain ⟨a45, ha45, H⟩ := Option.bind_eq_some_iff.mp H
          rw [j_rf ha45]
          obtain ⟨N46, hN46, H⟩ := Option.bind_eq_some_iff.mp H
          obtain ⟨k47, hk47, H⟩ := Option.bind_eq_some_iff.mp H
          refine F_zald k47 hw hG d_Ref_step_107 (gA_some hN46) (ix_some hk47) ?_
          refine J_if_eq (tgt := 115) d_Ref_step_108 (by decide) ?_ ?_
          · intro c48
            rw [if_pos c48] at H
            refine J.drop [true, true, true, false] rfl ?_
            exact p_Ref_step_L115 hw hG ih H
          · intro c48
            rw [if_neg c48] at H
            refine J_iconst (v := 1) d_Ref_step_111 (by decide) ?_
            refine J_goto (tgt := 116) d_Ref_step_112 (by decide) ?_
            refine J.drop [true, true, true, false] rfl ?_
            exact p_Ref_step_L116 hw hG ih H
def f_Ref_step_L67 (Γ : gm_T) (Kc44 : ph_T → Nat → Int32 → Option (Int32 × ph_T)) (φ : ph_T) (x0 : Nat) (x1 : Int32) : Option (Int32 × ph_T) :=
  Kc44 φ x0 (x1 + (1 : Int32))
set_option maxRecDepth 100000 in
set_option maxHeartbeats 4000000 in
theorem p_Ref_step_L67 {w : jw_T} (hw : jok w) {Γ : gm_T} {n : Nat} (hG : gd w Γ n) {Kc44 : ph_T → Nat → Int32 → Option (Int32 × ph_T)} (hKc44 : ∀ {x : Bool} {φ : ph_T} {x0 : Nat} {x1 : Int32} {q : Int32 × ph_T}, Kc44 φ x0 x1 = some q → J w M_Ref_step 44 [some (.ref x0), some (.int x1), none, none] [] (pic Γ φ) n x 0 0 (fq Γ n (.inl (some (.int q.1))) q.2)) {x : Bool} {φ : ph_T} {x0 : Nat} {x1 : Int32} {q : Int32 × ph_T} (H : f_Ref_step_L67 Γ Kc44 φ x0 x1 = some q) : J w M_Ref_step 67 [some (.ref x0), some (.int x1), none, none] [] (pic Γ φ) n x 0 0 (fq Γ n (.inl (some (.int q.1))) q.2) := by
  unfold f_Ref_step_L67 at H
  refine J_iinc (v := x1 + 1) d_Ref_step_67 rfl (by rw [show Int32.ofInt 1 = (1 : Int32) from by decide]) ?_
  refine J_goto (tgt := 44) d_Ref_step_70 (by decide) ?_
  refine J.drop [true, true, false, false] rfl ?_
  exact hKc44 H
def f_Ref_step_L44 (Γ : gm_T)  : Nat → ph_T → Nat → Int32 → Option (Int32 × ph_T)
  | 0, _, _, _ => none
  | fu + 1, φ, x0, x1 =>
    if (8 : Int32) ≤ x1 then
      f_Ref_step_L77 Γ  jF φ x0 (0 : Int32) (0 : Int32)
    else
      @ite _ (Γ x0 = .inr 12) _ (
      Option.bind (f_Ref_isPort Γ φ x0 x1) fun q53 =>
      if q53.1 = 0 then
        f_Ref_step_L67 Γ (f_Ref_step_L44 Γ  fu) q53.2 x0 x1
      else
        Option.bind (f_Ref_watch Γ q53.2 x0 x1 ((5 : Int32) * x1) (0 : Int32)) fun q54 =>
        f_Ref_step_L67 Γ (f_Ref_step_L44 Γ  fu) q54.2 x0 x1
      ) none
set_option maxRecDepth 100000 in
set_option maxHeartbeats 4000000 in
theorem p_Ref_step_L44 {w : jw_T} (hw : jok w) {Γ : gm_T} {n : Nat} (hG : gd w Γ n)  : ∀ (fu : Nat) {x : Bool} {φ : ph_T} {x0 : Nat} {x1 : Int32} {q : Int32 × ph_T}, f_Ref_step_L44 Γ  fu φ x0 x1 = some q → J w M_Ref_step 44 [some (.ref x0), some (.int x1), none, none] [] (pic Γ φ) n x 0 0 (fq Γ n (.inl (some (.int q.1))) q.2) := by
  intro fu
  induction fu with
  | zero =>
    intro x φ x0 x1 q H
    cases H
  | succ fu ih =>
    intro x φ x0 x1 q H
    unfold f_Ref_step_L44 at H
    refine J_iload_n d_Ref_step_44 rfl ?_
    refine J_bipush (v := 8) d_Ref_step_45 (by decide) ?_
    refine J_icmp_ge (tgt := 73) d_Ref_step_47 (by decide) ?_ ?_
    · intro c56
      rw [if_pos c56] at H
      refine J_iconst (v := 0) d_Ref_step_73 (by decide) ?_
      refine J_istore_n d_Ref_step_74 (Nat.le_of_ble_eq_true rfl) ?_
      refine J_iconst (v := 0) d_Ref_step_75 (by decide) ?_
      refine J_istore_n d_Ref_step_76 (Nat.le_of_ble_eq_true rfl) ?_
      refine J.drop [true, true, true, false] rfl ?_
      exact p_Ref_step_L77 hw hG  _ H
    · intro c56
      rw [if_neg c56] at H
      refine J_aload_n d_Ref_step_50 rfl ?_
      refine J_iload_n d_Ref_step_51 rfl ?_
      have g52 : Γ x0 = .inr 12 := by
        apply Classical.byContradiction
        intro q9
        rw [if_neg q9] at H
        cases H
      rw [if_pos g52] at H
      obtain ⟨q53, hq53, H⟩ := Option.bind_eq_some_iff.mp H
      refine J_callV (kc := 0) (ks := 0) (kc' := 0) (ks' := 0) (a := x0) (ci := 12) (as := [.int x1]) (st := []) (mf_Ref_isPort hw) (mv_Ref_584 hw) d_Ref_step_52 ln_Ref_isPort (by decide) (by first | exact Nat.le_of_ble_eq_true rfl | (simp only [List.map_cons, List.map_nil, List.sum_cons, List.sum_nil, va_rf_cat]; exact Nat.le_of_ble_eq_true rfl)) rfl ((hG _).1 _ g52 (by decide)).1 ((hG _).1 _ g52 (by decide)).2 (by unfold pic; rw [g52]; rfl) (jcl_at hw rfl) rfl (p_Ref_isPort hw hG hq53) ?_ (fun E h' n' x' e1 => by cases e1.1)
      intro v9 h9 n9 x9 e9
      obtain ⟨e91, e92, e93⟩ := e9
      cases e91
      subst e92
      subst e93
      clear x
      rename Bool => x
      show J _ _ _ _ (_ :: _) _ _ _ _ _ _
      refine J_if_eq (tgt := 67) d_Ref_step_55 (by decide) ?_ ?_
      · intro c55
        rw [if_pos c55] at H
        refine J.drop [true, true, false, false] rfl ?_
        exact p_Ref_step_L67 hw hG ih H
      · intro c55
        rw [if_neg c55] at H
        refine J_aload_n d_Ref_step_58 rfl ?_
        refine J_iload_n d_Ref_step_59 rfl ?_
        refine J_iconst (v := 5) d_Ref_step_60 (by decide) ?_
        refine J_iload_n d_Ref_step_61 rfl ?_
        refine J_imul d_Ref_step_62 ?_
        refine J_iconst (v := 0) d_Ref_step_63 (by decide) ?_
        obtain ⟨q54, hq54, H⟩ := Option.bind_eq_some_iff.mp H
        refine J_callV (kc := 0) (ks := 0) (kc' := 0) (ks' := 0) (a := x0) (ci := 12) (as := [.int x1, .int ((5 : Int32) * x1), .int (0 : Int32)]) (st := []) (mf_Ref_watch hw) (mv_Ref_587 hw) d_Ref_step_64 ln_Ref_watch (by decide) (by first | exact Nat.le_of_ble_eq_true rfl | (simp only [List.map_cons, List.map_nil, List.sum_cons, List.sum_nil, va_rf_cat]; exact Nat.le_of_ble_eq_true rfl)) rfl ((hG _).1 _ g52 (by decide)).1 ((hG _).1 _ g52 (by decide)).2 (by unfold pic; rw [g52]; rfl) (jcl_at hw rfl) rfl (p_Ref_watch hw hG hq54) ?_ (fun E h' n' x' e1 => by cases e1.1)
        intro v9 h9 n9 x9 e9
        obtain ⟨e91, e92, e93⟩ := e9
        cases e91
        subst e92
        subst e93
        clear x
        rename Bool => x
        show J _ _ _ _ [] _ _ _ _ _ _
        refine J.drop [true, true, false, false] rfl ?_
        exact p_Ref_step_L67 hw hG ih H
def f_Ref_step_L23 (Γ : gm_T)  : Nat → ph_T → Nat → Int32 → Option (Int32 × ph_T)
  | 0, _, _, _ => none
  | fu + 1, φ, x0, x1 =>
    @ite _ (Γ x0 = .inr 12) _ (
    if (φ.1 x0 2) ≤ x1 then
      f_Ref_step_L44 Γ  jF φ x0 (0 : Int32)
    else
      Option.bind (f_Ref_showSlave Γ φ x0 x1) fun q58 =>
      (f_Ref_step_L23 Γ  fu) q58.2 x0 (x1 + (1 : Int32))
    ) none
set_option maxRecDepth 100000 in
set_option maxHeartbeats 4000000 in
theorem p_Ref_step_L23 {w : jw_T} (hw : jok w) {Γ : gm_T} {n : Nat} (hG : gd w Γ n)  : ∀ (fu : Nat) {x : Bool} {φ : ph_T} {x0 : Nat} {x1 : Int32} {q : Int32 × ph_T}, f_Ref_step_L23 Γ  fu φ x0 x1 = some q → J w M_Ref_step 23 [some (.ref x0), some (.int x1), none, none] [] (pic Γ φ) n x 0 0 (fq Γ n (.inl (some (.int q.1))) q.2) := by
  intro fu
  induction fu with
  | zero =>
    intro x φ x0 x1 q H
    cases H
  | succ fu ih =>
    intro x φ x0 x1 q H
    unfold f_Ref_step_L23 at H
    refine J_iload_n d_Ref_step_23 rfl ?_
    refine J_aload_n d_Ref_step_24 rfl ?_
    have g57 : Γ x0 = .inr 12 := by
      apply Classical.byContradiction
      intro q9
      rw [if_neg q9] at H
      cases H
    rw [if_pos g57] at H
    refine F_getI (ci := 12) (k := 2) hG (cf_Ref hw) (fl_Ref_294 hw) (by decide) (by decide) rfl d_Ref_step_25 g57 ?_
    refine J_icmp_ge (tgt := 42) d_Ref_step_28 (by decide) ?_ ?_
    · intro c59
      rw [if_pos c59] at H
      refine J_iconst (v := 0) d_Ref_step_42 (by decide) ?_
      refine J_istore_n d_Ref_step_43 (Nat.le_of_ble_eq_true rfl) ?_
      refine J.drop [true, true, false, false] rfl ?_
      exact p_Ref_step_L44 hw hG  _ H
    · intro c59
      rw [if_neg c59] at H
      refine J_aload_n d_Ref_step_31 rfl ?_
      refine J_iload_n d_Ref_step_32 rfl ?_
      obtain ⟨q58, hq58, H⟩ := Option.bind_eq_some_iff.mp H
      refine J_callV (kc := 0) (ks := 0) (kc' := 0) (ks' := 0) (a := x0) (ci := 12) (as := [.int x1]) (st := []) (mf_Ref_showSlave hw) (mv_Ref_581 hw) d_Ref_step_33 ln_Ref_showSlave (by decide) (by first | exact Nat.le_of_ble_eq_true rfl | (simp only [List.map_cons, List.map_nil, List.sum_cons, List.sum_nil, va_rf_cat]; exact Nat.le_of_ble_eq_true rfl)) rfl ((hG _).1 _ g57 (by decide)).1 ((hG _).1 _ g57 (by decide)).2 (by unfold pic; rw [g57]; rfl) (jcl_at hw rfl) rfl (p_Ref_showSlave hw hG hq58) ?_ (fun E h' n' x' e1 => by cases e1.1)
      intro v9 h9 n9 x9 e9
      obtain ⟨e91, e92, e93⟩ := e9
      cases e91
      subst e92
      subst e93
      clear x
      rename Bool => x
      show J _ _ _ _ [] _ _ _ _ _ _
      refine J_iinc (v := x1 + 1) d_Ref_step_36 rfl (by rw [show Int32.ofInt 1 = (1 : Int32) from by decide]) ?_
      refine J_goto (tgt := 23) d_Ref_step_39 (by decide) ?_
      refine J.drop [true, true, false, false] rfl ?_
      exact ih H
def f_Ref_step_L2 (Γ : gm_T)  : Nat → ph_T → Nat → Int32 → Option (Int32 × ph_T)
  | 0, _, _, _ => none
  | fu + 1, φ, x0, x1 =>
    @ite _ (Γ x0 = .inr 12) _ (
    if (φ.1 x0 1) ≤ x1 then
      f_Ref_step_L23 Γ  jF φ x0 (0 : Int32)
    else
      Option.bind (f_Ref_showMaster Γ φ x0 x1) fun q61 =>
      (f_Ref_step_L2 Γ  fu) q61.2 x0 (x1 + (1 : Int32))
    ) none
set_option maxRecDepth 100000 in
set_option maxHeartbeats 4000000 in
theorem p_Ref_step_L2 {w : jw_T} (hw : jok w) {Γ : gm_T} {n : Nat} (hG : gd w Γ n)  : ∀ (fu : Nat) {x : Bool} {φ : ph_T} {x0 : Nat} {x1 : Int32} {q : Int32 × ph_T}, f_Ref_step_L2 Γ  fu φ x0 x1 = some q → J w M_Ref_step 2 [some (.ref x0), some (.int x1), none, none] [] (pic Γ φ) n x 0 0 (fq Γ n (.inl (some (.int q.1))) q.2) := by
  intro fu
  induction fu with
  | zero =>
    intro x φ x0 x1 q H
    cases H
  | succ fu ih =>
    intro x φ x0 x1 q H
    unfold f_Ref_step_L2 at H
    refine J_iload_n d_Ref_step_2 rfl ?_
    refine J_aload_n d_Ref_step_3 rfl ?_
    have g60 : Γ x0 = .inr 12 := by
      apply Classical.byContradiction
      intro q9
      rw [if_neg q9] at H
      cases H
    rw [if_pos g60] at H
    refine F_getI (ci := 12) (k := 1) hG (cf_Ref hw) (fl_Ref_290 hw) (by decide) (by decide) rfl d_Ref_step_4 g60 ?_
    refine J_icmp_ge (tgt := 21) d_Ref_step_7 (by decide) ?_ ?_
    · intro c62
      rw [if_pos c62] at H
      refine J_iconst (v := 0) d_Ref_step_21 (by decide) ?_
      refine J_istore_n d_Ref_step_22 (Nat.le_of_ble_eq_true rfl) ?_
      refine J.drop [true, true, false, false] rfl ?_
      exact p_Ref_step_L23 hw hG  _ H
    · intro c62
      rw [if_neg c62] at H
      refine J_aload_n d_Ref_step_10 rfl ?_
      refine J_iload_n d_Ref_step_11 rfl ?_
      obtain ⟨q61, hq61, H⟩ := Option.bind_eq_some_iff.mp H
      refine J_callV (kc := 0) (ks := 0) (kc' := 0) (ks' := 0) (a := x0) (ci := 12) (as := [.int x1]) (st := []) (mf_Ref_showMaster hw) (mv_Ref_578 hw) d_Ref_step_12 ln_Ref_showMaster (by decide) (by first | exact Nat.le_of_ble_eq_true rfl | (simp only [List.map_cons, List.map_nil, List.sum_cons, List.sum_nil, va_rf_cat]; exact Nat.le_of_ble_eq_true rfl)) rfl ((hG _).1 _ g60 (by decide)).1 ((hG _).1 _ g60 (by decide)).2 (by unfold pic; rw [g60]; rfl) (jcl_at hw rfl) rfl (p_Ref_showMaster hw hG hq61) ?_ (fun E h' n' x' e1 => by cases e1.1)
      intro v9 h9 n9 x9 e9
      obtain ⟨e91, e92, e93⟩ := e9
      cases e91
      subst e92
      subst e93
      clear x
      rename Bool => x
      show J _ _ _ _ [] _ _ _ _ _ _
      refine J_iinc (v := x1 + 1) d_Ref_step_15 rfl (by rw [show Int32.ofInt 1 = (1 : Int32) from by decide]) ?_
      refine J_goto (tgt := 2) d_Ref_step_18 (by decide) ?_
      refine J.drop [true, true, false, false] rfl ?_
      exact ih H
def f_Ref_step (Γ : gm_T) (φ : ph_T) (this : Nat) : Option (Int32 × ph_T) :=
  f_Ref_step_L2 Γ  jF φ this (0 : Int32)
set_option maxRecDepth 100000 in
set_option maxHeartbeats 4000000 in
theorem p_Ref_step {w : jw_T} (hw : jok w) {Γ : gm_T} {n : Nat} (hG : gd w Γ n) {x : Bool} {φ : ph_T} {this : Nat} {q : Int32 × ph_T} (H : f_Ref_step Γ φ this = some q) : jc w M_Ref_step [.ref this] (pic Γ φ) n x 0 0 (fq Γ n (.inl (some (.int q.1))) q.2) := by
  refine jc.of (by simp only [jent_r, jent_i, jent_l, jent_a, jent_0]; exact Nat.le_of_ble_eq_true rfl) ?_
  have hls : jents [.ref this] (jm_nL M_Ref_step) = [some (.ref this), none, none, none] := by simp only [jents, jent_r, jent_i, jent_l, jent_a, jent_0]; rfl
  rw [hls]
  clear hls
  unfold f_Ref_step at H
  refine J_iconst (v := 0) d_Ref_step_0 (by decide) ?_
  refine J_istore_n d_Ref_step_1 (Nat.le_of_ble_eq_true rfl) ?_
  refine J.drop [true, true, false, false] rfl ?_
  exact p_Ref_step_L2 hw hG  _ H
