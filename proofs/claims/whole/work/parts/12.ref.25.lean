theorem ln_Ref_moveData : (parseMethodDescriptor y_Ref_moveData.desc).map (fun q => q.parameters.length) = some 1 := by decide +kernel
def f_Ref_moveData_L199 (Γ : gm_T)  (φ : ph_T) : Option (Unit × ph_T) :=
  some ((), φ)
set_option maxRecDepth 100000 in
set_option maxHeartbeats 4000000 in
theorem p_Ref_moveData_L199 {w : jw_T} (hw : jok w) {Γ : gm_T} {n : Nat} (hG : gd w Γ n)  {x : Bool} {φ : ph_T} {q : Unit × ph_T} (H : f_Ref_moveData_L199 Γ  φ  = some q) : J w M_Ref_moveData 199 [none, none, none, none, none, none] [] (pic Γ φ) n x 0 0 (fq Γ n (.inl none) q.2) := by
  unfold f_Ref_moveData_L199 at H
  cases H
  exact J_vret (st := []) d_Ref_moveData_199 rfl ⟨rfl, rfl, rfl⟩
def f_Ref_moveData_L121 (Γ : gm_T) (Kc83 : ph_T → Nat → Int32 → Int32 → Int32 → Int32 → Option (Unit × ph_T)) (φ : ph_T) (x0 : Nat) (x2 : Int32) (x3 : Int32) (x5 : Int32) (y0 : Int32) : Option (Unit × ph_T) :=
  Kc83 φ x0 x2 x3 y0 (x5 + (-1 : Int32))
set_option maxRecDepth 100000 in
set_option maxHeartbeats 4000000 in
theorem p_Ref_moveData_L121 {w : jw_T} (hw : jok w) {Γ : gm_T} {n : Nat} (hG : gd w Γ n) {Kc83 : ph_T → Nat → Int32 → Int32 → Int32 → Int32 → Option (Unit × ph_T)} (hKc83 : ∀ {x : Bool} {φ : ph_T} {x0 : Nat} {x2 : Int32} {x3 : Int32} {x4 : Int32} {x5 : Int32} {q : Unit × ph_T}, Kc83 φ x0 x2 x3 x4 x5 = some q → J w M_Ref_moveData 83 [some (.ref x0), none, some (.int x2), some (.int x3), some (.int x4), some (.int x5)] [] (pic Γ φ) n x 0 0 (fq Γ n (.inl none) q.2)) {x : Bool} {φ : ph_T} {x0 : Nat} {x2 : Int32} {x3 : Int32} {x5 : Int32} {y0 : Int32} {q : Unit × ph_T} (H : f_Ref_moveData_L121 Γ Kc83 φ x0 x2 x3 x5 y0 = some q) : J w M_Ref_moveData 121 [some (.ref x0), none, some (.int x2), some (.int x3), none, some (.int x5)] [.int y0] (pic Γ φ) n x 0 0 (fq Γ n (.inl none) q.2) := by
  unfold f_Ref_moveData_L121 at H
  refine J_istore d_Ref_moveData_121 (Nat.le_of_ble_eq_true rfl) ?_
  refine J_iinc (v := x5 + -1) d_Ref_moveData_123 rfl (by rw [show Int32.ofInt (-1) = (-1 : Int32) from by decide]) ?_
  refine J_goto (tgt := 83) d_Ref_moveData_126 (by decide) ?_
  refine J.drop [true, false, true, true, true, true] rfl ?_
  exact hKc83 H
def f_Ref_moveData_L119 (Γ : gm_T) (Kc83 : ph_T → Nat → Int32 → Int32 → Int32 → Int32 → Option (Unit × ph_T)) (φ : ph_T) (x0 : Nat) (x2 : Int32) (x3 : Int32) (x4 : Int32) (x5 : Int32) : Option (Unit × ph_T) :=
  f_Ref_moveData_L121 Γ Kc83 φ x0 x2 x3 x5 x4
set_option maxRecDepth 100000 in
set_option maxHeartbeats 4000000 in
theorem p_Ref_moveData_L119 {w : jw_T} (hw : jok w) {Γ : gm_T} {n : Nat} (hG : gd w Γ n) {Kc83 : ph_T → Nat → Int32 → Int32 → Int32 → Int32 → Option (Unit × ph_T)} (hKc83 : ∀ {x : Bool} {φ : ph_T} {x0 : Nat} {x2 : Int32} {x3 : Int32} {x4 : Int32} {x5 : Int32} {q : Unit × ph_T}, Kc83 φ x0 x2 x3 x4 x5 = some q → J w M_Ref_moveData 83 [some (.ref x0), none, some (.int x2), some (.int x3), some (.int x4), some (.int x5)] [] (pic Γ φ) n x 0 0 (fq Γ n (.inl none) q.2)) {x : Bool} {φ : ph_T} {x0 : Nat} {x2 : Int32} {x3 : Int32} {x4 : Int32} {x5 : Int32} {q : Unit × ph_T} (H : f_Ref_moveData_L119 Γ Kc83 φ x0 x2 x3 x4 x5 = some q) : J w M_Ref_moveData 119 [some (.ref x0), none, some (.int x2), some (.int x3), some (.int x4), some (.int x5)] [] (pic Γ φ) n x 0 0 (fq Γ n (.inl none) q.2) := by
  unfold f_Ref_moveData_L119 at H
  refine J_iload d_Ref_moveData_119 rfl ?_
  refine J.drop [true, false, true, true, false, true] rfl ?_
  exact p_Ref_moveData_L121 hw hG hKc83 H
def f_Ref_moveData_L83 (Γ : gm_T)  : Nat → ph_T → Nat → Int32 → Int32 → Int32 → Int32 → Option (Unit × ph_T)
  | 0, _, _, _, _, _, _ => none
  | fu + 1, φ, x0, x2, x3, x4, x5 =>
    if x5 < 0 then
      @ite _ (Γ x0 = .inr 12) _ (
      Option.bind (φ.2.2 x0 45) fun a2 =>
      Option.bind (gA Γ a2 0) fun N3 =>
      Option.bind (ix x3 N3) fun k4 =>
      Option.bind (f_Ref_rowOf Γ φ x0 (1 : Int32) (φ.1 a2 k4) (1 : Int32)) fun q5 =>
      if x4 = x3 then
        Option.bind (f_Ref_hasRoom Γ q5.2 x0 q5.1) fun q6 =>
        if q6.1 = 0 then
          f_Ref_moveData_L199 Γ  q6.2 
        else
          Option.bind (q6.2.2.2 x0 39) fun a7 =>
          Option.bind (gA Γ a7 1) fun N8 =>
          Option.bind (ix ((4 : Int32) * x2) N8) fun k9 =>
          Option.bind (q6.2.2.2 x0 40) fun a10 =>
          Option.bind (gA Γ a10 0) fun N11 =>
          Option.bind (ix ((4 : Int32) * x2) N11) fun k12 =>
          Option.bind (f_Ref_put Γ q6.2 x0 q5.1 (q6.2.2.1 a7 k9) (q6.2.1 a10 k12) (q6.2.1 x0 6)) fun q13 =>
          Option.bind (f_Ref_take Γ q13.2 x0 x2) fun q14 =>
          Option.bind (q14.2.2.2 x0 46) fun a15 =>
          Option.bind (gA Γ a15 0) fun N16 =>
          Option.bind (ix x3 N16) fun k17 =>
          Option.bind (gA Γ a15 0) fun N18 =>
          Option.bind (ix x3 N18) fun k19 =>
          f_Ref_moveData_L199 Γ  (uI q14.2 a15 k19 ((q14.2.1 a15 k17) - (1 : Int32))) 
      else
        f_Ref_moveData_L199 Γ  q5.2 
      ) none
    else
      @ite _ (Γ x0 = .inr 12) _ (
      Option.bind (φ.2.2 x0 45) fun a23 =>
      Option.bind (gA Γ a23 0) fun N24 =>
      Option.bind (ix x5 N24) fun k25 =>
      Option.bind (gA Γ a23 0) fun N26 =>
      Option.bind (ix x3 N26) fun k27 =>
      if (φ.1 a23 k25) = (φ.1 a23 k27) then
        Option.bind (φ.2.2 x0 46) fun a28 =>
        Option.bind (gA Γ a28 0) fun N29 =>
        Option.bind (ix x5 N29) fun k30 =>
        if (φ.1 a28 k30) ≤ 0 then
          f_Ref_moveData_L119 Γ (f_Ref_moveData_L83 Γ  fu) φ x0 x2 x3 x4 x5
        else
          f_Ref_moveData_L121 Γ (f_Ref_moveData_L83 Γ  fu) φ x0 x2 x3 x5 x5
      else
        f_Ref_moveData_L119 Γ (f_Ref_moveData_L83 Γ  fu) φ x0 x2 x3 x4 x5
      ) none
set_option maxRecDepth 100000 in
set_option maxHeartbeats 4000000 in
theorem p_Ref_moveData_L83 {w : jw_T} (hw : jok w) {Γ : gm_T} {n : Nat} (hG : gd w Γ n)  : ∀ (fu : Nat) {x : Bool} {φ : ph_T} {x0 : Nat} {x2 : Int32} {x3 : Int32} {x4 : Int32} {x5 : Int32} {q : Unit × ph_T}, f_Ref_moveData_L83 Γ  fu φ x0 x2 x3 x4 x5 = some q → J w M_Ref_moveData 83 [some (.ref x0), none, some (.int x2), some (.int x3), some (.int x4), some (.int x5)] [] (pic Γ φ) n x 0 0 (fq Γ n (.inl none) q.2) := by
  intro fu
  induction fu with
  | zero =>
    intro x φ x0 x2 x3 x4 x5 q H
    cases H
  | succ fu ih =>
    intro x φ x0 x2 x3 x4 x5 q H
    unfold f_Ref_moveData_L83 at H
    refine J_iload d_Ref_moveData_83 rfl ?_
    refine J_if_lt (tgt := 129) d_Ref_moveData_85 (by decide) ?_ ?_
    · intro c33
      rw [if_pos c33] at H
      refine J_aload_n d_Ref_moveData_129 rfl ?_
      refine J_iconst (v := 1) d_Ref_moveData_130 (by decide) ?_
      refine J_aload_n d_Ref_moveData_131 rfl ?_
      have g1 : Γ x0 = .inr 12 := by
        apply Classical.byContradiction
        intro q9
        rw [if_neg q9] at H
        cases H
      rw [if_pos g1] at H
      refine F_getR (ci := 12) (k := 45) hG (cf_Ref hw) (fl_Ref_124 hw) (by decide) (by decide) rfl d_Ref_moveData_132 g1 ?_
      refine J_iload_n d_Ref_moveData_135 rfl ?_
      obtain ⟨a2, ha2, H⟩ := Option.bind_eq_some_iff.mp H
      rw [j_rf ha2]
      obtain ⟨N3, hN3, H⟩ := Option.bind_eq_some_iff.mp H
      obtain ⟨k4, hk4, H⟩ := Option.bind_eq_some_iff.mp H
      refine F_iald k4 hw hG d_Ref_moveData_136 (gA_some hN3) (ix_some hk4) ?_
      refine J_iconst (v := 1) d_Ref_moveData_137 (by decide) ?_
      obtain ⟨q5, hq5, H⟩ := Option.bind_eq_some_iff.mp H
      refine J_callV (kc := 0) (ks := 0) (kc' := 0) (ks' := 0) (a := x0) (ci := 12) (as := [.int (1 : Int32), .int (φ.1 a2 k4), .int (1 : Int32)]) (st := []) (mf_Ref_rowOf hw) (mv_Ref_388 hw) d_Ref_moveData_138 ln_Ref_rowOf (by decide) (by first | exact Nat.le_of_ble_eq_true rfl | (simp only [List.map_cons, List.map_nil, List.sum_cons, List.sum_nil, va_rf_cat]; exact Nat.le_of_ble_eq_true rfl)) rfl ((hG _).1 _ g1 (by decide)).1 ((hG _).1 _ g1 (by decide)).2 (by unfold pic; rw [g1]; rfl) (jcl_at hw rfl) rfl (p_Ref_rowOf hw hG hq5) ?_ (fun E h' n' x' e1 => by cases e1.1)
      intro v9 h9 n9 x9 e9
      obtain ⟨e91, e92, e93⟩ := e9
      cases e91
      subst e92
      subst e93
      clear x
      rename Bool => x
      show J _ _ _ _ (_ :: _) _ _ _ _ _ _
      refine J_istore d_Ref_moveData_141 (Nat.le_of_ble_eq_true rfl) ?_
      refine J_iload d_Ref_moveData_143 rfl ?_
      refine J_iload_n d_Ref_moveData_145 rfl ?_
      refine J_icmp_ne (tgt := 199) d_Ref_moveData_146 (by decide) ?_ ?_
      · intro c21
        rw [if_neg c21] at H
        refine J.drop [false, false, false, false, false, false] rfl ?_
        exact p_Ref_moveData_L199 hw hG  H
      · intro c21
        rw [if_pos c21] at H
        refine J_aload_n d_Ref_moveData_149 rfl ?_
        refine J_iload d_Ref_moveData_150 rfl ?_
        obtain ⟨q6, hq6, H⟩ := Option.bind_eq_some_iff.mp H
        refine J_callV (kc := 0) (ks := 0) (kc' := 0) (ks' := 0) (a := x0) (ci := 12) (as := [.int q5.1]) (st := []) (mf_Ref_hasRoom hw) (mv_Ref_392 hw) d_Ref_moveData_152 ln_Ref_hasRoom (by decide) (by first | exact Nat.le_of_ble_eq_true rfl | (simp only [List.map_cons, List.map_nil, List.sum_cons, List.sum_nil, va_rf_cat]; exact Nat.le_of_ble_eq_true rfl)) rfl ((hG _).1 _ g1 (by decide)).1 ((hG _).1 _ g1 (by decide)).2 (by unfold pic; rw [g1]; rfl) (jcl_at hw rfl) rfl (p_Ref_hasRoom hw hG hq6) ?_ (fun E h' n' x' e1 => by cases e1.1)
        intro v9 h9 n9 x9 e9
        obtain ⟨e91, e92, e93⟩ := e9
        cases e91
        subst e92
        subst e93
        clear x
        rename Bool => x
        show J _ _ _ _ (_ :: _) _ _ _ _ _ _
        refine J_if_eq (tgt := 199) d_Ref_moveData_155 (by decide) ?_ ?_
        · intro c20
          rw [if_pos c20] at H
          refine J.drop [false, false, false, false, false, false] rfl ?_
          exact p_Ref_moveData_L199 hw hG  H
        · intro c20
          rw [if_neg c20] at H
          refine J_aload_n d_Ref_moveData_158 rfl ?_
          refine J_iload d_Ref_moveData_159 rfl ?_
          refine J_aload_n d_Ref_moveData_161 rfl ?_
          refine F_getR (ci := 12) (k := 39) hG (cf_Ref hw) (fl_Ref_106 hw) (by decide) (by decide) rfl d_Ref_moveData_162 g1 ?_
          refine J_iconst (v := 4) d_Ref_moveData_165 (by decide) ?_
          refine J_iload_n d_Ref_moveData_166 rfl ?_
          refine J_imul d_Ref_moveData_167 ?_
          obtain ⟨a7, ha7, H⟩ := Option.bind_eq_some_iff.mp H
          rw [j_rf ha7]
          obtain ⟨N8, hN8, H⟩ := Option.bind_eq_some_iff.mp H
          obtain ⟨k9, hk9, H⟩ := Option.bind_eq_some_iff.mp H
          refine F_lald k9 hw hG d_Ref_moveData_168 (gA_some hN8) (ix_some hk9) ?_
          refine J_aload_n d_Ref_moveData_169 rfl ?_
          refine F_getR (ci := 12) (k := 40) hG (cf_Ref hw) (fl_Ref_109 hw) (by decide) (by decide) rfl d_Ref_moveData_170 g1 ?_
          refine J_iconst (v := 4) d_Ref_moveData_173 (by decide) ?_
          refine J_iload_n d_Ref_moveData_174 rfl ?_
          refine J_imul d_Ref_moveData_175 ?_
          obtain ⟨a10, ha10, H⟩ := Option.bind_eq_some_iff.mp H
          rw [j_rf ha10]
          obtain ⟨N11, hN11, H⟩ := Option.bind_eq_some_iff.mp H
          obtain ⟨k12, hk12, H⟩ := Option.bind_eq_some_iff.mp H
          refine F_iald k12 hw hG d_Ref_moveData_176 (gA_some hN11) (ix_some hk12) ?_
          refine J_aload_n d_Ref_moveData_177 rfl ?_
          refine F_getI (ci := 12) (k := 6) hG (cf_Ref hw) (fl_Ref_348 hw) (by decide) (by decide) rfl d_Ref_moveData_178 g1 ?_
          obtain ⟨q13, hq13, H⟩ := Option.bind_eq_some_iff.mp H
          refine J_callV (kc := 0) (ks := 0) (kc' := 0) (ks' := 0) (a := x0) (ci := 12) (as := [.int q5.1, .long (q6.2.2.1 a7 k9), .int (q6.2.1 a10 k12), .int (q6.2.1 x0 6)]) (st := []) (mf_Ref_put hw) (mv_Ref_469 hw) d_Ref_moveData_181 ln_Ref_put (by decide) (by first | exact Nat.le_of_ble_eq_true rfl | (simp only [List.map_cons, List.map_nil, List.sum_cons, List.sum_nil, va_rf_cat]; exact Nat.le_of_ble_eq_true rfl)) rfl ((hG _).1 _ g1 (by decide)).1 ((hG _).1 _ g1 (by decide)).2 (by unfold pic; rw [g1]; rfl) (jcl_at hw rfl) rfl (p_Ref_put hw hG hq13) ?_ (fun E h' n' x' e1 => by cases e1.1)
          intro v9 h9 n9 x9 e9
          obtain ⟨e91, e92, e93⟩ := e9
          cases e91
          subst e92
          subst e93
          clear x
          rename Bool => x
          show J _ _ _ _ [] _ _ _ _ _ _
          refine J_aload_n d_Ref_moveData_184 rfl ?_
          refine J_iload_n d_Ref_moveData_185 rfl ?_
          obtain ⟨q14, hq14, H⟩ := Option.bind_eq_some_iff.mp H
          refine J_callV (kc := 0) (ks := 0) (kc' := 0) (ks' := 0) (a := x0) (ci := 12) (as := [.int x2]) (st := []) (mf_Ref_take hw) (mv_Ref_473 hw) d_Ref_moveData_186 ln_Ref_take (by decide) (by first | exact Nat.le_of_ble_eq_true rfl | (simp only [List.map_cons, List.map_nil, List.sum_cons, List.sum_nil, va_rf_cat]; exact Nat.le_of_ble_eq_true rfl)) rfl ((hG _).1 _ g1 (by decide)).1 ((hG _).1 _ g1 (by decide)).2 (by unfold pic; rw [g1]; rfl) (jcl_at hw rfl) rfl (p_Ref_take hw hG hq14) ?_ (fun E h' n' x' e1 => by cases e1.1)
          intro v9 h9 n9 x9 e9
          obtain ⟨e91, e92, e93⟩ := e9
          cases e91
          subst e92
          subst e93
          clear x
          rename Bool => x
          show J _ _ _ _ [] _ _ _ _ _ _
          refine J_aload_n d_Ref_moveData_189 rfl ?_
          refine F_getR (ci := 12) (k := 46) hG (cf_Ref hw) (fl_Ref_127 hw) (by decide) (by decide) rfl d_Ref_moveData_190 g1 ?_
          refine J_iload_n d_Ref_moveData_193 rfl ?_
          refine J_dup2 d_Ref_moveData_194 rfl (va_rf_cat _) ?_
          obtain ⟨a15, ha15, H⟩ := Option.bind_eq_some_iff.mp H
          rw [j_rf ha15]
          obtain ⟨N16, hN16, H⟩ := Option.bind_eq_some_iff.mp H
          obtain ⟨k17, hk17, H⟩ := Option.bind_eq_some_iff.mp H
          refine F_iald k17 hw hG d_Ref_moveData_195 (gA_some hN16) (ix_some hk17) ?_
          refine J_iconst (v := 1) d_Ref_moveData_196 (by decide) ?_
          refine J_isub d_Ref_moveData_197 ?_
          obtain ⟨N18, hN18, H⟩ := Option.bind_eq_some_iff.mp H
          obtain ⟨k19, hk19, H⟩ := Option.bind_eq_some_iff.mp H
          refine F_iast k19 hw hG d_Ref_moveData_198 (gA_some hN18) (ix_some hk19) ?_
          refine J.drop [false, false, false, false, false, false] rfl ?_
          exact p_Ref_moveData_L199 hw hG  H
    · intro c33
      rw [if_neg c33] at H
      refine J_aload_n d_Ref_moveData_88 rfl ?_
      have g22 : Γ x0 = .inr 12 := by
        apply Classical.byContradiction
        intro q9
        rw [if_neg q9] at H
        cases H
      rw [if_pos g22] at H
      refine F_getR (ci := 12) (k := 45) hG (cf_Ref hw) (fl_Ref_124 hw) (by decide) (by decide) rfl d_Ref_moveData_89 g22 ?_
      refine J_iload d_Ref_moveData_92 rfl ?_
      obtain ⟨a23, ha23, H⟩ := Option.bind_eq_some_iff.mp H
      rw [j_rf ha23]
      obtain ⟨N24, hN24, H⟩ := Option.bind_eq_some_iff.mp H
      obtain ⟨k25, hk25, H⟩ := Option.bind_eq_some_iff.mp H
      refine F_iald k25 hw hG d_Ref_moveData_94 (gA_some hN24) (ix_some hk25) ?_
      refine J_aload_n d_Ref_moveData_95 rfl ?_
      refine F_getR (ci := 12) (k := 45) hG (cf_Ref hw) (fl_Ref_124 hw) (by decide) (by decide) rfl d_Ref_moveData_96 g22 ?_
      refine J_iload_n d_Ref_moveData_99 rfl ?_
      try rw [j_rf ha23]
      obtain ⟨N26, hN26, H⟩ := Option.bind_eq_some_iff.mp H
      obtain ⟨k27, hk27, H⟩ := Option.bind_eq_some_iff.mp H
      refine F_iald k27 hw hG d_Ref_moveData_100 (gA_some hN26) (ix_some hk27) ?_
      refine J_icmp_ne (tgt := 119) d_Ref_moveData_101 (by decide) ?_ ?_
      · intro c32
        rw [if_neg c32] at H
        refine J.drop [true, false, true, true, true, true] rfl ?_
        exact p_Ref_moveData_L119 hw hG ih H
      · intro c32
        rw [if_pos c32] at H
        refine J_aload_n d_Ref_moveData_104 rfl ?_
        refine F_getR (ci := 12) (k := 46) hG (cf_Ref hw) (fl_Ref_127 hw) (by decide) (by decide) rfl d_Ref_moveData_105 g22 ?_
        refine J_iload d_Ref_moveData_108 rfl ?_
        obtain ⟨a28, ha28, H⟩ := Option.bind_eq_some_iff.mp H
        rw [j_rf ha28]
        obtain ⟨N29, hN29, H⟩ := Option.bind_eq_some_iff.mp H
        obtain ⟨k30, hk30, H⟩ := Option.bind_eq_some_iff.mp H
        refine F_iald k30 hw hG d_Ref_moveData_110 (gA_some hN29) (ix_some hk30) ?_
        refine J_if_le (tgt := 119) d_Ref_moveData_111 (by decide) ?_ ?_
        · intro c31
          rw [if_pos c31] at H
          refine J.drop [true, false, true, true, true, true] rfl ?_
          exact p_Ref_moveData_L119 hw hG ih H
        · intro c31
          rw [if_neg c31] at H
          refine J_iload d_Ref_moveData_114 rfl ?_
          refine J_goto (tgt := 121) d_Ref_moveData_116 (by decide) ?_
          refine J.drop [true, false, true, true, false, true] rfl ?_
          exact p_Ref_moveData_L121 hw hG ih H
def f_Ref_moveData_L71 (Γ : gm_T)  (φ : ph_T) : Option (Unit × ph_T) :=
  some ((), φ)
set_option maxRecDepth 100000 in
set_option maxHeartbeats 4000000 in
theorem p_Ref_moveData_L71 {w : jw_T} (hw : jok w) {Γ : gm_T} {n : Nat} (hG : gd w Γ n)  {x : Bool} {φ : ph_T} {q : Unit × ph_T} (H : f_Ref_moveData_L71 Γ  φ  = some q) : J w M_Ref_moveData 71 [none, none, none, none, none, none] [] (pic Γ φ) n x 0 0 (fq Γ n (.inl none) q.2) := by
  unfold f_Ref_moveData_L71 at H
  cases H
  exact J_vret (st := []) d_Ref_moveData_71 rfl ⟨rfl, rfl, rfl⟩
def f_Ref_moveData_L50 (Γ : gm_T) (Kc18 : ph_T → Nat → Int32 → Int32 → Int32 → Int32 → Option (Unit × ph_T)) (φ : ph_T) (x0 : Nat) (x1 : Int32) (x2 : Int32) (x4 : Int32) (y0 : Int32) : Option (Unit × ph_T) :=
  Kc18 φ x0 x1 x2 y0 (x4 + (-1 : Int32))
set_option maxRecDepth 100000 in
set_option maxHeartbeats 4000000 in
theorem p_Ref_moveData_L50 {w : jw_T} (hw : jok w) {Γ : gm_T} {n : Nat} (hG : gd w Γ n) {Kc18 : ph_T → Nat → Int32 → Int32 → Int32 → Int32 → Option (Unit × ph_T)} (hKc18 : ∀ {x : Bool} {φ : ph_T} {x0 : Nat} {x1 : Int32} {x2 : Int32} {x3 : Int32} {x4 : Int32} {q : Unit × ph_T}, Kc18 φ x0 x1 x2 x3 x4 = some q → J w M_Ref_moveData 18 [some (.ref x0), some (.int x1), some (.int x2), some (.int x3), some (.int x4), none] [] (pic Γ φ) n x 0 0 (fq Γ n (.inl none) q.2)) {x : Bool} {φ : ph_T} {x0 : Nat} {x1 : Int32} {x2 : Int32} {x4 : Int32} {y0 : Int32} {q : Unit × ph_T} (H : f_Ref_moveData_L50 Γ Kc18 φ x0 x1 x2 x4 y0 = some q) : J w M_Ref_moveData 50 [some (.ref x0), some (.int x1), some (.int x2), none, some (.int x4), none] [.int y0] (pic Γ φ) n x 0 0 (fq Γ n (.inl none) q.2) := by
  unfold f_Ref_moveData_L50 at H
  refine J_istore_n d_Ref_moveData_50 (Nat.le_of_ble_eq_true rfl) ?_
  refine J_iinc (v := x4 + -1) d_Ref_moveData_51 rfl (by rw [show Int32.ofInt (-1) = (-1 : Int32) from by decide]) ?_
  refine J_goto (tgt := 18) d_Ref_moveData_54 (by decide) ?_
  refine J.drop [true, true, true, true, true, false] rfl ?_
  exact hKc18 H
def f_Ref_moveData_L49 (Γ : gm_T) (Kc18 : ph_T → Nat → Int32 → Int32 → Int32 → Int32 → Option (Unit × ph_T)) (φ : ph_T) (x0 : Nat) (x1 : Int32) (x2 : Int32) (x3 : Int32) (x4 : Int32) : Option (Unit × ph_T) :=
  f_Ref_moveData_L50 Γ Kc18 φ x0 x1 x2 x4 x3
set_option maxRecDepth 100000 in
set_option maxHeartbeats 4000000 in
theorem p_Ref_moveData_L49 {w : jw_T} (hw : jok w) {Γ : gm_T} {n : Nat} (hG : gd w Γ n) {Kc18 : ph_T → Nat → Int32 → Int32 → Int32 → Int32 → Option (Unit × ph_T)} (hKc18 : ∀ {x : Bool} {φ : ph_T} {x0 : Nat} {x1 : Int32} {x2 : Int32} {x3 : Int32} {x4 : Int32} {q : Unit × ph_T}, Kc18 φ x0 x1 x2 x3 x4 = some q → J w M_Ref_moveData 18 [some (.ref x0), some (.int x1), some (.int x2), some (.int x3), some (.int x4), none] [] (pic Γ φ) n x 0 0 (fq Γ n (.inl none) q.2)) {x : Bool} {φ : ph_T} {x0 : Nat} {x1 : Int32} {x2 : Int32} {x3 : Int32} {x4 : Int32} {q : Unit × ph_T} (H : f_Ref_moveData_L49 Γ Kc18 φ x0 x1 x2 x3 x4 = some q) : J w M_Ref_moveData 49 [some (.ref x0), some (.int x1), some (.int x2), some (.int x3), some (.int x4), none] [] (pic Γ φ) n x 0 0 (fq Γ n (.inl none) q.2) := by
  unfold f_Ref_moveData_L49 at H
  refine J_iload_n d_Ref_moveData_49 rfl ?_
  refine J.drop [true, true, true, false, true, false] rfl ?_
  exact p_Ref_moveData_L50 hw hG hKc18 H
def f_Ref_moveData_L18 (Γ : gm_T)  : Nat → ph_T → Nat → Int32 → Int32 → Int32 → Int32 → Option (Unit × ph_T)
  | 0, _, _, _, _, _, _ => none
  | fu + 1, φ, x0, x1, x2, x3, x4 =>
    if x4 < 0 then
      @ite _ (Γ x0 = .inr 12) _ (
      Option.bind (φ.2.2 x0 42) fun a35 =>
      Option.bind (gA Γ a35 0) fun N36 =>
      Option.bind (ix x2 N36) fun k37 =>
      if (φ.1 a35 k37) = 0 then
        f_Ref_moveData_L71 Γ  φ 
      else
        if x3 = (-1 : Int32) then
          f_Ref_moveData_L71 Γ  φ 
        else
          f_Ref_moveData_L83 Γ  jF φ x0 x2 x3 (-1 : Int32) ((φ.1 x0 47) - (1 : Int32))
      ) none
    else
      @ite _ (Γ x0 = .inr 12) _ (
      Option.bind (φ.2.2 x0 43) fun a41 =>
      Option.bind (gA Γ a41 0) fun N42 =>
      Option.bind (ix x4 N42) fun k43 =>
      if (φ.1 a41 k43) = x1 then
        Option.bind (φ.2.2 x0 46) fun a44 =>
        Option.bind (gA Γ a44 0) fun N45 =>
        Option.bind (ix x4 N45) fun k46 =>
        if (φ.1 a44 k46) ≤ 0 then
          f_Ref_moveData_L49 Γ (f_Ref_moveData_L18 Γ  fu) φ x0 x1 x2 x3 x4
        else
          f_Ref_moveData_L50 Γ (f_Ref_moveData_L18 Γ  fu) φ x0 x1 x2 x4 x4
      else
        f_Ref_moveData_L49 Γ (f_Ref_moveData_L18 Γ  fu) φ x0 x1 x2 x3 x4
      ) none
set_option maxRecDepth 100000 in
set_option maxHeartbeats 4000000 in
theorem p_Ref_moveData_L18 {w : jw_T} (hw : jok w) {Γ : gm_T} {n : Nat} (hG : gd w Γ n)  : ∀ (fu : Nat) {x : Bool} {φ : ph_T} {x0 : Nat} {x1 : Int32} {x2 : Int32} {x3 : Int32} {x4 : Int32} {q : Unit × ph_T}, f_Ref_moveData_L18 Γ  fu φ x0 x1 x2 x3 x4 = some q → J w M_Ref_moveData 18 [some (.ref x0), some (.int x1), some (.int x2), some (.int x3), some (.int x4), none] [] (pic Γ φ) n x 0 0 (fq Γ n (.inl none) q.2) := by
  intro fu
  induction fu with
  | zero =>
    intro x φ x0 x1 x2 x3 x4 q H
    cases H
  | succ fu ih =>
    intro x φ x0 x1 x2 x3 x4 q H
    unfold f_Ref_moveData_L18 at H
    refine J_iload d_Ref_moveData_18 rfl ?_
    refine J_if_lt (tgt := 57) d_Ref_moveData_20 (by decide) ?_ ?_
    · intro c49
      rw [if_pos c49] at H
      refine J_aload_n d_Ref_moveData_57 rfl ?_
      have g34 : Γ x0 = .inr 12 := by
        apply Classical.byContradiction
        intro q9
        rw [if_neg q9] at H
        cases H
      rw [if_pos g34] at H
      refine F_getR (ci := 12) (k := 42) hG (cf_Ref hw) (fl_Ref_115 hw) (by decide) (by decide) rfl d_Ref_moveData_58 g34 ?_
      refine J_iload_n d_Ref_moveData_61 rfl ?_
      obtain ⟨a35, ha35, H⟩ := Option.bind_eq_some_iff.mp H
      rw [j_rf ha35]
      obtain ⟨N36, hN36, H⟩ := Option.bind_eq_some_iff.mp H
      obtain ⟨k37, hk37, H⟩ := Option.bind_eq_some_iff.mp H
      refine F_iald k37 hw hG d_Ref_moveData_62 (gA_some hN36) (ix_some hk37) ?_
      refine J_if_eq (tgt := 71) d_Ref_moveData_63 (by decide) ?_ ?_
      · intro c39
        rw [if_pos c39] at H
        refine J.drop [false, false, false, false, false, false] rfl ?_
        exact p_Ref_moveData_L71 hw hG  H
      · intro c39
        rw [if_neg c39] at H
        refine J_iload_n d_Ref_moveData_66 rfl ?_
        refine J_iconst (v := -1) d_Ref_moveData_67 (by decide) ?_
        refine J_icmp_ne (tgt := 72) d_Ref_moveData_68 (by decide) ?_ ?_
        · intro c38
          rw [if_neg c38] at H
          refine J_iconst (v := -1) d_Ref_moveData_72 (by decide) ?_
          refine J_istore d_Ref_moveData_73 (Nat.le_of_ble_eq_true rfl) ?_
          refine J_aload_n d_Ref_moveData_75 rfl ?_
          refine F_getI (ci := 12) (k := 47) hG (cf_Ref hw) (fl_Ref_526 hw) (by decide) (by decide) rfl d_Ref_moveData_76 g34 ?_
          refine J_iconst (v := 1) d_Ref_moveData_79 (by decide) ?_
          refine J_isub d_Ref_moveData_80 ?_
          refine J_istore d_Ref_moveData_81 (Nat.le_of_ble_eq_true rfl) ?_
          refine J.drop [true, false, true, true, true, true] rfl ?_
          exact p_Ref_moveData_L83 hw hG  _ H
        · intro c38
          rw [if_pos c38] at H
          refine J.drop [false, false, false, false, false, false] rfl ?_
          exact p_Ref_moveData_L71 hw hG  H
    · intro c49
      rw [if_neg c49] at H
      refine J_aload_n d_Ref_moveData_23 rfl ?_
      have g40 : Γ x0 = .inr 12 := by
        apply Classical.byContradiction
        intro q9
        rw [if_neg q9] at H
        cases H
      rw [if_pos g40] at H
      refine F_getR (ci := 12) (k := 43) hG (cf_Ref hw) (fl_Ref_118 hw) (by decide) (by decide) rfl d_Ref_moveData_24 g40 ?_
      refine J_iload d_Ref_moveData_27 rfl ?_
      obtain ⟨a41, ha41, H⟩ := Option.bind_eq_some_iff.mp H
      rw [j_rf ha41]
      obtain ⟨N42, hN42, H⟩ := Option.bind_eq_some_iff.mp H
      obtain ⟨k43, hk43, H⟩ := Option.bind_eq_some_iff.mp H
      refine F_iald k43 hw hG d_Ref_moveData_29 (gA_some hN42) (ix_some hk43) ?_
      refine J_iload_n d_Ref_moveData_30 rfl ?_
      refine J_icmp_ne (tgt := 49) d_Ref_moveData_31 (by decide) ?_ ?_
      · intro c48
        rw [if_neg c48] at H
        refine J.drop [true, true, true, true, true, false] rfl ?_
        exact p_Ref_moveData_L49 hw hG ih H
      · intro c48
        rw [if_pos c48] at H
        refine J_aload_n d_Ref_moveData_34 rfl ?_
        refine F_getR (ci := 12) (k := 46) hG (cf_Ref hw) (fl_Ref_127 hw) (by decide) (by decide) rfl d_Ref_moveData_35 g40 ?_
        refine J_iload d_Ref_moveData_38 rfl ?_
        obtain ⟨a44, ha44, H⟩ := Option.bind_eq_some_iff.mp H
        rw [j_rf ha44]
        obtain ⟨N45, hN45, H⟩ := Option.bind_eq_some_iff.mp H
        obtain ⟨k46, hk46, H⟩ := Option.bind_eq_some_iff.mp H
        refine F_iald k46 hw hG d_Ref_moveData_40 (gA_some hN45) (ix_some hk46) ?_
        refine J_if_le (tgt := 49) d_Ref_moveData_41 (by decide) ?_ ?_
        · intro c47
          rw [if_pos c47] at H
          refine J.drop [true, true, true, true, true, false] rfl ?_
          exact p_Ref_moveData_L49 hw hG ih H
        · intro c47
          rw [if_neg c47] at H
          refine J_iload d_Ref_moveData_44 rfl ?_
          refine J_goto (tgt := 50) d_Ref_moveData_46 (by decide) ?_
          refine J.drop [true, true, true, false, true, false] rfl ?_
          exact p_Ref_moveData_L50 hw hG ih H
def f_Ref_moveData (Γ : gm_T) (φ : ph_T) (this : Nat) (p0 : Int32) : Option (Unit × ph_T) :=
  @ite _ (Γ this = .inr 12) _ (
  Option.bind (f_Ref_rowOf Γ φ this (0 : Int32) p0 (1 : Int32)) fun q51 =>
  f_Ref_moveData_L18 Γ  jF q51.2 this p0 q51.1 (-1 : Int32) ((q51.2.1 this 47) - (1 : Int32))
  ) none
set_option maxRecDepth 100000 in
set_option maxHeartbeats 4000000 in
theorem p_Ref_moveData {w : jw_T} (hw : jok w) {Γ : gm_T} {n : Nat} (hG : gd w Γ n) {x : Bool} {φ : ph_T} {this : Nat} {p0 : Int32} {q : Unit × ph_T} (H : f_Ref_moveData Γ φ this p0 = some q) : jc w M_Ref_moveData [.ref this, .int p0] (pic Γ φ) n x 0 0 (fq Γ n (.inl none) q.2) := by
  refine jc.of (by simp only [jent_r, jent_i, jent_l, jent_a, jent_0]; exact Nat.le_of_ble_eq_true rfl) ?_
  have hls : jents [.ref this, .int p0] (jm_nL M_Ref_moveData) = [some (.ref this), some (.int p0), none, none, none, none] := by simp only [jents, jent_r, jent_i, jent_l, jent_a, jent_0]; rfl
  rw [hls]
  clear hls
  unfold f_Ref_moveData at H
  refine J_aload_n d_Ref_moveData_0 rfl ?_
  refine J_iconst (v := 0) d_Ref_moveData_1 (by decide) ?_
  refine J_iload_n d_Ref_moveData_2 rfl ?_
  refine J_iconst (v := 1) d_Ref_moveData_3 (by decide) ?_
  have g50 : Γ this = .inr 12 := by
    apply Classical.byContradiction
    intro q9
    rw [if_neg q9] at H
    cases H
  rw [if_pos g50] at H
  obtain ⟨q51, hq51, H⟩ := Option.bind_eq_some_iff.mp H
  refine J_callV (kc := 0) (ks := 0) (kc' := 0) (ks' := 0) (a := this) (ci := 12) (as := [.int (0 : Int32), .int p0, .int (1 : Int32)]) (st := []) (mf_Ref_rowOf hw) (mv_Ref_388 hw) d_Ref_moveData_4 ln_Ref_rowOf (by decide) (by first | exact Nat.le_of_ble_eq_true rfl | (simp only [List.map_cons, List.map_nil, List.sum_cons, List.sum_nil, va_rf_cat]; exact Nat.le_of_ble_eq_true rfl)) rfl ((hG _).1 _ g50 (by decide)).1 ((hG _).1 _ g50 (by decide)).2 (by unfold pic; rw [g50]; rfl) (jcl_at hw rfl) rfl (p_Ref_rowOf hw hG hq51) ?_ (fun E h' n' x' e1 => by cases e1.1)
  intro v9 h9 n9 x9 e9
  obtain ⟨e91, e92, e93⟩ := e9
  cases e91
  subst e92
  subst e93
  clear x
  rename Bool => x
  show J _ _ _ _ (_ :: _) _ _ _ _ _ _
  refine J_istore_n d_Ref_moveData_7 (Nat.le_of_ble_eq_true rfl) ?_
  refine J_iconst (v := -1) d_Ref_moveData_8 (by decide) ?_
  refine J_istore_n d_Ref_moveData_9 (Nat.le_of_ble_eq_true rfl) ?_
  refine J_aload_n d_Ref_moveData_10 rfl ?_
  refine F_getI (ci := 12) (k := 47) hG (cf_Ref hw) (fl_Ref_526 hw) (by decide) (by decide) rfl d_Ref_moveData_11 g50 ?_
  refine J_iconst (v := 1) d_Ref_moveData_14 (by decide) ?_
  refine J_isub d_Ref_moveData_15 ?_
  refine J_istore d_Ref_moveData_16 (Nat.le_of_ble_eq_true rfl) ?_
  refine J.drop [true, true, true, true, true, false] rfl ?_
  exact p_Ref_moveData_L18 hw hG  _ H
theorem ln_Ref_workDefault : (parseMethodDescriptor y_Ref_workDefault.desc).map (fun q => q.parameters.length) = some 0 := by decide +kernel
def f_Ref_workDefault_L249 (Γ : gm_T)  (φ : ph_T) : Option (Unit × ph_T) :=
  some ((), φ)
set_option maxRecDepth 100000 in
set_option maxHeartbeats 4000000 in
theorem p_Ref_workDefault_L249 {w : jw_T} (hw : jok w) {Γ : gm_T} {n : Nat} (hG : gd w Γ n)  {x : Bool} {φ : ph_T} {q : Unit × ph_T} (H : f_Ref_workDefault_L249 Γ  φ  = some q) : J w M_Ref_workDefault 249 [none, none, none, none, none, none, none, none, none] [] (pic Γ φ) n x 0 0 (fq Γ n (.inl none) q.2) := by
  unfold f_Ref_workDefault_L249 at H
  cases H
  exact J_vret (st := []) d_Ref_workDefault_249 rfl ⟨rfl, rfl, rfl⟩
def f_Ref_workDefault_L225 (Γ : gm_T)  (φ : ph_T) (x0 : Nat) (x4 : Int32) (x8 : Int32) (y0 : Int32) (y1 : Int32) (y2 : Int64) (y3 : Int32) (y4 : Nat) : Option (Unit × ph_T) :=
  @ite _ (Γ x0 = .inr 12) _ (
  @ite _ (Γ y4 = .inr 12) _ (
  Option.bind (f_Ref_put Γ φ y4 y3 y2 (y1 + y0) (φ.1 x0 6)) fun q3 =>
  if x8 = 0 then
    f_Ref_workDefault_L249 Γ  q3.2 
  else
    Option.bind (f_Ref_take Γ (uI q3.2 x0 57 (0 : Int32)) x0 x4) fun q4 =>
    f_Ref_workDefault_L249 Γ  q4.2 
  ) none
  ) none
set_option maxRecDepth 100000 in
set_option maxHeartbeats 4000000 in
theorem p_Ref_workDefault_L225 {w : jw_T} (hw : jok w) {Γ : gm_T} {n : Nat} (hG : gd w Γ n)  {x : Bool} {φ : ph_T} {x0 : Nat} {x4 : Int32} {x8 : Int32} {y0 : Int32} {y1 : Int32} {y2 : Int64} {y3 : Int32} {y4 : Nat} {q : Unit × ph_T} (H : f_Ref_workDefault_L225 Γ  φ x0 x4 x8 y0 y1 y2 y3 y4 = some q) : J w M_Ref_workDefault 225 [some (.ref x0), none, none, none, some (.int x4), none, none, none, some (.int x8)] [.int y0, .int y1, .long y2, .int y3, .ref y4] (pic Γ φ) n x 0 0 (fq Γ n (.inl none) q.2) := by
  unfold f_Ref_workDefault_L225 at H
  refine J_iadd d_Ref_workDefault_225 ?_
  refine J_aload_n d_Ref_workDefault_226 rfl ?_
  have g1 : Γ x0 = .inr 12 := by
    apply Classical.byContradiction
    intro q9
    rw [if_neg q9] at H
    cases H
  rw [if_pos g1] at H
  refine F_getI (ci := 12) (k := 6) hG (cf_Ref hw) (fl_Ref_348 hw) (by decide) (by decide) rfl d_Ref_workDefault_227 g1 ?_
  have g2 : Γ y4 = .inr 12 := by
    apply Classical.byContradiction
    intro q9
    rw [if_neg q9] at H
    cases H
  rw [if_pos g2] at H
  obtain ⟨q3, hq3, H⟩ := Option.bind_eq_some_iff.mp H
  refine J_callV (kc := 0) (ks := 0) (kc' := 0) (ks' := 0) (a := y4) (ci := 12) (as := [.int y3, .long y2, .int (y1 + y0), .int (φ.1 x0 6)]) (st := []) (mf_Ref_put hw) (mv_Ref_469 hw) d_Ref_workDefault_230 ln_Ref_put (by decide) (by first | exact Nat.le_of_ble_eq_true rfl | (simp only [List.map_cons, List.map_nil, List.sum_cons, List.sum_nil, va_rf_cat]; exact Nat.le_of_ble_eq_true rfl)) rfl ((hG _).1 _ g2 (by decide)).1 ((hG _).1 _ g2 (by decide)).2 (by unfold pic; rw [g2]; rfl) (jcl_at hw rfl) rfl (p_Ref_put hw hG hq3) ?_ (fun E h' n' x' e1 => by cases e1.1)
  intro v9 h9 n9 x9 e9
  obtain ⟨e91, e92, e93⟩ := e9
  cases e91
  subst e92
  subst e93
  clear x
  rename Bool => x
  show J _ _ _ _ [] _ _ _ _ _ _
  refine J_iload d_Ref_workDefault_233 rfl ?_
  refine J_if_eq (tgt := 249) d_Ref_workDefault_235 (by decide) ?_ ?_
  · intro c5
    rw [if_pos c5] at H
    refine J.drop [false, false, false, false, false, false, false, false, false] rfl ?_
    exact p_Ref_workDefault_L249 hw hG  H
  · intro c5
    rw [if_neg c5] at H
    refine J_aload_n d_Ref_workDefault_238 rfl ?_
    refine J_iconst (v := 0) d_Ref_workDefault_239 (by decide) ?_
    refine F_putI (ci := 12) (k := 57) hG (cf_Ref hw) (fl_Ref_553 hw) (by decide) (by decide) rfl d_Ref_workDefault_240 rfl rfl rfl g1 ?_
    refine J_aload_n d_Ref_workDefault_243 rfl ?_
    refine J_iload d_Ref_workDefault_244 rfl ?_
    obtain ⟨q4, hq4, H⟩ := Option.bind_eq_some_iff.mp H
    refine J_callV (kc := 0) (ks := 0) (kc' := 0) (ks' := 0) (a := x0) (ci := 12) (as := [.int x4]) (st := []) (mf_Ref_take hw) (mv_Ref_473 hw) d_Ref_workDefault_246 ln_Ref_take (by decide) (by first | exact Nat.le_of_ble_eq_true rfl | (simp only [List.map_cons, List.map_nil, List.sum_cons, List.sum_nil, va_rf_cat]; exact Nat.le_of_ble_eq_true rfl)) rfl ((hG _).1 _ g1 (by decide)).1 ((hG _).1 _ g1 (by decide)).2 (by unfold pic; rw [g1]; rfl) (jcl_at hw rfl) rfl (p_Ref_take hw hG hq4) ?_ (fun E h' n' x' e1 => by cases e1.1)
    intro v9 h9 n9 x9 e9
    obtain ⟨e91, e92, e93⟩ := e9
    cases e91
    subst e92
    subst e93
    clear x
    rename Bool => x
    show J _ _ _ _ [] _ _ _ _ _ _
    refine J.drop [false, false, false, false, false, false, false, false, false] rfl ?_
    exact p_Ref_workDefault_L249 hw hG  H
def f_Ref_workDefault_L198 (Γ : gm_T)  (φ : ph_T) (x0 : Nat) (x4 : Int32) (x5 : Int32) (x6 : Int64) (y0 : Int32) : Option (Unit × ph_T) :=
  Option.bind (f_Ref_idOf Γ φ x6) fun q6 =>
  if y0 = 0 then
    f_Ref_workDefault_L225 Γ  q6.2 x0 x4 y0 (0 : Int32) (q6.1 + (192 : Int32)) (0 : Int64) x5 x0
  else
    f_Ref_workDefault_L225 Γ  q6.2 x0 x4 y0 (256 : Int32) (q6.1 + (192 : Int32)) (0 : Int64) x5 x0
set_option maxRecDepth 100000 in
set_option maxHeartbeats 4000000 in
theorem p_Ref_workDefault_L198 {w : jw_T} (hw : jok w) {Γ : gm_T} {n : Nat} (hG : gd w Γ n)  {x : Bool} {φ : ph_T} {x0 : Nat} {x4 : Int32} {x5 : Int32} {x6 : Int64} {y0 : Int32} {q : Unit × ph_T} (H : f_Ref_workDefault_L198 Γ  φ x0 x4 x5 x6 y0 = some q) : J w M_Ref_workDefault 198 [some (.ref x0), none, none, none, some (.int x4), some (.int x5), some (.long x6), none, none] [.int y0] (pic Γ φ) n x 0 0 (fq Γ n (.inl none) q.2) := by
  unfold f_Ref_workDefault_L198 at H
  refine J_istore d_Ref_workDefault_198 (Nat.le_of_ble_eq_true rfl) ?_
  refine J_aload_n d_Ref_workDefault_200 rfl ?_
  refine J_iload d_Ref_workDefault_201 rfl ?_
  refine J_lconst (v := 0) d_Ref_workDefault_203 (by decide) ?_
  refine J_lload d_Ref_workDefault_204 rfl ?_
  obtain ⟨q6, hq6, H⟩ := Option.bind_eq_some_iff.mp H
  refine J_callS (kc := 0) (ks := 0) (kc' := 0) (ks' := 0) (as := [.long x6]) (st := [.long (0 : Int64), .int x5, .ref x0]) (mf_Ref_idOf hw) (ms_Ref_396 hw) d_Ref_workDefault_206 ln_Ref_idOf (by decide) (by first | exact Nat.le_of_ble_eq_true rfl | (simp only [List.map_cons, List.map_nil, List.sum_cons, List.sum_nil, va_rf_cat]; exact Nat.le_of_ble_eq_true rfl)) rfl (p_Ref_idOf hw hG hq6) ?_ (fun E h' n' x' e1 => by cases e1.1)
  intro v9 h9 n9 x9 e9
  obtain ⟨e91, e92, e93⟩ := e9
  cases e91
  subst e92
  subst e93
  clear x
  rename Bool => x
  show J _ _ _ _ (_ :: _) _ _ _ _ _ _
  refine J_sipush (v := 192) d_Ref_workDefault_209 (by decide) ?_
  refine J_iadd d_Ref_workDefault_212 ?_
  refine J_iload d_Ref_workDefault_213 rfl ?_
  refine J_if_eq (tgt := 224) d_Ref_workDefault_215 (by decide) ?_ ?_
  · intro c7
    rw [if_pos c7] at H
    refine J_iconst (v := 0) d_Ref_workDefault_224 (by decide) ?_
    refine J.drop [true, false, false, false, true, false, false, false, true] rfl ?_
    exact p_Ref_workDefault_L225 hw hG  H
  · intro c7
    rw [if_neg c7] at H
    refine J_sipush (v := 256) d_Ref_workDefault_218 (by decide) ?_
    refine J_goto (tgt := 225) d_Ref_workDefault_221 (by decide) ?_
    refine J.drop [true, false, false, false, true, false, false, false, true] rfl ?_
    exact p_Ref_workDefault_L225 hw hG  H
def f_Ref_workDefault_L117 (Γ : gm_T)  (φ : ph_T) (x0 : Nat) : Option (Unit × ph_T) :=
  @ite _ (Γ x0 = .inr 12) _ (
  Option.bind (f_Ref_rowOf Γ φ x0 (1 : Int32) (φ.1 x0 2) (3 : Int32)) fun q9 =>
  Option.bind (f_Ref_rowOf Γ q9.2 x0 (1 : Int32) (q9.2.1 x0 2) (4 : Int32)) fun q10 =>
  Option.bind (q10.2.2.2 x0 42) fun a11 =>
  Option.bind (gA Γ a11 0) fun N12 =>
  Option.bind (ix q9.1 N12) fun k13 =>
  if (q10.2.1 a11 k13) ≤ 0 then
    f_Ref_workDefault_L249 Γ  q10.2 
  else
    Option.bind (f_Ref_hasRoom Γ q10.2 x0 q10.1) fun q14 =>
    if q14.1 = 0 then
      f_Ref_workDefault_L249 Γ  q14.2 
    else
      Option.bind (q14.2.2.2 x0 39) fun a15 =>
      Option.bind (gA Γ a15 1) fun N16 =>
      Option.bind (ix ((4 : Int32) * q9.1) N16) fun k17 =>
      Option.bind (f_Ref_lengthOf Γ (uI q14.2 x0 57 ((q14.2.1 x0 57) + (1 : Int32))) (q14.2.2.1 a15 k17)) fun q18 =>
      if ((uI q14.2 x0 57 ((q14.2.1 x0 57) + (1 : Int32))).1 x0 57) = q18.1 then
        f_Ref_workDefault_L198 Γ  q18.2 x0 q9.1 q10.1 (q14.2.2.1 a15 k17) (1 : Int32)
      else
        f_Ref_workDefault_L198 Γ  q18.2 x0 q9.1 q10.1 (q14.2.2.1 a15 k17) (0 : Int32)
  ) none
set_option maxRecDepth 100000 in
set_option maxHeartbeats 4000000 in
theorem p_Ref_workDefault_L117 {w : jw_T} (hw : jok w) {Γ : gm_T} {n : Nat} (hG : gd w Γ n)  {x : Bool} {φ : ph_T} {x0 : Nat} {q : Unit × ph_T} (H : f_Ref_workDefault_L117 Γ  φ x0 = some q) : J w M_Ref_workDefault 117 [some (.ref x0), none, none, none, none, none, none, none, none] [] (pic Γ φ) n x 0 0 (fq Γ n (.inl none) q.2) := by
  unfold f_Ref_workDefault_L117 at H
  refine J_aload_n d_Ref_workDefault_117 rfl ?_
  refine J_iconst (v := 1) d_Ref_workDefault_118 (by decide) ?_
  refine J_aload_n d_Ref_workDefault_119 rfl ?_
  have g8 : Γ x0 = .inr 12 := by
    apply Classical.byContradiction
    intro q9
    rw [if_neg q9] at H
    cases H
  rw [if_pos g8] at H
  refine F_getI (ci := 12) (k := 2) hG (cf_Ref hw) (fl_Ref_294 hw) (by decide) (by decide) rfl d_Ref_workDefault_120 g8 ?_
  refine J_iconst (v := 3) d_Ref_workDefault_123 (by decide) ?_
  obtain ⟨q9, hq9, H⟩ := Option.bind_eq_some_iff.mp H
  refine J_callV (kc := 0) (ks := 0) (kc' := 0) (ks' := 0) (a := x0) (ci := 12) (as := [.int (1 : Int32), .int (φ.1 x0 2), .int (3 : Int32)]) (st := []) (mf_Ref_rowOf hw) (mv_Ref_388 hw) d_Ref_workDefault_124 ln_Ref_rowOf (by decide) (by first | exact Nat.le_of_ble_eq_true rfl | (simp only [List.map_cons, List.map_nil, List.sum_cons, List.sum_nil, va_rf_cat]; exact Nat.le_of_ble_eq_true rfl)) rfl ((hG _).1 _ g8 (by decide)).1 ((hG _).1 _ g8 (by decide)).2 (by unfold pic; rw [g8]; rfl) (jcl_at hw rfl) rfl (p_Ref_rowOf hw hG hq9) ?_ (fun E h' n' x' e1 => by cases e1.1)
  intro v9 h9 n9 x9 e9
  obtain ⟨e91, e92, e93⟩ := e9
  cases e91
  subst e92
  subst e93
  clear x
  rename Bool => x
  show J _ _ _ _ (_ :: _) _ _ _ _ _ _
  refine J_istore d_Ref_workDefault_127 (Nat.le_of_ble_eq_true rfl) ?_
  refine J_aload_n d_Ref_workDefault_129 rfl ?_
  refine J_iconst (v := 1) d_Ref_workDefault_130 (by decide) ?_
  refine J_aload_n d_Ref_workDefault_131 rfl ?_
  refine F_getI (ci := 12) (k := 2) hG (cf_Ref hw) (fl_Ref_294 hw) (by decide) (by decide) rfl d_Ref_workDefault_132 g8 ?_
  refine J_iconst (v := 4) d_Ref_workDefault_135 (by decide) ?_
  obtain ⟨q10, hq10, H⟩ := Option.bind_eq_some_iff.mp H
  refine J_callV (kc := 0) (ks := 0) (kc' := 0) (ks' := 0) (a := x0) (ci := 12) (as := [.int (1 : Int32), .int (q9.2.1 x0 2), .int (4 : Int32)]) (st := []) (mf_Ref_rowOf hw) (mv_Ref_388 hw) d_Ref_workDefault_136 ln_Ref_rowOf (by decide) (by first | exact Nat.le_of_ble_eq_true rfl | (simp only [List.map_cons, List.map_nil, List.sum_cons, List.sum_nil, va_rf_cat]; exact Nat.le_of_ble_eq_true rfl)) rfl ((hG _).1 _ g8 (by decide)).1 ((hG _).1 _ g8 (by decide)).2 (by unfold pic; rw [g8]; rfl) (jcl_at hw rfl) rfl (p_Ref_rowOf hw hG hq10) ?_ (fun E h' n' x' e1 => by cases e1.1)
  intro v9 h9 n9 x9 e9
  obtain ⟨e91, e92, e93⟩ := e9
  cases e91
  subst e92
  subst e93
  clear x
  rename Bool => x
  show J _ _ _ _ (_ :: _) _ _ _ _ _ _
  refine J_istore d_Ref_workDefault_139 (Nat.le_of_ble_eq_true rfl) ?_
  refine J_aload_n d_Ref_workDefault_141 rfl ?_
  refine F_getR (ci := 12) (k := 42) hG (cf_Ref hw) (fl_Ref_115 hw) (by decide) (by decide) rfl d_Ref_workDefault_142 g8 ?_
  refine J_iload d_Ref_workDefault_145 rfl ?_
  obtain ⟨a11, ha11, H⟩ := Option.bind_eq_some_iff.mp H
  rw [j_rf ha11]
  obtain ⟨N12, hN12, H⟩ := Option.bind_eq_some_iff.mp H
  obtain ⟨k13, hk13, H⟩ := Option.bind_eq_some_iff.mp H
  refine F_iald k13 hw hG d_Ref_workDefault_147 (gA_some hN12) (ix_some hk13) ?_
  refine J_if_le (tgt := 249) d_Ref_workDefault_148 (by decide) ?_ ?_
  · intro c21
    rw [if_pos c21] at H
    refine J.drop [false, false, false, false, false, false, false, false, false] rfl ?_
    exact p_Ref_workDefault_L249 hw hG  H
  · intro c21
    rw [if_neg c21] at H
    refine J_aload_n d_Ref_workDefault_151 rfl ?_
    refine J_iload d_Ref_workDefault_152 rfl ?_
    obtain ⟨q14, hq14, H⟩ := Option.bind_eq_some_iff.mp H
    refine J_callV (kc := 0) (ks := 0) (kc' := 0) (ks' := 0) (a := x0) (ci := 12) (as := [.int q10.1]) (st := []) (mf_Ref_hasRoom hw) (mv_Ref_392 hw) d_Ref_workDefault_154 ln_Ref_hasRoom (by decide) (by first | exact Nat.le_of_ble_eq_true rfl | (simp only [List.map_cons, List.map_nil, List.sum_cons, List.sum_nil, va_rf_cat]; exact Nat.le_of_ble_eq_true rfl)) rfl ((hG _).1 _ g8 (by decide)).1 ((hG _).1 _ g8 (by decide)).2 (by unfold pic; rw [g8]; rfl) (jcl_at hw rfl) rfl (p_Ref_hasRoom hw hG hq14) ?_ (fun E h' n' x' e1 => by cases e1.1)
    intro v9 h9 n9 x9 e9
    obtain ⟨e91, e92, e93⟩ := e9
    cases e91
    subst e92
    subst e93
    clear x
    rename Bool => x
    show J _ _ _ _ (_ :: _) _ _ _ _ _ _
    refine J_if_eq (tgt := 249) d_Ref_workDefault_157 (by decide) ?_ ?_
    · intro c20
      rw [if_pos c20] at H
      refine J.drop [false, false, false, false, false, false, false, false, false] rfl ?_
      exact p_Ref_workDefault_L249 hw hG  H
    · intro c20
      rw [if_neg c20] at H
      refine J_aload_n d_Ref_workDefault_160 rfl ?_
      refine F_getR (ci := 12) (k := 39) hG (cf_Ref hw) (fl_Ref_106 hw) (by decide) (by decide) rfl d_Ref_workDefault_161 g8 ?_
      refine J_iconst (v := 4) d_Ref_workDefault_164 (by decide) ?_
      refine J_iload d_Ref_workDefault_165 rfl ?_
      refine J_imul d_Ref_workDefault_167 ?_
      obtain ⟨a15, ha15, H⟩ := Option.bind_eq_some_iff.mp H
      rw [j_rf ha15]
      obtain ⟨N16, hN16, H⟩ := Option.bind_eq_some_iff.mp H
      obtain ⟨k17, hk17, H⟩ := Option.bind_eq_some_iff.mp H
      refine F_lald k17 hw hG d_Ref_workDefault_168 (gA_some hN16) (ix_some hk17) ?_
      refine J_lstore d_Ref_workDefault_169 (Nat.le_of_ble_eq_true rfl) ?_
      refine J_aload_n d_Ref_workDefault_171 rfl ?_
      refine J_dup d_Ref_workDefault_172 rfl ?_
      refine F_getI (ci := 12) (k := 57) hG (cf_Ref hw) (fl_Ref_553 hw) (by decide) (by decide) rfl d_Ref_workDefault_173 g8 ?_
      refine J_iconst (v := 1) d_Ref_workDefault_176 (by decide) ?_
      refine J_iadd d_Ref_workDefault_177 ?_
      refine F_putI (ci := 12) (k := 57) hG (cf_Ref hw) (fl_Ref_553 hw) (by decide) (by decide) rfl d_Ref_workDefault_178 rfl rfl rfl g8 ?_
      refine J_aload_n d_Ref_workDefault_181 rfl ?_
      refine F_getI (ci := 12) (k := 57) hG (cf_Ref hw) (fl_Ref_553 hw) (by decide) (by decide) rfl d_Ref_workDefault_182 g8 ?_
      refine J_lload d_Ref_workDefault_185 rfl ?_
      obtain ⟨q18, hq18, H⟩ := Option.bind_eq_some_iff.mp H
      refine J_callS (kc := 0) (ks := 0) (kc' := 0) (ks' := 0) (as := [.long (q14.2.2.1 a15 k17)]) (st := [.int ((uI q14.2 x0 57 ((q14.2.1 x0 57) + (1 : Int32))).1 x0 57)]) (mf_Ref_lengthOf hw) (ms_Ref_321 hw) d_Ref_workDefault_187 ln_Ref_lengthOf (by decide) (by first | exact Nat.le_of_ble_eq_true rfl | (simp only [List.map_cons, List.map_nil, List.sum_cons, List.sum_nil, va_rf_cat]; exact Nat.le_of_ble_eq_true rfl)) rfl (p_Ref_lengthOf hw hG hq18) ?_ (fun E h' n' x' e1 => by cases e1.1)
      intro v9 h9 n9 x9 e9
      obtain ⟨e91, e92, e93⟩ := e9
      cases e91
      subst e92
      subst e93
      clear x
      rename Bool => x
      show J _ _ _ _ (_ :: _) _ _ _ _ _ _
      refine J_icmp_ne (tgt := 197) d_Ref_workDefault_190 (by decide) ?_ ?_
      · intro c19
        rw [if_neg c19] at H
        refine J_iconst (v := 0) d_Ref_workDefault_197 (by decide) ?_
        refine J.drop [true, false, false, false, true, true, true, false, false] rfl ?_
        exact p_Ref_workDefault_L198 hw hG  H
      · intro c19
        rw [if_pos c19] at H
        refine J_iconst (v := 1) d_Ref_workDefault_193 (by decide) ?_
        refine J_goto (tgt := 198) d_Ref_workDefault_194 (by decide) ?_
        refine J.drop [true, false, false, false, true, true, true, false, false] rfl ?_
        exact p_Ref_workDefault_L198 hw hG  H
def f_Ref_workDefault_L64 (Γ : gm_T)  (φ : ph_T) (x0 : Nat) (x1 : Int32) (x2 : Int32) (x3 : Int32) : Option (Unit × ph_T) :=
  @ite _ (Γ x0 = .inr 12) _ (
  Option.bind (f_Ref_take Γ φ x0 x1) fun q23 =>
  if x3 = 0 then
    f_Ref_workDefault_L117 Γ  q23.2 x0
  else
    Option.bind (f_Ref_rowOf Γ q23.2 x0 (1 : Int32) (q23.2.1 x0 2) (0 : Int32)) fun q24 =>
    Option.bind (q24.2.2.2 x0 39) fun a25 =>
    Option.bind (gA Γ a25 1) fun N26 =>
    Option.bind (ix ((4 : Int32) * q24.1) N26) fun k27 =>
    Option.bind (f_Ref_idOf Γ q24.2 (q24.2.2.1 a25 k27)) fun q28 =>
    Option.bind (f_Ref_put Γ q28.2 x0 x2 (0 : Int64) (q28.1 + (192 : Int32)) (q28.2.1 x0 6)) fun q29 =>
    Option.bind (f_Ref_take Γ q29.2 x0 q24.1) fun q30 =>
    f_Ref_workDefault_L117 Γ  q30.2 x0
  ) none
set_option maxRecDepth 100000 in
set_option maxHeartbeats 4000000 in
theorem p_Ref_workDefault_L64 {w : jw_T} (hw : jok w) {Γ : gm_T} {n : Nat} (hG : gd w Γ n)  {x : Bool} {φ : ph_T} {x0 : Nat} {x1 : Int32} {x2 : Int32} {x3 : Int32} {q : Unit × ph_T} (H : f_Ref_workDefault_L64 Γ  φ x0 x1 x2 x3 = some q) : J w M_Ref_workDefault 64 [some (.ref x0), some (.int x1), some (.int x2), some (.int x3), none, none, none, none, none] [] (pic Γ φ) n x 0 0 (fq Γ n (.inl none) q.2) := by
  unfold f_Ref_workDefault_L64 at H
  refine J_aload_n d_Ref_workDefault_64 rfl ?_
  refine J_iload_n d_Ref_workDefault_65 rfl ?_
  have g22 : Γ x0 = .inr 12 := by
    apply Classical.byContradiction
    intro q9
    rw [if_neg q9] at H
    cases H
  rw [if_pos g22] at H
  obtain ⟨q23, hq23, H⟩ := Option.bind_eq_some_iff.mp H
  refine J_callV (kc := 0) (ks := 0) (kc' := 0) (ks' := 0) (a := x0) (ci := 12) (as := [.int x1]) (st := []) (mf_Ref_take hw) (mv_Ref_473 hw) d_Ref_workDefault_66 ln_Ref_take (by decide) (by first | exact Nat.le_of_ble_eq_true rfl | (simp only [List.map_cons, List.map_nil, List.sum_cons, List.sum_nil, va_rf_cat]; exact Nat.le_of_ble_eq_true rfl)) rfl ((hG _).1 _ g22 (by decide)).1 ((hG _).1 _ g22 (by decide)).2 (by unfold pic; rw [g22]; rfl) (jcl_at hw rfl) rfl (p_Ref_take hw hG hq23) ?_ (fun E h' n' x' e1 => by cases e1.1)
  intro v9 h9 n9 x9 e9
  obtain ⟨e91, e92, e93⟩ := e9
  cases e91
  subst e92
  subst e93
  clear x
  rename Bool => x
  show J _ _ _ _ [] _ _ _ _ _ _
  refine J_iload_n d_Ref_workDefault_69 rfl ?_
  refine J_if_eq (tgt := 117) d_Ref_workDefault_70 (by decide) ?_ ?_
  · intro c31
    rw [if_pos c31] at H
    refine J.drop [true, false, false, false, false, false, false, false, false] rfl ?_
    exact p_Ref_workDefault_L117 hw hG  H
  · intro c31
    rw [if_neg c31] at H
    refine J_aload_n d_Ref_workDefault_73 rfl ?_
    refine J_iconst (v := 1) d_Ref_workDefault_74 (by decide) ?_
    refine J_aload_n d_Ref_workDefault_75 rfl ?_
    refine F_getI (ci := 12) (k := 2) hG (cf_Ref hw) (fl_Ref_294 hw) (by decide) (by decide) rfl d_Ref_workDefault_76 g22 ?_
    refine J_iconst (v := 0) d_Ref_workDefault_79 (by decide) ?_
    obtain ⟨q24, hq24, H⟩ := Option.bind_eq_some_iff.mp H
    refine J_callV (kc := 0) (ks := 0) (kc' := 0) (ks' := 0) (a := x0) (ci := 12) (as := [.int (1 : Int32), .int (q23.2.1 x0 2), .int (0 : Int32)]) (st := []) (mf_Ref_rowOf hw) (mv_Ref_388 hw) d_Ref_workDefault_80 ln_Ref_rowOf (by decide) (by first | exact Nat.le_of_ble_eq_true rfl | (simp only [List.map_cons, List.map_nil, List.sum_cons, List.sum_nil, va_rf_cat]; exact Nat.le_of_ble_eq_true rfl)) rfl ((hG _).1 _ g22 (by decide)).1 ((hG _).1 _ g22 (by decide)).2 (by unfold pic; rw [g22]; rfl) (jcl_at hw rfl) rfl (p_Ref_rowOf hw hG hq24) ?_ (fun E h' n' x' e1 => by cases e1.1)
    intro v9 h9 n9 x9 e9
    obtain ⟨e91, e92, e93⟩ := e9
    cases e91
    subst e92
    subst e93
    clear x
    rename Bool => x
    show J _ _ _ _ (_ :: _) _ _ _ _ _ _
    refine J_istore d_Ref_workDefault_83 (Nat.le_of_ble_eq_true rfl) ?_
    refine J_aload_n d_Ref_workDefault_85 rfl ?_
    refine J_iload_n d_Ref_workDefault_86 rfl ?_
    refine J_lconst (v := 0) d_Ref_workDefault_87 (by decide) ?_
    refine J_aload_n d_Ref_workDefault_88 rfl ?_
    refine F_getR (ci := 12) (k := 39) hG (cf_Ref hw) (fl_Ref_106 hw) (by decide) (by decide) rfl d_Ref_workDefault_89 g22 ?_
    refine J_iconst (v := 4) d_Ref_workDefault_92 (by decide) ?_
    refine J_iload d_Ref_workDefault_93 rfl ?_
    refine J_imul d_Ref_workDefault_95 ?_
    obtain ⟨a25, ha25, H⟩ := Option.bind_eq_some_iff.mp H
    rw [j_rf ha25]
    obtain ⟨N26, hN26, H⟩ := Option.bind_eq_some_iff.mp H
    obtain ⟨k27, hk27, H⟩ := Option.bind_eq_some_iff.mp H
    refine F_lald k27 hw hG d_Ref_workDefault_96 (gA_some hN26) (ix_some hk27) ?_
    obtain ⟨q28, hq28, H⟩ := Option.bind_eq_some_iff.mp H
    refine J_callS (kc := 0) (ks := 0) (kc' := 0) (ks' := 0) (as := [.long (q24.2.2.1 a25 k27)]) (st := [.long (0 : Int64), .int x2, .ref x0]) (mf_Ref_idOf hw) (ms_Ref_396 hw) d_Ref_workDefault_97 ln_Ref_idOf (by decide) (by first | exact Nat.le_of_ble_eq_true rfl | (simp only [List.map_cons, List.map_nil, List.sum_cons, List.sum_nil, va_rf_cat]; exact Nat.le_of_ble_eq_true rfl)) rfl (p_Ref_idOf hw hG hq28) ?_ (fun E h' n' x' e1 => by cases e1.1)
    intro v9 h9 n9 x9 e9
    obtain ⟨e91, e92, e93⟩ := e9
    cases e91
    subst e92
    subst e93
    clear x
    rename Bool => x
    show J _ _ _ _ (_ :: _) _ _ _ _ _ _
    refine J_sipush (v := 192) d_Ref_workDefault_100 (by decide) ?_
    refine J_iadd d_Ref_workDefault_103 ?_
    refine J_aload_n d_Ref_workDefault_104 rfl ?_
    refine F_getI (ci := 12) (k := 6) hG (cf_Ref hw) (fl_Ref_348 hw) (by decide) (by decide) rfl d_Ref_workDefault_105 g22 ?_
    obtain ⟨q29, hq29, H⟩ := Option.bind_eq_some_iff.mp H
    refine J_callV (kc := 0) (ks := 0) (kc' := 0) (ks' := 0) (a := x0) (ci := 12) (as := [.int x2, .long (0 : Int64), .int (q28.1 + (192 : Int32)), .int (q28.2.1 x0 6)]) (st := []) (mf_Ref_put hw) (mv_Ref_469 hw) d_Ref_workDefault_108 ln_Ref_put (by decide) (by first | exact Nat.le_of_ble_eq_true rfl | (simp only [List.map_cons, List.map_nil, List.sum_cons, List.sum_nil, va_rf_cat]; exact Nat.le_of_ble_eq_true rfl)) rfl ((hG _).1 _ g22 (by decide)).1 ((hG _).1 _ g22 (by decide)).2 (by unfold pic; rw [g22]; rfl) (jcl_at hw rfl) rfl (p_Ref_put hw hG hq29) ?_ (fun E h' n' x' e1 => by cases e1.1)
    intro v9 h9 n9 x9 e9
    obtain ⟨e91, e92, e93⟩ := e9
    cases e91
    subst e92
    subst e93
    clear x
    rename Bool => x
    show J _ _ _ _ [] _ _ _ _ _ _
    refine J_aload_n d_Ref_workDefault_111 rfl ?_
    refine J_iload d_Ref_workDefault_112 rfl ?_
    obtain ⟨q30, hq30, H⟩ := Option.bind_eq_some_iff.mp H
    refine J_callV (kc := 0) (ks := 0) (kc' := 0) (ks' := 0) (a := x0) (ci := 12) (as := [.int q24.1]) (st := []) (mf_Ref_take hw) (mv_Ref_473 hw) d_Ref_workDefault_114 ln_Ref_take (by decide) (by first | exact Nat.le_of_ble_eq_true rfl | (simp only [List.map_cons, List.map_nil, List.sum_cons, List.sum_nil, va_rf_cat]; exact Nat.le_of_ble_eq_true rfl)) rfl ((hG _).1 _ g22 (by decide)).1 ((hG _).1 _ g22 (by decide)).2 (by unfold pic; rw [g22]; rfl) (jcl_at hw rfl) rfl (p_Ref_take hw hG hq30) ?_ (fun E h' n' x' e1 => by cases e1.1)
    intro v9 h9 n9 x9 e9
    obtain ⟨e91, e92, e93⟩ := e9
    cases e91
    subst e92
    subst e93
    clear x
    rename Bool => x
    show J _ _ _ _ [] _ _ _ _ _ _
    refine J.drop [true, false, false, false, false, false, false, false, false] rfl ?_
    exact p_Ref_workDefault_L117 hw hG  H
def f_Ref_workDefault_L42 (Γ : gm_T)  (φ : ph_T) (x0 : Nat) (x1 : Int32) (x2 : Int32) (y0 : Int32) : Option (Unit × ph_T) :=
  @ite _ (Γ x0 = .inr 12) _ (
  Option.bind (φ.2.2 x0 42) fun a33 =>
  Option.bind (gA Γ a33 0) fun N34 =>
  Option.bind (ix x1 N34) fun k35 =>
  if (φ.1 a33 k35) ≤ 0 then
    f_Ref_workDefault_L117 Γ  φ x0
  else
    if y0 = 0 then
      f_Ref_workDefault_L64 Γ  φ x0 x1 x2 y0
    else
      Option.bind (f_Ref_hasRoom Γ φ x0 x2) fun q36 =>
      if q36.1 = 0 then
        f_Ref_workDefault_L117 Γ  q36.2 x0
      else
        f_Ref_workDefault_L64 Γ  q36.2 x0 x1 x2 y0
  ) none
set_option maxRecDepth 100000 in
set_option maxHeartbeats 4000000 in
theorem p_Ref_workDefault_L42 {w : jw_T} (hw : jok w) {Γ : gm_T} {n : Nat} (hG : gd w Γ n)  {x : Bool} {φ : ph_T} {x0 : Nat} {x1 : Int32} {x2 : Int32} {y0 : Int32} {q : Unit × ph_T} (H : f_Ref_workDefault_L42 Γ  φ x0 x1 x2 y0 = some q) : J w M_Ref_workDefault 42 [some (.ref x0), some (.int x1), some (.int x2), none, none, none, none, none, none] [.int y0] (pic Γ φ) n x 0 0 (fq Γ n (.inl none) q.2) := by
  unfold f_Ref_workDefault_L42 at H
  refine J_istore_n d_Ref_workDefault_42 (Nat.le_of_ble_eq_true rfl) ?_
  refine J_aload_n d_Ref_workDefault_43 rfl ?_
  have g32 : Γ x0 = .inr 12 := by
    apply Classical.byContradiction
    intro q9
    rw [if_neg q9] at H
    cases H
  rw [if_pos g32] at H
  refine F_getR (ci := 12) (k := 42) hG (cf_Ref hw) (fl_Ref_115 hw) (by decide) (by decide) rfl d_Ref_workDefault_44 g32 ?_
  refine J_iload_n d_Ref_workDefault_47 rfl ?_
  obtain ⟨a33, ha33, H⟩ := Option.bind_eq_some_iff.mp H
  rw [j_rf ha33]
  obtain ⟨N34, hN34, H⟩ := Option.bind_eq_some_iff.mp H
  obtain ⟨k35, hk35, H⟩ := Option.bind_eq_some_iff.mp H
  refine F_iald k35 hw hG d_Ref_workDefault_48 (gA_some hN34) (ix_some hk35) ?_
  refine J_if_le (tgt := 117) d_Ref_workDefault_49 (by decide) ?_ ?_
  · intro c39
    rw [if_pos c39] at H
    refine J.drop [true, false, false, false, false, false, false, false, false] rfl ?_
    exact p_Ref_workDefault_L117 hw hG  H
  · intro c39
    rw [if_neg c39] at H
    refine J_iload_n d_Ref_workDefault_52 rfl ?_
    refine J_if_eq (tgt := 64) d_Ref_workDefault_53 (by decide) ?_ ?_
    · intro c38
      rw [if_pos c38] at H
      refine J.drop [true, true, true, true, false, false, false, false, false] rfl ?_
      exact p_Ref_workDefault_L64 hw hG  H
    · intro c38
      rw [if_neg c38] at H
      refine J_aload_n d_Ref_workDefault_56 rfl ?_
      refine J_iload_n d_Ref_workDefault_57 rfl ?_
      obtain ⟨q36, hq36, H⟩ := Option.bind_eq_some_iff.mp H
      refine J_callV (kc := 0) (ks := 0) (kc' := 0) (ks' := 0) (a := x0) (ci := 12) (as := [.int x2]) (st := []) (mf_Ref_hasRoom hw) (mv_Ref_392 hw) d_Ref_workDefault_58 ln_Ref_hasRoom (by decide) (by first | exact Nat.le_of_ble_eq_true rfl | (simp only [List.map_cons, List.map_nil, List.sum_cons, List.sum_nil, va_rf_cat]; exact Nat.le_of_ble_eq_true rfl)) rfl ((hG _).1 _ g32 (by decide)).1 ((hG _).1 _ g32 (by decide)).2 (by unfold pic; rw [g32]; rfl) (jcl_at hw rfl) rfl (p_Ref_hasRoom hw hG hq36) ?_ (fun E h' n' x' e1 => by cases e1.1)
      intro v9 h9 n9 x9 e9
      obtain ⟨e91, e92, e93⟩ := e9
      cases e91
      subst e92
      subst e93
      clear x
      rename Bool => x
      show J _ _ _ _ (_ :: _) _ _ _ _ _ _
      refine J_if_eq (tgt := 117) d_Ref_workDefault_61 (by decide) ?_ ?_
      · intro c37
        rw [if_pos c37] at H
        refine J.drop [true, false, false, false, false, false, false, false, false] rfl ?_
        exact p_Ref_workDefault_L117 hw hG  H
      · intro c37
        rw [if_neg c37] at H
        refine J.drop [true, true, true, true, false, false, false, false, false] rfl ?_
        exact p_Ref_workDefault_L64 hw hG  H
def f_Ref_workDefault (Γ : gm_T) (φ : ph_T) (this : Nat) : Option (Unit × ph_T) :=
  @ite _ (Γ this = .inr 12) _ (
  Option.bind (f_Ref_rowOf Γ φ this (1 : Int32) (φ.1 this 2) (1 : Int32)) fun q41 =>
  Option.bind (f_Ref_rowOf Γ q41.2 this (1 : Int32) (q41.2.1 this 2) (2 : Int32)) fun q42 =>
  Option.bind (q42.2.2.2 this 40) fun a43 =>
  Option.bind (gA Γ a43 0) fun N44 =>
  Option.bind (ix ((4 : Int32) * q41.1) N44) fun k45 =>
  if ((q42.2.1 a43 k45) &&& (256 : Int32)) = 0 then
    f_Ref_workDefault_L42 Γ  q42.2 this q41.1 q42.1 (0 : Int32)
  else
    f_Ref_workDefault_L42 Γ  q42.2 this q41.1 q42.1 (1 : Int32)
  ) none
set_option maxRecDepth 100000 in
set_option maxHeartbeats 4000000 in
theorem p_Ref_workDefault {w : jw_T} (hw : jok w) {Γ : gm_T} {n : Nat} (hG : gd w Γ n) {x : Bool} {φ : ph_T} {this : Nat} {q : Unit × ph_T} (H : f_Ref_workDefault Γ φ this = some q) : jc w M_Ref_workDefault [.ref this] (pic Γ φ) n x 0 0 (fq Γ n (.inl none) q.2) := by
  refine jc.of (by simp only [jent_r, jent_i, jent_l, jent_a, jent_0]; exact Nat.le_of_ble_eq_true rfl) ?_
  have hls : jents [.ref this] (jm_nL M_Ref_workDefault) = [some (.ref this), none, none, none, none, none, none, none, none] := by simp only [jents, jent_r, jent_i, jent_l, jent_a, jent_0]; rfl
  rw [hls]
  clear hls
  unfold f_Ref_workDefault at H
  refine J_aload_n d_Ref_workDefault_0 rfl ?_
  refine J_iconst (v := 1) d_Ref_workDefault_1 (by decide) ?_
  refine J_aload_n d_Ref_workDefault_2 rfl ?_
  have g40 : Γ this = .inr 12 := by
    apply Classical.byContradiction
    intro q9
    rw [if_neg q9] at H
    cases H
  rw [if_pos g40] at H
  refine F_getI (ci := 12) (k := 2) hG (cf_Ref hw) (fl_Ref_294 hw) (by decide) (by decide) rfl d_Ref_workDefault_3 g40 ?_
  refine J_iconst (v := 1) d_Ref_workDefault_6 (by decide) ?_
  obtain ⟨q41, hq41, H⟩ := Option.bind_eq_some_iff.mp H
  refine J_callV (kc := 0) (ks := 0) (kc' := 0) (ks' := 0) (a := this) (ci := 12) (as := [.int (1 : Int32), .int (φ.1 this 2), .int (1 : Int32)]) (st := []) (mf_Ref_rowOf hw) (mv_Ref_388 hw) d_Ref_workDefault_7 ln_Ref_rowOf (by decide) (by first | exact Nat.le_of_ble_eq_true rfl | (simp only [List.map_cons, List.map_nil, List.sum_cons, List.sum_nil, va_rf_cat]; exact Nat.le_of_ble_eq_true rfl)) rfl ((hG _).1 _ g40 (by decide)).1 ((hG _).1 _ g40 (by decide)).2 (by unfold pic; rw [g40]; rfl) (jcl_at hw rfl) rfl (p_Ref_rowOf hw hG hq41) ?_ (fun E h' n' x' e1 => by cases e1.1)
  intro v9 h9 n9 x9 e9
  obtain ⟨e91, e92, e93⟩ := e9
  cases e91
  subst e92
  subst e93
  clear x
  rename Bool => x
  show J _ _ _ _ (_ :: _) _ _ _ _ _ _
  refine J_istore_n d_Ref_workDefault_10 (Nat.le_of_ble_eq_true rfl) ?_
  refine J_aload_n d_Ref_workDefault_11 rfl ?_
  refine J_iconst (v := 1) d_Ref_workDefault_12 (by decide) ?_
  refine J_aload_n d_Ref_workDefault_13 rfl ?_
  refine F_getI (ci := 12) (k := 2) hG (cf_Ref hw) (fl_Ref_294 hw) (by decide) (by decide) rfl d_Ref_workDefault_14 g40 ?_
  refine J_iconst (v := 2) d_Ref_workDefault_17 (by decide) ?_
  obtain ⟨q42, hq42, H⟩ := Option.bind_eq_some_iff.mp H
  refine J_callV (kc := 0) (ks := 0) (kc' := 0) (ks' := 0) (a := this) (ci := 12) (as := [.int (1 : Int32), .int (q41.2.1 this 2), .int (2 : Int32)]) (st := []) (mf_Ref_rowOf hw) (mv_Ref_388 hw) d_Ref_workDefault_18 ln_Ref_rowOf (by decide) (by first | exact Nat.le_of_ble_eq_true rfl | (simp only [List.map_cons, List.map_nil, List.sum_cons, List.sum_nil, va_rf_cat]; exact Nat.le_of_ble_eq_true rfl)) rfl ((hG _).1 _ g40 (by decide)).1 ((hG _).1 _ g40 (by decide)).2 (by unfold pic; rw [g40]; rfl) (jcl_at hw rfl) rfl (p_Ref_rowOf hw hG hq42) ?_ (fun E h' n' x' e1 => by cases e1.1)
  intro v9 h9 n9 x9 e9
  obtain ⟨e91, e92, e93⟩ := e9
  cases e91
  subst e92
  subst e93
  clear x
  rename Bool => x
  show J _ _ _ _ (_ :: _) _ _ _ _ _ _
  refine J_istore_n d_Ref_workDefault_21 (Nat.le_of_ble_eq_true rfl) ?_
  refine J_aload_n d_Ref_workDefault_22 rfl ?_
  refine F_getR (ci := 12) (k := 40) hG (cf_Ref hw) (fl_Ref_109 hw) (by decide) (by decide) rfl d_Ref_workDefault_23 g40 ?_
  refine J_iconst (v := 4) d_Ref_workDefault_26 (by decide) ?_
  refine J_iload_n d_Ref_workDefault_27 rfl ?_
  refine J_imul d_Ref_workDefault_28 ?_
  obtain ⟨a43, ha43, H⟩ := Option.bind_eq_some_iff.mp H
  rw [j_rf ha43]
  obtain ⟨N44, hN44, H⟩ := Option.bind_eq_some_iff.mp H
  obtain ⟨k45, hk45, H⟩ := Option.bind_eq_some_iff.mp H
  refine F_iald k45 hw hG d_Ref_workDefault_29 (gA_some hN44) (ix_some hk45) ?_
  refine J_sipush (v := 256) d_Ref_workDefault_30 (by decide) ?_
  refine J_iand d_Ref_workDefault_33 ?_
  refine J_if_eq (tgt := 41) d_Ref_workDefault_34 (by decide) ?_ ?_
  · intro c46
    rw [if_pos c46] at H
    refine J_iconst (v := 0) d_Ref_workDefault_41 (by decide) ?_
    refine J.drop [true, true, true, false, false, false, false, false, false] rfl ?_
    exact p_Ref_workDefault_L42 hw hG  H
  · intro c46
    rw [if_neg c46] at H
    refine J_iconst (v := 1) d_Ref_workDefault_37 (by decide) ?_
    refine J_goto (tgt := 42) d_Ref_workDefault_38 (by decide) ?_
    refine J.drop [true, true, true, false, false, false, false, false, false] rfl ?_
    exact p_Ref_workDefault_L42 hw hG  H
