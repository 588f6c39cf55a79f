theorem ln_Ref_moveData : (parseMethodDescriptor y_Ref_moveData.desc).map (fun q => q.parameters.length) = some 1 := by decide +kernel
def f_Ref_moveData_L199 (Γ : gm_T)  (φ : ph_T) : Option (Unit × ph_T) :=
  some ((), φ)
set_option maxRecDepth 100000 in
set_option maxHeartbeats 4000000 in
theorem p_Ref_moveData_L199 {w : jw_T} (hw : jok w) {Γ : gm_T} {n : Nat} (hG : gd w Γ n)  {x : Bool} {φ : ph_T} {q : Unit × ph_T} (H : f_Ref_moveData_L199 Γ  φ  = some q) : J w M_Ref_moveData 199 [none, none, none, none, none, none] [] (pic Γ φ) n x 0 0 (fq Γ n (.inl none) q.2) := by
  unfold f_Ref_moveData_L199 at H
  have H := Option.some.inj H
  subst H
  exact J_vret (st := []) d_Ref_moveData_199 rfl ⟨rfl, rfl, rfl⟩
def f_Ref_moveData_L121 (Γ : gm_T) (Kc83 : ph_T → Nat → Int32 → Int32 → Int32 → Int32 → Option (Unit × ph_T)) (φ : ph_T) (x0 : Nat) (x2 : Int32) (x3 : Int32) (x5 : Int32) (y0 : Int32) : Option (Unit × ph_T) :=
  Kc83 φ x0 x2 x3 y0 (x5 + (-1 : Int32))
set_option maxRecDepth 100000 in
set_option maxHeartbeats 4000000 in
theorem p_Ref_moveData_L121 {w : jw_T} (hw : jok w) {Γ : gm_T} {n : Nat} (hG : gd w Γ n) {Kc83 : ph_T → Nat → Int32 → Int32 → Int32 → Int32 → Option (Unit × ph_T)} (hKc83 : ∀ {x : Bool} {φ : ph_T} {x0 : Nat} {x2 : Int32} {x3 : Int32} {x4 : Int32} {x5 : Int32} {q : Unit × ph_T}, Kc83 φ x0 x2 x3 x4 x5 = some q → J w M_Ref_moveData 83 [some (.ref x0), none, some (.int x2), some (.int x3), some (.int x4), some (.int x5)] [] (pic Γ φ) n x 0 0 (fq Γ n (.inl none) q.2)) {x : Bool} {φ : ph_T} {x0 : Nat} {x2 : Int32} {x3 : Int32} {x5 : Int32} {y0 : Int32} {q : Unit × ph_T} (H : f_Ref_moveData_L121 Γ Kc83 φ x0 x2 x3 x5 y0 = some q) : J w M_Ref_moveData 121 [some (.ref x0), none, some (.int x2), some (.int x3), none, some (.int x5)] [.int y0] (pic Γ φ) n x 0 0 (fq Γ n (.inl none) q.2) := by
  unfold f_Ref_moveData_L121 at H
  refine J_istore d_Ref_moveData_121 (Nat.le_of_ble_eq_true rfl) ?_
  refine J.ls (ls' := [some (.ref x0), none, some (.int x2), some (.int x3), some (.int y0), some (.int x5)]) rfl ?_
  refine J_iinc (v := x5 + -1) d_Ref_moveData_123 rfl (by rw [show Int32.ofInt (-1) = (-1 : Int32) from by decide]) ?_
  refine J.ls (ls' := [some (.ref x0), none, some (.int x2), some (.int x3), some (.int y0), some (.int (x5 + (-1 : Int32)))]) rfl ?_
  refine J_goto (tgt := 83) d_Ref_moveData_126 (by decide) ?_
  refine J.drop [true, false, true, true, true, true] rfl ?_
  exact hKc83 H
def f_Ref_moveData_L119 (Γ : gm_T) (Kc83 : ph_T → Nat → Int32 → Int32 → Int32 → Int32 → Option (Unit × ph_T)) (φ : ph_T) (x0 : Nat) (x2 : Int32) (x3 : Int32) (x4 : Int32) (x5 : Int32) : Option (Unit × ph_T) :=
  f_Ref_moveData_L121 Γ Kc83 φ x0 x2 x3 x5 x4
set_option maxRecDepth 100000 in
set_option maxHeartbeats 4000000 in
theorem p_Ref_moveData_L119 {w : jw_T} (hw : jok w) {Γ : gm_T} {n : Nat} (hG : gd w Γ n) {Kc83 : ph_T → Nat → Int32 → Int32 → Int32 → Int32 → Option (Unit × ph_T)} (hKc83 : ∀ {x : Bool} {φ : ph_T} {x0 : Nat} {x2 : Int32} {x3 : Int32} {x4 : Int32} {x5 : Int32} {q : Unit × ph_T}, Kc83 φ x0 x2 x3 x4 x5 = some q → J w M_Ref_moveData 83 [some (.ref x0), none, some (.int x2), some (.int x3), some (.int x4), some (.int x5)] [] (pic Γ φ) n x 0 0 (fq Γ n (.inl none) q.2)) {x : Bool} {φ : ph_T} {x0 : Nat} {x2 : Int32} {x3 : Int32} {x4 : Int32} {x5 : Int32} {q : Unit × ph_T} (H : f_Ref_moveData_L119 Γ Kc83 φ x0 x2 x3 x4 x5 = some q) : J w M_Ref_moveData 119 [some (.ref x0), none, some (.int x2), some (.int x3), some (.int x4), some (.int x5)] [] (pic Γ φ) n x 0 0 (fq Γ n (.inl none) q.2) := by
  unfold f_Ref_moveData_L119 at H
  refine J_iload d_Ref_moveData_119 rfl ?_
  refine J.drop [true, false, true, true, false, true] rfl ?_
  exact p_Ref_moveData_L121 hw hG hKc83 H
def f_Ref_moveData_L83 (Γ : gm_T)  : Nat → ph_T → Nat → Int32 → Int32 → Int32 → Int32 → Option (Unit × ph_T)
  | 0, _, _, _, _, _, _ => none
  | fu + 1, φ, x0, x2, x3, x4, x5 =>
    if x5 < 0 then
      @ite _ (Γ x0 = .inr 12) _ (
      Option.bind (φ.2.2 x0 45) fun a2 =>
      Option.bind (gA Γ a2 0) fun N3 =>
      Option.bind (ix x3 N3) fun k4 =>
      Option.bind (f_Ref_rowOf Γ φ x0 (1 : Int32) (φ.1 a2 k4) (1 : Int32)) fun q5 =>
      if x4 = x3 then
        Option.bind (f_Ref_hasRoom Γ q5.2 x0 q5.1) fun q6 =>
        if q6.1 = 0 then
          f_Ref_moveData_L199 Γ  q6.2 
        else
          Option.bind (q6.2.2.2 x0 39) fun a7 =>
          Option.bind (gA Γ a7 1) fun N8 =>
          Option.bind (ix ((4 : Int32) * x2) N8) fun k9 =>
          Option.bind (q6.2.2.2 x0 40) fun a10 =>
          Option.bind (gA Γ a10 0) fun N11 =>
          Option.bind (ix ((4 : Int32) * x2) N11) fun k12 =>
          Option.bind (f_Ref_put Γ q6.2 x0 q5.1 (q6.2.2.1 a7 k9) (q6.2.1 a10 k12) (q6.2.1 x0 6)) fun q13 =>
          Option.bind (f_Ref_take Γ q13.2 x0 x2) fun q14 =>
          Option.bind (q14.2.2.2 x0 46) fun a15 =>
          Option.bind (gA Γ a15 0) fun N16 =>
          Option.bind (ix x3 N16) fun k17 =>
          Option.bind (gA Γ a15 0) fun N18 =>
          Option.bind (ix x3 N18) fun k19 =>
          f_Ref_moveData_L199 Γ  (uI q14.2 a15 k19 ((q14.2.1 a15 k17) - (1 : Int32))) 
      else
        f_Ref_moveData_L199 Γ  q5.2 
      ) none
    else
      @ite _ (Γ x0 = .inr 12) _ (
      Option.bind (φ.2.2 x0 45) fun a23 =>
      Option.bind (gA Γ a23 0) fun N24 =>
      Option.bind (ix x5 N24) fun k25 =>
      Option.bind (gA Γ a23 0) fun N26 =>
      Option.bind (ix x3 N26) fun k27 =>
      if (φ.1 a23 k25) = (φ.1 a23 k27) then
        Option.bind (φ.2.2 x0 46) fun a28 =>
        Option.bind (gA Γ a28 0) fun N29 =>
        Option.bind (ix x5 N29) fun k30 =>
        if (φ.1 a28 k30) ≤ 0 then
          f_Ref_moveData_L119 Γ (f_Ref_moveData_L83 Γ  fu) φ x0 x2 x3 x4 x5
        else
          f_Ref_moveData_L121 Γ (f_Ref_moveData_L83 Γ  fu) φ x0 x2 x3 x5 x5
      else
        f_Ref_moveData_L119 Γ (f_Ref_moveData_L83 Γ  fu) φ x0 x2 x3 x4 x5
      ) none
set_option maxRecDepth 100000 in
set_option maxHeartbeats 4000000 in
theorem p_Ref_moveData_L83 {w : jw_T} (hw : jok w) {Γ : gm_T} {n : Nat} (hG : gd w Γ n)  : ∀ (fu : Nat) {x : Bool} {φ : ph_T} {x0 : Nat} {x2 : Int32} {x3 : Int32} {x4 : Int32} {x5 : Int32} {q : Unit × ph_T}, f_Ref_moveData_L83 Γ  fu φ x0 x2 x3 x4 x5 = some q → J w M_Ref_moveData 83 [some (.ref x0), none, some (.int x2), some (.int x3), some (.int x4), some (.int x5)] [] (pic Γ φ) n x 0 0 (fq Γ n (.inl none) q.2) := by
  intro fu
  induction fu with
  | zero =>
    intro x φ x0 x2 x3 x4 x5 q H
    cases H
  | succ fu ih =>
    intro x φ x0 x2 x3 x4 x5 q H
    unfold f_Ref_moveData_L83 at H
    refine J_iload d_Ref_moveData_83 rfl ?_
    refine J_if_lt (tgt := 129) d_Ref_moveData_85 (by decide) ?_ ?_
    · intro c33
      rw [if_pos c33] at H
      refine J_aload_n d_Ref_moveData_129 rfl ?_
      refine J_iconst (v := 1) d_Ref_moveData_130 (by decide) ?_
      refine J_aload_n d_Ref_moveData_131 rfl ?_
      have g1 : Γ x0 = .inr 12 := by
        apply Classical.byContradiction
        intro q9
        rw [if_neg q9] at H
        cases H
      rw [if_pos g1] at H
      refine F_getR (ci := 12) (k := 45) hG (cf_Ref hw) (fl_Ref_124 hw) (by decide) (by decide) rfl d_Ref_moveData_132 g1 ?_
      refine J_iload_n d_Ref_moveData_135 rfl ?_
      obtain ⟨a2, ha2, H⟩ := Option.bind_eq_some_iff.mp H
      rw [j_rf ha2]
      obtain ⟨N3, hN3, H⟩ := Option.bind_eq_some_iff.mp H
      obtain ⟨k4, hk4, H⟩ := Option.bind_eq_some_iff.mp H
      refine F_iald k4 hw hG d_Ref_moveData_136 (gA_some hN3) (ix_some hk4) ?_
      refine J_iconst (v := 1) d_Ref_moveData_137 (by decide) ?_
      obtain ⟨q5, hq5, H⟩ := Option.bind_eq_some_iff.mp H
      refine J_callV (kc := 0) (ks := 0) (kc' := 0) (ks' := 0) (a := x0) (ci := 12) (as := [.int (1 : Int32), .int (φ.1 a2 k4), .int (1 : Int32)]) (st := []) (mf_Ref_rowOf hw) (mv_Ref_388 hw) d_Ref_moveData_138 ln_Ref_rowOf (by decide) (by first | exact Nat.le_of_ble_eq_true rfl | (simp only [List.map_cons, List.map_nil, List.sum_cons, List.sum_nil, va_rf_cat]; exact Nat.le_of_ble_eq_true rfl)) rfl ((hG _).1 _ g1 (by decide)).1 ((hG _).1 _ g1 (by decide)).2 (by unfold pic; rw [g1]; rfl) (jcl_at hw rfl) rfl (p_Ref_rowOf hw hG hq5) ?_ (fun E h' n' x' e1 => by cases e1.1)
      intro v9 h9 n9 x9 e9
      obtain ⟨e91, e92, e93⟩ := e9
      cases e91
      subst e92
      subst e93
      clear x
      rename Bool => x
      show J _ _ _ _ (_ :: _) _ _ _ _ _ _
      refine J_istore d_Ref_moveData_141 (Nat.le_of_ble_eq_true rfl) ?_
      refine J.ls (ls' := [some (.ref x0), none, some (.int x2), some (.int x3), some (.int x4), some (.int q5.1)]) rfl ?_
      refine J_iload d_Ref_moveData_143 rfl ?_
      refine J_iload_n d_Ref_moveData_145 rfl ?_
      refine J_icmp_ne (tgt := 199) d_Ref_moveData_146 (by decide) ?_ ?_
      · intro c21
        rw [if_neg c21] at H
        refine J.drop [false, false, false, false, false, false] rfl ?_
        exact p_Ref_moveData_L199 hw hG  H
      · intro c21
        rw [if_pos c21] at H
        refine J_aload_n d_Ref_moveData_149 rfl ?_
        refine J_iload d_Ref_moveData_150 rfl ?_
        obtain ⟨q6, hq6, H⟩ := Option.bind_eq_some_iff.mp H
        refine J_callV (kc := 0) (ks := 0) (kc' := 0) (ks' := 0) (a := x0) (ci := 12) (as := [.int q5.1]) (st := []) (mf_Ref_hasRoom hw) (mv_Ref_392 hw) d_Ref_moveData_152 ln_Ref_hasRoom (by decide) (by first | exact Nat.le_of_ble_eq_true rfl | (simp only [List.map_cons, List.map_nil, List.sum_cons, List.sum_nil, va_rf_cat]; exact Nat.le_of_ble_eq_true rfl)) rfl ((hG _).1 _ g1 (by decide)).1 ((hG _).1 _ g1 (by decide)).2 (by unfold pic; rw [g1]; rfl) (jcl_at hw rfl) rfl (p_Ref_hasRoom hw hG hq6) ?_ (fun E h' n' x' e1 => by cases e1.1)
        intro v9 h9 n9 x9 e9
        obtain ⟨e91, e92, e93⟩ := e9
        cases e91
        subst e92
        subst e93
        clear x
        rename Bool => x
        show J _ _ _ _ (_ :: _) _ _ _ _ _ _
        refine J_if_eq (tgt := 199) d_Ref_moveData_155 (by decide) ?_ ?_
        · intro c20
          rw [if_pos c20] at H
          refine J.drop [false, false, false, false, false, false] rfl ?_
          exact p_Ref_moveData_L199 hw hG  H
        · intro c20
          rw [if_neg c20] at H
          refine J_aload_n d_Ref_moveData_158 rfl ?_
          refine J_iload d_Ref_moveData_159 rfl ?_
          refine J_aload_n d_Ref_moveData_161 rfl ?_
          refine F_getR (ci := 12) (k := 39) hG (cf_Ref hw) (fl_Ref_106 hw) (by decide) (by decide) rfl d_Ref_moveData_162 g1 ?_
          refine J_iconst (v := 4) d_Ref_moveData_165 (by decide) ?_
          refine J_iload_n d_Ref_moveData_166 rfl ?_
          refine J_imul d_Ref_moveData_167 ?_
          obtain ⟨a7, ha7, H⟩ := Option.bind_eq_some_iff.mp H
          rw [j_rf ha7]
          obtain ⟨N8, hN8, H⟩ := Option.bind_eq_some_iff.mp H
          obtain ⟨k9, hk9, H⟩ := Option.bind_eq_some_iff.mp H
          refine F_lald k9 hw hG d_Ref_moveData_168 (gA_some hN8) (ix_some hk9) ?_
          refine J_aload_n d_Ref_moveData_169 rfl ?_
          refine F_getR (ci := 12) (k := 40) hG (cf_Ref hw) (fl_Ref_109 hw) (by decide) (by decide) rfl d_Ref_moveData_170 g1 ?_
          refine J_iconst (v := 4) d_Ref_moveData_173 (by decide) ?_
          refine J_iload_n d_Ref_moveData_174 rfl ?_
          refine J_imul d_Ref_moveData_175 ?_
          obtain ⟨a10, ha10, H⟩ := Option.bind_eq_some_iff.mp H
          rw [j_rf ha10]
          obtain ⟨N11, hN11, H⟩ := Option.bind_eq_some_iff.mp H
          obtain ⟨k12, hk12, H⟩ := Option.bind_eq_some_iff.mp H
          refine F_iald k12 hw hG d_Ref_moveData_176 (gA_some hN11) (ix_some hk12) ?_
          refine J_aload_n d_Ref_moveData_177 rfl ?_
          refine F_getI (ci := 12) (k := 6) hG (cf_Ref hw) (fl_Ref_348 hw) (by decide) (by decide) rfl d_Ref_moveData_178 g1 ?_
          obtain ⟨q13, hq13, H⟩ := Option.bind_eq_some_iff.mp H
          refine J_callV (kc := 0) (ks := 0) (kc' := 0) (ks' := 0) (a := x0) (ci := 12) (as := [.int q5.1, .long (q6.2.2.1 a7 k9), .int (q6.2.1 a10 k12), .int (q6.2.1 x0 6)]) (st := []) (mf_Ref_put hw) (mv_Ref_469 hw) d_Ref_moveData_181 ln_Ref_put (by decide) (by first | exact Nat.le_of_ble_eq_true rfl | (simp only [List.map_cons, List.map_nil, List.sum_cons, List.sum_nil, va_rf_cat]; exact Nat.le_of_ble_eq_true rfl)) rfl ((hG _).1 _ g1 (by decide)).1 ((hG _).1 _ g1 (by decide)).2 (by unfold pic; rw [g1]; rfl) (jcl_at hw rfl) rfl (p_Ref_put hw hG hq13) ?_ (fun E h' n' x' e1 => by cases e1.1)
          intro v9 h9 n9 x9 e9
          obtain ⟨e91, e92, e93⟩ := e9
          cases e91
          subst e92
          subst e93
          clear x
          rename Bool => x
          show J _ _ _ _ [] _ _ _ _ _ _
          refine J_aload_n d_Ref_moveData_184 rfl ?_
          refine J_iload_n d_Ref_moveData_185 rfl ?_
          obtain ⟨q14, hq14, H⟩ := Option.bind_eq_some_iff.mp H
          refine J_callV (kc := 0) (ks := 0) (kc' := 0) (ks' := 0) (a := x0) (ci := 12) (as := [.int x2]) (st := []) (mf_Ref_take hw) (mv_Ref_473 hw) d_Ref_moveData_186 ln_Ref_take (by decide) (by first | exact Nat.le_of_ble_eq_true rfl | (simp only [List.map_cons, List.map_nil, List.sum_cons, List.sum_nil, va_rf_cat]; exact Nat.le_of_ble_eq_true rfl)) rfl ((hG _).1 _ g1 (by decide)).1 ((hG _).1 _ g1 (by decide)).2 (by unfold pic; rw [g1]; rfl) (jcl_at hw rfl) rfl (p_Ref_take hw hG hq14) ?_ (fun E h' n' x' e1 => by cases e1.1)
          intro v9 h9 n9 x9 e9
          obtain ⟨e91, e92, e93⟩ := e9
          cases e91
          subst e92
          subst e93
          clear x
          rename Bool => x
          show J _ _ _ _ [] _ _ _ _ _ _
          refine J_aload_n d_Ref_moveData_189 rfl ?_
          refine F_getR (ci := 12) (k := 46) hG (cf_Ref hw) (fl_Ref_127 hw) (by decide) (by decide) rfl d_Ref_moveData_190 g1 ?_
          refine J_iload_n d_Ref_moveData_193 rfl ?_
          refine J_dup2 d_Ref_moveData_194 rfl (va_rf_cat _) ?_
          obtain ⟨a15, ha15, H⟩ := Option.bind_eq_some_iff.mp H
          rw [j_rf ha15]
          obtain ⟨N16, hN16, H⟩ := Option.bind_eq_some_iff.mp H
          obtain ⟨k17, hk17, H⟩ := Option.bind_eq_some_iff.mp H
          refine F_iald k17 hw hG d_Ref_moveData_195 (gA_some hN16) (ix_some hk17) ?_
          refine J_iconst (v := 1) d_Ref_moveData_196 (by decide) ?_
          refine J_isub d_Ref_moveData_197 ?_
          obtain ⟨N18, hN18, H⟩ := Option.bind_eq_some_iff.mp H
          obtain ⟨k19, hk19, H⟩ := Option.bind_eq_some_iff.mp H
          refine F_iast k19 hw hG d_Ref_moveData_198 (gA_some hN18) (ix_some hk19) ?_
          refine J.drop [false, false, false, false, false, false] rfl ?_
          exact p_Ref_moveData_L199 hw hG  H
    · intro c33
      rw [if_neg c33] at H
      refine J_aload_n d_Ref_moveData_88 rfl ?_
      have g22 : Γ x0 = .inr 12 := by
        apply Classical.byContradiction
        intro q9
        rw [if_neg q9] at H
        cases H
      rw [if_pos g22] at H
      refine F_getR (ci := 12) (k := 45) hG (cf_Ref hw) (fl_Ref_124 hw) (by decide) (by decide) rfl d_Ref_moveData_89 g22 ?_
      refine J_iload d_Ref_moveData_92 rfl ?_
      obtain ⟨a23, ha23, H⟩ := Option.bind_eq_some_iff.mp H
      rw [j_rf ha23]
      obtain ⟨N24, hN24, H⟩ := Option.bind_eq_some_iff.mp H
      obtain ⟨k25, hk25, H⟩ := Option.bind_eq_some_iff.mp H
      refine F_iald k25 hw hG d_Ref_moveData_94 (gA_some hN24) (ix_some hk25) ?_
      refine J_aload_n d_Ref_moveData_95 rfl ?_
      refine F_getR (ci := 12) (k := 45) hG (cf_Ref hw) (fl_Ref_124 hw) (by decide) (by decide) rfl d_Ref_moveData_96 g22 ?_
      refine J_iload_n d_Ref_moveData_99 rfl ?_
      try rw [j_rf ha23]
      obtain ⟨N26, hN26, H⟩ := Option.bind_eq_some_iff.mp H
      obtain ⟨k27, hk27, H⟩ := Option.bind_eq_some_iff.mp H
      refine F_iald k27 hw hG d_Ref_moveData_100 (gA_some hN26) (ix_some hk27) ?_
      refine J_icmp_ne (tgt := 119) d_Ref_moveData_101 (by decide) ?_ ?_
      · intro c32
        rw [if_neg c32] at H
        refine J.drop [true, false, true, true, true, true] rfl ?_
        exact p_Ref_moveData_L119 hw hG ih H
      · intro c32
        rw [if_pos c32] at H
        refine J_aload_n d_Ref_moveData_104 rfl ?_
        refine F_getR (ci := 12) (k := 46) hG (cf_Ref hw) (fl_Ref_127 hw) (by decide) (by decide) rfl d_Ref_moveData_105 g22 ?_
        refine J_iload d_Ref_moveData_108 rfl ?_
        obtain ⟨a28, ha28, H⟩ := Option.bind_eq_some_iff.mp H
        rw [j_rf ha28]
        obtain ⟨N29, hN29, H⟩ := Option.bind_eq_some_iff.mp H
        obtain ⟨k30, hk30, H⟩ := Option.bind_eq_some_iff.mp H
        refine F_iald k30 hw hG d_Ref_moveData_110 (gA_some hN29) (ix_some hk30) ?_
        refine J_if_le (tgt := 119) d_Ref_moveData_111 (by decide) ?_ ?_
        · intro c31
          rw [if_pos c31] at H
          refine J.drop [true, false, true, true, true, true] rfl ?_
          exact p_Ref_moveData_L119 hw hG ih H
        · intro c31
          rw [if_neg c31] at H
          refine J_iload d_Ref_moveData_114 rfl ?_
          refine J_goto (tgt := 121) d_Ref_moveData_116 (by decide) ?_
          refine J.drop [true, false, true, true, false, true] rfl ?_
          exact p_Ref_moveData_L121 hw hG ih H
def f_Ref_moveData_L71 (Γ : gm_T)  (φ : ph_T) : Option (Unit × ph_T) :=
  some ((), φ)
set_option maxRecDepth 100000 in
set_option maxHeartbeats 4000000 in
theorem p_Ref_moveData_L71 {w : jw_T} (hw : jok w) {Γ : gm_T} {n : Nat} (hG : gd w Γ n)  {x : Bool} {φ : ph_T} {q : Unit × ph_T} (H : f_Ref_moveData_L71 Γ  φ  = some q) : J w M_Ref_moveData 71 [none, none, none, none, none, none] [] (pic Γ φ) n x 0 0 (fq Γ n (.inl none) q.2) := by
  unfold f_Ref_moveData_L71 at H
  have H := Option.some.inj H
  subst H
  exact J_vret (st := []) d_Ref_moveData_71 rfl ⟨rfl, rfl, rfl⟩
def f_Ref_moveData_L50 (Γ : gm_T) (Kc18 : ph_T → Nat → Int32 → Int32 → Int32 → Int32 → Option (Unit × ph_T)) (φ : ph_T) (x0 : Nat) (x1 : Int32) (x2 : Int32) (x4 : Int32) (y0 : Int32) : Option (Unit × ph_T) :=
  Kc18 φ x0 x1 x2 y0 (x4 + (-1 : Int32))
set_option maxRecDepth 100000 in
set_option maxHeartbeats 4000000 in
theorem p_Ref_moveData_L50 {w : jw_T} (hw : jok w) {Γ : gm_T} {n : Nat} (hG : gd w Γ n) {Kc18 : ph_T → Nat → Int32 → Int32 → Int32 → Int32 → Option (Unit × ph_T)} (hKc18 : ∀ {x : Bool} {φ : ph_T} {x0 : Nat} {x1 : Int32} {x2 : Int32} {x3 : Int32} {x4 : Int32} {q : Unit × ph_T}, Kc18 φ x0 x1 x2 x3 x4 = some q → J w M_Ref_moveData 18 [some (.ref x0), some (.int x1), some (.int x2), some (.int x3), some (.int x4), none] [] (pic Γ φ) n x 0 0 (fq Γ n (.inl none) q.2)) {x : Bool} {φ : ph_T} {x0 : Nat} {x1 : Int32} {x2 : Int32} {x4 : Int32} {y0 : Int32} {q : Unit × ph_T} (H : f_Ref_moveData_L50 Γ Kc18 φ x0 x1 x2 x4 y0 = some q) : J w M_Ref_moveData 50 [some (.ref x0), some (.int x1), some (.int x2), none, some (.int x4), none] [.int y0] (pic Γ φ) n x 0 0 (fq Γ n (.inl none) q.2) := by
  unfold f_Ref_moveData_L50 at H
  refine J_istore_n d_Ref_moveData_50 (Nat.le_of_ble_eq_true rfl) ?_
  refine J.ls (ls' := [some (.ref x0), some (.int x1), some (.int x2), some (.int y0), some (.int x4), none]) rfl ?_
  refine J_iinc (v := x4 + -1) d_Ref_moveData_51 rfl (by rw [show Int32.ofInt (-1) = (-1 : Int32) from by decide]) ?_
  refine J.ls (ls' := [some (.ref x0), some (.int x1), some (.int x2), some (.int y0), some (.int (x4 + (-1 : Int32))), none]) rfl ?_
  refine J_goto (tgt := 18) d_Ref_moveData_54 (by decide) ?_
  refine J.drop [true, true, true, true, true, false] rfl ?_
  exact hKc18 H
def f_Ref_moveData_L49 (Γ : gm_T) (Kc18 : ph_T → Nat → Int32 → Int32 → Int32 → Int32 → Option (Unit × ph_T)) (φ : ph_T) (x0 : Nat) (x1 : Int32) (x2 : Int32) (x3 : Int32) (x4 : Int32) : Option (Unit × ph_T) :=
  f_Ref_moveData_L50 Γ Kc18 φ x0 x1 x2 x4 x3
set_option maxRecDepth 100000 in
set_option maxHeartbeats 4000000 in
theorem p_Ref_moveData_L49 {w : jw_T} (hw : jok w) {Γ : gm_T} {n : Nat} (hG : gd w Γ n) {Kc18 : ph_T → Nat → Int32 → Int32 → Int32 → Int32 → Option (Unit × ph_T)} (hKc18 : ∀ {x : Bool} {φ : ph_T} {x0 : Nat} {x1 : Int32} {x2 : Int32} {x3 : Int32} {x4 : Int32} {q : Unit × ph_T}, Kc18 φ x0 x1 x2 x3 x4 = some q → J w M_Ref_moveData 18 [some (.ref x0), some (.int x1), some (.int x2), some (.int x3), some (.int x4), none] [] (pic Γ φ) n x 0 0 (fq Γ n (.inl none) q.2)) {x : Bool} {φ : ph_T} {x0 : Nat} {x1 : Int32} {x2 : Int32} {x3 : Int32} {x4 : Int32} {q : Unit × ph_T} (H : f_Ref_moveData_L49 Γ Kc18 φ x0 x1 x2 x3 x4 = some q) : J w M_Ref_moveData 49 [some (.ref x0), some (.int x1), some (.int x2), some (.int x3), some (.int x4), none] [] (pic Γ φ) n x 0 0 (fq Γ n (.inl none) q.2) := by
  unfold f_Ref_moveData_L49 at H
  refine J_iload_n d_Ref_moveData_49 rfl ?_
  refine J.drop [true, true, true, false, true, false] rfl ?_
  exact p_Ref_moveData_L50 hw hG hKc18 H
def f_Ref_moveData_L18 (Γ : gm_T)  : Nat → ph_T → Nat → Int32 → Int32 → Int32 → Int32 → Option (Unit × ph_T)
  | 0, _, _, _, _, _, _ => none
  | fu + 1, φ, x0, x1, x2, x3, x4 =>
    if x4 < 0 then
      @ite _ (Γ x0 = .inr 12) _ (
      Option.bind (φ.2.2 x0 42) fun a35 =>
      Option.bind (gA Γ a35 0) fun N36 =>
      Option.bind (ix x2 N36) fun k37 =>
      if (φ.1 a35 k37) = 0 then
        f_Ref_moveData_L71 Γ  φ 
      else
        if x3 = (-1 : Int32) then
          f_Ref_moveData_L71 Γ  φ 
        else
          f_Ref_moveData_L83 Γ  jF φ x0 x2 x3 (-1 : Int32) ((φ.1 x0 47) - (1 : Int32))
      ) none
    else
      @ite _ (Γ x0 = .inr 12) _ (
      Option.bind (φ.2.2 x0 43) fun a41 =>
      Option.bind (gA Γ a41 0) fun N42 =>
      Option.bind (ix x4 N42) fun k43 =>
      if (φ.1 a41 k43) = x1 then
        Option.bind (φ.2.2 x0 46) fun a44 =>
        Option.bind (gA Γ a44 0) fun N45 =>
        Option.bind (ix x4 N45) fun k46 =>
        if (φ.1 a44 k46) ≤ 0 then
          f_Ref_moveData_L49 Γ (f_Ref_moveData_L18 Γ  fu) φ x0 x1 x2 x3 x4
        else
          f_Ref_moveData_L50 Γ (f_Ref_moveData_L18 Γ  fu) φ x0 x1 x2 x4 x4
      else
        f_Ref_moveData_L49 Γ (f_Ref_moveData_L18 Γ  fu) φ x0 x1 x2 x3 x4
      ) none
set_option maxRecDepth 100000 in
set_option maxHeartbeats 4000000 in
theorem p_Ref_moveData_L18 {w : jw_T} (hw : jok w) {Γ : gm_T} {n : Nat} (hG : gd w Γ n)  : ∀ (fu : Nat) {x : Bool} {φ : ph_T} {x0 : Nat} {x1 : Int32} {x2 : Int32} {x3 : Int32} {x4 : Int32} {q : Unit × ph_T}, f_Ref_moveData_L18 Γ  fu φ x0 x1 x2 x3 x4 = some q → J w M_Ref_moveData 18 [some (.ref x0), some (.int x1), some (.int x2), some (.int x3), some (.int x4), none] [] (pic Γ φ) n x 0 0 (fq Γ n (.inl none) q.2) := by
  intro fu
  induction fu with
  | zero =>
    intro x φ x0 x1 x2 x3 x4 q H
    cases H
  | succ fu ih =>
    intro x φ x0 x1 x2 x3 x4 q H
    unfold f_Ref_moveData_L18 at H
    refine J_iload d_Ref_moveData_18 rfl ?_
    refine J_if_lt (tgt := 57) d_Ref_moveData_20 (by decide) ?_ ?_
    · intro c49
      rw [if_pos c49] at H
      refine J_aload_n d_Ref_moveData_57 rfl ?_
      have g34 : Γ x0 = .inr 12 := by
        apply Classical.byContradiction
        intro q9
        rw [if_neg q9] at H
        cases H
      rw [if_pos g34] at H
      refine F_getR (ci := 12) (k := 42) hG (cf_Ref hw) (fl_Ref_115 hw) (by decide) (by decide) rfl d_Ref_moveData_58 g34 ?_
      refine J_iload_n d_Ref_moveData_61 rfl ?_
      obtain ⟨a35, ha35, H⟩ := Option.bind_eq_some_iff.mp H
      rw [j_rf ha35]
      obtain ⟨N36, hN36, H⟩ := Option.bind_eq_some_iff.mp H
      obtain ⟨k37, hk37, H⟩ := Option.bind_eq_some_iff.mp H
      refine F_iald k37 hw hG d_Ref_moveData_62 (gA_some hN36) (ix_some hk37) ?_
      refine J_if_eq (tgt := 71) d_Ref_moveData_63 (by decide) ?_ ?_
      · intro c39
        rw [if_pos c39] at H
        refine J.drop [false, false, false, false, false, false] rfl ?_
        exact p_Ref_moveData_L71 hw hG  H
      · intro c39
        rw [if_neg c39] at H
        refine J_iload_n d_Ref_moveData_66 rfl ?_
        refine J_iconst (v := -1) d_Ref_moveData_67 (by decide) ?_
        refine J_icmp_ne (tgt := 72) d_Ref_moveData_68 (by decide) ?_ ?_
        · intro c38
          rw [if_neg c38] at H
          refine J_iconst (v := -1) d_Ref_moveData_72 (by decide) ?_
          refine J_istore d_Ref_moveData_73 (Nat.le_of_ble_eq_true rfl) ?_
          refine J.ls (ls' := [some (.ref x0), some (.int x1), some (.int x2), some (.int x3), some (.int (-1 : Int32)), none]) rfl ?_
          refine J_aload_n d_Ref_moveData_75 rfl ?_
          refine F_getI (ci := 12) (k := 47) hG (cf_Ref hw) (fl_Ref_526 hw) (by decide) (by decide) rfl d_Ref_moveData_76 g34 ?_
          refine J_iconst (v := 1) d_Ref_moveData_79 (by decide) ?_
          refine J_isub d_Ref_moveData_80 ?_
          refine J_istore d_Ref_moveData_81 (Nat.le_of_ble_eq_true rfl) ?_
          refine J.ls (ls' := [some (.ref x0), some (.int x1), some (.int x2), some (.int x3), some (.int (-1 : Int32)), some (.int ((φ.1 x0 47) - (1 : Int32)))]) rfl ?_
          refine J.drop [true, false, true, true, true, true] rfl ?_
          exact p_Ref_moveData_L83 hw hG  _ H
        · intro c38
          rw [if_pos c38] at H
          refine J.drop [false, false, false, false, false, false] rfl ?_
          exact p_Ref_moveData_L71 hw hG  H
    · intro c49
      rw [if_neg c49] at H
      refine J_aload_n d_Ref_moveData_23 rfl ?_
      have g40 : Γ x0 = .inr 12 := by
        apply Classical.byContradiction
        intro q9
        rw [if_neg q9] at H
        cases H
      rw [if_pos g40] at H
      refine F_getR (ci := 12) (k := 43) hG (cf_Ref hw) (fl_Ref_118 hw) (by decide) (by decide) rfl d_Ref_moveData_24 g40 ?_
      refine J_iload d_Ref_moveData_27 rfl ?_
      obtain ⟨a41, ha41, H⟩ := Option.bind_eq_some_iff.mp H
      rw [j_rf ha41]
      obtain ⟨N42, hN42, H⟩ := Option.bind_eq_some_iff.mp H
      obtain ⟨k43, hk43, H⟩ := Option.bind_eq_some_iff.mp H
      refine F_iald k43 hw hG d_Ref_moveData_29 (gA_some hN42) (ix_some hk43) ?_
      refine J_iload_n d_Ref_moveData_30 rfl ?_
      refine J_icmp_ne (tgt := 49) d_Ref_moveData_31 (by decide) ?_ ?_
      · intro c48
        rw [if_neg c48] at H
        refine J.drop [true, true, true, true, true, false] rfl ?_
        exact p_Ref_moveData_L49 hw hG ih H
      · intro c48
        rw [if_pos c48] at H
        refine J_aload_n d_Ref_moveData_34 rfl ?_
        refine F_getR (ci := 12) (k := 46) hG (cf_Ref hw) (fl_Ref_127 hw) (by decide) (by decide) rfl d_Ref_moveData_35 g40 ?_
        refine J_iload d_Ref_moveData_38 rfl ?_
        obtain ⟨a44, ha44, H⟩ := Option.bind_eq_some_iff.mp H
        rw [j_rf ha44]
        obtain ⟨N45, hN45, H⟩ := Option.bind_eq_some_iff.mp H
        obtain ⟨k46, hk46, H⟩ := Option.bind_eq_some_iff.mp H
        refine F_iald k46 hw hG d_Ref_moveData_40 (gA_some hN45) (ix_some hk46) ?_
        refine J_if_le (tgt := 49) d_Ref_moveData_41 (by decide) ?_ ?_
        · intro c47
          rw [if_pos c47] at H
          refine J.drop [true, true, true, true, true, false] rfl ?_
          exact p_Ref_moveData_L49 hw hG ih H
        · intro c47
          rw [if_neg c47] at H
          refine J_iload d_Ref_moveData_44 rfl ?_
          refine J_goto (tgt := 50) d_Ref_moveData_46 (by decide) ?_
          refine J.drop [true, true, true, false, true, false] rfl ?_
          exact p_Ref_moveData_L50 hw hG ih H
def f_Ref_moveData (Γ : gm_T) (φ : ph_T) (this : Nat) (p0 : Int32) : Option (Unit × ph_T) :=
  @ite _ (Γ this = .inr 12) _ (
  Option.bind (f_Ref_rowOf Γ φ this (0 : Int32) p0 (1 : Int32)) fun q51 =>
  f_Ref_moveData_L18 Γ  jF q51.2 this p0 q51.1 (-1 : Int32) ((q51.2.1 this 47) - (1 : Int32))
  ) none
set_option maxRecDepth 100000 in
set_option maxHeartbeats 4000000 in
theorem p_Ref_moveData {w : jw_T} (hw : jok w) {Γ : gm_T} {n : Nat} (hG : gd w Γ n) {x : Bool} {φ : ph_T} {this : Nat} {p0 : Int32} {q : Unit × ph_T} (H : f_Ref_moveData Γ φ this p0 = some q) : jc w M_Ref_moveData [.ref this, .int p0] (pic Γ φ) n x 0 0 (fq Γ n (.inl none) q.2) := by
  refine jc.of (by simp only [jent_r, jent_i, jent_l, jent_a, jent_0]; exact Nat.le_of_ble_eq_true rfl) ?_
  have hls : jents [.ref this, .int p0] (jm_nL M_Ref_moveData) = [some (.ref this), some (.int p0), none, none, none, none] := by simp only [jents, jent_r, jent_i, jent_l, jent_a, jent_0]; rfl
  rw [hls]
  clear hls
  unfold f_Ref_moveData at H
  refine J_aload_n d_Ref_moveData_0 rfl ?_
  refine J_iconst (v := 0) d_Ref_moveData_1 (by decide) ?_
  refine J_iload_n d_Ref_moveData_2 rfl ?_
  refine J_iconst (v := 1) d_Ref_moveData_3 (by decide) ?_
  have g50 : Γ this = .inr 12 := by
    apply Classical.byContradiction
    intro q9
    rw [if_neg q9] at H
    cases H
  rw [if_pos g50] at H
  obtain ⟨q51, hq51, H⟩ := Option.bind_eq_some_iff.mp H
  refine J_callV (kc := 0) (ks := 0) (kc' := 0) (ks' := 0) (a := this) (ci := 12) (as := [.int (0 : Int32), .int p0, .int (1 : Int32)]) (st := []) (mf_Ref_rowOf hw) (mv_Ref_388 hw) d_Ref_moveData_4 ln_Ref_rowOf (by decide) (by first | exact Nat.le_of_ble_eq_true rfl | (simp only [List.map_cons, List.map_nil, List.sum_cons, List.sum_nil, va_rf_cat]; exact Nat.le_of_ble_eq_true rfl)) rfl ((hG _).1 _ g50 (by decide)).1 ((hG _).1 _ g50 (by decide)).2 (by unfold pic; rw [g50]; rfl) (jcl_at hw rfl) rfl (p_Ref_rowOf hw hG hq51) ?_ (fun E h' n' x' e1 => by cases e1.1)
  intro v9 h9 n9 x9 e9
  obtain ⟨e91, e92, e93⟩ := e9
  cases e91
  subst e92
  subst e93
  clear x
  rename Bool => x
  show J _ _ _ _ (_ :: _) _ _ _ _ _ _
  refine J_istore_n d_Ref_moveData_7 (Nat.le_of_ble_eq_true rfl) ?_
  refine J.ls (ls' := [some (.ref this), some (.int p0), some (.int q51.1), none, none, none]) rfl ?_
  refine J_iconst (v := -1) d_Ref_moveData_8 (by decide) ?_
  refine J_istore_n d_Ref_moveData_9 (Nat.le_of_ble_eq_true rfl) ?_
  refine J.ls (ls' := [some (.ref this), some (.int p0), some (.int q51.1), some (.int (-1 : Int32)), none, none]) rfl ?_
  refine J_aload_n d_Ref_moveData_10 rfl ?_
  refine F_getI (ci := 12) (k := 47) hG (cf_Ref hw) (fl_Ref_526 hw) (by decide) (by decide) rfl d_Ref_moveData_11 g50 ?_
  refine J_iconst (v := 1) d_Ref_moveData_14 (by decide) ?_
  refine J_isub d_Ref_moveData_15 ?_
  refine J_istore d_Ref_moveData_16 (Nat.le_of_ble_eq_true rfl) ?_
  refine J.ls (ls' := [some (.ref this), some (.int p0), some (.int q51.1), some (.int (-1 : Int32)), some (.int ((q51.2.1 this 47) - (1 : Int32))), none]) rfl ?_
  refine J.drop [true, true, true, true, true, false] rfl ?_
  exact p_Ref_moveData_L18 hw hG  _ H
