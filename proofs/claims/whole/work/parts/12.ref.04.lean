theorem ln_Ref_goW : (parseMethodDescriptor y_Ref_goW.desc).map (fun q => q.parameters.length) = some 2 := by decide +kernel
def f_Ref_goW_L166 (Γ : gm_T)  (φ : ph_T) : Option (Unit × ph_T) :=
  some ((), φ)
set_option maxRecDepth 100000 in
set_option maxHeartbeats 4000000 in
theorem p_Ref_goW_L166 {w : jw_T} (hw : jok w) {Γ : gm_T} {n : Nat} (hG : gd w Γ n)  {x : Bool} {φ : ph_T} {q : Unit × ph_T} (H : f_Ref_goW_L166 Γ  φ  = some q) : J w M_Ref_goW 166 [none, none, none, none, none] [] (pic Γ φ) n x 0 0 (fq Γ n (.inl none) q.2) := by
  unfold f_Ref_goW_L166 at H
  cases H
  exact J_vret (st := []) d_Ref_goW_166 rfl ⟨rfl, rfl, rfl⟩
def f_Ref_goW_L141 (Γ : gm_T)  (φ : ph_T) (x0 : Nat) (x1 : Int32) (x3 : Int32) (y0 : Int32) (y1 : Int32) (y2 : Option Nat) : Option (Unit × ph_T) :=
  Option.bind y2 fun a1 =>
  Option.bind (gA Γ a1 2) fun N2 =>
  Option.bind (ix y1 N2) fun k3 =>
  @ite _ (y0 = 0 ∨ y0 = 1) _ (
  @ite _ (Γ x0 = .inr 12) _ (
  Option.bind ((uI φ a1 k3 y0).2.2 x0 91) fun a6 =>
  Option.bind (gA Γ a6 2) fun N7 =>
  Option.bind (ix x3 N7) fun k8 =>
  if ((uI φ a1 k3 y0).1 a6 k8) = 0 then
    f_Ref_goW_L166 Γ  (uI φ a1 k3 y0) 
  else
    Option.bind ((uI φ a1 k3 y0).2.2 x0 93) fun a9 =>
    Option.bind (gA Γ a9 0) fun N10 =>
    Option.bind (ix x3 N10) fun k11 =>
    Option.bind (f_Ref_checkBeat Γ (uI φ a1 k3 y0) x0 x1 x3 (((uI φ a1 k3 y0).1 a9 k11) - (1 : Int32)) (1 : Int32)) fun q12 =>
    f_Ref_goW_L166 Γ  q12.2 
  ) none
  ) none
set_option maxRecDepth 100000 in
set_option maxHeartbeats 4000000 in
theorem p_Ref_goW_L141 {w : jw_T} (hw : jok w) {Γ : gm_T} {n : Nat} (hG : gd w Γ n)  {x : Bool} {φ : ph_T} {x0 : Nat} {x1 : Int32} {x3 : Int32} {y0 : Int32} {y1 : Int32} {y2 : Option Nat} {q : Unit × ph_T} (H : f_Ref_goW_L141 Γ  φ x0 x1 x3 y0 y1 y2 = some q) : J w M_Ref_goW 141 [some (.ref x0), some (.int x1), none, some (.int x3), none] [.int y0, .int y1, va_rf y2] (pic Γ φ) n x 0 0 (fq Γ n (.inl none) q.2) := by
  unfold f_Ref_goW_L141 at H
  obtain ⟨a1, ha1, H⟩ := Option.bind_eq_some_iff.mp H
  rw [j_rf ha1]
  obtain ⟨N2, hN2, H⟩ := Option.bind_eq_some_iff.mp H
  obtain ⟨k3, hk3, H⟩ := Option.bind_eq_some_iff.mp H
  have z4 : y0 = 0 ∨ y0 = 1 := by
    apply Classical.byContradiction
    intro q9
    rw [if_neg q9] at H
    cases H
  rw [if_pos z4] at H
  refine F_zast k3 hw hG d_Ref_goW_141 (gA_some hN2) (ix_some hk3) z4 ?_
  refine J_aload_n d_Ref_goW_142 rfl ?_
  have g5 : Γ x0 = .inr 12 := by
    apply Classical.byContradiction
    intro q9
    rw [if_neg q9] at H
    cases H
  rw [if_pos g5] at H
  refine F_getR (ci := 12) (k := 91) hG (cf_Ref hw) (fl_Ref_253 hw) (by decide) (by decide) rfl d_Ref_goW_143 g5 ?_
  refine J_iload_n d_Ref_goW_146 rfl ?_
  obtain ⟨a6, ha6, H⟩ := Option.bind_eq_some_iff.mp H
  rw [j_rf ha6]
  obtain ⟨N7, hN7, H⟩ := Option.bind_eq_some_iff.mp H
  obtain ⟨k8, hk8, H⟩ := Option.bind_eq_some_iff.mp H
  refine F_zald k8 hw hG d_Ref_goW_147 (gA_some hN7) (ix_some hk8) ?_
  refine J_if_eq (tgt := 166) d_Ref_goW_148 (by decide) ?_ ?_
  · intro c13
    rw [if_pos c13] at H
    refine J.drop [false, false, false, false, false] rfl ?_
    exact p_Ref_goW_L166 hw hG  H
  · intro c13
    rw [if_neg c13] at H
    refine J_aload_n d_Ref_goW_151 rfl ?_
    refine J_iload_n d_Ref_goW_152 rfl ?_
    refine J_iload_n d_Ref_goW_153 rfl ?_
    refine J_aload_n d_Ref_goW_154 rfl ?_
    refine F_getR (ci := 12) (k := 93) hG (cf_Ref hw) (fl_Ref_259 hw) (by decide) (by decide) rfl d_Ref_goW_155 g5 ?_
    refine J_iload_n d_Ref_goW_158 rfl ?_
    obtain ⟨a9, ha9, H⟩ := Option.bind_eq_some_iff.mp H
    rw [j_rf ha9]
    obtain ⟨N10, hN10, H⟩ := Option.bind_eq_some_iff.mp H
    obtain ⟨k11, hk11, H⟩ := Option.bind_eq_some_iff.mp H
    refine F_iald k11 hw hG d_Ref_goW_159 (gA_some hN10) (ix_some hk11) ?_
    refine J_iconst (v := 1) d_Ref_goW_160 (by decide) ?_
    refine J_isub d_Ref_goW_161 ?_
    refine J_iconst (v := 1) d_Ref_goW_162 (by decide) ?_
    obtain ⟨q12, hq12, H⟩ := Option.bind_eq_some_iff.mp H
    refine J_callV (kc := 0) (ks := 0) (kc' := 0) (ks' := 0) (a := x0) (ci := 12) (as := [.int x1, .int x3, .int (((uI φ a1 k3 y0).1 a9 k11) - (1 : Int32)), .int (1 : Int32)]) (st := []) (mf_Ref_checkBeat hw) (mv_Ref_437 hw) d_Ref_goW_163 ln_Ref_checkBeat (by decide) (by first | exact Nat.le_of_ble_eq_true rfl | (simp only [List.map_cons, List.map_nil, List.sum_cons, List.sum_nil, va_rf_cat]; exact Nat.le_of_ble_eq_true rfl)) rfl ((hG _).1 _ g5 (by decide)).1 ((hG _).1 _ g5 (by decide)).2 (by unfold pic; rw [g5]; rfl) (jcl_at hw rfl) rfl (p_Ref_checkBeat hw hG hq12) ?_ (fun E h' n' x' e1 => by cases e1.1)
    intro v9 h9 n9 x9 e9
    obtain ⟨e91, e92, e93⟩ := e9
    cases e91
    subst e92
    subst e93
    clear x
    rename Bool => x
    show J _ _ _ _ [] _ _ _ _ _ _
    refine J.drop [false, false, false, false, false] rfl ?_
    exact p_Ref_goW_L166 hw hG  H
def f_Ref_goW_L69 (Γ : gm_T)  (φ : ph_T) (x0 : Nat) (x1 : Int32) (x2 : Int32) (y0 : Int32) : Option (Unit × ph_T) :=
  if y0 = (-1 : Int32) then
    some ((), φ)
  else
    @ite _ (Γ x0 = .inr 12) _ (
    Option.bind (φ.2.2 x0 93) fun a15 =>
    Option.bind (gA Γ a15 0) fun N16 =>
    Option.bind (ix y0 N16) fun k17 =>
    if (φ.1 a15 k17) = (16 : Int32) then
      Option.bind (f_Ref_breakAt Γ φ x0 x1 (7 : Int32) (1 : Int32)) fun q29 =>
      some ((), q29.2)
    else
      Option.bind (gA Γ a15 0) fun N18 =>
      Option.bind (ix y0 N18) fun k19 =>
      Option.bind (φ.2.2 x0 95) fun a20 =>
      Option.bind (gA Γ a20 0) fun N21 =>
      Option.bind (ix (((16 : Int32) * y0) + (φ.1 a15 k19)) N21) fun k22 =>
      Option.bind ((uI φ a20 k22 x2).2.2 x0 93) fun a23 =>
      Option.bind (gA Γ a23 0) fun N24 =>
      Option.bind (ix y0 N24) fun k25 =>
      Option.bind (gA Γ a23 0) fun N26 =>
      Option.bind (ix y0 N26) fun k27 =>
      if (x2 &&& (256 : Int32)) = 0 then
        f_Ref_goW_L141 Γ  (uI (uI φ a20 k22 x2) a23 k27 (((uI φ a20 k22 x2).1 a23 k25) + (1 : Int32))) x0 x1 y0 (0 : Int32) y0 ((uI (uI φ a20 k22 x2) a23 k27 (((uI φ a20 k22 x2).1 a23 k25) + (1 : Int32))).2.2 x0 94)
      else
        f_Ref_goW_L141 Γ  (uI (uI φ a20 k22 x2) a23 k27 (((uI φ a20 k22 x2).1 a23 k25) + (1 : Int32))) x0 x1 y0 (1 : Int32) y0 ((uI (uI φ a20 k22 x2) a23 k27 (((uI φ a20 k22 x2).1 a23 k25) + (1 : Int32))).2.2 x0 94)
    ) none
set_option maxRecDepth 100000 in
set_option maxHeartbeats 4000000 in
theorem p_Ref_goW_L69 {w : jw_T} (hw : jok w) {Γ : gm_T} {n : Nat} (hG : gd w Γ n)  {x : Bool} {φ : ph_T} {x0 : Nat} {x1 : Int32} {x2 : Int32} {y0 : Int32} {q : Unit × ph_T} (H : f_Ref_goW_L69 Γ  φ x0 x1 x2 y0 = some q) : J w M_Ref_goW 69 [some (.ref x0), some (.int x1), some (.int x2), none, none] [.int y0] (pic Γ φ) n x 0 0 (fq Γ n (.inl none) q.2) := by
  unfold f_Ref_goW_L69 at H
  refine J_istore_n d_Ref_goW_69 (Nat.le_of_ble_eq_true rfl) ?_
  refine J_iload_n d_Ref_goW_70 rfl ?_
  refine J_iconst (v := -1) d_Ref_goW_71 (by decide) ?_
  refine J_icmp_ne (tgt := 76) d_Ref_goW_72 (by decide) ?_ ?_
  · intro c31
    rw [if_neg c31] at H
    refine J_aload_n d_Ref_goW_76 rfl ?_
    have g14 : Γ x0 = .inr 12 := by
      apply Classical.byContradiction
      intro q9
      rw [if_neg q9] at H
      cases H
    rw [if_pos g14] at H
    refine F_getR (ci := 12) (k := 93) hG (cf_Ref hw) (fl_Ref_259 hw) (by decide) (by decide) rfl d_Ref_goW_77 g14 ?_
    refine J_iload_n d_Ref_goW_80 rfl ?_
    obtain ⟨a15, ha15, H⟩ := Option.bind_eq_some_iff.mp H
    rw [j_rf ha15]
    obtain ⟨N16, hN16, H⟩ := Option.bind_eq_some_iff.mp H
    obtain ⟨k17, hk17, H⟩ := Option.bind_eq_some_iff.mp H
    refine F_iald k17 hw hG d_Ref_goW_81 (gA_some hN16) (ix_some hk17) ?_
    refine J_bipush (v := 16) d_Ref_goW_82 (by decide) ?_
    refine J_icmp_ne (tgt := 96) d_Ref_goW_84 (by decide) ?_ ?_
    · intro c30
      rw [if_neg c30] at H
      refine J_aload_n d_Ref_goW_96 rfl ?_
      refine F_getR (ci := 12) (k := 95) hG (cf_Ref hw) (fl_Ref_265 hw) (by decide) (by decide) rfl d_Ref_goW_97 g14 ?_
      refine J_bipush (v := 16) d_Ref_goW_100 (by decide) ?_
      refine J_iload_n d_Ref_goW_102 rfl ?_
      refine J_imul d_Ref_goW_103 ?_
      refine J_aload_n d_Ref_goW_104 rfl ?_
      refine F_getR (ci := 12) (k := 93) hG (cf_Ref hw) (fl_Ref_259 hw) (by decide) (by decide) rfl d_Ref_goW_105 g14 ?_
      refine J_iload_n d_Ref_goW_108 rfl ?_
      try rw [j_rf ha15]
      obtain ⟨N18, hN18, H⟩ := Option.bind_eq_some_iff.mp H
      obtain ⟨k19, hk19, H⟩ := Option.bind_eq_some_iff.mp H
      refine F_iald k19 hw hG d_Ref_goW_109 (gA_some hN18) (ix_some hk19) ?_
      refine J_iadd d_Ref_goW_110 ?_
      refine J_iload_n d_Ref_goW_111 rfl ?_
      obtain ⟨a20, ha20, H⟩ := Option.bind_eq_some_iff.mp H
      rw [j_rf ha20]
      obtain ⟨N21, hN21, H⟩ := Option.bind_eq_some_iff.mp H
      obtain ⟨k22, hk22, H⟩ := Option.bind_eq_some_iff.mp H
      refine F_iast k22 hw hG d_Ref_goW_112 (gA_some hN21) (ix_some hk22) ?_
      refine J_aload_n d_Ref_goW_113 rfl ?_
      refine F_getR (ci := 12) (k := 93) hG (cf_Ref hw) (fl_Ref_259 hw) (by decide) (by decide) rfl d_Ref_goW_114 g14 ?_
      refine J_iload_n d_Ref_goW_117 rfl ?_
      refine J_dup2 d_Ref_goW_118 rfl (va_rf_cat _) ?_
      obtain ⟨a23, ha23, H⟩ := Option.bind_eq_some_iff.mp H
      rw [j_rf ha23]
      obtain ⟨N24, hN24, H⟩ := Option.bind_eq_some_iff.mp H
      obtain ⟨k25, hk25, H⟩ := Option.bind_eq_some_iff.mp H
      refine F_iald k25 hw hG d_Ref_goW_119 (gA_some hN24) (ix_some hk25) ?_
      refine J_iconst (v := 1) d_Ref_goW_120 (by decide) ?_
      refine J_iadd d_Ref_goW_121 ?_
      obtain ⟨N26, hN26, H⟩ := Option.bind_eq_some_iff.mp H
      obtain ⟨k27, hk27, H⟩ := Option.bind_eq_some_iff.mp H
      refine F_iast k27 hw hG d_Ref_goW_122 (gA_some hN26) (ix_some hk27) ?_
      refine J_aload_n d_Ref_goW_123 rfl ?_
      refine F_getR (ci := 12) (k := 94) hG (cf_Ref hw) (fl_Ref_262 hw) (by decide) (by decide) rfl d_Ref_goW_124 g14 ?_
      refine J_iload_n d_Ref_goW_127 rfl ?_
      refine J_iload_n d_Ref_goW_128 rfl ?_
      refine J_sipush (v := 256) d_Ref_goW_129 (by decide) ?_
      refine J_iand d_Ref_goW_132 ?_
      refine J_if_eq (tgt := 140) d_Ref_goW_133 (by decide) ?_ ?_
      · intro c28
        rw [if_pos c28] at H
        refine J_iconst (v := 0) d_Ref_goW_140 (by decide) ?_
        refine J.drop [true, true, false, true, false] rfl ?_
        exact p_Ref_goW_L141 hw hG  H
      · intro c28
        rw [if_neg c28] at H
        refine J_iconst (v := 1) d_Ref_goW_136 (by decide) ?_
        refine J_goto (tgt := 141) d_Ref_goW_137 (by decide) ?_
        refine J.drop [true, true, false, true, false] rfl ?_
        exact p_Ref_goW_L141 hw hG  H
    · intro c30
      rw [if_pos c30] at H
      refine J_aload_n d_Ref_goW_87 rfl ?_
      refine J_iload_n d_Ref_goW_88 rfl ?_
      refine J_bipush (v := 7) d_Ref_goW_89 (by decide) ?_
      refine J_iconst (v := 1) d_Ref_goW_91 (by decide) ?_
      obtain ⟨q29, hq29, H⟩ := Option.bind_eq_some_iff.mp H
      refine J_callV (kc := 0) (ks := 0) (kc' := 0) (ks' := 0) (a := x0) (ci := 12) (as := [.int x1, .int (7 : Int32), .int (1 : Int32)]) (st := []) (mf_Ref_breakAt hw) (mv_Ref_415 hw) d_Ref_goW_92 ln_Ref_breakAt (by decide) (by first | exact Nat.le_of_ble_eq_true rfl | (simp only [List.map_cons, List.map_nil, List.sum_cons, List.sum_nil, va_rf_cat]; exact Nat.le_of_ble_eq_true rfl)) rfl ((hG _).1 _ g14 (by decide)).1 ((hG _).1 _ g14 (by decide)).2 (by unfold pic; rw [g14]; rfl) (jcl_at hw rfl) rfl (p_Ref_breakAt hw hG hq29) ?_ (fun E h' n' x' e1 => by cases e1.1)
      intro v9 h9 n9 x9 e9
      obtain ⟨e91, e92, e93⟩ := e9
      cases e91
      subst e92
      subst e93
      clear x
      rename Bool => x
      show J _ _ _ _ [] _ _ _ _ _ _
      cases H
      exact J_vret (st := []) d_Ref_goW_95 rfl ⟨rfl, rfl, rfl⟩
  · intro c31
    rw [if_pos c31] at H
    cases H
    exact J_vret (st := []) d_Ref_goW_75 rfl ⟨rfl, rfl, rfl⟩
def f_Ref_goW_L54 (Γ : gm_T)  (φ : ph_T) (x0 : Nat) (x1 : Int32) (x2 : Int32) (x3 : Int32) : Option (Unit × ph_T) :=
  if x3 = (-1 : Int32) then
    @ite _ (Γ x0 = .inr 12) _ (
    Option.bind (f_Ref_newWrite Γ φ x0 x1 (1 : Int32)) fun q33 =>
    f_Ref_goW_L69 Γ  q33.2 x0 x1 x2 q33.1
    ) none
  else
    f_Ref_goW_L69 Γ  φ x0 x1 x2 x3
set_option maxRecDepth 100000 in
set_option maxHeartbeats 4000000 in
theorem p_Ref_goW_L54 {w : jw_T} (hw : jok w) {Γ : gm_T} {n : Nat} (hG : gd w Γ n)  {x : Bool} {φ : ph_T} {x0 : Nat} {x1 : Int32} {x2 : Int32} {x3 : Int32} {q : Unit × ph_T} (H : f_Ref_goW_L54 Γ  φ x0 x1 x2 x3 = some q) : J w M_Ref_goW 54 [some (.ref x0), some (.int x1), some (.int x2), some (.int x3), none] [] (pic Γ φ) n x 0 0 (fq Γ n (.inl none) q.2) := by
  unfold f_Ref_goW_L54 at H
  refine J_iload_n d_Ref_goW_54 rfl ?_
  refine J_iconst (v := -1) d_Ref_goW_55 (by decide) ?_
  refine J_icmp_ne (tgt := 68) d_Ref_goW_56 (by decide) ?_ ?_
  · intro c34
    rw [if_neg c34] at H
    refine J_iload_n d_Ref_goW_68 rfl ?_
    refine J.drop [true, true, true, false, false] rfl ?_
    exact p_Ref_goW_L69 hw hG  H
  · intro c34
    rw [if_pos c34] at H
    refine J_aload_n d_Ref_goW_59 rfl ?_
    refine J_iload_n d_Ref_goW_60 rfl ?_
    refine J_iconst (v := 1) d_Ref_goW_61 (by decide) ?_
    have g32 : Γ x0 = .inr 12 := by
      apply Classical.byContradiction
      intro q9
      rw [if_neg q9] at H
      cases H
    rw [if_pos g32] at H
    obtain ⟨q33, hq33, H⟩ := Option.bind_eq_some_iff.mp H
    refine J_callV (kc := 0) (ks := 0) (kc' := 0) (ks' := 0) (a := x0) (ci := 12) (as := [.int x1, .int (1 : Int32)]) (st := []) (mf_Ref_newWrite hw) (mv_Ref_434 hw) d_Ref_goW_62 ln_Ref_newWrite (by decide) (by first | exact Nat.le_of_ble_eq_true rfl | (simp only [List.map_cons, List.map_nil, List.sum_cons, List.sum_nil, va_rf_cat]; exact Nat.le_of_ble_eq_true rfl)) rfl ((hG _).1 _ g32 (by decide)).1 ((hG _).1 _ g32 (by decide)).2 (by unfold pic; rw [g32]; rfl) (jcl_at hw rfl) rfl (p_Ref_newWrite hw hG hq33) ?_ (fun E h' n' x' e1 => by cases e1.1)
    intro v9 h9 n9 x9 e9
    obtain ⟨e91, e92, e93⟩ := e9
    cases e91
    subst e92
    subst e93
    clear x
    rename Bool => x
    show J _ _ _ _ (_ :: _) _ _ _ _ _ _
    refine J_goto (tgt := 69) d_Ref_goW_65 (by decide) ?_
    refine J.drop [true, true, true, false, false] rfl ?_
    exact p_Ref_goW_L69 hw hG  H
def f_Ref_goW_L47 (Γ : gm_T) (Kc5 : ph_T → Nat → Int32 → Int32 → Int32 → Int32 → Option (Unit × ph_T)) (φ : ph_T) (x0 : Nat) (x1 : Int32) (x2 : Int32) (x4 : Int32) (y0 : Int32) : Option (Unit × ph_T) :=
  Kc5 φ x0 x1 x2 y0 (x4 + (1 : Int32))
set_option maxRecDepth 100000 in
set_option maxHeartbeats 4000000 in
theorem p_Ref_goW_L47 {w : jw_T} (hw : jok w) {Γ : gm_T} {n : Nat} (hG : gd w Γ n) {Kc5 : ph_T → Nat → Int32 → Int32 → Int32 → Int32 → Option (Unit × ph_T)} (hKc5 : ∀ {x : Bool} {φ : ph_T} {x0 : Nat} {x1 : Int32} {x2 : Int32} {x3 : Int32} {x4 : Int32} {q : Unit × ph_T}, Kc5 φ x0 x1 x2 x3 x4 = some q → J w M_Ref_goW 5 [some (.ref x0), some (.int x1), some (.int x2), some (.int x3), some (.int x4)] [] (pic Γ φ) n x 0 0 (fq Γ n (.inl none) q.2)) {x : Bool} {φ : ph_T} {x0 : Nat} {x1 : Int32} {x2 : Int32} {x4 : Int32} {y0 : Int32} {q : Unit × ph_T} (H : f_Ref_goW_L47 Γ Kc5 φ x0 x1 x2 x4 y0 = some q) : J w M_Ref_goW 47 [some (.ref x0), some (.int x1), some (.int x2), none, some (.int x4)] [.int y0] (pic Γ φ) n x 0 0 (fq Γ n (.inl none) q.2) := by
  unfold f_Ref_goW_L47 at H
  refine J_istore_n d_Ref_goW_47 (Nat.le_of_ble_eq_true rfl) ?_
  refine J_iinc (v := x4 + 1) d_Ref_goW_48 rfl (by rw [show Int32.ofInt 1 = (1 : Int32) from by decide]) ?_
  refine J_goto (tgt := 5) d_Ref_goW_51 (by decide) ?_
  refine J.drop [true, true, true, true, true] rfl ?_
  exact hKc5 H
def f_Ref_goW_L5 (Γ : gm_T)  : Nat → ph_T → Nat → Int32 → Int32 → Int32 → Int32 → Option (Unit × ph_T)
  | 0, _, _, _, _, _, _ => none
  | fu + 1, φ, x0, x1, x2, x3, x4 =>
    @ite _ (Γ x0 = .inr 12) _ (
    Option.bind (φ.2.2 x0 89) fun a36 =>
    Option.bind (gA Γ a36 0) fun N37 =>
    Option.bind (ix x1 N37) fun k38 =>
    if (φ.1 a36 k38) ≤ x4 then
      f_Ref_goW_L54 Γ  φ x0 x1 x2 x3
    else
      if x3 = (-1 : Int32) then
        Option.bind (φ.2.2 x0 94) fun a39 =>
        Option.bind (gA Γ a39 2) fun N40 =>
        Option.bind (ix (((16 : Int32) * x1) + x4) N40) fun k41 =>
        if (φ.1 a39 k41) = 0 then
          f_Ref_goW_L47 Γ (f_Ref_goW_L5 Γ  fu) φ x0 x1 x2 x4 (((16 : Int32) * x1) + x4)
        else
          f_Ref_goW_L47 Γ (f_Ref_goW_L5 Γ  fu) φ x0 x1 x2 x4 (-1 : Int32)
      else
        f_Ref_goW_L54 Γ  φ x0 x1 x2 x3
    ) none
set_option maxRecDepth 100000 in
set_option maxHeartbeats 4000000 in
theorem p_Ref_goW_L5 {w : jw_T} (hw : jok w) {Γ : gm_T} {n : Nat} (hG : gd w Γ n)  : ∀ (fu : Nat) {x : Bool} {φ : ph_T} {x0 : Nat} {x1 : Int32} {x2 : Int32} {x3 : Int32} {x4 : Int32} {q : Unit × ph_T}, f_Ref_goW_L5 Γ  fu φ x0 x1 x2 x3 x4 = some q → J w M_Ref_goW 5 [some (.ref x0), some (.int x1), some (.int x2), some (.int x3), some (.int x4)] [] (pic Γ φ) n x 0 0 (fq Γ n (.inl none) q.2) := by
  intro fu
  induction fu with
  | zero =>
    intro x φ x0 x1 x2 x3 x4 q H
    cases H
  | succ fu ih =>
    intro x φ x0 x1 x2 x3 x4 q H
    unfold f_Ref_goW_L5 at H
    refine J_iload d_Ref_goW_5 rfl ?_
    refine J_aload_n d_Ref_goW_7 rfl ?_
    have g35 : Γ x0 = .inr 12 := by
      apply Classical.byContradiction
      intro q9
      rw [if_neg q9] at H
      cases H
    rw [if_pos g35] at H
    refine F_getR (ci := 12) (k := 89) hG (cf_Ref hw) (fl_Ref_247 hw) (by decide) (by decide) rfl d_Ref_goW_8 g35 ?_
    refine J_iload_n d_Ref_goW_11 rfl ?_
    obtain ⟨a36, ha36, H⟩ := Option.bind_eq_some_iff.mp H
    rw [j_rf ha36]
    obtain ⟨N37, hN37, H⟩ := Option.bind_eq_some_iff.mp H
    obtain ⟨k38, hk38, H⟩ := Option.bind_eq_some_iff.mp H
    refine F_iald k38 hw hG d_Ref_goW_12 (gA_some hN37) (ix_some hk38) ?_
    refine J_icmp_ge (tgt := 54) d_Ref_goW_13 (by decide) ?_ ?_
    · intro c44
      rw [if_pos c44] at H
      refine J.drop [true, true, true, true, false] rfl ?_
      exact p_Ref_goW_L54 hw hG  H
    · intro c44
      rw [if_neg c44] at H
      refine J_iload_n d_Ref_goW_16 rfl ?_
      refine J_iconst (v := -1) d_Ref_goW_17 (by decide) ?_
      refine J_icmp_ne (tgt := 54) d_Ref_goW_18 (by decide) ?_ ?_
      · intro c43
        rw [if_neg c43] at H
        refine J.drop [true, true, true, true, false] rfl ?_
        exact p_Ref_goW_L54 hw hG  H
      · intro c43
        rw [if_pos c43] at H
        refine J_aload_n d_Ref_goW_21 rfl ?_
        refine F_getR (ci := 12) (k := 94) hG (cf_Ref hw) (fl_Ref_262 hw) (by decide) (by decide) rfl d_Ref_goW_22 g35 ?_
        refine J_bipush (v := 16) d_Ref_goW_25 (by decide) ?_
        refine J_iload_n d_Ref_goW_27 rfl ?_
        refine J_imul d_Ref_goW_28 ?_
        refine J_iload d_Ref_goW_29 rfl ?_
        refine J_iadd d_Ref_goW_31 ?_
        obtain ⟨a39, ha39, H⟩ := Option.bind_eq_some_iff.mp H
        rw [j_rf ha39]
        obtain ⟨N40, hN40, H⟩ := Option.bind_eq_some_iff.mp H
        obtain ⟨k41, hk41, H⟩ := Option.bind_eq_some_iff.mp H
        refine F_zald k41 hw hG d_Ref_goW_32 (gA_some hN40) (ix_some hk41) ?_
        refine J_if_eq (tgt := 40) d_Ref_goW_33 (by decide) ?_ ?_
        · intro c42
          rw [if_pos c42] at H
          refine J_bipush (v := 16) d_Ref_goW_40 (by decide) ?_
          refine J_iload_n d_Ref_goW_42 rfl ?_
          refine J_imul d_Ref_goW_43 ?_
          refine J_iload d_Ref_goW_44 rfl ?_
          refine J_iadd d_Ref_goW_46 ?_
          refine J.drop [true, true, true, false, true] rfl ?_
          exact p_Ref_goW_L47 hw hG ih H
        · intro c42
          rw [if_neg c42] at H
          refine J_iconst (v := -1) d_Ref_goW_36 (by decide) ?_
          refine J_goto (tgt := 47) d_Ref_goW_37 (by decide) ?_
          refine J.drop [true, true, true, false, true] rfl ?_
          exact p_Ref_goW_L47 hw hG ih H
def f_Ref_goW (Γ : gm_T) (φ : ph_T) (this : Nat) (p0 : Int32) (p1 : Int32) : Option (Unit × ph_T) :=
  f_Ref_goW_L5 Γ  jF φ this p0 p1 (-1 : Int32) (0 : Int32)
set_option maxRecDepth 100000 in
set_option maxHeartbeats 4000000 in
theorem p_Ref_goW {w : jw_T} (hw : jok w) {Γ : gm_T} {n : Nat} (hG : gd w Γ n) {x : Bool} {φ : ph_T} {this : Nat} {p0 : Int32} {p1 : Int32} {q : Unit × ph_T} (H : f_Ref_goW Γ φ this p0 p1 = some q) : jc w M_Ref_goW [.ref this, .int p0, .int p1] (pic Γ φ) n x 0 0 (fq Γ n (.inl none) q.2) := by
  refine jc.of (by simp only [jent_r, jent_i, jent_l, jent_a, jent_0]; exact Nat.le_of_ble_eq_true rfl) ?_
  have hls : jents [.ref this, .int p0, .int p1] (jm_nL M_Ref_goW) = [some (.ref this), some (.int p0), some (.int p1), none, none] := by simp only [jents, jent_r, jent_i, jent_l, jent_a, jent_0]; rfl
  rw [hls]
  clear hls
  unfold f_Ref_goW at H
  refine J_iconst (v := -1) d_Ref_goW_0 (by decide) ?_
  refine J_istore_n d_Ref_goW_1 (Nat.le_of_ble_eq_true rfl) ?_
  refine J_iconst (v := 0) d_Ref_goW_2 (by decide) ?_
  refine J_istore d_Ref_goW_3 (Nat.le_of_ble_eq_true rfl) ?_
  refine J.drop [true, true, true, true, true] rfl ?_
  exact p_Ref_goW_L5 hw hG  _ H
theorem ln_Ref_go : (parseMethodDescriptor y_Ref_go.desc).map (fun q => q.parameters.length) = some 3 := by decide +kernel
def f_Ref_go_L219 (Γ : gm_T)  (φ : ph_T) : Option (Unit × ph_T) :=
  some ((), φ)
set_option maxRecDepth 100000 in
set_option maxHeartbeats 4000000 in
theorem p_Ref_go_L219 {w : jw_T} (hw : jok w) {Γ : gm_T} {n : Nat} (hG : gd w Γ n)  {x : Bool} {φ : ph_T} {q : Unit × ph_T} (H : f_Ref_go_L219 Γ  φ  = some q) : J w M_Ref_go 219 [none, none, none, none] [] (pic Γ φ) n x 0 0 (fq Γ n (.inl none) q.2) := by
  unfold f_Ref_go_L219 at H
  cases H
  exact J_vret (st := []) d_Ref_go_219 rfl ⟨rfl, rfl, rfl⟩
def f_Ref_go_L216 (Γ : gm_T)  (φ : ph_T) (y0 : Int32) (y1 : Int32) (y2 : Nat) : Option (Unit × ph_T) :=
  @ite _ (Γ y2 = .inr 12) _ (
  Option.bind (f_Ref_goW Γ φ y2 y1 y0) fun q2 =>
  f_Ref_go_L219 Γ  q2.2 
  ) none
set_option maxRecDepth 100000 in
set_option maxHeartbeats 4000000 in
theorem p_Ref_go_L216 {w : jw_T} (hw : jok w) {Γ : gm_T} {n : Nat} (hG : gd w Γ n)  {x : Bool} {φ : ph_T} {y0 : Int32} {y1 : Int32} {y2 : Nat} {q : Unit × ph_T} (H : f_Ref_go_L216 Γ  φ y0 y1 y2 = some q) : J w M_Ref_go 216 [none, none, none, none] [.int y0, .int y1, .ref y2] (pic Γ φ) n x 0 0 (fq Γ n (.inl none) q.2) := by
  unfold f_Ref_go_L216 at H
  have g1 : Γ y2 = .inr 12 := by
    apply Classical.byContradiction
    intro q9
    rw [if_neg q9] at H
    cases H
  rw [if_pos g1] at H
  obtain ⟨q2, hq2, H⟩ := Option.bind_eq_some_iff.mp H
  refine J_callV (kc := 0) (ks := 0) (kc' := 0) (ks' := 0) (a := y2) (ci := 12) (as := [.int y1, .int y0]) (st := []) (mf_Ref_goW hw) (mv_Ref_466 hw) d_Ref_go_216 ln_Ref_goW (by decide) (by first | exact Nat.le_of_ble_eq_true rfl | (simp only [List.map_cons, List.map_nil, List.sum_cons, List.sum_nil, va_rf_cat]; exact Nat.le_of_ble_eq_true rfl)) rfl ((hG _).1 _ g1 (by decide)).1 ((hG _).1 _ g1 (by decide)).2 (by unfold pic; rw [g1]; rfl) (jcl_at hw rfl) rfl (p_Ref_goW hw hG hq2) ?_ (fun E h' n' x' e1 => by cases e1.1)
  intro v9 h9 n9 x9 e9
  obtain ⟨e91, e92, e93⟩ := e9
  cases e91
  subst e92
  subst e93
  clear x
  rename Bool => x
  show J _ _ _ _ [] _ _ _ _ _ _
  refine J.drop [false, false, false, false] rfl ?_
  exact p_Ref_go_L219 hw hG  H
def f_Ref_go_L171 (Γ : gm_T)  (φ : ph_T) (x0 : Nat) (x1 : Int32) (x2 : Int32) (x3 : Int32) : Option (Unit × ph_T) :=
  @ite _ (Γ x0 = .inr 12) _ (
  Option.bind (φ.2.2 x0 86) fun a4 =>
  Option.bind (gA Γ a4 0) fun N5 =>
  Option.bind (ix x1 N5) fun k6 =>
  if (φ.1 a4 k6) = 0 then
    Option.bind (f_Ref_goes Γ φ x0 (x2 + (1 : Int32)) x3) fun q7 =>
    if q7.1 = 0 then
      f_Ref_go_L219 Γ  q7.2 
    else
      if x3 = 0 then
        Option.bind (q7.2.2.2 x0 36) fun a8 =>
        Option.bind (gA Γ a8 0) fun N9 =>
        Option.bind (ix (x2 + (1 : Int32)) N9) fun k10 =>
        f_Ref_go_L216 Γ  q7.2 (q7.2.1 a8 k10) x1 x0
      else
        Option.bind (q7.2.2.2 x0 101) fun a11 =>
        Option.bind (gA Γ a11 0) fun N12 =>
        Option.bind (ix (x2 + (1 : Int32)) N12) fun k13 =>
        f_Ref_go_L216 Γ  q7.2 (q7.2.1 a11 k13) x1 x0
  else
    f_Ref_go_L219 Γ  φ 
  ) none
set_option maxRecDepth 100000 in
set_option maxHeartbeats 4000000 in
theorem p_Ref_go_L171 {w : jw_T} (hw : jok w) {Γ : gm_T} {n : Nat} (hG : gd w Γ n)  {x : Bool} {φ : ph_T} {x0 : Nat} {x1 : Int32} {x2 : Int32} {x3 : Int32} {q : Unit × ph_T} (H : f_Ref_go_L171 Γ  φ x0 x1 x2 x3 = some q) : J w M_Ref_go 171 [some (.ref x0), some (.int x1), some (.int x2), some (.int x3)] [] (pic Γ φ) n x 0 0 (fq Γ n (.inl none) q.2) := by
  unfold f_Ref_go_L171 at H
  refine J_aload_n d_Ref_go_171 rfl ?_
  have g3 : Γ x0 = .inr 12 := by
    apply Classical.byContradiction
    intro q9
    rw [if_neg q9] at H
    cases H
  rw [if_pos g3] at H
  refine F_getR (ci := 12) (k := 86) hG (cf_Ref hw) (fl_Ref_238 hw) (by decide) (by decide) rfl d_Ref_go_172 g3 ?_
  refine J_iload_n d_Ref_go_175 rfl ?_
  obtain ⟨a4, ha4, H⟩ := Option.bind_eq_some_iff.mp H
  rw [j_rf ha4]
  obtain ⟨N5, hN5, H⟩ := Option.bind_eq_some_iff.mp H
  obtain ⟨k6, hk6, H⟩ := Option.bind_eq_some_iff.mp H
  refine F_iald k6 hw hG d_Ref_go_176 (gA_some hN5) (ix_some hk6) ?_
  refine J_if_ne (tgt := 219) d_Ref_go_177 (by decide) ?_ ?_
  · intro c16
    rw [if_neg c16] at H
    refine J.drop [false, false, false, false] rfl ?_
    exact p_Ref_go_L219 hw hG  H
  · intro c16
    rw [if_pos c16] at H
    refine J_aload_n d_Ref_go_180 rfl ?_
    refine J_iload_n d_Ref_go_181 rfl ?_
    refine J_iconst (v := 1) d_Ref_go_182 (by decide) ?_
    refine J_iadd d_Ref_go_183 ?_
    refine J_iload_n d_Ref_go_184 rfl ?_
    obtain ⟨q7, hq7, H⟩ := Option.bind_eq_some_iff.mp H
    refine J_callV (kc := 0) (ks := 0) (kc' := 0) (ks' := 0) (a := x0) (ci := 12) (as := [.int (x2 + (1 : Int32)), .int x3]) (st := []) (mf_Ref_goes hw) (mv_Ref_449 hw) d_Ref_go_185 ln_Ref_goes (by decide) (by first | exact Nat.le_of_ble_eq_true rfl | (simp only [List.map_cons, List.map_nil, List.sum_cons, List.sum_nil, va_rf_cat]; exact Nat.le_of_ble_eq_true rfl)) rfl ((hG _).1 _ g3 (by decide)).1 ((hG _).1 _ g3 (by decide)).2 (by unfold pic; rw [g3]; rfl) (jcl_at hw rfl) rfl (p_Ref_goes hw hG hq7) ?_ (fun E h' n' x' e1 => by cases e1.1)
    intro v9 h9 n9 x9 e9
    obtain ⟨e91, e92, e93⟩ := e9
    cases e91
    subst e92
    subst e93
    clear x
    rename Bool => x
    show J _ _ _ _ (_ :: _) _ _ _ _ _ _
    refine J_if_eq (tgt := 219) d_Ref_go_188 (by decide) ?_ ?_
    · intro c15
      rw [if_pos c15] at H
      refine J.drop [false, false, false, false] rfl ?_
      exact p_Ref_go_L219 hw hG  H
    · intro c15
      rw [if_neg c15] at H
      refine J_aload_n d_Ref_go_191 rfl ?_
      refine J_iload_n d_Ref_go_192 rfl ?_
      refine J_iload_n d_Ref_go_193 rfl ?_
      refine J_if_eq (tgt := 208) d_Ref_go_194 (by decide) ?_ ?_
      · intro c14
        rw [if_pos c14] at H
        refine J_aload_n d_Ref_go_208 rfl ?_
        refine F_getR (ci := 12) (k := 36) hG (cf_Ref hw) (fl_Ref_97 hw) (by decide) (by decide) rfl d_Ref_go_209 g3 ?_
        refine J_iload_n d_Ref_go_212 rfl ?_
        refine J_iconst (v := 1) d_Ref_go_213 (by decide) ?_
        refine J_iadd d_Ref_go_214 ?_
        obtain ⟨a8, ha8, H⟩ := Option.bind_eq_some_iff.mp H
        rw [j_rf ha8]
        obtain ⟨N9, hN9, H⟩ := Option.bind_eq_some_iff.mp H
        obtain ⟨k10, hk10, H⟩ := Option.bind_eq_some_iff.mp H
        refine F_iald k10 hw hG d_Ref_go_215 (gA_some hN9) (ix_some hk10) ?_
        refine J.drop [false, false, false, false] rfl ?_
        exact p_Ref_go_L216 hw hG  H
      · intro c14
        rw [if_neg c14] at H
        refine J_aload_n d_Ref_go_197 rfl ?_
        refine F_getR (ci := 12) (k := 101) hG (cf_Ref hw) (fl_Ref_283 hw) (by decide) (by decide) rfl d_Ref_go_198 g3 ?_
        refine J_iload_n d_Ref_go_201 rfl ?_
        refine J_iconst (v := 1) d_Ref_go_202 (by decide) ?_
        refine J_iadd d_Ref_go_203 ?_
        obtain ⟨a11, ha11, H⟩ := Option.bind_eq_some_iff.mp H
        rw [j_rf ha11]
        obtain ⟨N12, hN12, H⟩ := Option.bind_eq_some_iff.mp H
        obtain ⟨k13, hk13, H⟩ := Option.bind_eq_some_iff.mp H
        refine F_iald k13 hw hG d_Ref_go_204 (gA_some hN12) (ix_some hk13) ?_
        refine J_goto (tgt := 216) d_Ref_go_205 (by decide) ?_
        refine J.drop [false, false, false, false] rfl ?_
        exact p_Ref_go_L216 hw hG  H
def f_Ref_go_L168 (Γ : gm_T)  (φ : ph_T) (x0 : Nat) (x1 : Int32) (x2 : Int32) (x3 : Int32) (y0 : Int64) (y1 : Int32) (y2 : Nat) : Option (Unit × ph_T) :=
  @ite _ (Γ y2 = .inr 12) _ (
  Option.bind (f_Ref_goAw Γ φ y2 y1 y0) fun q18 =>
  f_Ref_go_L171 Γ  q18.2 x0 x1 x2 x3
  ) none
set_option maxRecDepth 100000 in
set_option maxHeartbeats 4000000 in
theorem p_Ref_go_L168 {w : jw_T} (hw : jok w) {Γ : gm_T} {n : Nat} (hG : gd w Γ n)  {x : Bool} {φ : ph_T} {x0 : Nat} {x1 : Int32} {x2 : Int32} {x3 : Int32} {y0 : Int64} {y1 : Int32} {y2 : Nat} {q : Unit × ph_T} (H : f_Ref_go_L168 Γ  φ x0 x1 x2 x3 y0 y1 y2 = some q) : J w M_Ref_go 168 [some (.ref x0), some (.int x1), some (.int x2), some (.int x3)] [.long y0, .int y1, .ref y2] (pic Γ φ) n x 0 0 (fq Γ n (.inl none) q.2) := by
  unfold f_Ref_go_L168 at H
  have g17 : Γ y2 = .inr 12 := by
    apply Classical.byContradiction
    intro q9
    rw [if_neg q9] at H
    cases H
  rw [if_pos g17] at H
  obtain ⟨q18, hq18, H⟩ := Option.bind_eq_some_iff.mp H
  refine J_callV (kc := 0) (ks := 0) (kc' := 0) (ks' := 0) (a := y2) (ci := 12) (as := [.int y1, .long y0]) (st := []) (mf_Ref_goAw hw) (mv_Ref_463 hw) d_Ref_go_168 ln_Ref_goAw (by decide) (by first | exact Nat.le_of_ble_eq_true rfl | (simp only [List.map_cons, List.map_nil, List.sum_cons, List.sum_nil, va_rf_cat]; exact Nat.le_of_ble_eq_true rfl)) rfl ((hG _).1 _ g17 (by decide)).1 ((hG _).1 _ g17 (by decide)).2 (by unfold pic; rw [g17]; rfl) (jcl_at hw rfl) rfl (p_Ref_goAw hw hG hq18) ?_ (fun E h' n' x' e1 => by cases e1.1)
  intro v9 h9 n9 x9 e9
  obtain ⟨e91, e92, e93⟩ := e9
  cases e91
  subst e92
  subst e93
  clear x
  rename Bool => x
  show J _ _ _ _ [] _ _ _ _ _ _
  refine J.drop [true, true, true, true] rfl ?_
  exact p_Ref_go_L171 hw hG  H
def f_Ref_go_L123 (Γ : gm_T)  (φ : ph_T) (x0 : Nat) (x1 : Int32) (x2 : Int32) (x3 : Int32) : Option (Unit × ph_T) :=
  @ite _ (Γ x0 = .inr 12) _ (
  Option.bind (φ.2.2 x0 86) fun a20 =>
  Option.bind (gA Γ a20 0) fun N21 =>
  Option.bind (ix x1 N21) fun k22 =>
  if (φ.1 a20 k22) = 0 then
    Option.bind (f_Ref_goes Γ φ x0 (x2 + (0 : Int32)) x3) fun q23 =>
    if q23.1 = 0 then
      f_Ref_go_L171 Γ  q23.2 x0 x1 x2 x3
    else
      if x3 = 0 then
        Option.bind (q23.2.2.2 x0 35) fun a24 =>
        Option.bind (gA Γ a24 1) fun N25 =>
        Option.bind (ix (x2 + (0 : Int32)) N25) fun k26 =>
        f_Ref_go_L168 Γ  q23.2 x0 x1 x2 x3 (q23.2.2.1 a24 k26) x1 x0
      else
        Option.bind (q23.2.2.2 x0 100) fun a27 =>
        Option.bind (gA Γ a27 1) fun N28 =>
        Option.bind (ix (x2 + (0 : Int32)) N28) fun k29 =>
        f_Ref_go_L168 Γ  q23.2 x0 x1 x2 x3 (q23.2.2.1 a27 k29) x1 x0
  else
    f_Ref_go_L171 Γ  φ x0 x1 x2 x3
  ) none
set_option maxRecDepth 100000 in
set_option maxHeartbeats 4000000 in
theorem p_Ref_go_L123 {w : jw_T} (hw : jok w) {Γ : gm_T} {n : Nat} (hG : gd w Γ n)  {x : Bool} {φ : ph_T} {x0 : Nat} {x1 : Int32} {x2 : Int32} {x3 : Int32} {q : Unit × ph_T} (H : f_Ref_go_L123 Γ  φ x0 x1 x2 x3 = some q) : J w M_Ref_go 123 [some (.ref x0), some (.int x1), some (.int x2), some (.int x3)] [] (pic Γ φ) n x 0 0 (fq Γ n (.inl none) q.2) := by
  unfold f_Ref_go_L123 at H
  refine J_aload_n d_Ref_go_123 rfl ?_
  have g19 : Γ x0 = .inr 12 := by
    apply Classical.byContradiction
    intro q9
    rw [if_neg q9] at H
    cases H
  rw [if_pos g19] at H
  refine F_getR (ci := 12) (k := 86) hG (cf_Ref hw) (fl_Ref_238 hw) (by decide) (by decide) rfl d_Ref_go_124 g19 ?_
  refine J_iload_n d_Ref_go_127 rfl ?_
  obtain ⟨a20, ha20, H⟩ := Option.bind_eq_some_iff.mp H
  rw [j_rf ha20]
  obtain ⟨N21, hN21, H⟩ := Option.bind_eq_some_iff.mp H
  obtain ⟨k22, hk22, H⟩ := Option.bind_eq_some_iff.mp H
  refine F_iald k22 hw hG d_Ref_go_128 (gA_some hN21) (ix_some hk22) ?_
  refine J_if_ne (tgt := 171) d_Ref_go_129 (by decide) ?_ ?_
  · intro c32
    rw [if_neg c32] at H
    refine J.drop [true, true, true, true] rfl ?_
    exact p_Ref_go_L171 hw hG  H
  · intro c32
    rw [if_pos c32] at H
    refine J_aload_n d_Ref_go_132 rfl ?_
    refine J_iload_n d_Ref_go_133 rfl ?_
    refine J_iconst (v := 0) d_Ref_go_134 (by decide) ?_
    refine J_iadd d_Ref_go_135 ?_
    refine J_iload_n d_Ref_go_136 rfl ?_
    obtain ⟨q23, hq23, H⟩ := Option.bind_eq_some_iff.mp H
    refine J_callV (kc := 0) (ks := 0) (kc' := 0) (ks' := 0) (a := x0) (ci := 12) (as := [.int (x2 + (0 : Int32)), .int x3]) (st := []) (mf_Ref_goes hw) (mv_Ref_449 hw) d_Ref_go_137 ln_Ref_goes (by decide) (by first | exact Nat.le_of_ble_eq_true rfl | (simp only [List.map_cons, List.map_nil, List.sum_cons, List.sum_nil, va_rf_cat]; exact Nat.le_of_ble_eq_true rfl)) rfl ((hG _).1 _ g19 (by decide)).1 ((hG _).1 _ g19 (by decide)).2 (by unfold pic; rw [g19]; rfl) (jcl_at hw rfl) rfl (p_Ref_goes hw hG hq23) ?_ (fun E h' n' x' e1 => by cases e1.1)
    intro v9 h9 n9 x9 e9
    obtain ⟨e91, e92, e93⟩ := e9
    cases e91
    subst e92
    subst e93
    clear x
    rename Bool => x
    show J _ _ _ _ (_ :: _) _ _ _ _ _ _
    refine J_if_eq (tgt := 171) d_Ref_go_140 (by decide) ?_ ?_
    · intro c31
      rw [if_pos c31] at H
      refine J.drop [true, true, true, true] rfl ?_
      exact p_Ref_go_L171 hw hG  H
    · intro c31
      rw [if_neg c31] at H
      refine J_aload_n d_Ref_go_143 rfl ?_
      refine J_iload_n d_Ref_go_144 rfl ?_
      refine J_iload_n d_Ref_go_145 rfl ?_
      refine J_if_eq (tgt := 160) d_Ref_go_146 (by decide) ?_ ?_
      · intro c30
        rw [if_pos c30] at H
        refine J_aload_n d_Ref_go_160 rfl ?_
        refine F_getR (ci := 12) (k := 35) hG (cf_Ref hw) (fl_Ref_94 hw) (by decide) (by decide) rfl d_Ref_go_161 g19 ?_
        refine J_iload_n d_Ref_go_164 rfl ?_
        refine J_iconst (v := 0) d_Ref_go_165 (by decide) ?_
        refine J_iadd d_Ref_go_166 ?_
        obtain ⟨a24, ha24, H⟩ := Option.bind_eq_some_iff.mp H
        rw [j_rf ha24]
        obtain ⟨N25, hN25, H⟩ := Option.bind_eq_some_iff.mp H
        obtain ⟨k26, hk26, H⟩ := Option.bind_eq_some_iff.mp H
        refine F_lald k26 hw hG d_Ref_go_167 (gA_some hN25) (ix_some hk26) ?_
        refine J.drop [true, true, true, true] rfl ?_
        exact p_Ref_go_L168 hw hG  H
      · intro c30
        rw [if_neg c30] at H
        refine J_aload_n d_Ref_go_149 rfl ?_
        refine F_getR (ci := 12) (k := 100) hG (cf_Ref hw) (fl_Ref_280 hw) (by decide) (by decide) rfl d_Ref_go_150 g19 ?_
        refine J_iload_n d_Ref_go_153 rfl ?_
        refine J_iconst (v := 0) d_Ref_go_154 (by decide) ?_
        refine J_iadd d_Ref_go_155 ?_
        obtain ⟨a27, ha27, H⟩ := Option.bind_eq_some_iff.mp H
        rw [j_rf ha27]
        obtain ⟨N28, hN28, H⟩ := Option.bind_eq_some_iff.mp H
        obtain ⟨k29, hk29, H⟩ := Option.bind_eq_some_iff.mp H
        refine F_lald k29 hw hG d_Ref_go_156 (gA_some hN28) (ix_some hk29) ?_
        refine J_goto (tgt := 168) d_Ref_go_157 (by decide) ?_
        refine J.drop [true, true, true, true] rfl ?_
        exact p_Ref_go_L168 hw hG  H
def f_Ref_go_L120 (Γ : gm_T)  (φ : ph_T) (x0 : Nat) (x1 : Int32) (x2 : Int32) (x3 : Int32) (y0 : Int64) (y1 : Int32) (y2 : Nat) : Option (Unit × ph_T) :=
  @ite _ (Γ y2 = .inr 12) _ (
  Option.bind (f_Ref_goAr Γ φ y2 y1 y0) fun q34 =>
  f_Ref_go_L123 Γ  q34.2 x0 x1 x2 x3
  ) none
set_option maxRecDepth 100000 in
set_option maxHeartbeats 4000000 in
theorem p_Ref_go_L120 {w : jw_T} (hw : jok w) {Γ : gm_T} {n : Nat} (hG : gd w Γ n)  {x : Bool} {φ : ph_T} {x0 : Nat} {x1 : Int32} {x2 : Int32} {x3 : Int32} {y0 : Int64} {y1 : Int32} {y2 : Nat} {q : Unit × ph_T} (H : f_Ref_go_L120 Γ  φ x0 x1 x2 x3 y0 y1 y2 = some q) : J w M_Ref_go 120 [some (.ref x0), some (.int x1), some (.int x2), some (.int x3)] [.long y0, .int y1, .ref y2] (pic Γ φ) n x 0 0 (fq Γ n (.inl none) q.2) := by
  unfold f_Ref_go_L120 at H
  have g33 : Γ y2 = .inr 12 := by
    apply Classical.byContradiction
    intro q9
    rw [if_neg q9] at H
    cases H
  rw [if_pos g33] at H
  obtain ⟨q34, hq34, H⟩ := Option.bind_eq_some_iff.mp H
  refine J_callV (kc := 0) (ks := 0) (kc' := 0) (ks' := 0) (a := y2) (ci := 12) (as := [.int y1, .long y0]) (st := []) (mf_Ref_goAr hw) (mv_Ref_459 hw) d_Ref_go_120 ln_Ref_goAr (by decide) (by first | exact Nat.le_of_ble_eq_true rfl | (simp only [List.map_cons, List.map_nil, List.sum_cons, List.sum_nil, va_rf_cat]; exact Nat.le_of_ble_eq_true rfl)) rfl ((hG _).1 _ g33 (by decide)).1 ((hG _).1 _ g33 (by decide)).2 (by unfold pic; rw [g33]; rfl) (jcl_at hw rfl) rfl (p_Ref_goAr hw hG hq34) ?_ (fun E h' n' x' e1 => by cases e1.1)
  intro v9 h9 n9 x9 e9
  obtain ⟨e91, e92, e93⟩ := e9
  cases e91
  subst e92
  subst e93
  clear x
  rename Bool => x
  show J _ _ _ _ [] _ _ _ _ _ _
  refine J.drop [true, true, true, true] rfl ?_
  exact p_Ref_go_L123 hw hG  H
def f_Ref_go_L84 (Γ : gm_T)  (φ : ph_T) (x0 : Nat) (x1 : Int32) (x2 : Int32) (x3 : Int32) : Option (Unit × ph_T) :=
  @ite _ (Γ x0 = .inr 12) _ (
  Option.bind (f_Ref_goes Γ φ x0 (x2 + (3 : Int32)) x3) fun q36 =>
  if q36.1 = 0 then
    f_Ref_go_L123 Γ  q36.2 x0 x1 x2 x3
  else
    if x3 = 0 then
      Option.bind (q36.2.2.2 x0 35) fun a37 =>
      Option.bind (gA Γ a37 1) fun N38 =>
      Option.bind (ix (x2 + (3 : Int32)) N38) fun k39 =>
      f_Ref_go_L120 Γ  q36.2 x0 x1 x2 x3 (q36.2.2.1 a37 k39) x1 x0
    else
      Option.bind (q36.2.2.2 x0 100) fun a40 =>
      Option.bind (gA Γ a40 1) fun N41 =>
      Option.bind (ix (x2 + (3 : Int32)) N41) fun k42 =>
      f_Ref_go_L120 Γ  q36.2 x0 x1 x2 x3 (q36.2.2.1 a40 k42) x1 x0
  ) none
set_option maxRecDepth 100000 in
set_option maxHeartbeats 4000000 in
theorem p_Ref_go_L84 {w : jw_T} (hw : jok w) {Γ : gm_T} {n : Nat} (hG : gd w Γ n)  {x : Bool} {φ : ph_T} {x0 : Nat} {x1 : Int32} {x2 : Int32} {x3 : Int32} {q : Unit × ph_T} (H : f_Ref_go_L84 Γ  φ x0 x1 x2 x3 = some q) : J w M_Ref_go 84 [some (.ref x0), some (.int x1), some (.int x2), some (.int x3)] [] (pic Γ φ) n x 0 0 (fq Γ n (.inl none) q.2) := by
  unfold f_Ref_go_L84 at H
  refine J_aload_n d_Ref_go_84 rfl ?_
  refine J_iload_n d_Ref_go_85 rfl ?_
  refine J_iconst (v := 3) d_Ref_go_86 (by decide) ?_
  refine J_iadd d_Ref_go_87 ?_
  refine J_iload_n d_Ref_go_88 rfl ?_
  have g35 : Γ x0 = .inr 12 := by
    apply Classical.byContradiction
    intro q9
    rw [if_neg q9] at H
    cases H
  rw [if_pos g35] at H
  obtain ⟨q36, hq36, H⟩ := Option.bind_eq_some_iff.mp H
  refine J_callV (kc := 0) (ks := 0) (kc' := 0) (ks' := 0) (a := x0) (ci := 12) (as := [.int (x2 + (3 : Int32)), .int x3]) (st := []) (mf_Ref_goes hw) (mv_Ref_449 hw) d_Ref_go_89 ln_Ref_goes (by decide) (by first | exact Nat.le_of_ble_eq_true rfl | (simp only [List.map_cons, List.map_nil, List.sum_cons, List.sum_nil, va_rf_cat]; exact Nat.le_of_ble_eq_true rfl)) rfl ((hG _).1 _ g35 (by decide)).1 ((hG _).1 _ g35 (by decide)).2 (by unfold pic; rw [g35]; rfl) (jcl_at hw rfl) rfl (p_Ref_goes hw hG hq36) ?_ (fun E h' n' x' e1 => by cases e1.1)
  intro v9 h9 n9 x9 e9
  obtain ⟨e91, e92, e93⟩ := e9
  cases e91
  subst e92
  subst e93
  clear x
  rename Bool => x
  show J _ _ _ _ (_ :: _) _ _ _ _ _ _
  refine J_if_eq (tgt := 123) d_Ref_go_92 (by decide) ?_ ?_
  · intro c44
    rw [if_pos c44] at H
    refine J.drop [true, true, true, true] rfl ?_
    exact p_Ref_go_L123 hw hG  H
  · intro c44
    rw [if_neg c44] at H
    refine J_aload_n d_Ref_go_95 rfl ?_
    refine J_iload_n d_Ref_go_96 rfl ?_
    refine J_iload_n d_Ref_go_97 rfl ?_
    refine J_if_eq (tgt := 112) d_Ref_go_98 (by decide) ?_ ?_
    · intro c43
      rw [if_pos c43] at H
      refine J_aload_n d_Ref_go_112 rfl ?_
      refine F_getR (ci := 12) (k := 35) hG (cf_Ref hw) (fl_Ref_94 hw) (by decide) (by decide) rfl d_Ref_go_113 g35 ?_
      refine J_iload_n d_Ref_go_116 rfl ?_
      refine J_iconst (v := 3) d_Ref_go_117 (by decide) ?_
      refine J_iadd d_Ref_go_118 ?_
      obtain ⟨a37, ha37, H⟩ := Option.bind_eq_some_iff.mp H
      rw [j_rf ha37]
      obtain ⟨N38, hN38, H⟩ := Option.bind_eq_some_iff.mp H
      obtain ⟨k39, hk39, H⟩ := Option.bind_eq_some_iff.mp H
      refine F_lald k39 hw hG d_Ref_go_119 (gA_some hN38) (ix_some hk39) ?_
      refine J.drop [true, true, true, true] rfl ?_
      exact p_Ref_go_L120 hw hG  H
    · intro c43
      rw [if_neg c43] at H
      refine J_aload_n d_Ref_go_101 rfl ?_
      refine F_getR (ci := 12) (k := 100) hG (cf_Ref hw) (fl_Ref_280 hw) (by decide) (by decide) rfl d_Ref_go_102 g35 ?_
      refine J_iload_n d_Ref_go_105 rfl ?_
      refine J_iconst (v := 3) d_Ref_go_106 (by decide) ?_
      refine J_iadd d_Ref_go_107 ?_
      obtain ⟨a40, ha40, H⟩ := Option.bind_eq_some_iff.mp H
      rw [j_rf ha40]
      obtain ⟨N41, hN41, H⟩ := Option.bind_eq_some_iff.mp H
      obtain ⟨k42, hk42, H⟩ := Option.bind_eq_some_iff.mp H
      refine F_lald k42 hw hG d_Ref_go_108 (gA_some hN41) (ix_some hk42) ?_
      refine J_goto (tgt := 120) d_Ref_go_109 (by decide) ?_
      refine J.drop [true, true, true, true] rfl ?_
      exact p_Ref_go_L120 hw hG  H
def f_Ref_go_L78 (Γ : gm_T)  (φ : ph_T) (x0 : Nat) (x1 : Int32) (x2 : Int32) (x3 : Int32) (y0 : Int32) (y1 : Int32) (y2 : Nat) : Option (Unit × ph_T) :=
  @ite _ (Γ y2 = .inr 12) _ (
  Option.bind (f_Ref_goR Γ φ y2 y1 (y0 &&& (63 : Int32))) fun q46 =>
  f_Ref_go_L84 Γ  q46.2 x0 x1 x2 x3
  ) none
set_option maxRecDepth 100000 in
set_option maxHeartbeats 4000000 in
theorem p_Ref_go_L78 {w : jw_T} (hw : jok w) {Γ : gm_T} {n : Nat} (hG : gd w Γ n)  {x : Bool} {φ : ph_T} {x0 : Nat} {x1 : Int32} {x2 : Int32} {x3 : Int32} {y0 : Int32} {y1 : Int32} {y2 : Nat} {q : Unit × ph_T} (H : f_Ref_go_L78 Γ  φ x0 x1 x2 x3 y0 y1 y2 = some q) : J w M_Ref_go 78 [some (.ref x0), some (.int x1), some (.int x2), some (.int x3)] [.int y0, .int y1, .ref y2] (pic Γ φ) n x 0 0 (fq Γ n (.inl none) q.2) := by
  unfold f_Ref_go_L78 at H
  refine J_bipush (v := 63) d_Ref_go_78 (by decide) ?_
  refine J_iand d_Ref_go_80 ?_
  have g45 : Γ y2 = .inr 12 := by
    apply Classical.byContradiction
    intro q9
    rw [if_neg q9] at H
    cases H
  rw [if_pos g45] at H
  obtain ⟨q46, hq46, H⟩ := Option.bind_eq_some_iff.mp H
  refine J_callV (kc := 0) (ks := 0) (kc' := 0) (ks' := 0) (a := y2) (ci := 12) (as := [.int y1, .int (y0 &&& (63 : Int32))]) (st := []) (mf_Ref_goR hw) (mv_Ref_456 hw) d_Ref_go_81 ln_Ref_goR (by decide) (by first | exact Nat.le_of_ble_eq_true rfl | (simp only [List.map_cons, List.map_nil, List.sum_cons, List.sum_nil, va_rf_cat]; exact Nat.le_of_ble_eq_true rfl)) rfl ((hG _).1 _ g45 (by decide)).1 ((hG _).1 _ g45 (by decide)).2 (by unfold pic; rw [g45]; rfl) (jcl_at hw rfl) rfl (p_Ref_goR hw hG hq46) ?_ (fun E h' n' x' e1 => by cases e1.1)
  intro v9 h9 n9 x9 e9
  obtain ⟨e91, e92, e93⟩ := e9
  cases e91
  subst e92
  subst e93
  clear x
  rename Bool => x
  show J _ _ _ _ [] _ _ _ _ _ _
  refine J.drop [true, true, true, true] rfl ?_
  exact p_Ref_go_L84 hw hG  H
def f_Ref_go_L42 (Γ : gm_T)  (φ : ph_T) (x0 : Nat) (x1 : Int32) (x2 : Int32) (x3 : Int32) : Option (Unit × ph_T) :=
  @ite _ (Γ x0 = .inr 12) _ (
  Option.bind (f_Ref_goes Γ φ x0 (x2 + (4 : Int32)) x3) fun q48 =>
  if q48.1 = 0 then
    f_Ref_go_L84 Γ  q48.2 x0 x1 x2 x3
  else
    if x3 = 0 then
      Option.bind (q48.2.2.2 x0 36) fun a49 =>
      Option.bind (gA Γ a49 0) fun N50 =>
      Option.bind (ix (x2 + (4 : Int32)) N50) fun k51 =>
      f_Ref_go_L78 Γ  q48.2 x0 x1 x2 x3 (q48.2.1 a49 k51) x1 x0
    else
      Option.bind (q48.2.2.2 x0 101) fun a52 =>
      Option.bind (gA Γ a52 0) fun N53 =>
      Option.bind (ix (x2 + (4 : Int32)) N53) fun k54 =>
      f_Ref_go_L78 Γ  q48.2 x0 x1 x2 x3 (q48.2.1 a52 k54) x1 x0
  ) none
set_option maxRecDepth 100000 in
set_option maxHeartbeats 4000000 in
theorem p_Ref_go_L42 {w : jw_T} (hw : jok w) {Γ : gm_T} {n : Nat} (hG : gd w Γ n)  {x : Bool} {φ : ph_T} {x0 : Nat} {x1 : Int32} {x2 : Int32} {x3 : Int32} {q : Unit × ph_T} (H : f_Ref_go_L42 Γ  φ x0 x1 x2 x3 = some q) : J w M_Ref_go 42 [some (.ref x0), some (.int x1), some (.int x2), some (.int x3)] [] (pic Γ φ) n x 0 0 (fq Γ n (.inl none) q.2) := by
  unfold f_Ref_go_L42 at H
  refine J_aload_n d_Ref_go_42 rfl ?_
  refine J_iload_n d_Ref_go_43 rfl ?_
  refine J_iconst (v := 4) d_Ref_go_44 (by decide) ?_
  refine J_iadd d_Ref_go_45 ?_
  refine J_iload_n d_Ref_go_46 rfl ?_
  have g47 : Γ x0 = .inr 12 := by
    apply Classical.byContradiction
    intro q9
    rw [if_neg q9] at H
    cases H
  rw [if_pos g47] at H
  obtain ⟨q48, hq48, H⟩ := Option.bind_eq_some_iff.mp H
  refine J_callV (kc := 0) (ks := 0) (kc' := 0) (ks' := 0) (a := x0) (ci := 12) (as := [.int (x2 + (4 : Int32)), .int x3]) (st := []) (mf_Ref_goes hw) (mv_Ref_449 hw) d_Ref_go_47 ln_Ref_goes (by decide) (by first | exact Nat.le_of_ble_eq_true rfl | (simp only [List.map_cons, List.map_nil, List.sum_cons, List.sum_nil, va_rf_cat]; exact Nat.le_of_ble_eq_true rfl)) rfl ((hG _).1 _ g47 (by decide)).1 ((hG _).1 _ g47 (by decide)).2 (by unfold pic; rw [g47]; rfl) (jcl_at hw rfl) rfl (p_Ref_goes hw hG hq48) ?_ (fun E h' n' x' e1 => by cases e1.1)
  intro v9 h9 n9 x9 e9
  obtain ⟨e91, e92, e93⟩ := e9
  cases e91
  subst e92
  subst e93
  clear x
  rename Bool => x
  show J _ _ _ _ (_ :: _) _ _ _ _ _ _
  refine J_if_eq (tgt := 84) d_Ref_go_50 (by decide) ?_ ?_
  · intro c56
    rw [if_pos c56] at H
    refine J.drop [true, true, true, true] rfl ?_
    exact p_Ref_go_L84 hw hG  H
  · intro c56
    rw [if_neg c56] at H
    refine J_aload_n d_Ref_go_53 rfl ?_
    refine J_iload_n d_Ref_go_54 rfl ?_
    refine J_iload_n d_Ref_go_55 rfl ?_
    refine J_if_eq (tgt := 70) d_Ref_go_56 (by decide) ?_ ?_
    · intro c55
      rw [if_pos c55] at H
      refine J_aload_n d_Ref_go_70 rfl ?_
      refine F_getR (ci := 12) (k := 36) hG (cf_Ref hw) (fl_Ref_97 hw) (by decide) (by decide) rfl d_Ref_go_71 g47 ?_
      refine J_iload_n d_Ref_go_74 rfl ?_
      refine J_iconst (v := 4) d_Ref_go_75 (by decide) ?_
      refine J_iadd d_Ref_go_76 ?_
      obtain ⟨a49, ha49, H⟩ := Option.bind_eq_some_iff.mp H
      rw [j_rf ha49]
      obtain ⟨N50, hN50, H⟩ := Option.bind_eq_some_iff.mp H
      obtain ⟨k51, hk51, H⟩ := Option.bind_eq_some_iff.mp H
      refine F_iald k51 hw hG d_Ref_go_77 (gA_some hN50) (ix_some hk51) ?_
      refine J.drop [true, true, true, true] rfl ?_
      exact p_Ref_go_L78 hw hG  H
    · intro c55
      rw [if_neg c55] at H
      refine J_aload_n d_Ref_go_59 rfl ?_
      refine F_getR (ci := 12) (k := 101) hG (cf_Ref hw) (fl_Ref_283 hw) (by decide) (by decide) rfl d_Ref_go_60 g47 ?_
      refine J_iload_n d_Ref_go_63 rfl ?_
      refine J_iconst (v := 4) d_Ref_go_64 (by decide) ?_
      refine J_iadd d_Ref_go_65 ?_
      obtain ⟨a52, ha52, H⟩ := Option.bind_eq_some_iff.mp H
      rw [j_rf ha52]
      obtain ⟨N53, hN53, H⟩ := Option.bind_eq_some_iff.mp H
      obtain ⟨k54, hk54, H⟩ := Option.bind_eq_some_iff.mp H
      refine F_iald k54 hw hG d_Ref_go_66 (gA_some hN53) (ix_some hk54) ?_
      refine J_goto (tgt := 78) d_Ref_go_67 (by decide) ?_
      refine J.drop [true, true, true, true] rfl ?_
      exact p_Ref_go_L78 hw hG  H
def f_Ref_go_L36 (Γ : gm_T)  (φ : ph_T) (x0 : Nat) (x1 : Int32) (x2 : Int32) (x3 : Int32) (y0 : Int32) (y1 : Int32) (y2 : Nat) : Option (Unit × ph_T) :=
  @ite _ (Γ y2 = .inr 12) _ (
  Option.bind (f_Ref_goB Γ φ y2 y1 (y0 &&& (63 : Int32))) fun q58 =>
  f_Ref_go_L42 Γ  q58.2 x0 x1 x2 x3
  ) none
set_option maxRecDepth 100000 in
set_option maxHeartbeats 4000000 in
theorem p_Ref_go_L36 {w : jw_T} (hw : jok w) {Γ : gm_T} {n : Nat} (hG : gd w Γ n)  {x : Bool} {φ : ph_T} {x0 : Nat} {x1 : Int32} {x2 : Int32} {x3 : Int32} {y0 : Int32} {y1 : Int32} {y2 : Nat} {q : Unit × ph_T} (H : f_Ref_go_L36 Γ  φ x0 x1 x2 x3 y0 y1 y2 = some q) : J w M_Ref_go 36 [some (.ref x0), some (.int x1), some (.int x2), some (.int x3)] [.int y0, .int y1, .ref y2] (pic Γ φ) n x 0 0 (fq Γ n (.inl none) q.2) := by
  unfold f_Ref_go_L36 at H
  refine J_bipush (v := 63) d_Ref_go_36 (by decide) ?_
  refine J_iand d_Ref_go_38 ?_
  have g57 : Γ y2 = .inr 12 := by
    apply Classical.byContradiction
    intro q9
    rw [if_neg q9] at H
    cases H
  rw [if_pos g57] at H
  obtain ⟨q58, hq58, H⟩ := Option.bind_eq_some_iff.mp H
  refine J_callV (kc := 0) (ks := 0) (kc' := 0) (ks' := 0) (a := y2) (ci := 12) (as := [.int y1, .int (y0 &&& (63 : Int32))]) (st := []) (mf_Ref_goB hw) (mv_Ref_453 hw) d_Ref_go_39 ln_Ref_goB (by decide) (by first | exact Nat.le_of_ble_eq_true rfl | (simp only [List.map_cons, List.map_nil, List.sum_cons, List.sum_nil, va_rf_cat]; exact Nat.le_of_ble_eq_true rfl)) rfl ((hG _).1 _ g57 (by decide)).1 ((hG _).1 _ g57 (by decide)).2 (by unfold pic; rw [g57]; rfl) (jcl_at hw rfl) rfl (p_Ref_goB hw hG hq58) ?_ (fun E h' n' x' e1 => by cases e1.1)
  intro v9 h9 n9 x9 e9
  obtain ⟨e91, e92, e93⟩ := e9
  cases e91
  subst e92
  subst e93
  clear x
  rename Bool => x
  show J _ _ _ _ [] _ _ _ _ _ _
  refine J.drop [true, true, true, true] rfl ?_
  exact p_Ref_go_L42 hw hG  H
def f_Ref_go (Γ : gm_T) (φ : ph_T) (this : Nat) (p0 : Int32) (p1 : Int32) (p2 : Int32) : Option (Unit × ph_T) :=
  @ite _ (Γ this = .inr 12) _ (
  Option.bind (f_Ref_goes Γ φ this (p1 + (2 : Int32)) p2) fun q60 =>
  if q60.1 = 0 then
    f_Ref_go_L42 Γ  q60.2 this p0 p1 p2
  else
    if p2 = 0 then
      Option.bind (q60.2.2.2 this 36) fun a61 =>
      Option.bind (gA Γ a61 0) fun N62 =>
      Option.bind (ix (p1 + (2 : Int32)) N62) fun k63 =>
      f_Ref_go_L36 Γ  q60.2 this p0 p1 p2 (q60.2.1 a61 k63) p0 this
    else
      Option.bind (q60.2.2.2 this 101) fun a64 =>
      Option.bind (gA Γ a64 0) fun N65 =>
      Option.bind (ix (p1 + (2 : Int32)) N65) fun k66 =>
      f_Ref_go_L36 Γ  q60.2 this p0 p1 p2 (q60.2.1 a64 k66) p0 this
  ) none
set_option maxRecDepth 100000 in
set_option maxHeartbeats 4000000 in
theorem p_Ref_go {w : jw_T} (hw : jok w) {Γ : gm_T} {n : Nat} (hG : gd w Γ n) {x : Bool} {φ : ph_T} {this : Nat} {p0 : Int32} {p1 : Int32} {p2 : Int32} {q : Unit × ph_T} (H : f_Ref_go Γ φ this p0 p1 p2 = some q) : jc w M_Ref_go [.ref this, .int p0, .int p1, .int p2] (pic Γ φ) n x 0 0 (fq Γ n (.inl none) q.2) := by
  refine jc.of (by simp only [jent_r, jent_i, jent_l, jent_a, jent_0]; exact Nat.le_of_ble_eq_true rfl) ?_
  have hls : jents [.ref this, .int p0, .int p1, .int p2] (jm_nL M_Ref_go) = [some (.ref this), some (.int p0), some (.int p1), some (.int p2)] := by simp only [jents, jent_r, jent_i, jent_l, jent_a, jent_0]; rfl
  rw [hls]
  clear hls
  unfold f_Ref_go at H
  refine J_aload_n d_Ref_go_0 rfl ?_
  refine J_iload_n d_Ref_go_1 rfl ?_
  refine J_iconst (v := 2) d_Ref_go_2 (by decide) ?_
  refine J_iadd d_Ref_go_3 ?_
  refine J_iload_n d_Ref_go_4 rfl ?_
  have g59 : Γ this = .inr 12 := by
    apply Classical.byContradiction
    intro q9
    rw [if_neg q9] at H
    cases H
  rw [if_pos g59] at H
  obtain ⟨q60, hq60, H⟩ := Option.bind_eq_some_iff.mp H
  refine J_callV (kc := 0) (ks := 0) (kc' := 0) (ks' := 0) (a := this) (ci := 12) (as := [.int (p1 + (2 : Int32)), .int p2]) (st := []) (mf_Ref_goes hw) (mv_Ref_449 hw) d_Ref_go_5 ln_Ref_goes (by decide) (by first | exact Nat.le_of_ble_eq_true rfl | (simp only [List.map_cons, List.map_nil, List.sum_cons, List.sum_nil, va_rf_cat]; exact Nat.le_of_ble_eq_true rfl)) rfl ((hG _).1 _ g59 (by decide)).1 ((hG _).1 _ g59 (by decide)).2 (by unfold pic; rw [g59]; rfl) (jcl_at hw rfl) rfl (p_Ref_goes hw hG hq60) ?_ (fun E h' n' x' e1 => by cases e1.1)
  intro v9 h9 n9 x9 e9
  obtain ⟨e91, e92, e93⟩ := e9
  cases e91
  subst e92
  subst e93
  clear x
  rename Bool => x
  show J _ _ _ _ (_ :: _) _ _ _ _ _ _
  refine J_if_eq (tgt := 42) d_Ref_go_8 (by decide) ?_ ?_
  · intro c68
    rw [if_pos c68] at H
    refine J.drop [true, true, true, true] rfl ?_
    exact p_Ref_go_L42 hw hG  H
  · intro c68
    rw [if_neg c68] at H
    refine J_aload_n d_Ref_go_11 rfl ?_
    refine J_iload_n d_Ref_go_12 rfl ?_
    refine J_iload_n d_Ref_go_13 rfl ?_
    refine J_if_eq (tgt := 28) d_Ref_go_14 (by decide) ?_ ?_
    · intro c67
      rw [if_pos c67] at H
      refine J_aload_n d_Ref_go_28 rfl ?_
      refine F_getR (ci := 12) (k := 36) hG (cf_Ref hw) (fl_Ref_97 hw) (by decide) (by decide) rfl d_Ref_go_29 g59 ?_
      refine J_iload_n d_Ref_go_32 rfl ?_
      refine J_iconst (v := 2) d_Ref_go_33 (by decide) ?_
      refine J_iadd d_Ref_go_34 ?_
      obtain ⟨a61, ha61, H⟩ := Option.bind_eq_some_iff.mp H
      rw [j_rf ha61]
      obtain ⟨N62, hN62, H⟩ := Option.bind_eq_some_iff.mp H
      obtain ⟨k63, hk63, H⟩ := Option.bind_eq_some_iff.mp H
      refine F_iald k63 hw hG d_Ref_go_35 (gA_some hN62) (ix_some hk63) ?_
      refine J.drop [true, true, true, true] rfl ?_
      exact p_Ref_go_L36 hw hG  H
    · intro c67
      rw [if_neg c67] at H
      refine J_aload_n d_Ref_go_17 rfl ?_
      refine F_getR (ci := 12) (k := 101) hG (cf_Ref hw) (fl_Ref_283 hw) (by decide) (by decide) rfl d_Ref_go_18 g59 ?_
      refine J_iload_n d_Ref_go_21 rfl ?_
      refine J_iconst (v := 2) d_Ref_go_22 (by decide) ?_
      refine J_iadd d_Ref_go_23 ?_
      obtain ⟨a64, ha64, H⟩ := Option.bind_eq_some_iff.mp H
      rw [j_rf ha64]
      obtain ⟨N65, hN65, H⟩ := Option.bind_eq_some_iff.mp H
      obtain ⟨k66, hk66, H⟩ := Option.bind_eq_some_iff.mp H
      refine F_iald k66 hw hG d_Ref_go_24 (gA_some hN65) (ix_some hk66) ?_
      refine J_goto (tgt := 36) d_Ref_go_25 (by decide) ?_
      refine J.drop [true, true, true, true] rfl ?_
      exact p_Ref_go_L36 hw hG  H
theorem ln_Ref_watch : (parseMethodDescriptor y_Ref_watch.desc).map (fun q => q.parameters.length) = some 3 := by decide +kernel
def f_Ref_watch_L286 (Γ : gm_T) (Kc129 : ph_T → Nat → Int32 → Int32 → Int32 → Int32 → Option (Unit × ph_T)) (φ : ph_T) (x0 : Nat) (x1 : Int32) (x2 : Int32) (x3 : Int32) (x4 : Int32) (y0 : Int32) (y1 : Int32) (y2 : Option Nat) : Option (Unit × ph_T) :=
  Option.bind y2 fun a1 =>
  Option.bind (gA Γ a1 0) fun N2 =>
  Option.bind (ix y1 N2) fun k3 =>
  Kc129 (uI φ a1 k3 y0) x0 x1 x2 x3 (x4 + (1 : Int32))
set_option maxRecDepth 100000 in
set_option maxHeartbeats 4000000 in
theorem p_Ref_watch_L286 {w : jw_T} (hw : jok w) {Γ : gm_T} {n : Nat} (hG : gd w Γ n) {Kc129 : ph_T → Nat → Int32 → Int32 → Int32 → Int32 → Option (Unit × ph_T)} (hKc129 : ∀ {x : Bool} {φ : ph_T} {x0 : Nat} {x1 : Int32} {x2 : Int32} {x3 : Int32} {x4 : Int32} {q : Unit × ph_T}, Kc129 φ x0 x1 x2 x3 x4 = some q → J w M_Ref_watch 129 [some (.ref x0), some (.int x1), some (.int x2), some (.int x3), some (.int x4), none, none] [] (pic Γ φ) n x 0 0 (fq Γ n (.inl none) q.2)) {x : Bool} {φ : ph_T} {x0 : Nat} {x1 : Int32} {x2 : Int32} {x3 : Int32} {x4 : Int32} {y0 : Int32} {y1 : Int32} {y2 : Option Nat} {q : Unit × ph_T} (H : f_Ref_watch_L286 Γ Kc129 φ x0 x1 x2 x3 x4 y0 y1 y2 = some q) : J w M_Ref_watch 286 [some (.ref x0), some (.int x1), some (.int x2), some (.int x3), some (.int x4), none, none] [.int y0, .int y1, va_rf y2] (pic Γ φ) n x 0 0 (fq Γ n (.inl none) q.2) := by
  unfold f_Ref_watch_L286 at H
  obtain ⟨a1, ha1, H⟩ := Option.bind_eq_some_iff.mp H
  rw [j_rf ha1]
  obtain ⟨N2, hN2, H⟩ := Option.bind_eq_some_iff.mp H
  obtain ⟨k3, hk3, H⟩ := Option.bind_eq_some_iff.mp H
  refine F_iast k3 hw hG d_Ref_watch_286 (gA_some hN2) (ix_some hk3) ?_
  refine J_iinc (v := x4 + 1) d_Ref_watch_287 rfl (by rw [show Int32.ofInt 1 = (1 : Int32) from by decide]) ?_
  refine J_goto (tgt := 129) d_Ref_watch_290 (by decide) ?_
  refine J.drop [true, true, true, true, true, false, false] rfl ?_
  exact hKc129 H
def f_Ref_watch_L250 (Γ : gm_T) (Kc129 : ph_T → Nat → Int32 → Int32 → Int32 → Int32 → Option (Unit × ph_T)) (φ : ph_T) (x0 : Nat) (x1 : Int32) (x2 : Int32) (x3 : Int32) (x4 : Int32) (y0 : Int64) (y1 : Int32) (y2 : Option Nat) : Option (Unit × ph_T) :=
  Option.bind y2 fun a4 =>
  Option.bind (gA Γ a4 1) fun N5 =>
  Option.bind (ix y1 N5) fun k6 =>
  @ite _ (Γ x0 = .inr 12) _ (
  if x3 = 0 then
    Option.bind ((uL φ a4 k6 y0).2.2 x0 36) fun a8 =>
    Option.bind (gA Γ a8 0) fun N9 =>
    Option.bind (ix (x2 + x4) N9) fun k10 =>
    f_Ref_watch_L286 Γ Kc129 (uL φ a4 k6 y0) x0 x1 x2 x3 x4 ((uL φ a4 k6 y0).1 a8 k10) (((5 : Int32) * x1) + x4) ((uL φ a4 k6 y0).2.2 x0 84)
  else
    Option.bind ((uL φ a4 k6 y0).2.2 x0 101) fun a11 =>
    Option.bind (gA Γ a11 0) fun N12 =>
    Option.bind (ix (x2 + x4) N12) fun k13 =>
    f_Ref_watch_L286 Γ Kc129 (uL φ a4 k6 y0) x0 x1 x2 x3 x4 ((uL φ a4 k6 y0).1 a11 k13) (((5 : Int32) * x1) + x4) ((uL φ a4 k6 y0).2.2 x0 84)
  ) none
set_option maxRecDepth 100000 in
set_option maxHeartbeats 4000000 in
theorem p_Ref_watch_L250 {w : jw_T} (hw : jok w) {Γ : gm_T} {n : Nat} (hG : gd w Γ n) {Kc129 : ph_T → Nat → Int32 → Int32 → Int32 → Int32 → Option (Unit × ph_T)} (hKc129 : ∀ {x : Bool} {φ : ph_T} {x0 : Nat} {x1 : Int32} {x2 : Int32} {x3 : Int32} {x4 : Int32} {q : Unit × ph_T}, Kc129 φ x0 x1 x2 x3 x4 = some q → J w M_Ref_watch 129 [some (.ref x0), some (.int x1), some (.int x2), some (.int x3), some (.int x4), none, none] [] (pic Γ φ) n x 0 0 (fq Γ n (.inl none) q.2)) {x : Bool} {φ : ph_T} {x0 : Nat} {x1 : Int32} {x2 : Int32} {x3 : Int32} {x4 : Int32} {y0 : Int64} {y1 : Int32} {y2 : Option Nat} {q : Unit × ph_T} (H : f_Ref_watch_L250 Γ Kc129 φ x0 x1 x2 x3 x4 y0 y1 y2 = some q) : J w M_Ref_watch 250 [some (.ref x0), some (.int x1), some (.int x2), some (.int x3), some (.int x4), none, none] [.long y0, .int y1, va_rf y2] (pic Γ φ) n x 0 0 (fq Γ n (.inl none) q.2) := by
  unfold f_Ref_watch_L250 at H
  obtain ⟨a4, ha4, H⟩ := Option.bind_eq_some_iff.mp H
  rw [j_rf ha4]
  obtain ⟨N5, hN5, H⟩ := Option.bind_eq_some_iff.mp H
  obtain ⟨k6, hk6, H⟩ := Option.bind_eq_some_iff.mp H
  refine F_last k6 hw hG d_Ref_watch_250 (gA_some hN5) (ix_some hk6) ?_
  refine J_aload_n d_Ref_watch_251 rfl ?_
  have g7 : Γ x0 = .inr 12 := by
    apply Classical.byContradiction
    intro q9
    rw [if_neg q9] at H
    cases H
  rw [if_pos g7] at H
  refine F_getR (ci := 12) (k := 84) hG (cf_Ref hw) (fl_Ref_232 hw) (by decide) (by decide) rfl d_Ref_watch_252 g7 ?_
  refine J_iconst (v := 5) d_Ref_watch_255 (by decide) ?_
  refine J_iload_n d_Ref_watch_256 rfl ?_
  refine J_imul d_Ref_watch_257 ?_
  refine J_iload d_Ref_watch_258 rfl ?_
  refine J_iadd d_Ref_watch_260 ?_
  refine J_iload_n d_Ref_watch_261 rfl ?_
  refine J_if_eq (tgt := 277) d_Ref_watch_262 (by decide) ?_ ?_
  · intro c14
    rw [if_pos c14] at H
    refine J_aload_n d_Ref_watch_277 rfl ?_
    refine F_getR (ci := 12) (k := 36) hG (cf_Ref hw) (fl_Ref_97 hw) (by decide) (by decide) rfl d_Ref_watch_278 g7 ?_
    refine J_iload_n d_Ref_watch_281 rfl ?_
    refine J_iload d_Ref_watch_282 rfl ?_
    refine J_iadd d_Ref_watch_284 ?_
    obtain ⟨a8, ha8, H⟩ := Option.bind_eq_some_iff.mp H
    rw [j_rf ha8]
    obtain ⟨N9, hN9, H⟩ := Option.bind_eq_some_iff.mp H
    obtain ⟨k10, hk10, H⟩ := Option.bind_eq_some_iff.mp H
    refine F_iald k10 hw hG d_Ref_watch_285 (gA_some hN9) (ix_some hk10) ?_
    refine J.drop [true, true, true, true, true, false, false] rfl ?_
    exact p_Ref_watch_L286 hw hG hKc129 H
  · intro c14
    rw [if_neg c14] at H
    refine J_aload_n d_Ref_watch_265 rfl ?_
    refine F_getR (ci := 12) (k := 101) hG (cf_Ref hw) (fl_Ref_283 hw) (by decide) (by decide) rfl d_Ref_watch_266 g7 ?_
    refine J_iload_n d_Ref_watch_269 rfl ?_
    refine J_iload d_Ref_watch_270 rfl ?_
    refine J_iadd d_Ref_watch_272 ?_
    obtain ⟨a11, ha11, H⟩ := Option.bind_eq_some_iff.mp H
    rw [j_rf ha11]
    obtain ⟨N12, hN12, H⟩ := Option.bind_eq_some_iff.mp H
    obtain ⟨k13, hk13, H⟩ := Option.bind_eq_some_iff.mp H
    refine F_iald k13 hw hG d_Ref_watch_273 (gA_some hN12) (ix_some hk13) ?_
    refine J_goto (tgt := 286) d_Ref_watch_274 (by decide) ?_
    refine J.drop [true, true, true, true, true, false, false] rfl ?_
    exact p_Ref_watch_L286 hw hG hKc129 H
def f_Ref_watch_L214 (Γ : gm_T) (Kc129 : ph_T → Nat → Int32 → Int32 → Int32 → Int32 → Option (Unit × ph_T)) (φ : ph_T) (x0 : Nat) (x1 : Int32) (x2 : Int32) (x3 : Int32) (x4 : Int32) (y0 : Int32) (y1 : Int32) (y2 : Option Nat) : Option (Unit × ph_T) :=
  Option.bind y2 fun a15 =>
  Option.bind (gA Γ a15 2) fun N16 =>
  Option.bind (ix y1 N16) fun k17 =>
  @ite _ (y0 = 0 ∨ y0 = 1) _ (
  @ite _ (Γ x0 = .inr 12) _ (
  if x3 = 0 then
    Option.bind ((uI φ a15 k17 y0).2.2 x0 35) fun a20 =>
    Option.bind (gA Γ a20 1) fun N21 =>
    Option.bind (ix (x2 + x4) N21) fun k22 =>
    f_Ref_watch_L250 Γ Kc129 (uI φ a15 k17 y0) x0 x1 x2 x3 x4 ((uI φ a15 k17 y0).2.1 a20 k22) (((5 : Int32) * x1) + x4) ((uI φ a15 k17 y0).2.2 x0 83)
  else
    Option.bind ((uI φ a15 k17 y0).2.2 x0 100) fun a23 =>
    Option.bind (gA Γ a23 1) fun N24 =>
    Option.bind (ix (x2 + x4) N24) fun k25 =>
    f_Ref_watch_L250 Γ Kc129 (uI φ a15 k17 y0) x0 x1 x2 x3 x4 ((uI φ a15 k17 y0).2.1 a23 k25) (((5 : Int32) * x1) + x4) ((uI φ a15 k17 y0).2.2 x0 83)
  ) none
  ) none
set_option maxRecDepth 100000 in
set_option maxHeartbeats 4000000 in
theorem p_Ref_watch_L214 {w : jw_T} (hw : jok w) {Γ : gm_T} {n : Nat} (hG : gd w Γ n) {Kc129 : ph_T → Nat → Int32 → Int32 → Int32 → Int32 → Option (Unit × ph_T)} (hKc129 : ∀ {x : Bool} {φ : ph_T} {x0 : Nat} {x1 : Int32} {x2 : Int32} {x3 : Int32} {x4 : Int32} {q : Unit × ph_T}, Kc129 φ x0 x1 x2 x3 x4 = some q → J w M_Ref_watch 129 [some (.ref x0), some (.int x1), some (.int x2), some (.int x3), some (.int x4), none, none] [] (pic Γ φ) n x 0 0 (fq Γ n (.inl none) q.2)) {x : Bool} {φ : ph_T} {x0 : Nat} {x1 : Int32} {x2 : Int32} {x3 : Int32} {x4 : Int32} {y0 : Int32} {y1 : Int32} {y2 : Option Nat} {q : Unit × ph_T} (H : f_Ref_watch_L214 Γ Kc129 φ x0 x1 x2 x3 x4 y0 y1 y2 = some q) : J w M_Ref_watch 214 [some (.ref x0), some (.int x1), some (.int x2), some (.int x3), some (.int x4), none, none] [.int y0, .int y1, va_rf y2] (pic Γ φ) n x 0 0 (fq Γ n (.inl none) q.2) := by
  unfold f_Ref_watch_L214 at H
  obtain ⟨a15, ha15, H⟩ := Option.bind_eq_some_iff.mp H
  rw [j_rf ha15]
  obtain ⟨N16, hN16, H⟩ := Option.bind_eq_some_iff.mp H
  obtain ⟨k17, hk17, H⟩ := Option.bind_eq_some_iff.mp H
  have z18 : y0 = 0 ∨ y0 = 1 := by
    apply Classical.byContradiction
    intro q9
    rw [if_neg q9] at H
    cases H
  rw [if_pos z18] at H
  refine F_zast k17 hw hG d_Ref_watch_214 (gA_some hN16) (ix_some hk17) z18 ?_
  refine J_aload_n d_Ref_watch_215 rfl ?_
  have g19 : Γ x0 = .inr 12 := by
    apply Classical.byContradiction
    intro q9
    rw [if_neg q9] at H
    cases H
  rw [if_pos g19] at H
  refine F_getR (ci := 12) (k := 83) hG (cf_Ref hw) (fl_Ref_229 hw) (by decide) (by decide) rfl d_Ref_watch_216 g19 ?_
  refine J_iconst (v := 5) d_Ref_watch_219 (by decide) ?_
  refine J_iload_n d_Ref_watch_220 rfl ?_
  refine J_imul d_Ref_watch_221 ?_
  refine J_iload d_Ref_watch_222 rfl ?_
  refine J_iadd d_Ref_watch_224 ?_
  refine J_iload_n d_Ref_watch_225 rfl ?_
  refine J_if_eq (tgt := 241) d_Ref_watch_226 (by decide) ?_ ?_
  · intro c26
    rw [if_pos c26] at H
    refine J_aload_n d_Ref_watch_241 rfl ?_
    refine F_getR (ci := 12) (k := 35) hG (cf_Ref hw) (fl_Ref_94 hw) (by decide) (by decide) rfl d_Ref_watch_242 g19 ?_
    refine J_iload_n d_Ref_watch_245 rfl ?_
    refine J_iload d_Ref_watch_246 rfl ?_
    refine J_iadd d_Ref_watch_248 ?_
    obtain ⟨a20, ha20, H⟩ := Option.bind_eq_some_iff.mp H
    rw [j_rf ha20]
    obtain ⟨N21, hN21, H⟩ := Option.bind_eq_some_iff.mp H
    obtain ⟨k22, hk22, H⟩ := Option.bind_eq_some_iff.mp H
    refine F_lald k22 hw hG d_Ref_watch_249 (gA_some hN21) (ix_some hk22) ?_
    refine J.drop [true, true, true, true, true, false, false] rfl ?_
    exact p_Ref_watch_L250 hw hG hKc129 H
  · intro c26
    rw [if_neg c26] at H
    refine J_aload_n d_Ref_watch_229 rfl ?_
    refine F_getR (ci := 12) (k := 100) hG (cf_Ref hw) (fl_Ref_280 hw) (by decide) (by decide) rfl d_Ref_watch_230 g19 ?_
    refine J_iload_n d_Ref_watch_233 rfl ?_
    refine J_iload d_Ref_watch_234 rfl ?_
    refine J_iadd d_Ref_watch_236 ?_
    obtain ⟨a23, ha23, H⟩ := Option.bind_eq_some_iff.mp H
    rw [j_rf ha23]
    obtain ⟨N24, hN24, H⟩ := Option.bind_eq_some_iff.mp H
    obtain ⟨k25, hk25, H⟩ := Option.bind_eq_some_iff.mp H
    refine F_lald k25 hw hG d_Ref_watch_237 (gA_some hN24) (ix_some hk25) ?_
    refine J_goto (tgt := 250) d_Ref_watch_238 (by decide) ?_
    refine J.drop [true, true, true, true, true, false, false] rfl ?_
    exact p_Ref_watch_L250 hw hG hKc129 H
def f_Ref_watch_L213 (Γ : gm_T) (Kc129 : ph_T → Nat → Int32 → Int32 → Int32 → Int32 → Option (Unit × ph_T)) (φ : ph_T) (x0 : Nat) (x1 : Int32) (x2 : Int32) (x3 : Int32) (x4 : Int32) (y0 : Int32) (y1 : Option Nat) : Option (Unit × ph_T) :=
  f_Ref_watch_L214 Γ Kc129 φ x0 x1 x2 x3 x4 (0 : Int32) y0 y1
set_option maxRecDepth 100000 in
set_option maxHeartbeats 4000000 in
theorem p_Ref_watch_L213 {w : jw_T} (hw : jok w) {Γ : gm_T} {n : Nat} (hG : gd w Γ n) {Kc129 : ph_T → Nat → Int32 → Int32 → Int32 → Int32 → Option (Unit × ph_T)} (hKc129 : ∀ {x : Bool} {φ : ph_T} {x0 : Nat} {x1 : Int32} {x2 : Int32} {x3 : Int32} {x4 : Int32} {q : Unit × ph_T}, Kc129 φ x0 x1 x2 x3 x4 = some q → J w M_Ref_watch 129 [some (.ref x0), some (.int x1), some (.int x2), some (.int x3), some (.int x4), none, none] [] (pic Γ φ) n x 0 0 (fq Γ n (.inl none) q.2)) {x : Bool} {φ : ph_T} {x0 : Nat} {x1 : Int32} {x2 : Int32} {x3 : Int32} {x4 : Int32} {y0 : Int32} {y1 : Option Nat} {q : Unit × ph_T} (H : f_Ref_watch_L213 Γ Kc129 φ x0 x1 x2 x3 x4 y0 y1 = some q) : J w M_Ref_watch 213 [some (.ref x0), some (.int x1), some (.int x2), some (.int x3), some (.int x4), none, none] [.int y0, va_rf y1] (pic Γ φ) n x 0 0 (fq Γ n (.inl none) q.2) := by
  unfold f_Ref_watch_L213 at H
  refine J_iconst (v := 0) d_Ref_watch_213 (by decide) ?_
  refine J.drop [true, true, true, true, true, false, false] rfl ?_
  exact p_Ref_watch_L214 hw hG hKc129 H
def f_Ref_watch_L187 (Γ : gm_T) (Kc129 : ph_T → Nat → Int32 → Int32 → Int32 → Int32 → Option (Unit × ph_T)) (φ : ph_T) (x0 : Nat) (x1 : Int32) (x2 : Int32) (x3 : Int32) (x4 : Int32) (x5 : Int32) (y0 : Int32) : Option (Unit × ph_T) :=
  @ite _ (Γ x0 = .inr 12) _ (
  if x5 = 0 then
    f_Ref_watch_L213 Γ Kc129 φ x0 x1 x2 x3 x4 (((5 : Int32) * x1) + x4) (φ.2.2 x0 82)
  else
    if y0 = 0 then
      f_Ref_watch_L214 Γ Kc129 φ x0 x1 x2 x3 x4 (1 : Int32) (((5 : Int32) * x1) + x4) (φ.2.2 x0 82)
    else
      f_Ref_watch_L213 Γ Kc129 φ x0 x1 x2 x3 x4 (((5 : Int32) * x1) + x4) (φ.2.2 x0 82)
  ) none
set_option maxRecDepth 100000 in
set_option maxHeartbeats 4000000 in
theorem p_Ref_watch_L187 {w : jw_T} (hw : jok w) {Γ : gm_T} {n : Nat} (hG : gd w Γ n) {Kc129 : ph_T → Nat → Int32 → Int32 → Int32 → Int32 → Option (Unit × ph_T)} (hKc129 : ∀ {x : Bool} {φ : ph_T} {x0 : Nat} {x1 : Int32} {x2 : Int32} {x3 : Int32} {x4 : Int32} {q : Unit × ph_T}, Kc129 φ x0 x1 x2 x3 x4 = some q → J w M_Ref_watch 129 [some (.ref x0), some (.int x1), some (.int x2), some (.int x3), some (.int x4), none, none] [] (pic Γ φ) n x 0 0 (fq Γ n (.inl none) q.2)) {x : Bool} {φ : ph_T} {x0 : Nat} {x1 : Int32} {x2 : Int32} {x3 : Int32} {x4 : Int32} {x5 : Int32} {y0 : Int32} {q : Unit × ph_T} (H : f_Ref_watch_L187 Γ Kc129 φ x0 x1 x2 x3 x4 x5 y0 = some q) : J w M_Ref_watch 187 [some (.ref x0), some (.int x1), some (.int x2), some (.int x3), some (.int x4), some (.int x5), none] [.int y0] (pic Γ φ) n x 0 0 (fq Γ n (.inl none) q.2) := by
  unfold f_Ref_watch_L187 at H
  refine J_istore d_Ref_watch_187 (Nat.le_of_ble_eq_true rfl) ?_
  refine J_aload_n d_Ref_watch_189 rfl ?_
  have g27 : Γ x0 = .inr 12 := by
    apply Classical.byContradiction
    intro q9
    rw [if_neg q9] at H
    cases H
  rw [if_pos g27] at H
  refine F_getR (ci := 12) (k := 82) hG (cf_Ref hw) (fl_Ref_226 hw) (by decide) (by decide) rfl d_Ref_watch_190 g27 ?_
  refine J_iconst (v := 5) d_Ref_watch_193 (by decide) ?_
  refine J_iload_n d_Ref_watch_194 rfl ?_
  refine J_imul d_Ref_watch_195 ?_
  refine J_iload d_Ref_watch_196 rfl ?_
  refine J_iadd d_Ref_watch_198 ?_
  refine J_iload d_Ref_watch_199 rfl ?_
  refine J_if_eq (tgt := 213) d_Ref_watch_201 (by decide) ?_ ?_
  · intro c29
    rw [if_pos c29] at H
    refine J.drop [true, true, true, true, true, false, false] rfl ?_
    exact p_Ref_watch_L213 hw hG hKc129 H
  · intro c29
    rw [if_neg c29] at H
    refine J_iload d_Ref_watch_204 rfl ?_
    refine J_if_ne (tgt := 213) d_Ref_watch_206 (by decide) ?_ ?_
    · intro c28
      rw [if_neg c28] at H
      refine J.drop [true, true, true, true, true, false, false] rfl ?_
      exact p_Ref_watch_L213 hw hG hKc129 H
    · intro c28
      rw [if_pos c28] at H
      refine J_iconst (v := 1) d_Ref_watch_209 (by decide) ?_
      refine J_goto (tgt := 214) d_Ref_watch_210 (by decide) ?_
      refine J.drop [true, true, true, true, true, false, false] rfl ?_
      exact p_Ref_watch_L214 hw hG hKc129 H
def f_Ref_watch_L160 (Γ : gm_T) (Kc129 : ph_T → Nat → Int32 → Int32 → Int32 → Int32 → Option (Unit × ph_T)) (φ : ph_T) (x0 : Nat) (x1 : Int32) (x2 : Int32) (x3 : Int32) (x4 : Int32) (y0 : Int32) : Option (Unit × ph_T) :=
  if x3 = 0 then
    @ite _ (Γ x0 = .inr 12) _ (
    Option.bind (φ.2.2 x0 34) fun a31 =>
    Option.bind (gA Γ a31 2) fun N32 =>
    Option.bind (ix (x2 + x4) N32) fun k33 =>
    f_Ref_watch_L187 Γ Kc129 φ x0 x1 x2 x3 x4 y0 (φ.1 a31 k33)
    ) none
  else
    @ite _ (Γ x0 = .inr 12) _ (
    Option.bind (φ.2.2 x0 99) fun a35 =>
    Option.bind (gA Γ a35 2) fun N36 =>
    Option.bind (ix (x2 + x4) N36) fun k37 =>
    f_Ref_watch_L187 Γ Kc129 φ x0 x1 x2 x3 x4 y0 (φ.1 a35 k37)
    ) none
set_option maxRecDepth 100000 in
set_option maxHeartbeats 4000000 in
theorem p_Ref_watch_L160 {w : jw_T} (hw : jok w) {Γ : gm_T} {n : Nat} (hG : gd w Γ n) {Kc129 : ph_T → Nat → Int32 → Int32 → Int32 → Int32 → Option (Unit × ph_T)} (hKc129 : ∀ {x : Bool} {φ : ph_T} {x0 : Nat} {x1 : Int32} {x2 : Int32} {x3 : Int32} {x4 : Int32} {q : Unit × ph_T}, Kc129 φ x0 x1 x2 x3 x4 = some q → J w M_Ref_watch 129 [some (.ref x0), some (.int x1), some (.int x2), some (.int x3), some (.int x4), none, none] [] (pic Γ φ) n x 0 0 (fq Γ n (.inl none) q.2)) {x : Bool} {φ : ph_T} {x0 : Nat} {x1 : Int32} {x2 : Int32} {x3 : Int32} {x4 : Int32} {y0 : Int32} {q : Unit × ph_T} (H : f_Ref_watch_L160 Γ Kc129 φ x0 x1 x2 x3 x4 y0 = some q) : J w M_Ref_watch 160 [some (.ref x0), some (.int x1), some (.int x2), some (.int x3), some (.int x4), none, none] [.int y0] (pic Γ φ) n x 0 0 (fq Γ n (.inl none) q.2) := by
  unfold f_Ref_watch_L160 at H
  refine J_istore d_Ref_watch_160 (Nat.le_of_ble_eq_true rfl) ?_
  refine J_iload_n d_Ref_watch_162 rfl ?_
  refine J_if_eq (tgt := 178) d_Ref_watch_163 (by decide) ?_ ?_
  · intro c38
    rw [if_pos c38] at H
    refine J_aload_n d_Ref_watch_178 rfl ?_
    have g30 : Γ x0 = .inr 12 := by
      apply Classical.byContradiction
      intro q9
      rw [if_neg q9] at H
      cases H
    rw [if_pos g30] at H
    refine F_getR (ci := 12) (k := 34) hG (cf_Ref hw) (fl_Ref_91 hw) (by decide) (by decide) rfl d_Ref_watch_179 g30 ?_
    refine J_iload_n d_Ref_watch_182 rfl ?_
    refine J_iload d_Ref_watch_183 rfl ?_
    refine J_iadd d_Ref_watch_185 ?_
    obtain ⟨a31, ha31, H⟩ := Option.bind_eq_some_iff.mp H
    rw [j_rf ha31]
    obtain ⟨N32, hN32, H⟩ := Option.bind_eq_some_iff.mp H
    obtain ⟨k33, hk33, H⟩ := Option.bind_eq_some_iff.mp H
    refine F_zald k33 hw hG d_Ref_watch_186 (gA_some hN32) (ix_some hk33) ?_
    refine J.drop [true, true, true, true, true, true, false] rfl ?_
    exact p_Ref_watch_L187 hw hG hKc129 H
  · intro c38
    rw [if_neg c38] at H
    refine J_aload_n d_Ref_watch_166 rfl ?_
    have g34 : Γ x0 = .inr 12 := by
      apply Classical.byContradiction
      intro q9
      rw [if_neg q9] at H
      cases H
    rw [if_pos g34] at H
    refine F_getR (ci := 12) (k := 99) hG (cf_Ref hw) (fl_Ref_277 hw) (by decide) (by decide) rfl d_Ref_watch_167 g34 ?_
    refine J_iload_n d_Ref_watch_170 rfl ?_
    refine J_iload d_Ref_watch_171 rfl ?_
    refine J_iadd d_Ref_watch_173 ?_
    obtain ⟨a35, ha35, H⟩ := Option.bind_eq_some_iff.mp H
    rw [j_rf ha35]
    obtain ⟨N36, hN36, H⟩ := Option.bind_eq_some_iff.mp H
    obtain ⟨k37, hk37, H⟩ := Option.bind_eq_some_iff.mp H
    refine F_zald k37 hw hG d_Ref_watch_174 (gA_some hN36) (ix_some hk37) ?_
    refine J_goto (tgt := 187) d_Ref_watch_175 (by decide) ?_
    refine J.drop [true, true, true, true, true, true, false] rfl ?_
    exact p_Ref_watch_L187 hw hG hKc129 H
def f_Ref_watch_L129 (Γ : gm_T)  : Nat → ph_T → Nat → Int32 → Int32 → Int32 → Int32 → Option (Unit × ph_T)
  | 0, _, _, _, _, _, _ => none
  | fu + 1, φ, x0, x1, x2, x3, x4 =>
    if (5 : Int32) ≤ x4 then
      @ite _ (Γ x0 = .inr 12) _ (
      Option.bind (φ.2.2 x0 85) fun a40 =>
      Option.bind (gA Γ a40 0) fun N41 =>
      Option.bind (ix x1 N41) fun k42 =>
      Option.bind (gA Γ a40 0) fun N43 =>
      Option.bind (ix x1 N43) fun k44 =>
      some ((), (uI φ a40 k44 ((φ.1 a40 k42) + (1 : Int32))))
      ) none
    else
      if x3 = 0 then
        @ite _ (Γ x0 = .inr 12) _ (
        Option.bind (φ.2.2 x0 33) fun a46 =>
        Option.bind (gA Γ a46 2) fun N47 =>
        Option.bind (ix (x2 + x4) N47) fun k48 =>
        f_Ref_watch_L160 Γ (f_Ref_watch_L129 Γ  fu) φ x0 x1 x2 x3 x4 (φ.1 a46 k48)
        ) none
      else
        @ite _ (Γ x0 = .inr 12) _ (
        Option.bind (φ.2.2 x0 98) fun a50 =>
        Option.bind (gA Γ a50 2) fun N51 =>
        Option.bind (ix (x2 + x4) N51) fun k52 =>
        f_Ref_watch_L160 Γ (f_Ref_watch_L129 Γ  fu) φ x0 x1 x2 x3 x4 (φ.1 a50 k52)
        ) none
set_option maxRecDepth 100000 in
set_option maxHeartbeats 4000000 in
theorem p_Ref_watch_L129 {w : jw_T} (hw : jok w) {Γ : gm_T} {n : Nat} (hG : gd w Γ n)  : ∀ (fu : Nat) {x : Bool} {φ : ph_T} {x0 : Nat} {x1 : Int32} {x2 : Int32} {x3 : Int32} {x4 : Int32} {q : Unit × ph_T}, f_Ref_watch_L129 Γ  fu φ x0 x1 x2 x3 x4 = some q → J w M_Ref_watch 129 [some (.ref x0), some (.int x1), some (.int x2), some (.int x3), some (.int x4), none, none] [] (pic Γ φ) n x 0 0 (fq Γ n (.inl none) q.2) := by
  intro fu
  induction fu with
  | zero =>
    intro x φ x0 x1 x2 x3 x4 q H
    cases H
  | succ fu ih =>
    intro x φ x0 x1 x2 x3 x4 q H
    unfold f_Ref_watch_L129 at H
    refine J_iload d_Ref_watch_129 rfl ?_
    refine J_iconst (v := 5) d_Ref_watch_131 (by decide) ?_
    refine J_icmp_ge (tgt := 293) d_Ref_watch_132 (by decide) ?_ ?_
    · intro c54
      rw [if_pos c54] at H
      refine J_aload_n d_Ref_watch_293 rfl ?_
      have g39 : Γ x0 = .inr 12 := by
        apply Classical.byContradiction
        intro q9
        rw [if_neg q9] at H
        cases H
      rw [if_pos g39] at H
      refine F_getR (ci := 12) (k := 85) hG (cf_Ref hw) (fl_Ref_235 hw) (by decide) (by decide) rfl d_Ref_watch_294 g39 ?_
      refine J_iload_n d_Ref_watch_297 rfl ?_
      refine J_dup2 d_Ref_watch_298 rfl (va_rf_cat _) ?_
      obtain ⟨a40, ha40, H⟩ := Option.bind_eq_some_iff.mp H
      rw [j_rf ha40]
      obtain ⟨N41, hN41, H⟩ := Option.bind_eq_some_iff.mp H
      obtain ⟨k42, hk42, H⟩ := Option.bind_eq_some_iff.mp H
      refine F_iald k42 hw hG d_Ref_watch_299 (gA_some hN41) (ix_some hk42) ?_
      refine J_iconst (v := 1) d_Ref_watch_300 (by decide) ?_
      refine J_iadd d_Ref_watch_301 ?_
      obtain ⟨N43, hN43, H⟩ := Option.bind_eq_some_iff.mp H
      obtain ⟨k44, hk44, H⟩ := Option.bind_eq_some_iff.mp H
      refine F_iast k44 hw hG d_Ref_watch_302 (gA_some hN43) (ix_some hk44) ?_
      cases H
      exact J_vret (st := []) d_Ref_watch_303 rfl ⟨rfl, rfl, rfl⟩
    · intro c54
      rw [if_neg c54] at H
      refine J_iload_n d_Ref_watch_135 rfl ?_
      refine J_if_eq (tgt := 151) d_Ref_watch_136 (by decide) ?_ ?_
      · intro c53
        rw [if_pos c53] at H
        refine J_aload_n d_Ref_watch_151 rfl ?_
        have g45 : Γ x0 = .inr 12 := by
          apply Classical.byContradiction
          intro q9
          rw [if_neg q9] at H
          cases H
        rw [if_pos g45] at H
        refine F_getR (ci := 12) (k := 33) hG (cf_Ref hw) (fl_Ref_88 hw) (by decide) (by decide) rfl d_Ref_watch_152 g45 ?_
        refine J_iload_n d_Ref_watch_155 rfl ?_
        refine J_iload d_Ref_watch_156 rfl ?_
        refine J_iadd d_Ref_watch_158 ?_
        obtain ⟨a46, ha46, H⟩ := Option.bind_eq_some_iff.mp H
        rw [j_rf ha46]
        obtain ⟨N47, hN47, H⟩ := Option.bind_eq_some_iff.mp H
        obtain ⟨k48, hk48, H⟩ := Option.bind_eq_some_iff.mp H
        refine F_zald k48 hw hG d_Ref_watch_159 (gA_some hN47) (ix_some hk48) ?_
        refine J.drop [true, true, true, true, true, false, false] rfl ?_
        exact p_Ref_watch_L160 hw hG ih H
      · intro c53
        rw [if_neg c53] at H
        refine J_aload_n d_Ref_watch_139 rfl ?_
        have g49 : Γ x0 = .inr 12 := by
          apply Classical.byContradiction
          intro q9
          rw [if_neg q9] at H
          cases H
        rw [if_pos g49] at H
        refine F_getR (ci := 12) (k := 98) hG (cf_Ref hw) (fl_Ref_274 hw) (by decide) (by decide) rfl d_Ref_watch_140 g49 ?_
        refine J_iload_n d_Ref_watch_143 rfl ?_
        refine J_iload d_Ref_watch_144 rfl ?_
        refine J_iadd d_Ref_watch_146 ?_
        obtain ⟨a50, ha50, H⟩ := Option.bind_eq_some_iff.mp H
        rw [j_rf ha50]
        obtain ⟨N51, hN51, H⟩ := Option.bind_eq_some_iff.mp H
        obtain ⟨k52, hk52, H⟩ := Option.bind_eq_some_iff.mp H
        refine F_zald k52 hw hG d_Ref_watch_147 (gA_some hN51) (ix_some hk52) ?_
        refine J_goto (tgt := 160) d_Ref_watch_148 (by decide) ?_
        refine J.drop [true, true, true, true, true, false, false] rfl ?_
        exact p_Ref_watch_L160 hw hG ih H
def f_Ref_watch_L126 (Γ : gm_T)  (φ : ph_T) (x0 : Nat) (x1 : Int32) (x2 : Int32) (x3 : Int32) : Option (Unit × ph_T) :=
  f_Ref_watch_L129 Γ  jF φ x0 x1 x2 x3 (0 : Int32)
set_option maxRecDepth 100000 in
set_option maxHeartbeats 4000000 in
theorem p_Ref_watch_L126 {w : jw_T} (hw : jok w) {Γ : gm_T} {n : Nat} (hG : gd w Γ n)  {x : Bool} {φ : ph_T} {x0 : Nat} {x1 : Int32} {x2 : Int32} {x3 : Int32} {q : Unit × ph_T} (H : f_Ref_watch_L126 Γ  φ x0 x1 x2 x3 = some q) : J w M_Ref_watch 126 [some (.ref x0), some (.int x1), some (.int x2), some (.int x3), none, none, none] [] (pic Γ φ) n x 0 0 (fq Γ n (.inl none) q.2) := by
  unfold f_Ref_watch_L126 at H
  refine J_iconst (v := 0) d_Ref_watch_126 (by decide) ?_
  refine J_istore d_Ref_watch_127 (Nat.le_of_ble_eq_true rfl) ?_
  refine J.drop [true, true, true, true, true, false, false] rfl ?_
  exact p_Ref_watch_L129 hw hG  _ H
def f_Ref_watch_L110 (Γ : gm_T)  (φ : ph_T) (x0 : Nat) (x1 : Int32) (x2 : Int32) (x3 : Int32) : Option (Unit × ph_T) :=
  @ite _ (Γ x0 = .inr 12) _ (
  Option.bind (φ.2.2 x0 86) fun a56 =>
  Option.bind (gA Γ a56 0) fun N57 =>
  Option.bind (ix x1 N57) fun k58 =>
  if (φ.1 a56 k58) = 0 then
    Option.bind (f_Ref_go Γ φ x0 x1 x2 x3) fun q59 =>
    f_Ref_watch_L126 Γ  q59.2 x0 x1 x2 x3
  else
    f_Ref_watch_L126 Γ  φ x0 x1 x2 x3
  ) none
set_option maxRecDepth 100000 in
set_option maxHeartbeats 4000000 in
theorem p_Ref_watch_L110 {w : jw_T} (hw : jok w) {Γ : gm_T} {n : Nat} (hG : gd w Γ n)  {x : Bool} {φ : ph_T} {x0 : Nat} {x1 : Int32} {x2 : Int32} {x3 : Int32} {q : Unit × ph_T} (H : f_Ref_watch_L110 Γ  φ x0 x1 x2 x3 = some q) : J w M_Ref_watch 110 [some (.ref x0), some (.int x1), some (.int x2), some (.int x3), none, none, none] [] (pic Γ φ) n x 0 0 (fq Γ n (.inl none) q.2) := by
  unfold f_Ref_watch_L110 at H
  refine J_aload_n d_Ref_watch_110 rfl ?_
  have g55 : Γ x0 = .inr 12 := by
    apply Classical.byContradiction
    intro q9
    rw [if_neg q9] at H
    cases H
  rw [if_pos g55] at H
  refine F_getR (ci := 12) (k := 86) hG (cf_Ref hw) (fl_Ref_238 hw) (by decide) (by decide) rfl d_Ref_watch_111 g55 ?_
  refine J_iload_n d_Ref_watch_114 rfl ?_
  obtain ⟨a56, ha56, H⟩ := Option.bind_eq_some_iff.mp H
  rw [j_rf ha56]
  obtain ⟨N57, hN57, H⟩ := Option.bind_eq_some_iff.mp H
  obtain ⟨k58, hk58, H⟩ := Option.bind_eq_some_iff.mp H
  refine F_iald k58 hw hG d_Ref_watch_115 (gA_some hN57) (ix_some hk58) ?_
  refine J_if_ne (tgt := 126) d_Ref_watch_116 (by decide) ?_ ?_
  · intro c60
    rw [if_neg c60] at H
    refine J.drop [true, true, true, true, false, false, false] rfl ?_
    exact p_Ref_watch_L126 hw hG  H
  · intro c60
    rw [if_pos c60] at H
    refine J_aload_n d_Ref_watch_119 rfl ?_
    refine J_iload_n d_Ref_watch_120 rfl ?_
    refine J_iload_n d_Ref_watch_121 rfl ?_
    refine J_iload_n d_Ref_watch_122 rfl ?_
    obtain ⟨q59, hq59, H⟩ := Option.bind_eq_some_iff.mp H
    refine J_callV (kc := 0) (ks := 0) (kc' := 0) (ks' := 0) (a := x0) (ci := 12) (as := [.int x1, .int x2, .int x3]) (st := []) (mf_Ref_go hw) (mv_Ref_445 hw) d_Ref_watch_123 ln_Ref_go (by decide) (by first | exact Nat.le_of_ble_eq_true rfl | (simp only [List.map_cons, List.map_nil, List.sum_cons, List.sum_nil, va_rf_cat]; exact Nat.le_of_ble_eq_true rfl)) rfl ((hG _).1 _ g55 (by decide)).1 ((hG _).1 _ g55 (by decide)).2 (by unfold pic; rw [g55]; rfl) (jcl_at hw rfl) rfl (p_Ref_go hw hG hq59) ?_ (fun E h' n' x' e1 => by cases e1.1)
    intro v9 h9 n9 x9 e9
    obtain ⟨e91, e92, e93⟩ := e9
    cases e91
    subst e92
    subst e93
    clear x
    rename Bool => x
    show J _ _ _ _ [] _ _ _ _ _ _
    refine J.drop [true, true, true, true, false, false, false] rfl ?_
    exact p_Ref_watch_L126 hw hG  H
def f_Ref_watch_L101 (Γ : gm_T) (Kc3 : ph_T → Nat → Int32 → Int32 → Int32 → Int32 → Option (Unit × ph_T)) (φ : ph_T) (x0 : Nat) (x1 : Int32) (x2 : Int32) (x3 : Int32) (x4 : Int32) (y0 : Int32) (y1 : Int64) (y2 : Int32) (y3 : Int32) (y4 : Int32) (y5 : Nat) : Option (Unit × ph_T) :=
  @ite _ (Γ y5 = .inr 12) _ (
  Option.bind (f_Ref_lookAt Γ φ y5 y4 y3 y2 y1 y0) fun q62 =>
  Kc3 q62.2 x0 x1 x2 x3 (x4 + (1 : Int32))
  ) none
set_option maxRecDepth 100000 in
set_option maxHeartbeats 4000000 in
theorem p_Ref_watch_L101 {w : jw_T} (hw : jok w) {Γ : gm_T} {n : Nat} (hG : gd w Γ n) {Kc3 : ph_T → Nat → Int32 → Int32 → Int32 → Int32 → Option (Unit × ph_T)} (hKc3 : ∀ {x : Bool} {φ : ph_T} {x0 : Nat} {x1 : Int32} {x2 : Int32} {x3 : Int32} {x4 : Int32} {q : Unit × ph_T}, Kc3 φ x0 x1 x2 x3 x4 = some q → J w M_Ref_watch 3 [some (.ref x0), some (.int x1), some (.int x2), some (.int x3), some (.int x4), none, none] [] (pic Γ φ) n x 0 0 (fq Γ n (.inl none) q.2)) {x : Bool} {φ : ph_T} {x0 : Nat} {x1 : Int32} {x2 : Int32} {x3 : Int32} {x4 : Int32} {y0 : Int32} {y1 : Int64} {y2 : Int32} {y3 : Int32} {y4 : Int32} {y5 : Nat} {q : Unit × ph_T} (H : f_Ref_watch_L101 Γ Kc3 φ x0 x1 x2 x3 x4 y0 y1 y2 y3 y4 y5 = some q) : J w M_Ref_watch 101 [some (.ref x0), some (.int x1), some (.int x2), some (.int x3), some (.int x4), none, none] [.int y0, .long y1, .int y2, .int y3, .int y4, .ref y5] (pic Γ φ) n x 0 0 (fq Γ n (.inl none) q.2) := by
  unfold f_Ref_watch_L101 at H
  have g61 : Γ y5 = .inr 12 := by
    apply Classical.byContradiction
    intro q9
    rw [if_neg q9] at H
    cases H
  rw [if_pos g61] at H
  obtain ⟨q62, hq62, H⟩ := Option.bind_eq_some_iff.mp H
  refine J_callV (kc := 0) (ks := 0) (kc' := 0) (ks' := 0) (a := y5) (ci := 12) (as := [.int y4, .int y3, .int y2, .long y1, .int y0]) (st := []) (mf_Ref_lookAt hw) (mv_Ref_441 hw) d_Ref_watch_101 ln_Ref_lookAt (by decide) (by first | exact Nat.le_of_ble_eq_true rfl | (simp only [List.map_cons, List.map_nil, List.sum_cons, List.sum_nil, va_rf_cat]; exact Nat.le_of_ble_eq_true rfl)) rfl ((hG _).1 _ g61 (by decide)).1 ((hG _).1 _ g61 (by decide)).2 (by unfold pic; rw [g61]; rfl) (jcl_at hw rfl) rfl (p_Ref_lookAt hw hG hq62) ?_ (fun E h' n' x' e1 => by cases e1.1)
  intro v9 h9 n9 x9 e9
  obtain ⟨e91, e92, e93⟩ := e9
  cases e91
  subst e92
  subst e93
  clear x
  rename Bool => x
  show J _ _ _ _ [] _ _ _ _ _ _
  refine J_iinc (v := x4 + 1) d_Ref_watch_104 rfl (by rw [show Int32.ofInt 1 = (1 : Int32) from by decide]) ?_
  refine J_goto (tgt := 3) d_Ref_watch_107 (by decide) ?_
  refine J.drop [true, true, true, true, true, false, false] rfl ?_
  exact hKc3 H
def f_Ref_watch_L76 (Γ : gm_T) (Kc3 : ph_T → Nat → Int32 → Int32 → Int32 → Int32 → Option (Unit × ph_T)) (φ : ph_T) (x0 : Nat) (x1 : Int32) (x2 : Int32) (x3 : Int32) (x4 : Int32) (y0 : Int64) (y1 : Int32) (y2 : Int32) (y3 : Int32) (y4 : Nat) : Option (Unit × ph_T) :=
  if x3 = 0 then
    @ite _ (Γ x0 = .inr 12) _ (
    Option.bind (φ.2.2 x0 36) fun a64 =>
    Option.bind (gA Γ a64 0) fun N65 =>
    Option.bind (ix (x2 + x4) N65) fun k66 =>
    f_Ref_watch_L101 Γ Kc3 φ x0 x1 x2 x3 x4 (φ.1 a64 k66) y0 y1 y2 y3 y4
    ) none
  else
    @ite _ (Γ x0 = .inr 12) _ (
    Option.bind (φ.2.2 x0 101) fun a68 =>
    Option.bind (gA Γ a68 0) fun N69 =>
    Option.bind (ix (x2 + x4) N69) fun k70 =>
    f_Ref_watch_L101 Γ Kc3 φ x0 x1 x2 x3 x4 (φ.1 a68 k70) y0 y1 y2 y3 y4
    ) none
set_option maxRecDepth 100000 in
set_option maxHeartbeats 4000000 in
theorem p_Ref_watch_L76 {w : jw_T} (hw : jok w) {Γ : gm_T} {n : Nat} (hG : gd w Γ n) {Kc3 : ph_T → Nat → Int32 → Int32 → Int32 → Int32 → Option (Unit × ph_T)} (hKc3 : ∀ {x : Bool} {φ : ph_T} {x0 : Nat} {x1 : Int32} {x2 : Int32} {x3 : Int32} {x4 : Int32} {q : Unit × ph_T}, Kc3 φ x0 x1 x2 x3 x4 = some q → J w M_Ref_watch 3 [some (.ref x0), some (.int x1), some (.int x2), some (.int x3), some (.int x4), none, none] [] (pic Γ φ) n x 0 0 (fq Γ n (.inl none) q.2)) {x : Bool} {φ : ph_T} {x0 : Nat} {x1 : Int32} {x2 : Int32} {x3 : Int32} {x4 : Int32} {y0 : Int64} {y1 : Int32} {y2 : Int32} {y3 : Int32} {y4 : Nat} {q : Unit × ph_T} (H : f_Ref_watch_L76 Γ Kc3 φ x0 x1 x2 x3 x4 y0 y1 y2 y3 y4 = some q) : J w M_Ref_watch 76 [some (.ref x0), some (.int x1), some (.int x2), some (.int x3), some (.int x4), none, none] [.long y0, .int y1, .int y2, .int y3, .ref y4] (pic Γ φ) n x 0 0 (fq Γ n (.inl none) q.2) := by
  unfold f_Ref_watch_L76 at H
  refine J_iload_n d_Ref_watch_76 rfl ?_
  refine J_if_eq (tgt := 92) d_Ref_watch_77 (by decide) ?_ ?_
  · intro c71
    rw [if_pos c71] at H
    refine J_aload_n d_Ref_watch_92 rfl ?_
    have g63 : Γ x0 = .inr 12 := by
      apply Classical.byContradiction
      intro q9
      rw [if_neg q9] at H
      cases H
    rw [if_pos g63] at H
    refine F_getR (ci := 12) (k := 36) hG (cf_Ref hw) (fl_Ref_97 hw) (by decide) (by decide) rfl d_Ref_watch_93 g63 ?_
    refine J_iload_n d_Ref_watch_96 rfl ?_
    refine J_iload d_Ref_watch_97 rfl ?_
    refine J_iadd d_Ref_watch_99 ?_
    obtain ⟨a64, ha64, H⟩ := Option.bind_eq_some_iff.mp H
    rw [j_rf ha64]
    obtain ⟨N65, hN65, H⟩ := Option.bind_eq_some_iff.mp H
    obtain ⟨k66, hk66, H⟩ := Option.bind_eq_some_iff.mp H
    refine F_iald k66 hw hG d_Ref_watch_100 (gA_some hN65) (ix_some hk66) ?_
    refine J.drop [true, true, true, true, true, false, false] rfl ?_
    exact p_Ref_watch_L101 hw hG hKc3 H
  · intro c71
    rw [if_neg c71] at H
    refine J_aload_n d_Ref_watch_80 rfl ?_
    have g67 : Γ x0 = .inr 12 := by
      apply Classical.byContradiction
      intro q9
      rw [if_neg q9] at H
      cases H
    rw [if_pos g67] at H
    refine F_getR (ci := 12) (k := 101) hG (cf_Ref hw) (fl_Ref_283 hw) (by decide) (by decide) rfl d_Ref_watch_81 g67 ?_
    refine J_iload_n d_Ref_watch_84 rfl ?_
    refine J_iload d_Ref_watch_85 rfl ?_
    refine J_iadd d_Ref_watch_87 ?_
    obtain ⟨a68, ha68, H⟩ := Option.bind_eq_some_iff.mp H
    rw [j_rf ha68]
    obtain ⟨N69, hN69, H⟩ := Option.bind_eq_some_iff.mp H
    obtain ⟨k70, hk70, H⟩ := Option.bind_eq_some_iff.mp H
    refine F_iald k70 hw hG d_Ref_watch_88 (gA_some hN69) (ix_some hk70) ?_
    refine J_goto (tgt := 101) d_Ref_watch_89 (by decide) ?_
    refine J.drop [true, true, true, true, true, false, false] rfl ?_
    exact p_Ref_watch_L101 hw hG hKc3 H
def f_Ref_watch_L43 (Γ : gm_T) (Kc3 : ph_T → Nat → Int32 → Int32 → Int32 → Int32 → Option (Unit × ph_T)) (φ : ph_T) (x0 : Nat) (x1 : Int32) (x2 : Int32) (x3 : Int32) (x4 : Int32) (y0 : Int32) : Option (Unit × ph_T) :=
  if x3 = 0 then
    @ite _ (Γ x0 = .inr 12) _ (
    Option.bind (φ.2.2 x0 35) fun a73 =>
    Option.bind (gA Γ a73 1) fun N74 =>
    Option.bind (ix (x2 + x4) N74) fun k75 =>
    f_Ref_watch_L76 Γ Kc3 φ x0 x1 x2 x3 x4 (φ.2.1 a73 k75) y0 x4 x1 x0
    ) none
  else
    @ite _ (Γ x0 = .inr 12) _ (
    Option.bind (φ.2.2 x0 100) fun a77 =>
    Option.bind (gA Γ a77 1) fun N78 =>
    Option.bind (ix (x2 + x4) N78) fun k79 =>
    f_Ref_watch_L76 Γ Kc3 φ x0 x1 x2 x3 x4 (φ.2.1 a77 k79) y0 x4 x1 x0
    ) none
set_option maxRecDepth 100000 in
set_option maxHeartbeats 4000000 in
theorem p_Ref_watch_L43 {w : jw_T} (hw : jok w) {Γ : gm_T} {n : Nat} (hG : gd w Γ n) {Kc3 : ph_T → Nat → Int32 → Int32 → Int32 → Int32 → Option (Unit × ph_T)} (hKc3 : ∀ {x : Bool} {φ : ph_T} {x0 : Nat} {x1 : Int32} {x2 : Int32} {x3 : Int32} {x4 : Int32} {q : Unit × ph_T}, Kc3 φ x0 x1 x2 x3 x4 = some q → J w M_Ref_watch 3 [some (.ref x0), some (.int x1), some (.int x2), some (.int x3), some (.int x4), none, none] [] (pic Γ φ) n x 0 0 (fq Γ n (.inl none) q.2)) {x : Bool} {φ : ph_T} {x0 : Nat} {x1 : Int32} {x2 : Int32} {x3 : Int32} {x4 : Int32} {y0 : Int32} {q : Unit × ph_T} (H : f_Ref_watch_L43 Γ Kc3 φ x0 x1 x2 x3 x4 y0 = some q) : J w M_Ref_watch 43 [some (.ref x0), some (.int x1), some (.int x2), some (.int x3), some (.int x4), none, none] [.int y0] (pic Γ φ) n x 0 0 (fq Γ n (.inl none) q.2) := by
  unfold f_Ref_watch_L43 at H
  refine J_istore d_Ref_watch_43 (Nat.le_of_ble_eq_true rfl) ?_
  refine J_aload_n d_Ref_watch_45 rfl ?_
  refine J_iload_n d_Ref_watch_46 rfl ?_
  refine J_iload d_Ref_watch_47 rfl ?_
  refine J_iload d_Ref_watch_49 rfl ?_
  refine J_iload_n d_Ref_watch_51 rfl ?_
  refine J_if_eq (tgt := 67) d_Ref_watch_52 (by decide) ?_ ?_
  · intro c80
    rw [if_pos c80] at H
    refine J_aload_n d_Ref_watch_67 rfl ?_
    have g72 : Γ x0 = .inr 12 := by
      apply Classical.byContradiction
      intro q9
      rw [if_neg q9] at H
      cases H
    rw [if_pos g72] at H
    refine F_getR (ci := 12) (k := 35) hG (cf_Ref hw) (fl_Ref_94 hw) (by decide) (by decide) rfl d_Ref_watch_68 g72 ?_
    refine J_iload_n d_Ref_watch_71 rfl ?_
    refine J_iload d_Ref_watch_72 rfl ?_
    refine J_iadd d_Ref_watch_74 ?_
    obtain ⟨a73, ha73, H⟩ := Option.bind_eq_some_iff.mp H
    rw [j_rf ha73]
    obtain ⟨N74, hN74, H⟩ := Option.bind_eq_some_iff.mp H
    obtain ⟨k75, hk75, H⟩ := Option.bind_eq_some_iff.mp H
    refine F_lald k75 hw hG d_Ref_watch_75 (gA_some hN74) (ix_some hk75) ?_
    refine J.drop [true, true, true, true, true, false, false] rfl ?_
    exact p_Ref_watch_L76 hw hG hKc3 H
  · intro c80
    rw [if_neg c80] at H
    refine J_aload_n d_Ref_watch_55 rfl ?_
    have g76 : Γ x0 = .inr 12 := by
      apply Classical.byContradiction
      intro q9
      rw [if_neg q9] at H
      cases H
    rw [if_pos g76] at H
    refine F_getR (ci := 12) (k := 100) hG (cf_Ref hw) (fl_Ref_280 hw) (by decide) (by decide) rfl d_Ref_watch_56 g76 ?_
    refine J_iload_n d_Ref_watch_59 rfl ?_
    refine J_iload d_Ref_watch_60 rfl ?_
    refine J_iadd d_Ref_watch_62 ?_
    obtain ⟨a77, ha77, H⟩ := Option.bind_eq_some_iff.mp H
    rw [j_rf ha77]
    obtain ⟨N78, hN78, H⟩ := Option.bind_eq_some_iff.mp H
    obtain ⟨k79, hk79, H⟩ := Option.bind_eq_some_iff.mp H
    refine F_lald k79 hw hG d_Ref_watch_63 (gA_some hN78) (ix_some hk79) ?_
    refine J_goto (tgt := 76) d_Ref_watch_64 (by decide) ?_
    refine J.drop [true, true, true, true, true, false, false] rfl ?_
    exact p_Ref_watch_L76 hw hG hKc3 H
def f_Ref_watch_L3 (Γ : gm_T)  : Nat → ph_T → Nat → Int32 → Int32 → Int32 → Int32 → Option (Unit × ph_T)
  | 0, _, _, _, _, _, _ => none
  | fu + 1, φ, x0, x1, x2, x3, x4 =>
    if (5 : Int32) ≤ x4 then
      f_Ref_watch_L110 Γ  φ x0 x1 x2 x3
    else
      @ite _ (Γ x0 = .inr 12) _ (
      Option.bind (φ.2.2 x0 86) fun a82 =>
      Option.bind (gA Γ a82 0) fun N83 =>
      Option.bind (ix x1 N83) fun k84 =>
      if (φ.1 a82 k84) = 0 then
        if x3 = 0 then
          Option.bind (φ.2.2 x0 33) fun a85 =>
          Option.bind (gA Γ a85 2) fun N86 =>
          Option.bind (ix (x2 + x4) N86) fun k87 =>
          f_Ref_watch_L43 Γ (f_Ref_watch_L3 Γ  fu) φ x0 x1 x2 x3 x4 (φ.1 a85 k87)
        else
          Option.bind (φ.2.2 x0 98) fun a88 =>
          Option.bind (gA Γ a88 2) fun N89 =>
          Option.bind (ix (x2 + x4) N89) fun k90 =>
          f_Ref_watch_L43 Γ (f_Ref_watch_L3 Γ  fu) φ x0 x1 x2 x3 x4 (φ.1 a88 k90)
      else
        f_Ref_watch_L110 Γ  φ x0 x1 x2 x3
      ) none
set_option maxRecDepth 100000 in
set_option maxHeartbeats 4000000 in
theorem p_Ref_watch_L3 {w : jw_T} (hw : jok w) {Γ : gm_T} {n : Nat} (hG : gd w Γ n)  : ∀ (fu : Nat) {x : Bool} {φ : ph_T} {x0 : Nat} {x1 : Int32} {x2 : Int32} {x3 : Int32} {x4 : Int32} {q : Unit × ph_T}, f_Ref_watch_L3 Γ  fu φ x0 x1 x2 x3 x4 = some q → J w M_Ref_watch 3 [some (.ref x0), some (.int x1), some (.int x2), some (.int x3), some (.int x4), none, none] [] (pic Γ φ) n x 0 0 (fq Γ n (.inl none) q.2) := by
  intro fu
  induction fu with
  | zero =>
    intro x φ x0 x1 x2 x3 x4 q H
    cases H
  | succ fu ih =>
    intro x φ x0 x1 x2 x3 x4 q H
    unfold f_Ref_watch_L3 at H
    refine J_iload d_Ref_watch_3 rfl ?_
    refine J_iconst (v := 5) d_Ref_watch_5 (by decide) ?_
    refine J_icmp_ge (tgt := 110) d_Ref_watch_6 (by decide) ?_ ?_
    · intro c93
      rw [if_pos c93] at H
      refine J.drop [true, true, true, true, false, false, false] rfl ?_
      exact p_Ref_watch_L110 hw hG  H
    · intro c93
      rw [if_neg c93] at H
      refine J_aload_n d_Ref_watch_9 rfl ?_
      have g81 : Γ x0 = .inr 12 := by
        apply Classical.byContradiction
        intro q9
        rw [if_neg q9] at H
        cases H
      rw [if_pos g81] at H
      refine F_getR (ci := 12) (k := 86) hG (cf_Ref hw) (fl_Ref_238 hw) (by decide) (by decide) rfl d_Ref_watch_10 g81 ?_
      refine J_iload_n d_Ref_watch_13 rfl ?_
      obtain ⟨a82, ha82, H⟩ := Option.bind_eq_some_iff.mp H
      rw [j_rf ha82]
      obtain ⟨N83, hN83, H⟩ := Option.bind_eq_some_iff.mp H
      obtain ⟨k84, hk84, H⟩ := Option.bind_eq_some_iff.mp H
      refine F_iald k84 hw hG d_Ref_watch_14 (gA_some hN83) (ix_some hk84) ?_
      refine J_if_ne (tgt := 110) d_Ref_watch_15 (by decide) ?_ ?_
      · intro c92
        rw [if_neg c92] at H
        refine J.drop [true, true, true, true, false, false, false] rfl ?_
        exact p_Ref_watch_L110 hw hG  H
      · intro c92
        rw [if_pos c92] at H
        refine J_iload_n d_Ref_watch_18 rfl ?_
        refine J_if_eq (tgt := 34) d_Ref_watch_19 (by decide) ?_ ?_
        · intro c91
          rw [if_pos c91] at H
          refine J_aload_n d_Ref_watch_34 rfl ?_
          refine F_getR (ci := 12) (k := 33) hG (cf_Ref hw) (fl_Ref_88 hw) (by decide) (by decide) rfl d_Ref_watch_35 g81 ?_
          refine J_iload_n d_Ref_watch_38 rfl ?_
          refine J_iload d_Ref_watch_39 rfl ?_
          refine J_iadd d_Ref_watch_41 ?_
          obtain ⟨a85, ha85, H⟩ := Option.bind_eq_some_iff.mp H
          rw [j_rf ha85]
          obtain ⟨N86, hN86, H⟩ := Option.bind_eq_some_iff.mp H
          obtain ⟨k87, hk87, H⟩ := Option.bind_eq_some_iff.mp H
          refine F_zald k87 hw hG d_Ref_watch_42 (gA_some hN86) (ix_some hk87) ?_
          refine J.drop [true, true, true, true, true, false, false] rfl ?_
          exact p_Ref_watch_L43 hw hG ih H
        · intro c91
          rw [if_neg c91] at H
          refine J_aload_n d_Ref_watch_22 rfl ?_
          refine F_getR (ci := 12) (k := 98) hG (cf_Ref hw) (fl_Ref_274 hw) (by decide) (by decide) rfl d_Ref_watch_23 g81 ?_
          refine J_iload_n d_Ref_watch_26 rfl ?_
          refine J_iload d_Ref_watch_27 rfl ?_
          refine J_iadd d_Ref_watch_29 ?_
          obtain ⟨a88, ha88, H⟩ := Option.bind_eq_some_iff.mp H
          rw [j_rf ha88]
          obtain ⟨N89, hN89, H⟩ := Option.bind_eq_some_iff.mp H
          obtain ⟨k90, hk90, H⟩ := Option.bind_eq_some_iff.mp H
          refine F_zald k90 hw hG d_Ref_watch_30 (gA_some hN89) (ix_some hk90) ?_
          refine J_goto (tgt := 43) d_Ref_watch_31 (by decide) ?_
          refine J.drop [true, true, true, true, true, false, false] rfl ?_
          exact p_Ref_watch_L43 hw hG ih H
def f_Ref_watch (Γ : gm_T) (φ : ph_T) (this : Nat) (p0 : Int32) (p1 : Int32) (p2 : Int32) : Option (Unit × ph_T) :=
  f_Ref_watch_L3 Γ  jF φ this p0 p1 p2 (0 : Int32)
set_option maxRecDepth 100000 in
set_option maxHeartbeats 4000000 in
theorem p_Ref_watch {w : jw_T} (hw : jok w) {Γ : gm_T} {n : Nat} (hG : gd w Γ n) {x : Bool} {φ : ph_T} {this : Nat} {p0 : Int32} {p1 : Int32} {p2 : Int32} {q : Unit × ph_T} (H : f_Ref_watch Γ φ this p0 p1 p2 = some q) : jc w M_Ref_watch [.ref this, .int p0, .int p1, .int p2] (pic Γ φ) n x 0 0 (fq Γ n (.inl none) q.2) := by
  refine jc.of (by simp only [jent_r, jent_i, jent_l, jent_a, jent_0]; exact Nat.le_of_ble_eq_true rfl) ?_
  have hls : jents [.ref this, .int p0, .int p1, .int p2] (jm_nL M_Ref_watch) = [some (.ref this), some (.int p0), some (.int p1), some (.int p2), none, none, none] := by simp only [jents, jent_r, jent_i, jent_l, jent_a, jent_0]; rfl
  rw [hls]
  clear hls
  unfold f_Ref_watch at H
  refine J_iconst (v := 0) d_Ref_watch_0 (by decide) ?_
  refine J_istore d_Ref_watch_1 (Nat.le_of_ble_eq_true rfl) ?_
  refine J.drop [true, true, true, true, true, false, false] rfl ?_
  exact p_Ref_watch_L3 hw hG  _ H
theorem ln_Ref_put : (parseMethodDescriptor y_Ref_put.desc).map (fun q => q.parameters.length) = some 4 := by decide +kernel
def f_Ref_put (Γ : gm_T) (φ : ph_T) (this : Nat) (p0 : Int32) (p1 : Int64) (p2 : Int32) (p3 : Int32) : Option (Unit × ph_T) :=
  @ite _ (Γ this = .inr 12) _ (
  Option.bind (φ.2.2 this 42) fun a2 =>
  Option.bind (gA Γ a2 0) fun N3 =>
  Option.bind (ix p0 N3) fun k4 =>
  Option.bind (φ.2.2 this 39) fun a5 =>
  Option.bind (gA Γ a5 1) fun N6 =>
  Option.bind (ix (((4 : Int32) * p0) + (φ.1 a2 k4)) N6) fun k7 =>
  Option.bind ((uL φ a5 k7 p1).2.2 this 40) fun a8 =>
  Option.bind (gA Γ a8 0) fun N9 =>
  Option.bind (ix (((4 : Int32) * p0) + (φ.1 a2 k4)) N9) fun k10 =>
  Option.bind ((uI (uL φ a5 k7 p1) a8 k10 p2).2.2 this 41) fun a11 =>
  Option.bind (gA Γ a11 0) fun N12 =>
  Option.bind (ix (((4 : Int32) * p0) + (φ.1 a2 k4)) N12) fun k13 =>
  Option.bind ((uI (uI (uL φ a5 k7 p1) a8 k10 p2) a11 k13 p3).2.2 this 42) fun a14 =>
  Option.bind (gA Γ a14 0) fun N15 =>
  Option.bind (ix p0 N15) fun k16 =>
  Option.bind (gA Γ a14 0) fun N17 =>
  Option.bind (ix p0 N17) fun k18 =>
  some ((), (uI (uI (uI (uL φ a5 k7 p1) a8 k10 p2) a11 k13 p3) a14 k18 (((uI (uI (uL φ a5 k7 p1) a8 k10 p2) a11 k13 p3).1 a14 k16) + (1 : Int32))))
  ) none
set_option maxRecDepth 100000 in
set_option maxHeartbeats 4000000 in
theorem p_Ref_put {w : jw_T} (hw : jok w) {Γ : gm_T} {n : Nat} (hG : gd w Γ n) {x : Bool} {φ : ph_T} {this : Nat} {p0 : Int32} {p1 : Int64} {p2 : Int32} {p3 : Int32} {q : Unit × ph_T} (H : f_Ref_put Γ φ this p0 p1 p2 p3 = some q) : jc w M_Ref_put [.ref this, .int p0, .long p1, .int p2, .int p3] (pic Γ φ) n x 0 0 (fq Γ n (.inl none) q.2) := by
  refine jc.of (by simp only [jent_r, jent_i, jent_l, jent_a, jent_0]; exact Nat.le_of_ble_eq_true rfl) ?_
  have hls : jents [.ref this, .int p0, .long p1, .int p2, .int p3] (jm_nL M_Ref_put) = [some (.ref this), some (.int p0), some (.long p1), none, some (.int p2), some (.int p3), none] := by simp only [jents, jent_r, jent_i, jent_l, jent_a, jent_0]; rfl
  rw [hls]
  clear hls
  unfold f_Ref_put at H
  refine J_iconst (v := 4) d_Ref_put_0 (by decide) ?_
  refine J_iload_n d_Ref_put_1 rfl ?_
  refine J_imul d_Ref_put_2 ?_
  refine J_aload_n d_Ref_put_3 rfl ?_
  have g1 : Γ this = .inr 12 := by
    apply Classical.byContradiction
    intro q9
    rw [if_neg q9] at H
    cases H
  rw [if_pos g1] at H
  refine F_getR (ci := 12) (k := 42) hG (cf_Ref hw) (fl_Ref_115 hw) (by decide) (by decide) rfl d_Ref_put_4 g1 ?_
  refine J_iload_n d_Ref_put_7 rfl ?_
  obtain ⟨a2, ha2, H⟩ := Option.bind_eq_some_iff.mp H
  rw [j_rf ha2]
  obtain ⟨N3, hN3, H⟩ := Option.bind_eq_some_iff.mp H
  obtain ⟨k4, hk4, H⟩ := Option.bind_eq_some_iff.mp H
  refine F_iald k4 hw hG d_Ref_put_8 (gA_some hN3) (ix_some hk4) ?_
  refine J_iadd d_Ref_put_9 ?_
  refine J_istore d_Ref_put_10 (Nat.le_of_ble_eq_true rfl) ?_
  refine J_aload_n d_Ref_put_12 rfl ?_
  refine F_getR (ci := 12) (k := 39) hG (cf_Ref hw) (fl_Ref_106 hw) (by decide) (by decide) rfl d_Ref_put_13 g1 ?_
  refine J_iload d_Ref_put_16 rfl ?_
  refine J_lload_n d_Ref_put_18 rfl ?_
  obtain ⟨a5, ha5, H⟩ := Option.bind_eq_some_iff.mp H
  rw [j_rf ha5]
  obtain ⟨N6, hN6, H⟩ := Option.bind_eq_some_iff.mp H
  obtain ⟨k7, hk7, H⟩ := Option.bind_eq_some_iff.mp H
  refine F_last k7 hw hG d_Ref_put_19 (gA_some hN6) (ix_some hk7) ?_
  refine J_aload_n d_Ref_put_20 rfl ?_
  refine F_getR (ci := 12) (k := 40) hG (cf_Ref hw) (fl_Ref_109 hw) (by decide) (by decide) rfl d_Ref_put_21 g1 ?_
  refine J_iload d_Ref_put_24 rfl ?_
  refine J_iload d_Ref_put_26 rfl ?_
  obtain ⟨a8, ha8, H⟩ := Option.bind_eq_some_iff.mp H
  rw [j_rf ha8]
  obtain ⟨N9, hN9, H⟩ := Option.bind_eq_some_iff.mp H
  obtain ⟨k10, hk10, H⟩ := Option.bind_eq_some_iff.mp H
  refine F_iast k10 hw hG d_Ref_put_28 (gA_some hN9) (ix_some hk10) ?_
  refine J_aload_n d_Ref_put_29 rfl ?_
  refine F_getR (ci := 12) (k := 41) hG (cf_Ref hw) (fl_Ref_112 hw) (by decide) (by decide) rfl d_Ref_put_30 g1 ?_
  refine J_iload d_Ref_put_33 rfl ?_
  refine J_iload d_Ref_put_35 rfl ?_
  obtain ⟨a11, ha11, H⟩ := Option.bind_eq_some_iff.mp H
  rw [j_rf ha11]
  obtain ⟨N12, hN12, H⟩ := Option.bind_eq_some_iff.mp H
  obtain ⟨k13, hk13, H⟩ := Option.bind_eq_some_iff.mp H
  refine F_iast k13 hw hG d_Ref_put_37 (gA_some hN12) (ix_some hk13) ?_
  refine J_aload_n d_Ref_put_38 rfl ?_
  refine F_getR (ci := 12) (k := 42) hG (cf_Ref hw) (fl_Ref_115 hw) (by decide) (by decide) rfl d_Ref_put_39 g1 ?_
  refine J_iload_n d_Ref_put_42 rfl ?_
  refine J_dup2 d_Ref_put_43 rfl (va_rf_cat _) ?_
  obtain ⟨a14, ha14, H⟩ := Option.bind_eq_some_iff.mp H
  rw [j_rf ha14]
  obtain ⟨N15, hN15, H⟩ := Option.bind_eq_some_iff.mp H
  obtain ⟨k16, hk16, H⟩ := Option.bind_eq_some_iff.mp H
  refine F_iald k16 hw hG d_Ref_put_44 (gA_some hN15) (ix_some hk16) ?_
  refine J_iconst (v := 1) d_Ref_put_45 (by decide) ?_
  refine J_iadd d_Ref_put_46 ?_
  obtain ⟨N17, hN17, H⟩ := Option.bind_eq_some_iff.mp H
  obtain ⟨k18, hk18, H⟩ := Option.bind_eq_some_iff.mp H
  refine F_iast k18 hw hG d_Ref_put_47 (gA_some hN17) (ix_some hk18) ?_
  cases H
  exact J_vret (st := []) d_Ref_put_48 rfl ⟨rfl, rfl, rfl⟩
theorem ln_Ref_addressSent : (parseMethodDescriptor y_Ref_addressSent.desc).map (fun q => q.parameters.length) = some 2 := by decide +kernel
def f_Ref_addressSent_L43 (Γ : gm_T)  (φ : ph_T) (x0 : Nat) (y0 : Int32) (y1 : Int32) (y2 : Nat) (y3 : Option Nat) : Option (Unit × ph_T) :=
  @ite _ (Γ y2 = .inr 12) _ (
  Option.bind (f_Ref_unsent Γ φ y2 y1 y0) fun q2 =>
  @ite _ (Γ x0 = .inr 12) _ (
  Option.bind y3 fun a4 =>
  Option.bind (gA Γ a4 0) fun N5 =>
  Option.bind (ix q2.1 N5) fun k6 =>
  some ((), (uI q2.2 a4 k6 (q2.2.1 x0 6)))
  ) none
  ) none
set_option maxRecDepth 100000 in
set_option maxHeartbeats 4000000 in
theorem p_Ref_addressSent_L43 {w : jw_T} (hw : jok w) {Γ : gm_T} {n : Nat} (hG : gd w Γ n)  {x : Bool} {φ : ph_T} {x0 : Nat} {y0 : Int32} {y1 : Int32} {y2 : Nat} {y3 : Option Nat} {q : Unit × ph_T} (H : f_Ref_addressSent_L43 Γ  φ x0 y0 y1 y2 y3 = some q) : J w M_Ref_addressSent 43 [some (.ref x0), none, none, none] [.int y0, .int y1, .ref y2, va_rf y3] (pic Γ φ) n x 0 0 (fq Γ n (.inl none) q.2) := by
  unfold f_Ref_addressSent_L43 at H
  have g1 : Γ y2 = .inr 12 := by
    apply Classical.byContradiction
    intro q9
    rw [if_neg q9] at H
    cases H
  rw [if_pos g1] at H
  obtain ⟨q2, hq2, H⟩ := Option.bind_eq_some_iff.mp H
  refine J_callV (kc := 0) (ks := 0) (kc' := 0) (ks' := 0) (a := y2) (ci := 12) (as := [.int y1, .int y0]) (st := [va_rf y3]) (mf_Ref_unsent hw) (mv_Ref_344 hw) d_Ref_addressSent_43 ln_Ref_unsent (by decide) (by first | exact Nat.le_of_ble_eq_true rfl | (simp only [List.map_cons, List.map_nil, List.sum_cons, List.sum_nil, va_rf_cat]; exact Nat.le_of_ble_eq_true rfl)) rfl ((hG _).1 _ g1 (by decide)).1 ((hG _).1 _ g1 (by decide)).2 (by unfold pic; rw [g1]; rfl) (jcl_at hw rfl) rfl (p_Ref_unsent hw hG hq2) ?_ (fun E h' n' x' e1 => by cases e1.1)
  intro v9 h9 n9 x9 e9
  obtain ⟨e91, e92, e93⟩ := e9
  cases e91
  subst e92
  subst e93
  clear x
  rename Bool => x
  show J _ _ _ _ (_ :: _) _ _ _ _ _ _
  refine J_aload_n d_Ref_addressSent_46 rfl ?_
  have g3 : Γ x0 = .inr 12 := by
    apply Classical.byContradiction
    intro q9
    rw [if_neg q9] at H
    cases H
  rw [if_pos g3] at H
  refine F_getI (ci := 12) (k := 6) hG (cf_Ref hw) (fl_Ref_348 hw) (by decide) (by decide) rfl d_Ref_addressSent_47 g3 ?_
  obtain ⟨a4, ha4, H⟩ := Option.bind_eq_some_iff.mp H
  rw [j_rf ha4]
  obtain ⟨N5, hN5, H⟩ := Option.bind_eq_some_iff.mp H
  obtain ⟨k6, hk6, H⟩ := Option.bind_eq_some_iff.mp H
  refine F_iast k6 hw hG d_Ref_addressSent_50 (gA_some hN5) (ix_some hk6) ?_
  cases H
  exact J_vret (st := []) d_Ref_addressSent_51 rfl ⟨rfl, rfl, rfl⟩
def f_Ref_addressSent (Γ : gm_T) (φ : ph_T) (this : Nat) (p0 : Int32) (p1 : Int32) : Option (Unit × ph_T) :=
  @ite _ (Γ this = .inr 12) _ (
  Option.bind (f_Ref_rowOf Γ φ this (0 : Int32) p0 p1) fun q8 =>
  Option.bind (q8.2.2.2 this 35) fun a9 =>
  Option.bind (gA Γ a9 1) fun N10 =>
  Option.bind (ix (((5 : Int32) * p0) + p1) N10) fun k11 =>
  Option.bind (f_Ref_put Γ q8.2 this q8.1 (q8.2.2.1 a9 k11) (0 : Int32) (q8.2.1 this 6)) fun q12 =>
  if p1 = 0 then
    f_Ref_addressSent_L43 Γ  q12.2 this (1 : Int32) p0 this (q12.2.2.2 this 28)
  else
    f_Ref_addressSent_L43 Γ  q12.2 this (0 : Int32) p0 this (q12.2.2.2 this 28)
  ) none
set_option maxRecDepth 100000 in
set_option maxHeartbeats 4000000 in
theorem p_Ref_addressSent {w : jw_T} (hw : jok w) {Γ : gm_T} {n : Nat} (hG : gd w Γ n) {x : Bool} {φ : ph_T} {this : Nat} {p0 : Int32} {p1 : Int32} {q : Unit × ph_T} (H : f_Ref_addressSent Γ φ this p0 p1 = some q) : jc w M_Ref_addressSent [.ref this, .int p0, .int p1] (pic Γ φ) n x 0 0 (fq Γ n (.inl none) q.2) := by
  refine jc.of (by simp only [jent_r, jent_i, jent_l, jent_a, jent_0]; exact Nat.le_of_ble_eq_true rfl) ?_
  have hls : jents [.ref this, .int p0, .int p1] (jm_nL M_Ref_addressSent) = [some (.ref this), some (.int p0), some (.int p1), none] := by simp only [jents, jent_r, jent_i, jent_l, jent_a, jent_0]; rfl
  rw [hls]
  clear hls
  unfold f_Ref_addressSent at H
  refine J_iconst (v := 5) d_Ref_addressSent_0 (by decide) ?_
  refine J_iload_n d_Ref_addressSent_1 rfl ?_
  refine J_imul d_Ref_addressSent_2 ?_
  refine J_iload_n d_Ref_addressSent_3 rfl ?_
  refine J_iadd d_Ref_addressSent_4 ?_
  refine J_istore_n d_Ref_addressSent_5 (Nat.le_of_ble_eq_true rfl) ?_
  refine J_aload_n d_Ref_addressSent_6 rfl ?_
  refine J_aload_n d_Ref_addressSent_7 rfl ?_
  refine J_iconst (v := 0) d_Ref_addressSent_8 (by decide) ?_
  refine J_iload_n d_Ref_addressSent_9 rfl ?_
  refine J_iload_n d_Ref_addressSent_10 rfl ?_
  have g7 : Γ this = .inr 12 := by
    apply Classical.byContradiction
    intro q9
    rw [if_neg q9] at H
    cases H
  rw [if_pos g7] at H
  obtain ⟨q8, hq8, H⟩ := Option.bind_eq_some_iff.mp H
  refine J_callV (kc := 0) (ks := 0) (kc' := 0) (ks' := 0) (a := this) (ci := 12) (as := [.int (0 : Int32), .int p0, .int p1]) (st := [.ref this]) (mf_Ref_rowOf hw) (mv_Ref_388 hw) d_Ref_addressSent_11 ln_Ref_rowOf (by decide) (by first | exact Nat.le_of_ble_eq_true rfl | (simp only [List.map_cons, List.map_nil, List.sum_cons, List.sum_nil, va_rf_cat]; exact Nat.le_of_ble_eq_true rfl)) rfl ((hG _).1 _ g7 (by decide)).1 ((hG _).1 _ g7 (by decide)).2 (by unfold pic; rw [g7]; rfl) (jcl_at hw rfl) rfl (p_Ref_rowOf hw hG hq8) ?_ (fun E h' n' x' e1 => by cases e1.1)
  intro v9 h9 n9 x9 e9
  obtain ⟨e91, e92, e93⟩ := e9
  cases e91
  subst e92
  subst e93
  clear x
  rename Bool => x
  show J _ _ _ _ (_ :: _) _ _ _ _ _ _
  refine J_aload_n d_Ref_addressSent_14 rfl ?_
  refine F_getR (ci := 12) (k := 35) hG (cf_Ref hw) (fl_Ref_94 hw) (by decide) (by decide) rfl d_Ref_addressSent_15 g7 ?_
  refine J_iload_n d_Ref_addressSent_18 rfl ?_
  obtain ⟨a9, ha9, H⟩ := Option.bind_eq_some_iff.mp H
  rw [j_rf ha9]
  obtain ⟨N10, hN10, H⟩ := Option.bind_eq_some_iff.mp H
  obtain ⟨k11, hk11, H⟩ := Option.bind_eq_some_iff.mp H
  refine F_lald k11 hw hG d_Ref_addressSent_19 (gA_some hN10) (ix_some hk11) ?_
  refine J_iconst (v := 0) d_Ref_addressSent_20 (by decide) ?_
  refine J_aload_n d_Ref_addressSent_21 rfl ?_
  refine F_getI (ci := 12) (k := 6) hG (cf_Ref hw) (fl_Ref_348 hw) (by decide) (by decide) rfl d_Ref_addressSent_22 g7 ?_
  obtain ⟨q12, hq12, H⟩ := Option.bind_eq_some_iff.mp H
  refine J_callV (kc := 0) (ks := 0) (kc' := 0) (ks' := 0) (a := this) (ci := 12) (as := [.int q8.1, .long (q8.2.2.1 a9 k11), .int (0 : Int32), .int (q8.2.1 this 6)]) (st := []) (mf_Ref_put hw) (mv_Ref_469 hw) d_Ref_addressSent_25 ln_Ref_put (by decide) (by first | exact Nat.le_of_ble_eq_true rfl | (simp only [List.map_cons, List.map_nil, List.sum_cons, List.sum_nil, va_rf_cat]; exact Nat.le_of_ble_eq_true rfl)) rfl ((hG _).1 _ g7 (by decide)).1 ((hG _).1 _ g7 (by decide)).2 (by unfold pic; rw [g7]; rfl) (jcl_at hw rfl) rfl (p_Ref_put hw hG hq12) ?_ (fun E h' n' x' e1 => by cases e1.1)
  intro v9 h9 n9 x9 e9
  obtain ⟨e91, e92, e93⟩ := e9
  cases e91
  subst e92
  subst e93
  clear x
  rename Bool => x
  show J _ _ _ _ [] _ _ _ _ _ _
  refine J_aload_n d_Ref_addressSent_28 rfl ?_
  refine F_getR (ci := 12) (k := 28) hG (cf_Ref hw) (fl_Ref_73 hw) (by decide) (by decide) rfl d_Ref_addressSent_29 g7 ?_
  refine J_aload_n d_Ref_addressSent_32 rfl ?_
  refine J_iload_n d_Ref_addressSent_33 rfl ?_
  refine J_iload_n d_Ref_addressSent_34 rfl ?_
  refine J_if_ne (tgt := 42) d_Ref_addressSent_35 (by decide) ?_ ?_
  · intro c13
    rw [if_neg c13] at H
    refine J_iconst (v := 0) d_Ref_addressSent_42 (by decide) ?_
    refine J.drop [true, false, false, false] rfl ?_
    exact p_Ref_addressSent_L43 hw hG  H
  · intro c13
    rw [if_pos c13] at H
    refine J_iconst (v := 1) d_Ref_addressSent_38 (by decide) ?_
    refine J_goto (tgt := 43) d_Ref_addressSent_39 (by decide) ?_
    refine J.drop [true, false, false, false] rfl ?_
    exact p_Ref_addressSent_L43 hw hG  H
theorem ln_Ref_dataSent : (parseMethodDescriptor y_Ref_dataSent.desc).map (fun q => q.parameters.length) = some 1 := by decide +kernel
def f_Ref_dataSent (Γ : gm_T) (φ : ph_T) (this : Nat) (p0 : Int32) : Option (Unit × ph_T) :=
  @ite _ (Γ this = .inr 12) _ (
  Option.bind (f_Ref_rowOf Γ φ this (0 : Int32) p0 (1 : Int32)) fun q2 =>
  Option.bind (q2.2.2.2 this 35) fun a3 =>
  Option.bind (gA Γ a3 1) fun N4 =>
  Option.bind (ix (((5 : Int32) * p0) + (1 : Int32)) N4) fun k5 =>
  Option.bind (q2.2.2.2 this 36) fun a6 =>
  Option.bind (gA Γ a6 0) fun N7 =>
  Option.bind (ix (((5 : Int32) * p0) + (1 : Int32)) N7) fun k8 =>
  Option.bind (f_Ref_put Γ q2.2 this q2.1 (q2.2.2.1 a3 k5) (q2.2.1 a6 k8) (q2.2.1 this 6)) fun q9 =>
  Option.bind (f_Ref_unfinished Γ q9.2 this p0) fun q10 =>
  Option.bind (q10.2.2.2 this 30) fun a11 =>
  Option.bind (gA Γ a11 0) fun N12 =>
  Option.bind (ix q10.1 N12) fun k13 =>
  Option.bind (q10.2.2.2 this 35) fun a14 =>
  Option.bind (gA Γ a14 1) fun N15 =>
  Option.bind (ix (((5 : Int32) * p0) + (1 : Int32)) N15) fun k16 =>
  Option.bind (q10.2.2.2 this 32) fun a17 =>
  Option.bind (gA Γ a17 1) fun N18 =>
  Option.bind (ix (((16 : Int32) * q10.1) + (q10.2.1 a11 k13)) N18) fun k19 =>
  Option.bind ((uL q10.2 a17 k19 (q10.2.2.1 a14 k16)).2.2 this 26) fun a20 =>
  Option.bind (gA Γ a20 1) fun N21 =>
  Option.bind (ix q10.1 N21) fun k22 =>
  Option.bind (gA Γ a20 1) fun N23 =>
  Option.bind (ix q10.1 N23) fun k24 =>
  Option.bind ((uL (uL q10.2 a17 k19 (q10.2.2.1 a14 k16)) a20 k24 ((((uL q10.2 a17 k19 (q10.2.2.1 a14 k16)).2.1 a20 k22) * (6364136223846793005 : Int64)) + (1442695040888963407 : Int64))).2.2 this 30) fun a25 =>
  Option.bind (gA Γ a25 0) fun N26 =>
  Option.bind (ix q10.1 N26) fun k27 =>
  Option.bind (gA Γ a25 0) fun N28 =>
  Option.bind (ix q10.1 N28) fun k29 =>
  some ((), (uI (uL (uL q10.2 a17 k19 (q10.2.2.1 a14 k16)) a20 k24 ((((uL q10.2 a17 k19 (q10.2.2.1 a14 k16)).2.1 a20 k22) * (6364136223846793005 : Int64)) + (1442695040888963407 : Int64))) a25 k29 (((uL (uL q10.2 a17 k19 (q10.2.2.1 a14 k16)) a20 k24 ((((uL q10.2 a17 k19 (q10.2.2.1 a14 k16)).2.1 a20 k22) * (6364136223846793005 : Int64)) + (1442695040888963407 : Int64))).1 a25 k27) + (1 : Int32))))
  ) none
set_option maxRecDepth 100000 in
set_option maxHeartbeats 4000000 in
theorem p_Ref_dataSent {w : jw_T} (hw : jok w) {Γ : gm_T} {n : Nat} (hG : gd w Γ n) {x : Bool} {φ : ph_T} {this : Nat} {p0 : Int32} {q : Unit × ph_T} (H : f_Ref_dataSent Γ φ this p0 = some q) : jc w M_Ref_dataSent [.ref this, .int p0] (pic Γ φ) n x 0 0 (fq Γ n (.inl none) q.2) := by
  refine jc.of (by simp only [jent_r, jent_i, jent_l, jent_a, jent_0]; exact Nat.le_of_ble_eq_true rfl) ?_
  have hls : jents [.ref this, .int p0] (jm_nL M_Ref_dataSent) = [some (.ref this), some (.int p0), none, none] := by simp only [jents, jent_r, jent_i, jent_l, jent_a, jent_0]; rfl
  rw [hls]
  clear hls
  unfold f_Ref_dataSent at H
  refine J_iconst (v := 5) d_Ref_dataSent_0 (by decide) ?_
  refine J_iload_n d_Ref_dataSent_1 rfl ?_
  refine J_imul d_Ref_dataSent_2 ?_
  refine J_iconst (v := 1) d_Ref_dataSent_3 (by decide) ?_
  refine J_iadd d_Ref_dataSent_4 ?_
  refine J_istore_n d_Ref_dataSent_5 (Nat.le_of_ble_eq_true rfl) ?_
  refine J_aload_n d_Ref_dataSent_6 rfl ?_
  refine J_aload_n d_Ref_dataSent_7 rfl ?_
  refine J_iconst (v := 0) d_Ref_dataSent_8 (by decide) ?_
  refine J_iload_n d_Ref_dataSent_9 rfl ?_
  refine J_iconst (v := 1) d_Ref_dataSent_10 (by decide) ?_
  have g1 : Γ this = .inr 12 := by
    apply Classical.byContradiction
    intro q9
    rw [if_neg q9] at H
    cases H
  rw [if_pos g1] at H
  obtain ⟨q2, hq2, H⟩ := Option.bind_eq_some_iff.mp H
  refine J_callV (kc := 0) (ks := 0) (kc' := 0) (ks' := 0) (a := this) (ci := 12) (as := [.int (0 : Int32), .int p0, .int (1 : Int32)]) (st := [.ref this]) (mf_Ref_rowOf hw) (mv_Ref_388 hw) d_Ref_dataSent_11 ln_Ref_rowOf (by decide) (by first | exact Nat.le_of_ble_eq_true rfl | (simp only [List.map_cons, List.map_nil, List.sum_cons, List.sum_nil, va_rf_cat]; exact Nat.le_of_ble_eq_true rfl)) rfl ((hG _).1 _ g1 (by decide)).1 ((hG _).1 _ g1 (by decide)).2 (by unfold pic; rw [g1]; rfl) (jcl_at hw rfl) rfl (p_Ref_rowOf hw hG hq2) ?_ (fun E h' n' x' e1 => by cases e1.1)
  intro v9 h9 n9 x9 e9
  obtain ⟨e91, e92, e93⟩ := e9
  cases e91
  subst e92
  subst e93
  clear x
  rename Bool => x
  show J _ _ _ _ (_ :: _) _ _ _ _ _ _
  refine J_aload_n d_Ref_dataSent_14 rfl ?_
  refine F_getR (ci := 12) (k := 35) hG (cf_Ref hw) (fl_Ref_94 hw) (by decide) (by decide) rfl d_Ref_dataSent_15 g1 ?_
  refine J_iload_n d_Ref_dataSent_18 rfl ?_
  obtain ⟨a3, ha3, H⟩ := Option.bind_eq_some_iff.mp H
  rw [j_rf ha3]
  obtain ⟨N4, hN4, H⟩ := Option.bind_eq_some_iff.mp H
  obtain ⟨k5, hk5, H⟩ := Option.bind_eq_some_iff.mp H
  refine F_lald k5 hw hG d_Ref_dataSent_19 (gA_some hN4) (ix_some hk5) ?_
  refine J_aload_n d_Ref_dataSent_20 rfl ?_
  refine F_getR (ci := 12) (k := 36) hG (cf_Ref hw) (fl_Ref_97 hw) (by decide) (by decide) rfl d_Ref_dataSent_21 g1 ?_
  refine J_iload_n d_Ref_dataSent_24 rfl ?_
  obtain ⟨a6, ha6, H⟩ := Option.bind_eq_some_iff.mp H
  rw [j_rf ha6]
  obtain ⟨N7, hN7, H⟩ := Option.bind_eq_some_iff.mp H
  obtain ⟨k8, hk8, H⟩ := Option.bind_eq_some_iff.mp H
  refine F_iald k8 hw hG d_Ref_dataSent_25 (gA_some hN7) (ix_some hk8) ?_
  refine J_aload_n d_Ref_dataSent_26 rfl ?_
  refine F_getI (ci := 12) (k := 6) hG (cf_Ref hw) (fl_Ref_348 hw) (by decide) (by decide) rfl d_Ref_dataSent_27 g1 ?_
  obtain ⟨q9, hq9, H⟩ := Option.bind_eq_some_iff.mp H
  refine J_callV (kc := 0) (ks := 0) (kc' := 0) (ks' := 0) (a := this) (ci := 12) (as := [.int q2.1, .long (q2.2.2.1 a3 k5), .int (q2.2.1 a6 k8), .int (q2.2.1 this 6)]) (st := []) (mf_Ref_put hw) (mv_Ref_469 hw) d_Ref_dataSent_30 ln_Ref_put (by decide) (by first | exact Nat.le_of_ble_eq_true rfl | (simp only [List.map_cons, List.map_nil, List.sum_cons, List.sum_nil, va_rf_cat]; exact Nat.le_of_ble_eq_true rfl)) rfl ((hG _).1 _ g1 (by decide)).1 ((hG _).1 _ g1 (by decide)).2 (by unfold pic; rw [g1]; rfl) (jcl_at hw rfl) rfl (p_Ref_put hw hG hq9) ?_ (fun E h' n' x' e1 => by cases e1.1)
  intro v9 h9 n9 x9 e9
  obtain ⟨e91, e92, e93⟩ := e9
  cases e91
  subst e92
  subst e93
  clear x
  rename Bool => x
  show J _ _ _ _ [] _ _ _ _ _ _
  refine J_aload_n d_Ref_dataSent_33 rfl ?_
  refine J_iload_n d_Ref_dataSent_34 rfl ?_
  obtain ⟨q10, hq10, H⟩ := Option.bind_eq_some_iff.mp H
  refine J_callV (kc := 0) (ks := 0) (kc' := 0) (ks' := 0) (a := this) (ci := 12) (as := [.int p0]) (st := []) (mf_Ref_unfinished hw) (mv_Ref_363 hw) d_Ref_dataSent_35 ln_Ref_unfinished (by decide) (by first | exact Nat.le_of_ble_eq_true rfl | (simp only [List.map_cons, List.map_nil, List.sum_cons, List.sum_nil, va_rf_cat]; exact Nat.le_of_ble_eq_true rfl)) rfl ((hG _).1 _ g1 (by decide)).1 ((hG _).1 _ g1 (by decide)).2 (by unfold pic; rw [g1]; rfl) (jcl_at hw rfl) rfl (p_Ref_unfinished hw hG hq10) ?_ (fun E h' n' x' e1 => by cases e1.1)
  intro v9 h9 n9 x9 e9
  obtain ⟨e91, e92, e93⟩ := e9
  cases e91
  subst e92
  subst e93
  clear x
  rename Bool => x
  show J _ _ _ _ (_ :: _) _ _ _ _ _ _
  refine J_istore_n d_Ref_dataSent_38 (Nat.le_of_ble_eq_true rfl) ?_
  refine J_aload_n d_Ref_dataSent_39 rfl ?_
  refine F_getR (ci := 12) (k := 32) hG (cf_Ref hw) (fl_Ref_85 hw) (by decide) (by decide) rfl d_Ref_dataSent_40 g1 ?_
  refine J_bipush (v := 16) d_Ref_dataSent_43 (by decide) ?_
  refine J_iload_n d_Ref_dataSent_45 rfl ?_
  refine J_imul d_Ref_dataSent_46 ?_
  refine J_aload_n d_Ref_dataSent_47 rfl ?_
  refine F_getR (ci := 12) (k := 30) hG (cf_Ref hw) (fl_Ref_79 hw) (by decide) (by decide) rfl d_Ref_dataSent_48 g1 ?_
  refine J_iload_n d_Ref_dataSent_51 rfl ?_
  obtain ⟨a11, ha11, H⟩ := Option.bind_eq_some_iff.mp H
  rw [j_rf ha11]
  obtain ⟨N12, hN12, H⟩ := Option.bind_eq_some_iff.mp H
  obtain ⟨k13, hk13, H⟩ := Option.bind_eq_some_iff.mp H
  refine F_iald k13 hw hG d_Ref_dataSent_52 (gA_some hN12) (ix_some hk13) ?_
  refine J_iadd d_Ref_dataSent_53 ?_
  refine J_aload_n d_Ref_dataSent_54 rfl ?_
  refine F_getR (ci := 12) (k := 35) hG (cf_Ref hw) (fl_Ref_94 hw) (by decide) (by decide) rfl d_Ref_dataSent_55 g1 ?_
  refine J_iload_n d_Ref_dataSent_58 rfl ?_
  obtain ⟨a14, ha14, H⟩ := Option.bind_eq_some_iff.mp H
  rw [j_rf ha14]
  obtain ⟨N15, hN15, H⟩ := Option.bind_eq_some_iff.mp H
  obtain ⟨k16, hk16, H⟩ := Option.bind_eq_some_iff.mp H
  refine F_lald k16 hw hG d_Ref_dataSent_59 (gA_some hN15) (ix_some hk16) ?_
  obtain ⟨a17, ha17, H⟩ := Option.bind_eq_some_iff.mp H
  rw [j_rf ha17]
  obtain ⟨N18, hN18, H⟩ := Option.bind_eq_some_iff.mp H
  obtain ⟨k19, hk19, H⟩ := Option.bind_eq_some_iff.mp H
  refine F_last k19 hw hG d_Ref_dataSent_60 (gA_some hN18) (ix_some hk19) ?_
  refine J_aload_n d_Ref_dataSent_61 rfl ?_
  refine F_getR (ci := 12) (k := 26) hG (cf_Ref hw) (fl_Ref_66 hw) (by decide) (by decide) rfl d_Ref_dataSent_62 g1 ?_
  refine J_iload_n d_Ref_dataSent_65 rfl ?_
  refine J_aload_n d_Ref_dataSent_66 rfl ?_
  refine F_getR (ci := 12) (k := 26) hG (cf_Ref hw) (fl_Ref_66 hw) (by decide) (by decide) rfl d_Ref_dataSent_67 g1 ?_
  refine J_iload_n d_Ref_dataSent_70 rfl ?_
  obtain ⟨a20, ha20, H⟩ := Option.bind_eq_some_iff.mp H
  rw [j_rf ha20]
  obtain ⟨N21, hN21, H⟩ := Option.bind_eq_some_iff.mp H
  obtain ⟨k22, hk22, H⟩ := Option.bind_eq_some_iff.mp H
  refine F_lald k22 hw hG d_Ref_dataSent_71 (gA_some hN21) (ix_some hk22) ?_
  refine J_ldc2 (v := 6364136223846793005) d_Ref_dataSent_72 (kn_Ref_373 hw) ?_
  refine J_lmul d_Ref_dataSent_75 ?_
  refine J_ldc2 (v := 1442695040888963407) d_Ref_dataSent_76 (kn_Ref_375 hw) ?_
  refine J_ladd d_Ref_dataSent_79 ?_
  obtain ⟨N23, hN23, H⟩ := Option.bind_eq_some_iff.mp H
  obtain ⟨k24, hk24, H⟩ := Option.bind_eq_some_iff.mp H
  refine F_last k24 hw hG d_Ref_dataSent_80 (gA_some hN23) (ix_some hk24) ?_
  refine J_aload_n d_Ref_dataSent_81 rfl ?_
  refine F_getR (ci := 12) (k := 30) hG (cf_Ref hw) (fl_Ref_79 hw) (by decide) (by decide) rfl d_Ref_dataSent_82 g1 ?_
  refine J_iload_n d_Ref_dataSent_85 rfl ?_
  refine J_dup2 d_Ref_dataSent_86 rfl (va_rf_cat _) ?_
  obtain ⟨a25, ha25, H⟩ := Option.bind_eq_some_iff.mp H
  rw [j_rf ha25]
  obtain ⟨N26, hN26, H⟩ := Option.bind_eq_some_iff.mp H
  obtain ⟨k27, hk27, H⟩ := Option.bind_eq_some_iff.mp H
  refine F_iald k27 hw hG d_Ref_dataSent_87 (gA_some hN26) (ix_some hk27) ?_
  refine J_iconst (v := 1) d_Ref_dataSent_88 (by decide) ?_
  refine J_iadd d_Ref_dataSent_89 ?_
  obtain ⟨N28, hN28, H⟩ := Option.bind_eq_some_iff.mp H
  obtain ⟨k29, hk29, H⟩ := Option.bind_eq_some_iff.mp H
  refine F_iast k29 hw hG d_Ref_dataSent_90 (gA_some hN28) (ix_some hk29) ?_
  cases H
  exact J_vret (st := []) d_Ref_dataSent_91 rfl ⟨rfl, rfl, rfl⟩
theorem ln_Ref_take : (parseMethodDescriptor y_Ref_take.desc).map (fun q => q.parameters.length) = some 1 := by decide +kernel
def f_Ref_take_L14 (Γ : gm_T)  : Nat → ph_T → Nat → Int32 → Int32 → Option (Unit × ph_T)
  | 0, _, _, _, _ => none
  | fu + 1, φ, x0, x1, x2 =>
    @ite _ (Γ x0 = .inr 12) _ (
    Option.bind (φ.2.2 x0 42) fun a2 =>
    Option.bind (gA Γ a2 0) fun N3 =>
    Option.bind (ix x1 N3) fun k4 =>
    if (((4 : Int32) * x1) + (φ.1 a2 k4)) ≤ x2 then
      some ((), φ)
    else
      Option.bind (φ.2.2 x0 39) fun a5 =>
      Option.bind (gA Γ a5 1) fun N6 =>
      Option.bind (ix (x2 + (1 : Int32)) N6) fun k7 =>
      Option.bind (gA Γ a5 1) fun N8 =>
      Option.bind (ix x2 N8) fun k9 =>
      Option.bind ((uL φ a5 k9 (φ.2.1 a5 k7)).2.2 x0 40) fun a10 =>
      Option.bind (gA Γ a10 0) fun N11 =>
      Option.bind (ix (x2 + (1 : Int32)) N11) fun k12 =>
      Option.bind (gA Γ a10 0) fun N13 =>
      Option.bind (ix x2 N13) fun k14 =>
      Option.bind ((uI (uL φ a5 k9 (φ.2.1 a5 k7)) a10 k14 ((uL φ a5 k9 (φ.2.1 a5 k7)).1 a10 k12)).2.2 x0 41) fun a15 =>
      Option.bind (gA Γ a15 0) fun N16 =>
      Option.bind (ix (x2 + (1 : Int32)) N16) fun k17 =>
      Option.bind (gA Γ a15 0) fun N18 =>
      Option.bind (ix x2 N18) fun k19 =>
      (f_Ref_take_L14 Γ  fu) (uI (uI (uL φ a5 k9 (φ.2.1 a5 k7)) a10 k14 ((uL φ a5 k9 (φ.2.1 a5 k7)).1 a10 k12)) a15 k19 ((uI (uL φ a5 k9 (φ.2.1 a5 k7)) a10 k14 ((uL φ a5 k9 (φ.2.1 a5 k7)).1 a10 k12)).1 a15 k17)) x0 x1 (x2 + (1 : Int32))
    ) none
set_option maxRecDepth 100000 in
set_option maxHeartbeats 4000000 in
theorem p_Ref_take_L14 {w : jw_T} (hw : jok w) {Γ : gm_T} {n : Nat} (hG : gd w Γ n)  : ∀ (fu : Nat) {x : Bool} {φ : ph_T} {x0 : Nat} {x1 : Int32} {x2 : Int32} {q : Unit × ph_T}, f_Ref_take_L14 Γ  fu φ x0 x1 x2 = some q → J w M_Ref_take 14 [some (.ref x0), some (.int x1), some (.int x2)] [] (pic Γ φ) n x 0 0 (fq Γ n (.inl none) q.2) := by
  intro fu
  induction fu with
  | zero =>
    intro x φ x0 x1 x2 q H
    cases H
  | succ fu ih =>
    intro x φ x0 x1 x2 q H
    unfold f_Ref_take_L14 at H
    refine J_iload_n d_Ref_take_14 rfl ?_
    refine J_iconst (v := 4) d_Ref_take_15 (by decide) ?_
    refine J_iload_n d_Ref_take_16 rfl ?_
    refine J_imul d_Ref_take_17 ?_
    refine J_aload_n d_Ref_take_18 rfl ?_
    have g1 : Γ x0 = .inr 12 := by
      apply Classical.byContradiction
      intro q9
      rw [if_neg q9] at H
      cases H
    rw [if_pos g1] at H
    refine F_getR (ci := 12) (k := 42) hG (cf_Ref hw) (fl_Ref_115 hw) (by decide) (by decide) rfl d_Ref_take_19 g1 ?_
    refine J_iload_n d_Ref_take_22 rfl ?_
    obtain ⟨a2, ha2, H⟩ := Option.bind_eq_some_iff.mp H
    rw [j_rf ha2]
    obtain ⟨N3, hN3, H⟩ := Option.bind_eq_some_iff.mp H
    obtain ⟨k4, hk4, H⟩ := Option.bind_eq_some_iff.mp H
    refine F_iald k4 hw hG d_Ref_take_23 (gA_some hN3) (ix_some hk4) ?_
    refine J_iadd d_Ref_take_24 ?_
    refine J_icmp_ge (tgt := 76) d_Ref_take_25 (by decide) ?_ ?_
    · intro c20
      rw [if_pos c20] at H
      cases H
      exact J_vret (st := []) d_Ref_take_76 rfl ⟨rfl, rfl, rfl⟩
    · intro c20
      rw [if_neg c20] at H
      refine J_aload_n d_Ref_take_28 rfl ?_
      refine F_getR (ci := 12) (k := 39) hG (cf_Ref hw) (fl_Ref_106 hw) (by decide) (by decide) rfl d_Ref_take_29 g1 ?_
      refine J_iload_n d_Ref_take_32 rfl ?_
      refine J_aload_n d_Ref_take_33 rfl ?_
      refine F_getR (ci := 12) (k := 39) hG (cf_Ref hw) (fl_Ref_106 hw) (by decide) (by decide) rfl d_Ref_take_34 g1 ?_
      refine J_iload_n d_Ref_take_37 rfl ?_
      refine J_iconst (v := 1) d_Ref_take_38 (by decide) ?_
      refine J_iadd d_Ref_take_39 ?_
      obtain ⟨a5, ha5, H⟩ := Option.bind_eq_some_iff.mp H
      rw [j_rf ha5]
      obtain ⟨N6, hN6, H⟩ := Option.bind_eq_some_iff.mp H
      obtain ⟨k7, hk7, H⟩ := Option.bind_eq_some_iff.mp H
      refine F_lald k7 hw hG d_Ref_take_40 (gA_some hN6) (ix_some hk7) ?_
      obtain ⟨N8, hN8, H⟩ := Option.bind_eq_some_iff.mp H
      obtain ⟨k9, hk9, H⟩ := Option.bind_eq_some_iff.mp H
      refine F_last k9 hw hG d_Ref_take_41 (gA_some hN8) (ix_some hk9) ?_
      refine J_aload_n d_Ref_take_42 rfl ?_
      refine F_getR (ci := 12) (k := 40) hG (cf_Ref hw) (fl_Ref_109 hw) (by decide) (by decide) rfl d_Ref_take_43 g1 ?_
      refine J_iload_n d_Ref_take_46 rfl ?_
      refine J_aload_n d_Ref_take_47 rfl ?_
      refine F_getR (ci := 12) (k := 40) hG (cf_Ref hw) (fl_Ref_109 hw) (by decide) (by decide) rfl d_Ref_take_48 g1 ?_
      refine J_iload_n d_Ref_take_51 rfl ?_
      refine J_iconst (v := 1) d_Ref_take_52 (by decide) ?_
      refine J_iadd d_Ref_take_53 ?_
      obtain ⟨a10, ha10, H⟩ := Option.bind_eq_some_iff.mp H
      rw [j_rf ha10]
      obtain ⟨N11, hN11, H⟩ := Option.bind_eq_some_iff.mp H
      obtain ⟨k12, hk12, H⟩ := Option.bind_eq_some_iff.mp H
      refine F_iald k12 hw hG d_Ref_take_54 (gA_some hN11) (ix_some hk12) ?_
      obtain ⟨N13, hN13, H⟩ := Option.bind_eq_some_iff.mp H
      obtain ⟨k14, hk14, H⟩ := Option.bind_eq_some_iff.mp H
      refine F_iast k14 hw hG d_Ref_take_55 (gA_some hN13) (ix_some hk14) ?_
      refine J_aload_n d_Ref_take_56 rfl ?_
      refine F_getR (ci := 12) (k := 41) hG (cf_Ref hw) (fl_Ref_112 hw) (by decide) (by decide) rfl d_Ref_take_57 g1 ?_
      refine J_iload_n d_Ref_take_60 rfl ?_
      refine J_aload_n d_Ref_take_61 rfl ?_
      refine F_getR (ci := 12) (k := 41) hG (cf_Ref hw) (fl_Ref_112 hw) (by decide) (by decide) rfl d_Ref_take_62 g1 ?_
      refine J_iload_n d_Ref_take_65 rfl ?_
      refine J_iconst (v := 1) d_Ref_take_66 (by decide) ?_
      refine J_iadd d_Ref_take_67 ?_
      obtain ⟨a15, ha15, H⟩ := Option.bind_eq_some_iff.mp H
      rw [j_rf ha15]
      obtain ⟨N16, hN16, H⟩ := Option.bind_eq_some_iff.mp H
      obtain ⟨k17, hk17, H⟩ := Option.bind_eq_some_iff.mp H
      refine F_iald k17 hw hG d_Ref_take_68 (gA_some hN16) (ix_some hk17) ?_
      obtain ⟨N18, hN18, H⟩ := Option.bind_eq_some_iff.mp H
      obtain ⟨k19, hk19, H⟩ := Option.bind_eq_some_iff.mp H
      refine F_iast k19 hw hG d_Ref_take_69 (gA_some hN18) (ix_some hk19) ?_
      refine J_iinc (v := x2 + 1) d_Ref_take_70 rfl (by rw [show Int32.ofInt 1 = (1 : Int32) from by decide]) ?_
      refine J_goto (tgt := 14) d_Ref_take_73 (by decide) ?_
      refine J.drop [true, true, true] rfl ?_
      exact ih H
def f_Ref_take (Γ : gm_T) (φ : ph_T) (this : Nat) (p0 : Int32) : Option (Unit × ph_T) :=
  @ite _ (Γ this = .inr 12) _ (
  Option.bind (φ.2.2 this 42) fun a22 =>
  Option.bind (gA Γ a22 0) fun N23 =>
  Option.bind (ix p0 N23) fun k24 =>
  Option.bind (gA Γ a22 0) fun N25 =>
  Option.bind (ix p0 N25) fun k26 =>
  f_Ref_take_L14 Γ  jF (uI φ a22 k26 ((φ.1 a22 k24) - (1 : Int32))) this p0 ((4 : Int32) * p0)
  ) none
set_option maxRecDepth 100000 in
set_option maxHeartbeats 4000000 in
theorem p_Ref_take {w : jw_T} (hw : jok w) {Γ : gm_T} {n : Nat} (hG : gd w Γ n) {x : Bool} {φ : ph_T} {this : Nat} {p0 : Int32} {q : Unit × ph_T} (H : f_Ref_take Γ φ this p0 = some q) : jc w M_Ref_take [.ref this, .int p0] (pic Γ φ) n x 0 0 (fq Γ n (.inl none) q.2) := by
  refine jc.of (by simp only [jent_r, jent_i, jent_l, jent_a, jent_0]; exact Nat.le_of_ble_eq_true rfl) ?_
  have hls : jents [.ref this, .int p0] (jm_nL M_Ref_take) = [some (.ref this), some (.int p0), none] := by simp only [jents, jent_r, jent_i, jent_l, jent_a, jent_0]; rfl
  rw [hls]
  clear hls
  unfold f_Ref_take at H
  refine J_aload_n d_Ref_take_0 rfl ?_
  have g21 : Γ this = .inr 12 := by
    apply Classical.byContradiction
    intro q9
    rw [if_neg q9] at H
    cases H
  rw [if_pos g21] at H
  refine F_getR (ci := 12) (k := 42) hG (cf_Ref hw) (fl_Ref_115 hw) (by decide) (by decide) rfl d_Ref_take_1 g21 ?_
  refine J_iload_n d_Ref_take_4 rfl ?_
  refine J_dup2 d_Ref_take_5 rfl (va_rf_cat _) ?_
  obtain ⟨a22, ha22, H⟩ := Option.bind_eq_some_iff.mp H
  rw [j_rf ha22]
  obtain ⟨N23, hN23, H⟩ := Option.bind_eq_some_iff.mp H
  obtain ⟨k24, hk24, H⟩ := Option.bind_eq_some_iff.mp H
  refine F_iald k24 hw hG d_Ref_take_6 (gA_some hN23) (ix_some hk24) ?_
  refine J_iconst (v := 1) d_Ref_take_7 (by decide) ?_
  refine J_isub d_Ref_take_8 ?_
  obtain ⟨N25, hN25, H⟩ := Option.bind_eq_some_iff.mp H
  obtain ⟨k26, hk26, H⟩ := Option.bind_eq_some_iff.mp H
  refine F_iast k26 hw hG d_Ref_take_9 (gA_some hN25) (ix_some hk26) ?_
  refine J_iconst (v := 4) d_Ref_take_10 (by decide) ?_
  refine J_iload_n d_Ref_take_11 rfl ?_
  refine J_imul d_Ref_take_12 ?_
  refine J_istore_n d_Ref_take_13 (Nat.le_of_ble_eq_true rfl) ?_
  refine J.drop [true, true, true] rfl ?_
  exact p_Ref_take_L14 hw hG  _ H
theorem ln_Ref_answered : (parseMethodDescriptor y_Ref_answered.desc).map (fun q => q.parameters.length) = some 3 := by decide +kernel
def f_Ref_answered_L70 (Γ : gm_T) (Kc3 : ph_T → Nat → Int32 → Int32 → Int32 → Int32 → Option (Int32 × ph_T)) (φ : ph_T) (x0 : Nat) (x1 : Int32) (x2 : Int32) (x3 : Int32) (x4 : Int32) : Option (Int32 × ph_T) :=
  Kc3 φ x0 x1 x2 x3 (x4 + (1 : Int32))
set_option maxRecDepth 100000 in
set_option maxHeartbeats 4000000 in
theorem p_Ref_answered_L70 {w : jw_T} (hw : jok w) {Γ : gm_T} {n : Nat} (hG : gd w Γ n) {Kc3 : ph_T → Nat → Int32 → Int32 → Int32 → Int32 → Option (Int32 × ph_T)} (hKc3 : ∀ {x : Bool} {φ : ph_T} {x0 : Nat} {x1 : Int32} {x2 : Int32} {x3 : Int32} {x4 : Int32} {q : Int32 × ph_T}, Kc3 φ x0 x1 x2 x3 x4 = some q → J w M_Ref_answered 3 [some (.ref x0), some (.int x1), some (.int x2), some (.int x3), some (.int x4)] [] (pic Γ φ) n x 0 0 (fq Γ n (.inl (some (.int q.1))) q.2)) {x : Bool} {φ : ph_T} {x0 : Nat} {x1 : Int32} {x2 : Int32} {x3 : Int32} {x4 : Int32} {q : Int32 × ph_T} (H : f_Ref_answered_L70 Γ Kc3 φ x0 x1 x2 x3 x4 = some q) : J w M_Ref_answered 70 [some (.ref x0), some (.int x1), some (.int x2), some (.int x3), some (.int x4)] [] (pic Γ φ) n x 0 0 (fq Γ n (.inl (some (.int q.1))) q.2) := by
  unfold f_Ref_answered_L70 at H
  refine J_iinc (v := x4 + 1) d_Ref_answered_70 rfl (by rw [show Int32.ofInt 1 = (1 : Int32) from by decide]) ?_
  refine J_goto (tgt := 3) d_Ref_answered_73 (by decide) ?_
  refine J.drop [true, true, true, true, true] rfl ?_
  exact hKc3 H
def f_Ref_answered_L3 (Γ : gm_T)  : Nat → ph_T → Nat → Int32 → Int32 → Int32 → Int32 → Option (Int32 × ph_T)
  | 0, _, _, _, _, _, _ => none
  | fu + 1, φ, x0, x1, x2, x3, x4 =>
    @ite _ (Γ x0 = .inr 12) _ (
    if (φ.1 x0 15) ≤ x4 then
      some ((-1 : Int32), φ)
    else
      Option.bind (φ.2.2 x0 16) fun a2 =>
      Option.bind (gA Γ a2 0) fun N3 =>
      Option.bind (ix x4 N3) fun k4 =>
      if (φ.1 a2 k4) = x1 then
        Option.bind (φ.2.2 x0 20) fun a5 =>
        Option.bind (gA Γ a5 2) fun N6 =>
        Option.bind (ix x4 N6) fun k7 =>
        if (φ.1 a5 k7) = x3 then
          Option.bind (φ.2.2 x0 25) fun a8 =>
          Option.bind (gA Γ a8 0) fun N9 =>
          Option.bind (ix x4 N9) fun k10 =>
          if (φ.1 a8 k10) = x2 then
            Option.bind (φ.2.2 x0 28) fun a11 =>
            Option.bind (gA Γ a11 0) fun N12 =>
            Option.bind (ix x4 N12) fun k13 =>
            if (φ.1 a11 k13) = (-1 : Int32) then
              f_Ref_answered_L70 Γ (f_Ref_answered_L3 Γ  fu) φ x0 x1 x2 x3 x4
            else
              Option.bind (φ.2.2 x0 29) fun a14 =>
              Option.bind (gA Γ a14 0) fun N15 =>
              Option.bind (ix x4 N15) fun k16 =>
              if (φ.1 a14 k16) = (-1 : Int32) then
                some (x4, φ)
              else
                f_Ref_answered_L70 Γ (f_Ref_answered_L3 Γ  fu) φ x0 x1 x2 x3 x4
          else
            f_Ref_answered_L70 Γ (f_Ref_answered_L3 Γ  fu) φ x0 x1 x2 x3 x4
        else
          f_Ref_answered_L70 Γ (f_Ref_answered_L3 Γ  fu) φ x0 x1 x2 x3 x4
      else
        f_Ref_answered_L70 Γ (f_Ref_answered_L3 Γ  fu) φ x0 x1 x2 x3 x4
    ) none
set_option maxRecDepth 100000 in
set_option maxHeartbeats 4000000 in
theorem p_Ref_answered_L3 {w : jw_T} (hw : jok w) {Γ : gm_T} {n : Nat} (hG : gd w Γ n)  : ∀ (fu : Nat) {x : Bool} {φ : ph_T} {x0 : Nat} {x1 : Int32} {x2 : Int32} {x3 : Int32} {x4 : Int32} {q : Int32 × ph_T}, f_Ref_answered_L3 Γ  fu φ x0 x1 x2 x3 x4 = some q → J w M_Ref_answered 3 [some (.ref x0), some (.int x1), some (.int x2), some (.int x3), some (.int x4)] [] (pic Γ φ) n x 0 0 (fq Γ n (.inl (some (.int q.1))) q.2) := by
  intro fu
  induction fu with
  | zero =>
    intro x φ x0 x1 x2 x3 x4 q H
    cases H
  | succ fu ih =>
    intro x φ x0 x1 x2 x3 x4 q H
    unfold f_Ref_answered_L3 at H
    refine J_iload d_Ref_answered_3 rfl ?_
    refine J_aload_n d_Ref_answered_5 rfl ?_
    have g1 : Γ x0 = .inr 12 := by
      apply Classical.byContradiction
      intro q9
      rw [if_neg q9] at H
      cases H
    rw [if_pos g1] at H
    refine F_getI (ci := 12) (k := 15) hG (cf_Ref hw) (fl_Ref_337 hw) (by decide) (by decide) rfl d_Ref_answered_6 g1 ?_
    refine J_icmp_ge (tgt := 76) d_Ref_answered_9 (by decide) ?_ ?_
    · intro c22
      rw [if_pos c22] at H
      refine J_iconst (v := -1) d_Ref_answered_76 (by decide) ?_
      cases H
      exact J_iret (st := []) d_Ref_answered_77 rfl rfl ⟨rfl, rfl, rfl⟩
    · intro c22
      rw [if_neg c22] at H
      refine J_aload_n d_Ref_answered_12 rfl ?_
      refine F_getR (ci := 12) (k := 16) hG (cf_Ref hw) (fl_Ref_36 hw) (by decide) (by decide) rfl d_Ref_answered_13 g1 ?_
      refine J_iload d_Ref_answered_16 rfl ?_
      obtain ⟨a2, ha2, H⟩ := Option.bind_eq_some_iff.mp H
      rw [j_rf ha2]
      obtain ⟨N3, hN3, H⟩ := Option.bind_eq_some_iff.mp H
      obtain ⟨k4, hk4, H⟩ := Option.bind_eq_some_iff.mp H
      refine F_iald k4 hw hG d_Ref_answered_18 (gA_some hN3) (ix_some hk4) ?_
      refine J_iload_n d_Ref_answered_19 rfl ?_
      refine J_icmp_ne (tgt := 70) d_Ref_answered_20 (by decide) ?_ ?_
      · intro c21
        rw [if_neg c21] at H
        refine J.drop [true, true, true, true, true] rfl ?_
        exact p_Ref_answered_L70 hw hG ih H
      · intro c21
        rw [if_pos c21] at H
        refine J_aload_n d_Ref_answered_23 rfl ?_
        refine F_getR (ci := 12) (k := 20) hG (cf_Ref hw) (fl_Ref_48 hw) (by decide) (by decide) rfl d_Ref_answered_24 g1 ?_
        refine J_iload d_Ref_answered_27 rfl ?_
        obtain ⟨a5, ha5, H⟩ := Option.bind_eq_some_iff.mp H
        rw [j_rf ha5]
        obtain ⟨N6, hN6, H⟩ := Option.bind_eq_some_iff.mp H
        obtain ⟨k7, hk7, H⟩ := Option.bind_eq_some_iff.mp H
        refine F_zald k7 hw hG d_Ref_answered_29 (gA_some hN6) (ix_some hk7) ?_
        refine J_iload_n d_Ref_answered_30 rfl ?_
        refine J_icmp_ne (tgt := 70) d_Ref_answered_31 (by decide) ?_ ?_
        · intro c20
          rw [if_neg c20] at H
          refine J.drop [true, true, true, true, true] rfl ?_
          exact p_Ref_answered_L70 hw hG ih H
        · intro c20
          rw [if_pos c20] at H
          refine J_aload_n d_Ref_answered_34 rfl ?_
          refine F_getR (ci := 12) (k := 25) hG (cf_Ref hw) (fl_Ref_63 hw) (by decide) (by decide) rfl d_Ref_answered_35 g1 ?_
          refine J_iload d_Ref_answered_38 rfl ?_
          obtain ⟨a8, ha8, H⟩ := Option.bind_eq_some_iff.mp H
          rw [j_rf ha8]
          obtain ⟨N9, hN9, H⟩ := Option.bind_eq_some_iff.mp H
          obtain ⟨k10, hk10, H⟩ := Option.bind_eq_some_iff.mp H
          refine F_iald k10 hw hG d_Ref_answered_40 (gA_some hN9) (ix_some hk10) ?_
          refine J_iload_n d_Ref_answered_41 rfl ?_
          refine J_icmp_ne (tgt := 70) d_Ref_answered_42 (by decide) ?_ ?_
          · intro c19
            rw [if_neg c19] at H
            refine J.drop [true, true, true, true, true] rfl ?_
            exact p_Ref_answered_L70 hw hG ih H
          · intro c19
            rw [if_pos c19] at H
            refine J_aload_n d_Ref_answered_45 rfl ?_
            refine F_getR (ci := 12) (k := 28) hG (cf_Ref hw) (fl_Ref_73 hw) (by decide) (by decide) rfl d_Ref_answered_46 g1 ?_
            refine J_iload d_Ref_answered_49 rfl ?_
            obtain ⟨a11, ha11, H⟩ := Option.bind_eq_some_iff.mp H
            rw [j_rf ha11]
            obtain ⟨N12, hN12, H⟩ := Option.bind_eq_some_iff.mp H
            obtain ⟨k13, hk13, H⟩ := Option.bind_eq_some_iff.mp H
            refine F_iald k13 hw hG d_Ref_answered_51 (gA_some hN12) (ix_some hk13) ?_
            refine J_iconst (v := -1) d_Ref_answered_52 (by decide) ?_
            refine J_icmp_eq (tgt := 70) d_Ref_answered_53 (by decide) ?_ ?_
            · intro c18
              rw [if_pos c18] at H
              refine J.drop [true, true, true, true, true] rfl ?_
              exact p_Ref_answered_L70 hw hG ih H
            · intro c18
              rw [if_neg c18] at H
              refine J_aload_n d_Ref_answered_56 rfl ?_
              refine F_getR (ci := 12) (k := 29) hG (cf_Ref hw) (fl_Ref_76 hw) (by decide) (by decide) rfl d_Ref_answered_57 g1 ?_
              refine J_iload d_Ref_answered_60 rfl ?_
              obtain ⟨a14, ha14, H⟩ := Option.bind_eq_some_iff.mp H
              rw [j_rf ha14]
              obtain ⟨N15, hN15, H⟩ := Option.bind_eq_some_iff.mp H
              obtain ⟨k16, hk16, H⟩ := Option.bind_eq_some_iff.mp H
              refine F_iald k16 hw hG d_Ref_answered_62 (gA_some hN15) (ix_some hk16) ?_
              refine J_iconst (v := -1) d_Ref_answered_63 (by decide) ?_
              refine J_icmp_ne (tgt := 70) d_Ref_answered_64 (by decide) ?_ ?_
              · intro c17
                rw [if_neg c17] at H
                refine J.drop [true, true, true, true, true] rfl ?_
                exact p_Ref_answered_L70 hw hG ih H
              · intro c17
                rw [if_pos c17] at H
                refine J_iload d_Ref_answered_67 rfl ?_
                cases H
                exact J_iret (st := []) d_Ref_answered_69 rfl rfl ⟨rfl, rfl, rfl⟩
def f_Ref_answered (Γ : gm_T) (φ : ph_T) (this : Nat) (p0 : Int32) (p1 : Int32) (p2 : Int32) : Option (Int32 × ph_T) :=
  f_Ref_answered_L3 Γ  jF φ this p0 p1 p2 (0 : Int32)
set_option maxRecDepth 100000 in
set_option maxHeartbeats 4000000 in
theorem p_Ref_answered {w : jw_T} (hw : jok w) {Γ : gm_T} {n : Nat} (hG : gd w Γ n) {x : Bool} {φ : ph_T} {this : Nat} {p0 : Int32} {p1 : Int32} {p2 : Int32} {q : Int32 × ph_T} (H : f_Ref_answered Γ φ this p0 p1 p2 = some q) : jc w M_Ref_answered [.ref this, .int p0, .int p1, .int p2] (pic Γ φ) n x 0 0 (fq Γ n (.inl (some (.int q.1))) q.2) := by
  refine jc.of (by simp only [jent_r, jent_i, jent_l, jent_a, jent_0]; exact Nat.le_of_ble_eq_true rfl) ?_
  have hls : jents [.ref this, .int p0, .int p1, .int p2] (jm_nL M_Ref_answered) = [some (.ref this), some (.int p0), some (.int p1), some (.int p2), none] := by simp only [jents, jent_r, jent_i, jent_l, jent_a, jent_0]; rfl
  rw [hls]
  clear hls
  unfold f_Ref_answered at H
  refine J_iconst (v := 0) d_Ref_answered_0 (by decide) ?_
  refine J_istore d_Ref_answered_1 (Nat.le_of_ble_eq_true rfl) ?_
  refine J.drop [true, true, true, true, true] rfl ?_
  exact p_Ref_answered_L3 hw hG  _ H
theorem ln_Ref_answerCame : (parseMethodDescriptor y_Ref_answerCame.desc).map (fun q => q.parameters.length) = some 2 := by decide +kernel
def f_Ref_answerCame_L177 (Γ : gm_T)  (φ : ph_T) (y0 : Int32) (y1 : Int32) (y2 : Option Nat) : Option (Unit × ph_T) :=
  Option.bind y2 fun a1 =>
  Option.bind (gA Γ a1 0) fun N2 =>
  Option.bind (ix y1 N2) fun k3 =>
  some ((), (uI φ a1 k3 y0))
set_option maxRecDepth 100000 in
set_option maxHeartbeats 4000000 in
theorem p_Ref_answerCame_L177 {w : jw_T} (hw : jok w) {Γ : gm_T} {n : Nat} (hG : gd w Γ n)  {x : Bool} {φ : ph_T} {y0 : Int32} {y1 : Int32} {y2 : Option Nat} {q : Unit × ph_T} (H : f_Ref_answerCame_L177 Γ  φ y0 y1 y2 = some q) : J w M_Ref_answerCame 177 [none, none, none, none, none, none] [.int y0, .int y1, va_rf y2] (pic Γ φ) n x 0 0 (fq Γ n (.inl none) q.2) := by
  unfold f_Ref_answerCame_L177 at H
  obtain ⟨a1, ha1, H⟩ := Option.bind_eq_some_iff.mp H
  rw [j_rf ha1]
  obtain ⟨N2, hN2, H⟩ := Option.bind_eq_some_iff.mp H
  obtain ⟨k3, hk3, H⟩ := Option.bind_eq_some_iff.mp H
  refine F_iast k3 hw hG d_Ref_answerCame_177 (gA_some hN2) (ix_some hk3) ?_
  cases H
  exact J_vret (st := []) d_Ref_answerCame_178 rfl ⟨rfl, rfl, rfl⟩
def f_Ref_answerCame_L93 (Γ : gm_T)  (φ : ph_T) (x0 : Nat) (x2 : Int32) (x3 : Int32) (x4 : Int32) (y0 : Int32) (y1 : Int32) (y2 : Option Nat) : Option (Unit × ph_T) :=
  Option.bind y2 fun a4 =>
  Option.bind (gA Γ a4 0) fun N5 =>
  Option.bind (ix y1 N5) fun k6 =>
  if x2 = (2 : Int32) then
    @ite _ (Γ x0 = .inr 12) _ (
    Option.bind ((uI φ a4 k6 y0).2.2 x0 29) fun a30 =>
    Option.bind (gA Γ a30 0) fun N31 =>
    Option.bind (ix x4 N31) fun k32 =>
    some ((), (uI (uI φ a4 k6 y0) a30 k32 ((uI φ a4 k6 y0).1 x0 6)))
    ) none
  else
    @ite _ (Γ x0 = .inr 12) _ (
    Option.bind ((uI φ a4 k6 y0).2.2 x0 30) fun a8 =>
    Option.bind (gA Γ a8 0) fun N9 =>
    Option.bind (ix x4 N9) fun k10 =>
    Option.bind ((uI φ a4 k6 y0).2.2 x0 35) fun a11 =>
    Option.bind (gA Γ a11 1) fun N12 =>
    Option.bind (ix x3 N12) fun k13 =>
    Option.bind ((uI φ a4 k6 y0).2.2 x0 32) fun a14 =>
    Option.bind (gA Γ a14 1) fun N15 =>
    Option.bind (ix (((16 : Int32) * x4) + ((uI φ a4 k6 y0).1 a8 k10)) N15) fun k16 =>
    Option.bind ((uL (uI φ a4 k6 y0) a14 k16 ((uI φ a4 k6 y0).2.1 a11 k13)).2.2 x0 30) fun a17 =>
    Option.bind (gA Γ a17 0) fun N18 =>
    Option.bind (ix x4 N18) fun k19 =>
    Option.bind (gA Γ a17 0) fun N20 =>
    Option.bind (ix x4 N20) fun k21 =>
    Option.bind ((uI (uL (uI φ a4 k6 y0) a14 k16 ((uI φ a4 k6 y0).2.1 a11 k13)) a17 k21 (((uL (uI φ a4 k6 y0) a14 k16 ((uI φ a4 k6 y0).2.1 a11 k13)).1 a17 k19) + (1 : Int32))).2.2 x0 30) fun a22 =>
    Option.bind (gA Γ a22 0) fun N23 =>
    Option.bind (ix x4 N23) fun k24 =>
    Option.bind ((uI (uL (uI φ a4 k6 y0) a14 k16 ((uI φ a4 k6 y0).2.1 a11 k13)) a17 k21 (((uL (uI φ a4 k6 y0) a14 k16 ((uI φ a4 k6 y0).2.1 a11 k13)).1 a17 k19) + (1 : Int32))).2.2 x0 17) fun a25 =>
    Option.bind (gA Γ a25 0) fun N26 =>
    Option.bind (ix x4 N26) fun k27 =>
    if ((uI (uL (uI φ a4 k6 y0) a14 k16 ((uI φ a4 k6 y0).2.1 a11 k13)) a17 k21 (((uL (uI φ a4 k6 y0) a14 k16 ((uI φ a4 k6 y0).2.1 a11 k13)).1 a17 k19) + (1 : Int32))).1 a22 k24) = ((uI (uL (uI φ a4 k6 y0) a14 k16 ((uI φ a4 k6 y0).2.1 a11 k13)) a17 k21 (((uL (uI φ a4 k6 y0) a14 k16 ((uI φ a4 k6 y0).2.1 a11 k13)).1 a17 k19) + (1 : Int32))).1 a25 k27) then
      f_Ref_answerCame_L177 Γ  (uI (uL (uI φ a4 k6 y0) a14 k16 ((uI φ a4 k6 y0).2.1 a11 k13)) a17 k21 (((uL (uI φ a4 k6 y0) a14 k16 ((uI φ a4 k6 y0).2.1 a11 k13)).1 a17 k19) + (1 : Int32))) ((uI (uL (uI φ a4 k6 y0) a14 k16 ((uI φ a4 k6 y0).2.1 a11 k13)) a17 k21 (((uL (uI φ a4 k6 y0) a14 k16 ((uI φ a4 k6 y0).2.1 a11 k13)).1 a17 k19) + (1 : Int32))).1 x0 6) x4 ((uI (uL (uI φ a4 k6 y0) a14 k16 ((uI φ a4 k6 y0).2.1 a11 k13)) a17 k21 (((uL (uI φ a4 k6 y0) a14 k16 ((uI φ a4 k6 y0).2.1 a11 k13)).1 a17 k19) + (1 : Int32))).2.2 x0 29)
    else
      f_Ref_answerCame_L177 Γ  (uI (uL (uI φ a4 k6 y0) a14 k16 ((uI φ a4 k6 y0).2.1 a11 k13)) a17 k21 (((uL (uI φ a4 k6 y0) a14 k16 ((uI φ a4 k6 y0).2.1 a11 k13)).1 a17 k19) + (1 : Int32))) (-1 : Int32) x4 ((uI (uL (uI φ a4 k6 y0) a14 k16 ((uI φ a4 k6 y0).2.1 a11 k13)) a17 k21 (((uL (uI φ a4 k6 y0) a14 k16 ((uI φ a4 k6 y0).2.1 a11 k13)).1 a17 k19) + (1 : Int32))).2.2 x0 29)
    ) none
set_option maxRecDepth 100000 in
set_option maxHeartbeats 4000000 in
theorem p_Ref_answerCame_L93 {w : jw_T} (hw : jok w) {Γ : gm_T} {n : Nat} (hG : gd w Γ n)  {x : Bool} {φ : ph_T} {x0 : Nat} {x2 : Int32} {x3 : Int32} {x4 : Int32} {y0 : Int32} {y1 : Int32} {y2 : Option Nat} {q : Unit × ph_T} (H : f_Ref_answerCame_L93 Γ  φ x0 x2 x3 x4 y0 y1 y2 = some q) : J w M_Ref_answerCame 93 [some (.ref x0), none, some (.int x2), some (.int x3), some (.int x4), none] [.int y0, .int y1, va_rf y2] (pic Γ φ) n x 0 0 (fq Γ n (.inl none) q.2) := by
  unfold f_Ref_answerCame_L93 at H
  obtain ⟨a4, ha4, H⟩ := Option.bind_eq_some_iff.mp H
  rw [j_rf ha4]
  obtain ⟨N5, hN5, H⟩ := Option.bind_eq_some_iff.mp H
  obtain ⟨k6, hk6, H⟩ := Option.bind_eq_some_iff.mp H
  refine F_iast k6 hw hG d_Ref_answerCame_93 (gA_some hN5) (ix_some hk6) ?_
  refine J_iload_n d_Ref_answerCame_94 rfl ?_
  refine J_iconst (v := 2) d_Ref_answerCame_95 (by decide) ?_
  refine J_icmp_ne (tgt := 111) d_Ref_answerCame_96 (by decide) ?_ ?_
  · intro c33
    rw [if_neg c33] at H
    refine J_aload_n d_Ref_answerCame_111 rfl ?_
    have g7 : Γ x0 = .inr 12 := by
      apply Classical.byContradiction
      intro q9
      rw [if_neg q9] at H
      cases H
    rw [if_pos g7] at H
    refine F_getR (ci := 12) (k := 32) hG (cf_Ref hw) (fl_Ref_85 hw) (by decide) (by decide) rfl d_Ref_answerCame_112 g7 ?_
    refine J_bipush (v := 16) d_Ref_answerCame_115 (by decide) ?_
    refine J_iload d_Ref_answerCame_117 rfl ?_
    refine J_imul d_Ref_answerCame_119 ?_
    refine J_aload_n d_Ref_answerCame_120 rfl ?_
    refine F_getR (ci := 12) (k := 30) hG (cf_Ref hw) (fl_Ref_79 hw) (by decide) (by decide) rfl d_Ref_answerCame_121 g7 ?_
    refine J_iload d_Ref_answerCame_124 rfl ?_
    obtain ⟨a8, ha8, H⟩ := Option.bind_eq_some_iff.mp H
    rw [j_rf ha8]
    obtain ⟨N9, hN9, H⟩ := Option.bind_eq_some_iff.mp H
    obtain ⟨k10, hk10, H⟩ := Option.bind_eq_some_iff.mp H
    refine F_iald k10 hw hG d_Ref_answerCame_126 (gA_some hN9) (ix_some hk10) ?_
    refine J_iadd d_Ref_answerCame_127 ?_
    refine J_aload_n d_Ref_answerCame_128 rfl ?_
    refine F_getR (ci := 12) (k := 35) hG (cf_Ref hw) (fl_Ref_94 hw) (by decide) (by decide) rfl d_Ref_answerCame_129 g7 ?_
    refine J_iload_n d_Ref_answerCame_132 rfl ?_
    obtain ⟨a11, ha11, H⟩ := Option.bind_eq_some_iff.mp H
    rw [j_rf ha11]
    obtain ⟨N12, hN12, H⟩ := Option.bind_eq_some_iff.mp H
    obtain ⟨k13, hk13, H⟩ := Option.bind_eq_some_iff.mp H
    refine F_lald k13 hw hG d_Ref_answerCame_133 (gA_some hN12) (ix_some hk13) ?_
    obtain ⟨a14, ha14, H⟩ := Option.bind_eq_some_iff.mp H
    rw [j_rf ha14]
    obtain ⟨N15, hN15, H⟩ := Option.bind_eq_some_iff.mp H
    obtain ⟨k16, hk16, H⟩ := Option.bind_eq_some_iff.mp H
    refine F_last k16 hw hG d_Ref_answerCame_134 (gA_some hN15) (ix_some hk16) ?_
    refine J_aload_n d_Ref_answerCame_135 rfl ?_
    refine F_getR (ci := 12) (k := 30) hG (cf_Ref hw) (fl_Ref_79 hw) (by decide) (by decide) rfl d_Ref_answerCame_136 g7 ?_
    refine J_iload d_Ref_answerCame_139 rfl ?_
    refine J_dup2 d_Ref_answerCame_141 rfl (va_rf_cat _) ?_
    obtain ⟨a17, ha17, H⟩ := Option.bind_eq_some_iff.mp H
    rw [j_rf ha17]
    obtain ⟨N18, hN18, H⟩ := Option.bind_eq_some_iff.mp H
    obtain ⟨k19, hk19, H⟩ := Option.bind_eq_some_iff.mp H
    refine F_iald k19 hw hG d_Ref_answerCame_142 (gA_some hN18) (ix_some hk19) ?_
    refine J_iconst (v := 1) d_Ref_answerCame_143 (by decide) ?_
    refine J_iadd d_Ref_answerCame_144 ?_
    obtain ⟨N20, hN20, H⟩ := Option.bind_eq_some_iff.mp H
    obtain ⟨k21, hk21, H⟩ := Option.bind_eq_some_iff.mp H
    refine F_iast k21 hw hG d_Ref_answerCame_145 (gA_some hN20) (ix_some hk21) ?_
    refine J_aload_n d_Ref_answerCame_146 rfl ?_
    refine F_getR (ci := 12) (k := 29) hG (cf_Ref hw) (fl_Ref_76 hw) (by decide) (by decide) rfl d_Ref_answerCame_147 g7 ?_
    refine J_iload d_Ref_answerCame_150 rfl ?_
    refine J_aload_n d_Ref_answerCame_152 rfl ?_
    refine F_getR (ci := 12) (k := 30) hG (cf_Ref hw) (fl_Ref_79 hw) (by decide) (by decide) rfl d_Ref_answerCame_153 g7 ?_
    refine J_iload d_Ref_answerCame_156 rfl ?_
    obtain ⟨a22, ha22, H⟩ := Option.bind_eq_some_iff.mp H
    rw [j_rf ha22]
    obtain ⟨N23, hN23, H⟩ := Option.bind_eq_some_iff.mp H
    obtain ⟨k24, hk24, H⟩ := Option.bind_eq_some_iff.mp H
    refine F_iald k24 hw hG d_Ref_answerCame_158 (gA_some hN23) (ix_some hk24) ?_
    refine J_aload_n d_Ref_answerCame_159 rfl ?_
    refine F_getR (ci := 12) (k := 17) hG (cf_Ref hw) (fl_Ref_39 hw) (by decide) (by decide) rfl d_Ref_answerCame_160 g7 ?_
    refine J_iload d_Ref_answerCame_163 rfl ?_
    obtain ⟨a25, ha25, H⟩ := Option.bind_eq_some_iff.mp H
    rw [j_rf ha25]
    obtain ⟨N26, hN26, H⟩ := Option.bind_eq_some_iff.mp H
    obtain ⟨k27, hk27, H⟩ := Option.bind_eq_some_iff.mp H
    refine F_iald k27 hw hG d_Ref_answerCame_165 (gA_some hN26) (ix_some hk27) ?_
    refine J_icmp_ne (tgt := 176) d_Ref_answerCame_166 (by decide) ?_ ?_
    · intro c28
      rw [if_neg c28] at H
      refine J_iconst (v := -1) d_Ref_answerCame_176 (by decide) ?_
      refine J.drop [false, false, false, false, false, false] rfl ?_
      exact p_Ref_answerCame_L177 hw hG  H
    · intro c28
      rw [if_pos c28] at H
      refine J_aload_n d_Ref_answerCame_169 rfl ?_
      refine F_getI (ci := 12) (k := 6) hG (cf_Ref hw) (fl_Ref_348 hw) (by decide) (by decide) rfl d_Ref_answerCame_170 g7 ?_
      refine J_goto (tgt := 177) d_Ref_answerCame_173 (by decide) ?_
      refine J.drop [false, false, false, false, false, false] rfl ?_
      exact p_Ref_answerCame_L177 hw hG  H
  · intro c33
    rw [if_pos c33] at H
    refine J_aload_n d_Ref_answerCame_99 rfl ?_
    have g29 : Γ x0 = .inr 12 := by
      apply Classical.byContradiction
      intro q9
      rw [if_neg q9] at H
      cases H
    rw [if_pos g29] at H
    refine F_getR (ci := 12) (k := 29) hG (cf_Ref hw) (fl_Ref_76 hw) (by decide) (by decide) rfl d_Ref_answerCame_100 g29 ?_
    refine J_iload d_Ref_answerCame_103 rfl ?_
    refine J_aload_n d_Ref_answerCame_105 rfl ?_
    refine F_getI (ci := 12) (k := 6) hG (cf_Ref hw) (fl_Ref_348 hw) (by decide) (by decide) rfl d_Ref_answerCame_106 g29 ?_
    obtain ⟨a30, ha30, H⟩ := Option.bind_eq_some_iff.mp H
    rw [j_rf ha30]
    obtain ⟨N31, hN31, H⟩ := Option.bind_eq_some_iff.mp H
    obtain ⟨k32, hk32, H⟩ := Option.bind_eq_some_iff.mp H
    refine F_iast k32 hw hG d_Ref_answerCame_109 (gA_some hN31) (ix_some hk32) ?_
    cases H
    exact J_vret (st := []) d_Ref_answerCame_110 rfl ⟨rfl, rfl, rfl⟩
def f_Ref_answerCame_L38 (Γ : gm_T)  (φ : ph_T) (x0 : Nat) (x2 : Int32) (x3 : Int32) (y0 : Int32) (y1 : Int32) (y2 : Int32) (y3 : Nat) : Option (Unit × ph_T) :=
  @ite _ (Γ y3 = .inr 12) _ (
  Option.bind (f_Ref_answered Γ φ y3 y2 y1 y0) fun q35 =>
  if q35.1 = (-1 : Int32) then
    some ((), q35.2)
  else
    @ite _ (Γ x0 = .inr 12) _ (
    Option.bind (q35.2.2.2 x0 36) fun a37 =>
    Option.bind (gA Γ a37 0) fun N38 =>
    Option.bind (ix x3 N38) fun k39 =>
    Option.bind (q35.2.2.2 x0 31) fun a40 =>
    Option.bind (gA Γ a40 0) fun N41 =>
    Option.bind (ix q35.1 N41) fun k42 =>
    if (((q35.2.1 a37 k39) >>> ((6 : Int32) &&& 31)) &&& (3 : Int32)) ≤ (q35.2.1 a40 k42) then
      Option.bind (gA Γ a40 0) fun N43 =>
      Option.bind (ix q35.1 N43) fun k44 =>
      f_Ref_answerCame_L93 Γ  q35.2 x0 x2 x3 q35.1 (q35.2.1 a40 k44) q35.1 (some a40)
    else
      f_Ref_answerCame_L93 Γ  q35.2 x0 x2 x3 q35.1 (((q35.2.1 a37 k39) >>> ((6 : Int32) &&& 31)) &&& (3 : Int32)) q35.1 (some a40)
    ) none
  ) none
set_option maxRecDepth 100000 in
set_option maxHeartbeats 4000000 in
theorem p_Ref_answerCame_L38 {w : jw_T} (hw : jok w) {Γ : gm_T} {n : Nat} (hG : gd w Γ n)  {x : Bool} {φ : ph_T} {x0 : Nat} {x2 : Int32} {x3 : Int32} {y0 : Int32} {y1 : Int32} {y2 : Int32} {y3 : Nat} {q : Unit × ph_T} (H : f_Ref_answerCame_L38 Γ  φ x0 x2 x3 y0 y1 y2 y3 = some q) : J w M_Ref_answerCame 38 [some (.ref x0), none, some (.int x2), some (.int x3), none, none] [.int y0, .int y1, .int y2, .ref y3] (pic Γ φ) n x 0 0 (fq Γ n (.inl none) q.2) := by
  unfold f_Ref_answerCame_L38 at H
  have g34 : Γ y3 = .inr 12 := by
    apply Classical.byContradiction
    intro q9
    rw [if_neg q9] at H
    cases H
  rw [if_pos g34] at H
  obtain ⟨q35, hq35, H⟩ := Option.bind_eq_some_iff.mp H
  refine J_callV (kc := 0) (ks := 0) (kc' := 0) (ks' := 0) (a := y3) (ci := 12) (as := [.int y2, .int y1, .int y0]) (st := []) (mf_Ref_answered hw) (mv_Ref_476 hw) d_Ref_answerCame_38 ln_Ref_answered (by decide) (by first | exact Nat.le_of_ble_eq_true rfl | (simp only [List.map_cons, List.map_nil, List.sum_cons, List.sum_nil, va_rf_cat]; exact Nat.le_of_ble_eq_true rfl)) rfl ((hG _).1 _ g34 (by decide)).1 ((hG _).1 _ g34 (by decide)).2 (by unfold pic; rw [g34]; rfl) (jcl_at hw rfl) rfl (p_Ref_answered hw hG hq35) ?_ (fun E h' n' x' e1 => by cases e1.1)
  intro v9 h9 n9 x9 e9
  obtain ⟨e91, e92, e93⟩ := e9
  cases e91
  subst e92
  subst e93
  clear x
  rename Bool => x
  show J _ _ _ _ (_ :: _) _ _ _ _ _ _
  refine J_istore d_Ref_answerCame_41 (Nat.le_of_ble_eq_true rfl) ?_
  refine J_iload d_Ref_answerCame_43 rfl ?_
  refine J_iconst (v := -1) d_Ref_answerCame_45 (by decide) ?_
  refine J_icmp_ne (tgt := 50) d_Ref_answerCame_46 (by decide) ?_ ?_
  · intro c46
    rw [if_neg c46] at H
    refine J_aload_n d_Ref_answerCame_50 rfl ?_
    have g36 : Γ x0 = .inr 12 := by
      apply Classical.byContradiction
      intro q9
      rw [if_neg q9] at H
      cases H
    rw [if_pos g36] at H
    refine F_getR (ci := 12) (k := 36) hG (cf_Ref hw) (fl_Ref_97 hw) (by decide) (by decide) rfl d_Ref_answerCame_51 g36 ?_
    refine J_iload_n d_Ref_answerCame_54 rfl ?_
    obtain ⟨a37, ha37, H⟩ := Option.bind_eq_some_iff.mp H
    rw [j_rf ha37]
    obtain ⟨N38, hN38, H⟩ := Option.bind_eq_some_iff.mp H
    obtain ⟨k39, hk39, H⟩ := Option.bind_eq_some_iff.mp H
    refine F_iald k39 hw hG d_Ref_answerCame_55 (gA_some hN38) (ix_some hk39) ?_
    refine J_bipush (v := 6) d_Ref_answerCame_56 (by decide) ?_
    refine J_ishr d_Ref_answerCame_58 ?_
    refine J_iconst (v := 3) d_Ref_answerCame_59 (by decide) ?_
    refine J_iand d_Ref_answerCame_60 ?_
    refine J_istore d_Ref_answerCame_61 (Nat.le_of_ble_eq_true rfl) ?_
    refine J_aload_n d_Ref_answerCame_63 rfl ?_
    refine F_getR (ci := 12) (k := 31) hG (cf_Ref hw) (fl_Ref_82 hw) (by decide) (by decide) rfl d_Ref_answerCame_64 g36 ?_
    refine J_iload d_Ref_answerCame_67 rfl ?_
    refine J_iload d_Ref_answerCame_69 rfl ?_
    refine J_aload_n d_Ref_answerCame_71 rfl ?_
    refine F_getR (ci := 12) (k := 31) hG (cf_Ref hw) (fl_Ref_82 hw) (by decide) (by decide) rfl d_Ref_answerCame_72 g36 ?_
    refine J_iload d_Ref_answerCame_75 rfl ?_
    obtain ⟨a40, ha40, H⟩ := Option.bind_eq_some_iff.mp H
    rw [j_rf ha40]
    obtain ⟨N41, hN41, H⟩ := Option.bind_eq_some_iff.mp H
    obtain ⟨k42, hk42, H⟩ := Option.bind_eq_some_iff.mp H
    refine F_iald k42 hw hG d_Ref_answerCame_77 (gA_some hN41) (ix_some hk42) ?_
    refine J_icmp_le (tgt := 86) d_Ref_answerCame_78 (by decide) ?_ ?_
    · intro c45
      rw [if_pos c45] at H
      refine J_aload_n d_Ref_answerCame_86 rfl ?_
      refine F_getR (ci := 12) (k := 31) hG (cf_Ref hw) (fl_Ref_82 hw) (by decide) (by decide) rfl d_Ref_answerCame_87 g36 ?_
      refine J_iload d_Ref_answerCame_90 rfl ?_
      try rw [j_rf ha40]
      obtain ⟨N43, hN43, H⟩ := Option.bind_eq_some_iff.mp H
      obtain ⟨k44, hk44, H⟩ := Option.bind_eq_some_iff.mp H
      refine F_iald k44 hw hG d_Ref_answerCame_92 (gA_some hN43) (ix_some hk44) ?_
      refine J.drop [true, false, true, true, true, false] rfl ?_
      exact p_Ref_answerCame_L93 hw hG  H
    · intro c45
      rw [if_neg c45] at H
      refine J_iload d_Ref_answerCame_81 rfl ?_
      refine J_goto (tgt := 93) d_Ref_answerCame_83 (by decide) ?_
      refine J.drop [true, false, true, true, true, false] rfl ?_
      exact p_Ref_answerCame_L93 hw hG  H
  · intro c46
    rw [if_pos c46] at H
    cases H
    exact J_vret (st := []) d_Ref_answerCame_49 rfl ⟨rfl, rfl, rfl⟩
def f_Ref_answerCame (Γ : gm_T) (φ : ph_T) (this : Nat) (p0 : Int32) (p1 : Int32) : Option (Unit × ph_T) :=
  @ite _ (Γ this = .inr 12) _ (
  Option.bind (f_Ref_rowOf Γ φ this (0 : Int32) p0 p1) fun q48 =>
  Option.bind (f_Ref_take Γ q48.2 this q48.1) fun q49 =>
  Option.bind (q49.2.2.2 this 36) fun a50 =>
  Option.bind (gA Γ a50 0) fun N51 =>
  Option.bind (ix (((5 : Int32) * p0) + p1) N51) fun k52 =>
  if p1 = (2 : Int32) then
    f_Ref_answerCame_L38 Γ  q49.2 this p1 (((5 : Int32) * p0) + p1) (1 : Int32) ((q49.2.1 a50 k52) &&& (63 : Int32)) p0 this
  else
    f_Ref_answerCame_L38 Γ  q49.2 this p1 (((5 : Int32) * p0) + p1) (0 : Int32) ((q49.2.1 a50 k52) &&& (63 : Int32)) p0 this
  ) none
set_option maxRecDepth 100000 in
set_option maxHeartbeats 4000000 in
theorem p_Ref_answerCame {w : jw_T} (hw : jok w) {Γ : gm_T} {n : Nat} (hG : gd w Γ n) {x : Bool} {φ : ph_T} {this : Nat} {p0 : Int32} {p1 : Int32} {q : Unit × ph_T} (H : f_Ref_answerCame Γ φ this p0 p1 = some q) : jc w M_Ref_answerCame [.ref this, .int p0, .int p1] (pic Γ φ) n x 0 0 (fq Γ n (.inl none) q.2) := by
  refine jc.of (by simp only [jent_r, jent_i, jent_l, jent_a, jent_0]; exact Nat.le_of_ble_eq_true rfl) ?_
  have hls : jents [.ref this, .int p0, .int p1] (jm_nL M_Ref_answerCame) = [some (.ref this), some (.int p0), some (.int p1), none, none, none] := by simp only [jents, jent_r, jent_i, jent_l, jent_a, jent_0]; rfl
  rw [hls]
  clear hls
  unfold f_Ref_answerCame at H
  refine J_iconst (v := 5) d_Ref_answerCame_0 (by decide) ?_
  refine J_iload_n d_Ref_answerCame_1 rfl ?_
  refine J_imul d_Ref_answerCame_2 ?_
  refine J_iload_n d_Ref_answerCame_3 rfl ?_
  refine J_iadd d_Ref_answerCame_4 ?_
  refine J_istore_n d_Ref_answerCame_5 (Nat.le_of_ble_eq_true rfl) ?_
  refine J_aload_n d_Ref_answerCame_6 rfl ?_
  refine J_aload_n d_Ref_answerCame_7 rfl ?_
  refine J_iconst (v := 0) d_Ref_answerCame_8 (by decide) ?_
  refine J_iload_n d_Ref_answerCame_9 rfl ?_
  refine J_iload_n d_Ref_answerCame_10 rfl ?_
  have g47 : Γ this = .inr 12 := by
    apply Classical.byContradiction
    intro q9
    rw [if_neg q9] at H
    cases H
  rw [if_pos g47] at H
  obtain ⟨q48, hq48, H⟩ := Option.bind_eq_some_iff.mp H
  refine J_callV (kc := 0) (ks := 0) (kc' := 0) (ks' := 0) (a := this) (ci := 12) (as := [.int (0 : Int32), .int p0, .int p1]) (st := [.ref this]) (mf_Ref_rowOf hw) (mv_Ref_388 hw) d_Ref_answerCame_11 ln_Ref_rowOf (by decide) (by first | exact Nat.le_of_ble_eq_true rfl | (simp only [List.map_cons, List.map_nil, List.sum_cons, List.sum_nil, va_rf_cat]; exact Nat.le_of_ble_eq_true rfl)) rfl ((hG _).1 _ g47 (by decide)).1 ((hG _).1 _ g47 (by decide)).2 (by unfold pic; rw [g47]; rfl) (jcl_at hw rfl) rfl (p_Ref_rowOf hw hG hq48) ?_ (fun E h' n' x' e1 => by cases e1.1)
  intro v9 h9 n9 x9 e9
  obtain ⟨e91, e92, e93⟩ := e9
  cases e91
  subst e92
  subst e93
  clear x
  rename Bool => x
  show J _ _ _ _ (_ :: _) _ _ _ _ _ _
  obtain ⟨q49, hq49, H⟩ := Option.bind_eq_some_iff.mp H
  refine J_callV (kc := 0) (ks := 0) (kc' := 0) (ks' := 0) (a := this) (ci := 12) (as := [.int q48.1]) (st := []) (mf_Ref_take hw) (mv_Ref_473 hw) d_Ref_answerCame_14 ln_Ref_take (by decide) (by first | exact Nat.le_of_ble_eq_true rfl | (simp only [List.map_cons, List.map_nil, List.sum_cons, List.sum_nil, va_rf_cat]; exact Nat.le_of_ble_eq_true rfl)) rfl ((hG _).1 _ g47 (by decide)).1 ((hG _).1 _ g47 (by decide)).2 (by unfold pic; rw [g47]; rfl) (jcl_at hw rfl) rfl (p_Ref_take hw hG hq49) ?_ (fun E h' n' x' e1 => by cases e1.1)
  intro v9 h9 n9 x9 e9
  obtain ⟨e91, e92, e93⟩ := e9
  cases e91
  subst e92
  subst e93
  clear x
  rename Bool => x
  show J _ _ _ _ [] _ _ _ _ _ _
  refine J_aload_n d_Ref_answerCame_17 rfl ?_
  refine J_iload_n d_Ref_answerCame_18 rfl ?_
  refine J_aload_n d_Ref_answerCame_19 rfl ?_
  refine F_getR (ci := 12) (k := 36) hG (cf_Ref hw) (fl_Ref_97 hw) (by decide) (by decide) rfl d_Ref_answerCame_20 g47 ?_
  refine J_iload_n d_Ref_answerCame_23 rfl ?_
  obtain ⟨a50, ha50, H⟩ := Option.bind_eq_some_iff.mp H
  rw [j_rf ha50]
  obtain ⟨N51, hN51, H⟩ := Option.bind_eq_some_iff.mp H
  obtain ⟨k52, hk52, H⟩ := Option.bind_eq_some_iff.mp H
  refine F_iald k52 hw hG d_Ref_answerCame_24 (gA_some hN51) (ix_some hk52) ?_
  refine J_bipush (v := 63) d_Ref_answerCame_25 (by decide) ?_
  refine J_iand d_Ref_answerCame_27 ?_
  refine J_iload_n d_Ref_answerCame_28 rfl ?_
  refine J_iconst (v := 2) d_Ref_answerCame_29 (by decide) ?_
  refine J_icmp_ne (tgt := 37) d_Ref_answerCame_30 (by decide) ?_ ?_
  · intro c53
    rw [if_neg c53] at H
    refine J_iconst (v := 0) d_Ref_answerCame_37 (by decide) ?_
    refine J.drop [true, false, true, true, false, false] rfl ?_
    exact p_Ref_answerCame_L38 hw hG  H
  · intro c53
    rw [if_pos c53] at H
    refine J_iconst (v := 1) d_Ref_answerCame_33 (by decide) ?_
    refine J_goto (tgt := 38) d_Ref_answerCame_34 (by decide) ?_
    refine J.drop [true, false, true, true, false, false] rfl ?_
    exact p_Ref_answerCame_L38 hw hG  H
