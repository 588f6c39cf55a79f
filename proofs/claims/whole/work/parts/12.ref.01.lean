theorem ln_Ref_lengthOf : (parseMethodDescriptor y_Ref_lengthOf.desc).map (fun q => q.parameters.length) = some 1 := by decide +kernel
def f_Ref_lengthOf (Γ : gm_T) (φ : ph_T) (p0 : Int64) : Option (Int32 × ph_T) :=
  some (((Int64.toInt32 ((p0 >>> (Int32.toInt64 (22 : Int32) &&& 63)) &&& (15 : Int64))) + (1 : Int32)), φ)
set_option maxRecDepth 100000 in
set_option maxHeartbeats 4000000 in
theorem p_Ref_lengthOf {w : jw_T} (hw : jok w) {Γ : gm_T} {n : Nat} (hG : gd w Γ n) {x : Bool} {φ : ph_T} {p0 : Int64} {q : Int32 × ph_T} (H : f_Ref_lengthOf Γ φ p0 = some q) : jc w M_Ref_lengthOf [.long p0] (pic Γ φ) n x 0 0 (fq Γ n (.inl (some (.int q.1))) q.2) := by
  refine jc.of (by simp only [jent_r, jent_i, jent_l, jent_a, jent_0]; exact Nat.le_of_ble_eq_true rfl) ?_
  have hls : jents [.long p0] (jm_nL M_Ref_lengthOf) = [some (.long p0), none] := by simp only [jents, jent_r, jent_i, jent_l, jent_a, jent_0]; rfl
  rw [hls]
  clear hls
  unfold f_Ref_lengthOf at H
  refine J_lload_n d_Ref_lengthOf_0 rfl ?_
  refine J_bipush (v := 22) d_Ref_lengthOf_1 (by decide) ?_
  refine J_lshr d_Ref_lengthOf_3 ?_
  refine J_ldc2 (v := 15) d_Ref_lengthOf_4 (kn_Ref_310 hw) ?_
  refine J_land d_Ref_lengthOf_7 ?_
  refine J_l2i d_Ref_lengthOf_8 ?_
  refine J_iconst (v := 1) d_Ref_lengthOf_9 (by decide) ?_
  refine J_iadd d_Ref_lengthOf_10 ?_
  cases H
  exact J_iret (st := []) d_Ref_lengthOf_11 rfl rfl ⟨rfl, rfl, rfl⟩
theorem ln_Ref_sizeOf : (parseMethodDescriptor y_Ref_sizeOf.desc).map (fun q => q.parameters.length) = some 1 := by decide +kernel
def f_Ref_sizeOf (Γ : gm_T) (φ : ph_T) (p0 : Int64) : Option (Int32 × ph_T) :=
  some (((1 : Int32) <<< ((Int64.toInt32 ((p0 >>> (Int32.toInt64 (26 : Int32) &&& 63)) &&& (3 : Int64))) &&& 31)), φ)
set_option maxRecDepth 100000 in
set_option maxHeartbeats 4000000 in
theorem p_Ref_sizeOf {w : jw_T} (hw : jok w) {Γ : gm_T} {n : Nat} (hG : gd w Γ n) {x : Bool} {φ : ph_T} {p0 : Int64} {q : Int32 × ph_T} (H : f_Ref_sizeOf Γ φ p0 = some q) : jc w M_Ref_sizeOf [.long p0] (pic Γ φ) n x 0 0 (fq Γ n (.inl (some (.int q.1))) q.2) := by
  refine jc.of (by simp only [jent_r, jent_i, jent_l, jent_a, jent_0]; exact Nat.le_of_ble_eq_true rfl) ?_
  have hls : jents [.long p0] (jm_nL M_Ref_sizeOf) = [some (.long p0), none] := by simp only [jents, jent_r, jent_i, jent_l, jent_a, jent_0]; rfl
  rw [hls]
  clear hls
  unfold f_Ref_sizeOf at H
  refine J_iconst (v := 1) d_Ref_sizeOf_0 (by decide) ?_
  refine J_lload_n d_Ref_sizeOf_1 rfl ?_
  refine J_bipush (v := 26) d_Ref_sizeOf_2 (by decide) ?_
  refine J_lshr d_Ref_sizeOf_4 ?_
  refine J_ldc2 (v := 3) d_Ref_sizeOf_5 (kn_Ref_312 hw) ?_
  refine J_land d_Ref_sizeOf_8 ?_
  refine J_l2i d_Ref_sizeOf_9 ?_
  refine J_ishl d_Ref_sizeOf_10 ?_
  cases H
  exact J_iret (st := []) d_Ref_sizeOf_11 rfl rfl ⟨rfl, rfl, rfl⟩
theorem ln_Ref_addressOf : (parseMethodDescriptor y_Ref_addressOf.desc).map (fun q => q.parameters.length) = some 1 := by decide +kernel
def f_Ref_addressOf (Γ : gm_T) (φ : ph_T) (p0 : Int64) : Option (Int32 × ph_T) :=
  some ((Int64.toInt32 ((p0 >>> (Int32.toInt64 (6 : Int32) &&& 63)) &&& (65535 : Int64))), φ)
set_option maxRecDepth 100000 in
set_option maxHeartbeats 4000000 in
theorem p_Ref_addressOf {w : jw_T} (hw : jok w) {Γ : gm_T} {n : Nat} (hG : gd w Γ n) {x : Bool} {φ : ph_T} {p0 : Int64} {q : Int32 × ph_T} (H : f_Ref_addressOf Γ φ p0 = some q) : jc w M_Ref_addressOf [.long p0] (pic Γ φ) n x 0 0 (fq Γ n (.inl (some (.int q.1))) q.2) := by
  refine jc.of (by simp only [jent_r, jent_i, jent_l, jent_a, jent_0]; exact Nat.le_of_ble_eq_true rfl) ?_
  have hls : jents [.long p0] (jm_nL M_Ref_addressOf) = [some (.long p0), none] := by simp only [jents, jent_r, jent_i, jent_l, jent_a, jent_0]; rfl
  rw [hls]
  clear hls
  unfold f_Ref_addressOf at H
  refine J_lload_n d_Ref_addressOf_0 rfl ?_
  refine J_bipush (v := 6) d_Ref_addressOf_1 (by decide) ?_
  refine J_lshr d_Ref_addressOf_3 ?_
  refine J_ldc2 (v := 65535) d_Ref_addressOf_4 (kn_Ref_308 hw) ?_
  refine J_land d_Ref_addressOf_7 ?_
  refine J_l2i d_Ref_addressOf_8 ?_
  cases H
  exact J_iret (st := []) d_Ref_addressOf_9 rfl rfl ⟨rfl, rfl, rfl⟩
theorem ln_Ref_kindOf : (parseMethodDescriptor y_Ref_kindOf.desc).map (fun q => q.parameters.length) = some 1 := by decide +kernel
def f_Ref_kindOf (Γ : gm_T) (φ : ph_T) (p0 : Int64) : Option (Int32 × ph_T) :=
  some ((Int64.toInt32 ((p0 >>> (Int32.toInt64 (28 : Int32) &&& 63)) &&& (3 : Int64))), φ)
set_option maxRecDepth 100000 in
set_option maxHeartbeats 4000000 in
theorem p_Ref_kindOf {w : jw_T} (hw : jok w) {Γ : gm_T} {n : Nat} (hG : gd w Γ n) {x : Bool} {φ : ph_T} {p0 : Int64} {q : Int32 × ph_T} (H : f_Ref_kindOf Γ φ p0 = some q) : jc w M_Ref_kindOf [.long p0] (pic Γ φ) n x 0 0 (fq Γ n (.inl (some (.int q.1))) q.2) := by
  refine jc.of (by simp only [jent_r, jent_i, jent_l, jent_a, jent_0]; exact Nat.le_of_ble_eq_true rfl) ?_
  have hls : jents [.long p0] (jm_nL M_Ref_kindOf) = [some (.long p0), none] := by simp only [jents, jent_r, jent_i, jent_l, jent_a, jent_0]; rfl
  rw [hls]
  clear hls
  unfold f_Ref_kindOf at H
  refine J_lload_n d_Ref_kindOf_0 rfl ?_
  refine J_bipush (v := 28) d_Ref_kindOf_1 (by decide) ?_
  refine J_lshr d_Ref_kindOf_3 ?_
  refine J_ldc2 (v := 3) d_Ref_kindOf_4 (kn_Ref_312 hw) ?_
  refine J_land d_Ref_kindOf_7 ?_
  refine J_l2i d_Ref_kindOf_8 ?_
  cases H
  exact J_iret (st := []) d_Ref_kindOf_9 rfl rfl ⟨rfl, rfl, rfl⟩
theorem ln_Ref_isAlone : (parseMethodDescriptor y_Ref_isAlone.desc).map (fun q => q.parameters.length) = some 1 := by decide +kernel
def f_Ref_isAlone_L16 (Γ : gm_T)  (φ : ph_T) (y0 : Int32) : Option (Int32 × ph_T) :=
  @ite _ (y0 = 0 ∨ y0 = 1) _ (
  some (y0, φ)
  ) none
set_option maxRecDepth 100000 in
set_option maxHeartbeats 4000000 in
theorem p_Ref_isAlone_L16 {w : jw_T} (hw : jok w) {Γ : gm_T} {n : Nat} (hG : gd w Γ n)  {x : Bool} {φ : ph_T} {y0 : Int32} {q : Int32 × ph_T} (H : f_Ref_isAlone_L16 Γ  φ y0 = some q) : J w M_Ref_isAlone 16 [none, none] [.int y0] (pic Γ φ) n x 0 0 (fq Γ n (.inl (some (.int q.1))) q.2) := by
  unfold f_Ref_isAlone_L16 at H
  have z1 : y0 = 0 ∨ y0 = 1 := by
    apply Classical.byContradiction
    intro q9
    rw [if_neg q9] at H
    cases H
  rw [if_pos z1] at H
  cases H
  exact J_iret (st := []) d_Ref_isAlone_16 rfl (narrow_z z1).1 ⟨rfl, rfl, rfl⟩
def f_Ref_isAlone (Γ : gm_T) (φ : ph_T) (p0 : Int64) : Option (Int32 × ph_T) :=
  if (lg_cmp ((p0 >>> (Int32.toInt64 (30 : Int32) &&& 63)) &&& (1 : Int64)) (1 : Int64)) = 0 then
    f_Ref_isAlone_L16 Γ  φ (1 : Int32)
  else
    f_Ref_isAlone_L16 Γ  φ (0 : Int32)
set_option maxRecDepth 100000 in
set_option maxHeartbeats 4000000 in
theorem p_Ref_isAlone {w : jw_T} (hw : jok w) {Γ : gm_T} {n : Nat} (hG : gd w Γ n) {x : Bool} {φ : ph_T} {p0 : Int64} {q : Int32 × ph_T} (H : f_Ref_isAlone Γ φ p0 = some q) : jc w M_Ref_isAlone [.long p0] (pic Γ φ) n x 0 0 (fq Γ n (.inl (some (.int q.1))) q.2) := by
  refine jc.of (by simp only [jent_r, jent_i, jent_l, jent_a, jent_0]; exact Nat.le_of_ble_eq_true rfl) ?_
  have hls : jents [.long p0] (jm_nL M_Ref_isAlone) = [some (.long p0), none] := by simp only [jents, jent_r, jent_i, jent_l, jent_a, jent_0]; rfl
  rw [hls]
  clear hls
  unfold f_Ref_isAlone at H
  refine J_lload_n d_Ref_isAlone_0 rfl ?_
  refine J_bipush (v := 30) d_Ref_isAlone_1 (by decide) ?_
  refine J_lshr d_Ref_isAlone_3 ?_
  refine J_lconst (v := 1) d_Ref_isAlone_4 (by decide) ?_
  refine J_land d_Ref_isAlone_5 ?_
  refine J_lconst (v := 1) d_Ref_isAlone_6 (by decide) ?_
  refine J_lcmp d_Ref_isAlone_7 ?_
  refine J_if_ne (tgt := 15) d_Ref_isAlone_8 (by decide) ?_ ?_
  · intro c2
    rw [if_neg c2] at H
    refine J_iconst (v := 0) d_Ref_isAlone_15 (by decide) ?_
    refine J.drop [false, false] rfl ?_
    exact p_Ref_isAlone_L16 hw hG  H
  · intro c2
    rw [if_pos c2] at H
    refine J_iconst (v := 1) d_Ref_isAlone_11 (by decide) ?_
    refine J_goto (tgt := 16) d_Ref_isAlone_12 (by decide) ?_
    refine J.drop [false, false] rfl ?_
    exact p_Ref_isAlone_L16 hw hG  H
theorem ln_Ref_breaks : (parseMethodDescriptor y_Ref_breaks.desc).map (fun q => q.parameters.length) = some 1 := by decide +kernel
def f_Ref_breaks_L163 (Γ : gm_T)  (φ : ph_T) (y0 : Int32) : Option (Int32 × ph_T) :=
  some (y0, φ)
set_option maxRecDepth 100000 in
set_option maxHeartbeats 4000000 in
theorem p_Ref_breaks_L163 {w : jw_T} (hw : jok w) {Γ : gm_T} {n : Nat} (hG : gd w Γ n)  {x : Bool} {φ : ph_T} {y0 : Int32} {q : Int32 × ph_T} (H : f_Ref_breaks_L163 Γ  φ y0 = some q) : J w M_Ref_breaks 163 [none, none, none, none, none, none, none] [.int y0] (pic Γ φ) n x 0 0 (fq Γ n (.inl (some (.int q.1))) q.2) := by
  unfold f_Ref_breaks_L163 at H
  cases H
  exact J_iret (st := []) d_Ref_breaks_163 rfl rfl ⟨rfl, rfl, rfl⟩
def f_Ref_breaks_L162 (Γ : gm_T)  (φ : ph_T) : Option (Int32 × ph_T) :=
  f_Ref_breaks_L163 Γ  φ (0 : Int32)
set_option maxRecDepth 100000 in
set_option maxHeartbeats 4000000 in
theorem p_Ref_breaks_L162 {w : jw_T} (hw : jok w) {Γ : gm_T} {n : Nat} (hG : gd w Γ n)  {x : Bool} {φ : ph_T} {q : Int32 × ph_T} (H : f_Ref_breaks_L162 Γ  φ  = some q) : J w M_Ref_breaks 162 [none, none, none, none, none, none, none] [] (pic Γ φ) n x 0 0 (fq Γ n (.inl (some (.int q.1))) q.2) := by
  unfold f_Ref_breaks_L162 at H
  refine J_iconst (v := 0) d_Ref_breaks_162 (by decide) ?_
  refine J.drop [false, false, false, false, false, false, false] rfl ?_
  exact p_Ref_breaks_L163 hw hG  H
def f_Ref_breaks_L157 (Γ : gm_T)  (φ : ph_T) : Option (Int32 × ph_T) :=
  f_Ref_breaks_L163 Γ  φ (6 : Int32)
set_option maxRecDepth 100000 in
set_option maxHeartbeats 4000000 in
theorem p_Ref_breaks_L157 {w : jw_T} (hw : jok w) {Γ : gm_T} {n : Nat} (hG : gd w Γ n)  {x : Bool} {φ : ph_T} {q : Int32 × ph_T} (H : f_Ref_breaks_L157 Γ  φ  = some q) : J w M_Ref_breaks 157 [none, none, none, none, none, none, none] [] (pic Γ φ) n x 0 0 (fq Γ n (.inl (some (.int q.1))) q.2) := by
  unfold f_Ref_breaks_L157 at H
  refine J_bipush (v := 6) d_Ref_breaks_157 (by decide) ?_
  refine J_goto (tgt := 163) d_Ref_breaks_159 (by decide) ?_
  refine J.drop [false, false, false, false, false, false, false] rfl ?_
  exact p_Ref_breaks_L163 hw hG  H
def f_Ref_breaks_L120 (Γ : gm_T)  (φ : ph_T) (x0 : Int64) (x4 : Int32) (x5 : Int32) (y0 : Int32) : Option (Int32 × ph_T) :=
  Option.bind (f_Ref_isAlone Γ φ x0) fun q6 =>
  if q6.1 = 0 then
    f_Ref_breaks_L162 Γ  q6.2 
  else
    Option.bind (f_Ref_kindOf Γ q6.2 x0) fun q7 =>
    if q7.1 = 0 then
      f_Ref_breaks_L157 Γ  q7.2 
    else
      if y0 = 0 then
        f_Ref_breaks_L157 Γ  q7.2 
      else
        if (128 : Int32) < x5 then
          f_Ref_breaks_L157 Γ  q7.2 
        else
          @ite _ (x5 = 0) _ none (
          if (x4 - x4 / x5 * x5) = 0 then
            f_Ref_breaks_L162 Γ  q7.2 
          else
            f_Ref_breaks_L157 Γ  q7.2 
          )
set_option maxRecDepth 100000 in
set_option maxHeartbeats 4000000 in
theorem p_Ref_breaks_L120 {w : jw_T} (hw : jok w) {Γ : gm_T} {n : Nat} (hG : gd w Γ n)  {x : Bool} {φ : ph_T} {x0 : Int64} {x4 : Int32} {x5 : Int32} {y0 : Int32} {q : Int32 × ph_T} (H : f_Ref_breaks_L120 Γ  φ x0 x4 x5 y0 = some q) : J w M_Ref_breaks 120 [some (.long x0), none, none, none, some (.int x4), some (.int x5), none] [.int y0] (pic Γ φ) n x 0 0 (fq Γ n (.inl (some (.int q.1))) q.2) := by
  unfold f_Ref_breaks_L120 at H
  refine J_istore d_Ref_breaks_120 (Nat.le_of_ble_eq_true rfl) ?_
  refine J_lload_n d_Ref_breaks_122 rfl ?_
  obtain ⟨q6, hq6, H⟩ := Option.bind_eq_some_iff.mp H
  refine J_callS (kc := 0) (ks := 0) (kc' := 0) (ks' := 0) (as := [.long x0]) (st := []) (mf_Ref_isAlone hw) (ms_Ref_329 hw) d_Ref_breaks_123 ln_Ref_isAlone (by decide) (by first | exact Nat.le_of_ble_eq_true rfl | (simp only [List.map_cons, List.map_nil, List.sum_cons, List.sum_nil, va_rf_cat]; exact Nat.le_of_ble_eq_true rfl)) rfl (p_Ref_isAlone hw hG hq6) ?_ (fun E h' n' x' e1 => by cases e1.1)
  intro v9 h9 n9 x9 e9
  obtain ⟨e91, e92, e93⟩ := e9
  cases e91
  subst e92
  subst e93
  clear x
  rename Bool => x
  show J _ _ _ _ (_ :: _) _ _ _ _ _ _
  refine J_if_eq (tgt := 162) d_Ref_breaks_126 (by decide) ?_ ?_
  · intro c13
    rw [if_pos c13] at H
    refine J.drop [false, false, false, false, false, false, false] rfl ?_
    exact p_Ref_breaks_L162 hw hG  H
  · intro c13
    rw [if_neg c13] at H
    refine J_lload_n d_Ref_breaks_129 rfl ?_
    obtain ⟨q7, hq7, H⟩ := Option.bind_eq_some_iff.mp H
    refine J_callS (kc := 0) (ks := 0) (kc' := 0) (ks' := 0) (as := [.long x0]) (st := []) (mf_Ref_kindOf hw) (ms_Ref_324 hw) d_Ref_breaks_130 ln_Ref_kindOf (by decide) (by first | exact Nat.le_of_ble_eq_true rfl | (simp only [List.map_cons, List.map_nil, List.sum_cons, List.sum_nil, va_rf_cat]; exact Nat.le_of_ble_eq_true rfl)) rfl (p_Ref_kindOf hw hG hq7) ?_ (fun E h' n' x' e1 => by cases e1.1)
    intro v9 h9 n9 x9 e9
    obtain ⟨e91, e92, e93⟩ := e9
    cases e91
    subst e92
    subst e93
    clear x
    rename Bool => x
    show J _ _ _ _ (_ :: _) _ _ _ _ _ _
    refine J_if_eq (tgt := 157) d_Ref_breaks_133 (by decide) ?_ ?_
    · intro c12
      rw [if_pos c12] at H
      refine J.drop [false, false, false, false, false, false, false] rfl ?_
      exact p_Ref_breaks_L157 hw hG  H
    · intro c12
      rw [if_neg c12] at H
      refine J_iload d_Ref_breaks_136 rfl ?_
      refine J_if_eq (tgt := 157) d_Ref_breaks_138 (by decide) ?_ ?_
      · intro c11
        rw [if_pos c11] at H
        refine J.drop [false, false, false, false, false, false, false] rfl ?_
        exact p_Ref_breaks_L157 hw hG  H
      · intro c11
        rw [if_neg c11] at H
        refine J_iload d_Ref_breaks_141 rfl ?_
        refine J_sipush (v := 128) d_Ref_breaks_143 (by decide) ?_
        refine J_icmp_gt (tgt := 157) d_Ref_breaks_146 (by decide) ?_ ?_
        · intro c10
          rw [if_pos c10] at H
          refine J.drop [false, false, false, false, false, false, false] rfl ?_
          exact p_Ref_breaks_L157 hw hG  H
        · intro c10
          rw [if_neg c10] at H
          refine J_iload d_Ref_breaks_149 rfl ?_
          refine J_iload d_Ref_breaks_151 rfl ?_
          have h8 : ¬ x5 = 0 := by
            intro q9
            rw [if_pos q9] at H
            cases H
          rw [if_neg h8] at H
          refine J_irem d_Ref_breaks_153 h8 ?_
          refine J_if_eq (tgt := 162) d_Ref_breaks_154 (by decide) ?_ ?_
          · intro c9
            rw [if_pos c9] at H
            refine J.drop [false, false, false, false, false, false, false] rfl ?_
            exact p_Ref_breaks_L162 hw hG  H
          · intro c9
            rw [if_neg c9] at H
            refine J.drop [false, false, false, false, false, false, false] rfl ?_
            exact p_Ref_breaks_L157 hw hG  H
def f_Ref_breaks_L105 (Γ : gm_T)  (φ : ph_T) (x0 : Int64) (x4 : Int32) (x5 : Int32) : Option (Int32 × ph_T) :=
  if (x5 &&& (x5 - (1 : Int32))) = 0 then
    f_Ref_breaks_L120 Γ  φ x0 x4 x5 (1 : Int32)
  else
    f_Ref_breaks_L120 Γ  φ x0 x4 x5 (0 : Int32)
set_option maxRecDepth 100000 in
set_option maxHeartbeats 4000000 in
theorem p_Ref_breaks_L105 {w : jw_T} (hw : jok w) {Γ : gm_T} {n : Nat} (hG : gd w Γ n)  {x : Bool} {φ : ph_T} {x0 : Int64} {x4 : Int32} {x5 : Int32} {q : Int32 × ph_T} (H : f_Ref_breaks_L105 Γ  φ x0 x4 x5 = some q) : J w M_Ref_breaks 105 [some (.long x0), none, none, none, some (.int x4), some (.int x5), none] [] (pic Γ φ) n x 0 0 (fq Γ n (.inl (some (.int q.1))) q.2) := by
  unfold f_Ref_breaks_L105 at H
  refine J_iload d_Ref_breaks_105 rfl ?_
  refine J_iload d_Ref_breaks_107 rfl ?_
  refine J_iconst (v := 1) d_Ref_breaks_109 (by decide) ?_
  refine J_isub d_Ref_breaks_110 ?_
  refine J_iand d_Ref_breaks_111 ?_
  refine J_if_ne (tgt := 119) d_Ref_breaks_112 (by decide) ?_ ?_
  · intro c14
    rw [if_neg c14] at H
    refine J_iconst (v := 0) d_Ref_breaks_119 (by decide) ?_
    refine J.drop [true, false, false, false, true, true, false] rfl ?_
    exact p_Ref_breaks_L120 hw hG  H
  · intro c14
    rw [if_pos c14] at H
    refine J_iconst (v := 1) d_Ref_breaks_115 (by decide) ?_
    refine J_goto (tgt := 120) d_Ref_breaks_116 (by decide) ?_
    refine J.drop [true, false, false, false, true, true, false] rfl ?_
    exact p_Ref_breaks_L120 hw hG  H
def f_Ref_breaks_L70 (Γ : gm_T)  (φ : ph_T) (x0 : Int64) (x3 : Int32) (x4 : Int32) (x5 : Int32) : Option (Int32 × ph_T) :=
  Option.bind (f_Ref_kindOf Γ φ x0) fun q15 =>
  if q15.1 = (1 : Int32) then
    @ite _ (x3 = 0) _ none (
    @ite _ ((4096 : Int32) = 0) _ none (
    @ite _ ((4096 : Int32) = 0) _ none (
    if ((((x4 - (x4 - x4 / x3 * x3)) + x5) - (1 : Int32)) / (4096 : Int32)) = (x4 / (4096 : Int32)) then
      f_Ref_breaks_L105 Γ  q15.2 x0 x4 x5
    else
      some ((5 : Int32), q15.2)
    )
    )
    )
  else
    f_Ref_breaks_L105 Γ  q15.2 x0 x4 x5
set_option maxRecDepth 100000 in
set_option maxHeartbeats 4000000 in
theorem p_Ref_breaks_L70 {w : jw_T} (hw : jok w) {Γ : gm_T} {n : Nat} (hG : gd w Γ n)  {x : Bool} {φ : ph_T} {x0 : Int64} {x3 : Int32} {x4 : Int32} {x5 : Int32} {q : Int32 × ph_T} (H : f_Ref_breaks_L70 Γ  φ x0 x3 x4 x5 = some q) : J w M_Ref_breaks 70 [some (.long x0), none, none, some (.int x3), some (.int x4), some (.int x5), none] [] (pic Γ φ) n x 0 0 (fq Γ n (.inl (some (.int q.1))) q.2) := by
  unfold f_Ref_breaks_L70 at H
  refine J_lload_n d_Ref_breaks_70 rfl ?_
  obtain ⟨q15, hq15, H⟩ := Option.bind_eq_some_iff.mp H
  refine J_callS (kc := 0) (ks := 0) (kc' := 0) (ks' := 0) (as := [.long x0]) (st := []) (mf_Ref_kindOf hw) (ms_Ref_324 hw) d_Ref_breaks_71 ln_Ref_kindOf (by decide) (by first | exact Nat.le_of_ble_eq_true rfl | (simp only [List.map_cons, List.map_nil, List.sum_cons, List.sum_nil, va_rf_cat]; exact Nat.le_of_ble_eq_true rfl)) rfl (p_Ref_kindOf hw hG hq15) ?_ (fun E h' n' x' e1 => by cases e1.1)
  intro v9 h9 n9 x9 e9
  obtain ⟨e91, e92, e93⟩ := e9
  cases e91
  subst e92
  subst e93
  clear x
  rename Bool => x
  show J _ _ _ _ (_ :: _) _ _ _ _ _ _
  refine J_iconst (v := 1) d_Ref_breaks_74 (by decide) ?_
  refine J_icmp_ne (tgt := 105) d_Ref_breaks_75 (by decide) ?_ ?_
  · intro c20
    rw [if_neg c20] at H
    refine J.drop [true, false, false, false, true, true, false] rfl ?_
    exact p_Ref_breaks_L105 hw hG  H
  · intro c20
    rw [if_pos c20] at H
    refine J_iload d_Ref_breaks_78 rfl ?_
    refine J_iload d_Ref_breaks_80 rfl ?_
    refine J_iload_n d_Ref_breaks_82 rfl ?_
    have h16 : ¬ x3 = 0 := by
      intro q9
      rw [if_pos q9] at H
      cases H
    rw [if_neg h16] at H
    refine J_irem d_Ref_breaks_83 h16 ?_
    refine J_isub d_Ref_breaks_84 ?_
    refine J_iload d_Ref_breaks_85 rfl ?_
    refine J_iadd d_Ref_breaks_87 ?_
    refine J_iconst (v := 1) d_Ref_breaks_88 (by decide) ?_
    refine J_isub d_Ref_breaks_89 ?_
    refine J_sipush (v := 4096) d_Ref_breaks_90 (by decide) ?_
    have h17 : ¬ (4096 : Int32) = 0 := by
      intro q9
      rw [if_pos q9] at H
      cases H
    rw [if_neg h17] at H
    refine J_idiv d_Ref_breaks_93 h17 ?_
    refine J_iload d_Ref_breaks_94 rfl ?_
    refine J_sipush (v := 4096) d_Ref_breaks_96 (by decide) ?_
    have h18 : ¬ (4096 : Int32) = 0 := by
      intro q9
      rw [if_pos q9] at H
      cases H
    rw [if_neg h18] at H
    refine J_idiv d_Ref_breaks_99 h18 ?_
    refine J_icmp_eq (tgt := 105) d_Ref_breaks_100 (by decide) ?_ ?_
    · intro c19
      rw [if_pos c19] at H
      refine J.drop [true, false, false, false, true, true, false] rfl ?_
      exact p_Ref_breaks_L105 hw hG  H
    · intro c19
      rw [if_neg c19] at H
      refine J_iconst (v := 5) d_Ref_breaks_103 (by decide) ?_
      cases H
      exact J_iret (st := []) d_Ref_breaks_104 rfl rfl ⟨rfl, rfl, rfl⟩
def f_Ref_breaks_L68 (Γ : gm_T)  (φ : ph_T) : Option (Int32 × ph_T) :=
  some ((4 : Int32), φ)
set_option maxRecDepth 100000 in
set_option maxHeartbeats 4000000 in
theorem p_Ref_breaks_L68 {w : jw_T} (hw : jok w) {Γ : gm_T} {n : Nat} (hG : gd w Γ n)  {x : Bool} {φ : ph_T} {q : Int32 × ph_T} (H : f_Ref_breaks_L68 Γ  φ  = some q) : J w M_Ref_breaks 68 [none, none, none, none, none, none, none] [] (pic Γ φ) n x 0 0 (fq Γ n (.inl (some (.int q.1))) q.2) := by
  unfold f_Ref_breaks_L68 at H
  refine J_iconst (v := 4) d_Ref_breaks_68 (by decide) ?_
  cases H
  exact J_iret (st := []) d_Ref_breaks_69 rfl rfl ⟨rfl, rfl, rfl⟩
def f_Ref_breaks_L61 (Γ : gm_T)  (φ : ph_T) (x0 : Int64) (x3 : Int32) (x4 : Int32) (x5 : Int32) : Option (Int32 × ph_T) :=
  @ite _ (x3 = 0) _ none (
  if (x4 - x4 / x3 * x3) = 0 then
    f_Ref_breaks_L70 Γ  φ x0 x3 x4 x5
  else
    f_Ref_breaks_L68 Γ  φ 
  )
set_option maxRecDepth 100000 in
set_option maxHeartbeats 4000000 in
theorem p_Ref_breaks_L61 {w : jw_T} (hw : jok w) {Γ : gm_T} {n : Nat} (hG : gd w Γ n)  {x : Bool} {φ : ph_T} {x0 : Int64} {x3 : Int32} {x4 : Int32} {x5 : Int32} {q : Int32 × ph_T} (H : f_Ref_breaks_L61 Γ  φ x0 x3 x4 x5 = some q) : J w M_Ref_breaks 61 [some (.long x0), none, none, some (.int x3), some (.int x4), some (.int x5), none] [] (pic Γ φ) n x 0 0 (fq Γ n (.inl (some (.int q.1))) q.2) := by
  unfold f_Ref_breaks_L61 at H
  refine J_iload d_Ref_breaks_61 rfl ?_
  refine J_iload_n d_Ref_breaks_63 rfl ?_
  have h21 : ¬ x3 = 0 := by
    intro q9
    rw [if_pos q9] at H
    cases H
  rw [if_neg h21] at H
  refine J_irem d_Ref_breaks_64 h21 ?_
  refine J_if_eq (tgt := 70) d_Ref_breaks_65 (by decide) ?_ ?_
  · intro c22
    rw [if_pos c22] at H
    refine J.drop [true, false, false, true, true, true, false] rfl ?_
    exact p_Ref_breaks_L70 hw hG  H
  · intro c22
    rw [if_neg c22] at H
    refine J.drop [false, false, false, false, false, false, false] rfl ?_
    exact p_Ref_breaks_L68 hw hG  H
def f_Ref_breaks (Γ : gm_T) (φ : ph_T) (p0 : Int64) : Option (Int32 × ph_T) :=
  Option.bind (f_Ref_lengthOf Γ φ p0) fun q23 =>
  Option.bind (f_Ref_sizeOf Γ q23.2 p0) fun q24 =>
  Option.bind (f_Ref_addressOf Γ q24.2 p0) fun q25 =>
  Option.bind (f_Ref_kindOf Γ q25.2 p0) fun q26 =>
  if q26.1 = (3 : Int32) then
    some ((3 : Int32), q26.2)
  else
    Option.bind (f_Ref_kindOf Γ q26.2 p0) fun q27 =>
    if q27.1 = (2 : Int32) then
      if q23.1 = (2 : Int32) then
        f_Ref_breaks_L61 Γ  q27.2 p0 q24.1 q25.1 (q23.1 * q24.1)
      else
        if q23.1 = (4 : Int32) then
          f_Ref_breaks_L61 Γ  q27.2 p0 q24.1 q25.1 (q23.1 * q24.1)
        else
          if q23.1 = (8 : Int32) then
            f_Ref_breaks_L61 Γ  q27.2 p0 q24.1 q25.1 (q23.1 * q24.1)
          else
            if q23.1 = (16 : Int32) then
              f_Ref_breaks_L61 Γ  q27.2 p0 q24.1 q25.1 (q23.1 * q24.1)
            else
              f_Ref_breaks_L68 Γ  q27.2 
    else
      f_Ref_breaks_L70 Γ  q27.2 p0 q24.1 q25.1 (q23.1 * q24.1)
set_option maxRecDepth 100000 in
set_option maxHeartbeats 4000000 in
theorem p_Ref_breaks {w : jw_T} (hw : jok w) {Γ : gm_T} {n : Nat} (hG : gd w Γ n) {x : Bool} {φ : ph_T} {p0 : Int64} {q : Int32 × ph_T} (H : f_Ref_breaks Γ φ p0 = some q) : jc w M_Ref_breaks [.long p0] (pic Γ φ) n x 0 0 (fq Γ n (.inl (some (.int q.1))) q.2) := by
  refine jc.of (by simp only [jent_r, jent_i, jent_l, jent_a, jent_0]; exact Nat.le_of_ble_eq_true rfl) ?_
  have hls : jents [.long p0] (jm_nL M_Ref_breaks) = [some (.long p0), none, none, none, none, none, none] := by simp only [jents, jent_r, jent_i, jent_l, jent_a, jent_0]; rfl
  rw [hls]
  clear hls
  unfold f_Ref_breaks at H
  refine J_lload_n d_Ref_breaks_0 rfl ?_
  obtain ⟨q23, hq23, H⟩ := Option.bind_eq_some_iff.mp H
  refine J_callS (kc := 0) (ks := 0) (kc' := 0) (ks' := 0) (as := [.long p0]) (st := []) (mf_Ref_lengthOf hw) (ms_Ref_321 hw) d_Ref_breaks_1 ln_Ref_lengthOf (by decide) (by first | exact Nat.le_of_ble_eq_true rfl | (simp only [List.map_cons, List.map_nil, List.sum_cons, List.sum_nil, va_rf_cat]; exact Nat.le_of_ble_eq_true rfl)) rfl (p_Ref_lengthOf hw hG hq23) ?_ (fun E h' n' x' e1 => by cases e1.1)
  intro v9 h9 n9 x9 e9
  obtain ⟨e91, e92, e93⟩ := e9
  cases e91
  subst e92
  subst e93
  clear x
  rename Bool => x
  show J _ _ _ _ (_ :: _) _ _ _ _ _ _
  refine J_istore_n d_Ref_breaks_4 (Nat.le_of_ble_eq_true rfl) ?_
  refine J_lload_n d_Ref_breaks_5 rfl ?_
  obtain ⟨q24, hq24, H⟩ := Option.bind_eq_some_iff.mp H
  refine J_callS (kc := 0) (ks := 0) (kc' := 0) (ks' := 0) (as := [.long p0]) (st := []) (mf_Ref_sizeOf hw) (ms_Ref_318 hw) d_Ref_breaks_6 ln_Ref_sizeOf (by decide) (by first | exact Nat.le_of_ble_eq_true rfl | (simp only [List.map_cons, List.map_nil, List.sum_cons, List.sum_nil, va_rf_cat]; exact Nat.le_of_ble_eq_true rfl)) rfl (p_Ref_sizeOf hw hG hq24) ?_ (fun E h' n' x' e1 => by cases e1.1)
  intro v9 h9 n9 x9 e9
  obtain ⟨e91, e92, e93⟩ := e9
  cases e91
  subst e92
  subst e93
  clear x
  rename Bool => x
  show J _ _ _ _ (_ :: _) _ _ _ _ _ _
  refine J_istore_n d_Ref_breaks_9 (Nat.le_of_ble_eq_true rfl) ?_
  refine J_lload_n d_Ref_breaks_10 rfl ?_
  obtain ⟨q25, hq25, H⟩ := Option.bind_eq_some_iff.mp H
  refine J_callS (kc := 0) (ks := 0) (kc' := 0) (ks' := 0) (as := [.long p0]) (st := []) (mf_Ref_addressOf hw) (ms_Ref_314 hw) d_Ref_breaks_11 ln_Ref_addressOf (by decide) (by first | exact Nat.le_of_ble_eq_true rfl | (simp only [List.map_cons, List.map_nil, List.sum_cons, List.sum_nil, va_rf_cat]; exact Nat.le_of_ble_eq_true rfl)) rfl (p_Ref_addressOf hw hG hq25) ?_ (fun E h' n' x' e1 => by cases e1.1)
  intro v9 h9 n9 x9 e9
  obtain ⟨e91, e92, e93⟩ := e9
  cases e91
  subst e92
  subst e93
  clear x
  rename Bool => x
  show J _ _ _ _ (_ :: _) _ _ _ _ _ _
  refine J_istore d_Ref_breaks_14 (Nat.le_of_ble_eq_true rfl) ?_
  refine J_iload_n d_Ref_breaks_16 rfl ?_
  refine J_iload_n d_Ref_breaks_17 rfl ?_
  refine J_imul d_Ref_breaks_18 ?_
  refine J_istore d_Ref_breaks_19 (Nat.le_of_ble_eq_true rfl) ?_
  refine J_lload_n d_Ref_breaks_21 rfl ?_
  obtain ⟨q26, hq26, H⟩ := Option.bind_eq_some_iff.mp H
  refine J_callS (kc := 0) (ks := 0) (kc' := 0) (ks' := 0) (as := [.long p0]) (st := []) (mf_Ref_kindOf hw) (ms_Ref_324 hw) d_Ref_breaks_22 ln_Ref_kindOf (by decide) (by first | exact Nat.le_of_ble_eq_true rfl | (simp only [List.map_cons, List.map_nil, List.sum_cons, List.sum_nil, va_rf_cat]; exact Nat.le_of_ble_eq_true rfl)) rfl (p_Ref_kindOf hw hG hq26) ?_ (fun E h' n' x' e1 => by cases e1.1)
  intro v9 h9 n9 x9 e9
  obtain ⟨e91, e92, e93⟩ := e9
  cases e91
  subst e92
  subst e93
  clear x
  rename Bool => x
  show J _ _ _ _ (_ :: _) _ _ _ _ _ _
  refine J_iconst (v := 3) d_Ref_breaks_25 (by decide) ?_
  refine J_icmp_ne (tgt := 31) d_Ref_breaks_26 (by decide) ?_ ?_
  · intro c33
    rw [if_neg c33] at H
    refine J_lload_n d_Ref_breaks_31 rfl ?_
    obtain ⟨q27, hq27, H⟩ := Option.bind_eq_some_iff.mp H
    refine J_callS (kc := 0) (ks := 0) (kc' := 0) (ks' := 0) (as := [.long p0]) (st := []) (mf_Ref_kindOf hw) (ms_Ref_324 hw) d_Ref_breaks_32 ln_Ref_kindOf (by decide) (by first | exact Nat.le_of_ble_eq_true rfl | (simp only [List.map_cons, List.map_nil, List.sum_cons, List.sum_nil, va_rf_cat]; exact Nat.le_of_ble_eq_true rfl)) rfl (p_Ref_kindOf hw hG hq27) ?_ (fun E h' n' x' e1 => by cases e1.1)
    intro v9 h9 n9 x9 e9
    obtain ⟨e91, e92, e93⟩ := e9
    cases e91
    subst e92
    subst e93
    clear x
    rename Bool => x
    show J _ _ _ _ (_ :: _) _ _ _ _ _ _
    refine J_iconst (v := 2) d_Ref_breaks_35 (by decide) ?_
    refine J_icmp_ne (tgt := 70) d_Ref_breaks_36 (by decide) ?_ ?_
    · intro c32
      rw [if_neg c32] at H
      refine J.drop [true, false, false, true, true, true, false] rfl ?_
      exact p_Ref_breaks_L70 hw hG  H
    · intro c32
      rw [if_pos c32] at H
      refine J_iload_n d_Ref_breaks_39 rfl ?_
      refine J_iconst (v := 2) d_Ref_breaks_40 (by decide) ?_
      refine J_icmp_eq (tgt := 61) d_Ref_breaks_41 (by decide) ?_ ?_
      · intro c31
        rw [if_pos c31] at H
        refine J.drop [true, false, false, true, true, true, false] rfl ?_
        exact p_Ref_breaks_L61 hw hG  H
      · intro c31
        rw [if_neg c31] at H
        refine J_iload_n d_Ref_breaks_44 rfl ?_
        refine J_iconst (v := 4) d_Ref_breaks_45 (by decide) ?_
        refine J_icmp_eq (tgt := 61) d_Ref_breaks_46 (by decide) ?_ ?_
        · intro c30
          rw [if_pos c30] at H
          refine J.drop [true, false, false, true, true, true, false] rfl ?_
          exact p_Ref_breaks_L61 hw hG  H
        · intro c30
          rw [if_neg c30] at H
          refine J_iload_n d_Ref_breaks_49 rfl ?_
          refine J_bipush (v := 8) d_Ref_breaks_50 (by decide) ?_
          refine J_icmp_eq (tgt := 61) d_Ref_breaks_52 (by decide) ?_ ?_
          · intro c29
            rw [if_pos c29] at H
            refine J.drop [true, false, false, true, true, true, false] rfl ?_
            exact p_Ref_breaks_L61 hw hG  H
          · intro c29
            rw [if_neg c29] at H
            refine J_iload_n d_Ref_breaks_55 rfl ?_
            refine J_bipush (v := 16) d_Ref_breaks_56 (by decide) ?_
            refine J_icmp_ne (tgt := 68) d_Ref_breaks_58 (by decide) ?_ ?_
            · intro c28
              rw [if_neg c28] at H
              refine J.drop [false, false, false, false, false, false, false] rfl ?_
              exact p_Ref_breaks_L68 hw hG  H
            · intro c28
              rw [if_pos c28] at H
              refine J.drop [true, false, false, true, true, true, false] rfl ?_
              exact p_Ref_breaks_L61 hw hG  H
  · intro c33
    rw [if_pos c33] at H
    refine J_iconst (v := 3) d_Ref_breaks_29 (by decide) ?_
    cases H
    exact J_iret (st := []) d_Ref_breaks_30 rfl rfl ⟨rfl, rfl, rfl⟩
theorem ln_Ref_request : (parseMethodDescriptor y_Ref_request.desc).map (fun q => q.parameters.length) = some 5 := by decide +kernel
def f_Ref_request_L365 (Γ : gm_T)  (φ : ph_T) (x0 : Nat) (x2 : Int32) (x3 : Int32) (x4 : Int32) (x5 : Int64) (x7 : Int32) (y0 : Int32) (y1 : Int32) (y2 : Option Nat) : Option (Int32 × ph_T) :=
  Option.bind y2 fun a1 =>
  Option.bind (gA Γ a1 2) fun N2 =>
  Option.bind (ix y1 N2) fun k3 =>
  @ite _ (y0 = 0 ∨ y0 = 1) _ (
  @ite _ (Γ x0 = .inr 12) _ (
  Option.bind ((uI φ a1 k3 y0).2.2 x0 23) fun a6 =>
  Option.bind (gA Γ a6 0) fun N7 =>
  Option.bind (ix x7 N7) fun k8 =>
  Option.bind ((uI (uI φ a1 k3 y0) a6 k8 (x2 >>> ((11 : Int32) &&& 31))).2.2 x0 24) fun a9 =>
  Option.bind (gA Γ a9 0) fun N10 =>
  Option.bind (ix x7 N10) fun k11 =>
  Option.bind ((uI (uI (uI φ a1 k3 y0) a6 k8 (x2 >>> ((11 : Int32) &&& 31))) a9 k11 x3).2.2 x0 25) fun a12 =>
  Option.bind (gA Γ a12 0) fun N13 =>
  Option.bind (ix x7 N13) fun k14 =>
  Option.bind ((uI (uI (uI (uI φ a1 k3 y0) a6 k8 (x2 >>> ((11 : Int32) &&& 31))) a9 k11 x3) a12 k14 x4).2.2 x0 26) fun a15 =>
  Option.bind (gA Γ a15 1) fun N16 =>
  Option.bind (ix x7 N16) fun k17 =>
  Option.bind ((uL (uI (uI (uI (uI φ a1 k3 y0) a6 k8 (x2 >>> ((11 : Int32) &&& 31))) a9 k11 x3) a12 k14 x4) a15 k17 x5).2.2 x0 27) fun a18 =>
  Option.bind (gA Γ a18 0) fun N19 =>
  Option.bind (ix x7 N19) fun k20 =>
  Option.bind ((uI (uL (uI (uI (uI (uI φ a1 k3 y0) a6 k8 (x2 >>> ((11 : Int32) &&& 31))) a9 k11 x3) a12 k14 x4) a15 k17 x5) a18 k20 ((uL (uI (uI (uI (uI φ a1 k3 y0) a6 k8 (x2 >>> ((11 : Int32) &&& 31))) a9 k11 x3) a12 k14 x4) a15 k17 x5).1 x0 6)).2.2 x0 28) fun a21 =>
  Option.bind (gA Γ a21 0) fun N22 =>
  Option.bind (ix x7 N22) fun k23 =>
  Option.bind ((uI (uI (uL (uI (uI (uI (uI φ a1 k3 y0) a6 k8 (x2 >>> ((11 : Int32) &&& 31))) a9 k11 x3) a12 k14 x4) a15 k17 x5) a18 k20 ((uL (uI (uI (uI (uI φ a1 k3 y0) a6 k8 (x2 >>> ((11 : Int32) &&& 31))) a9 k11 x3) a12 k14 x4) a15 k17 x5).1 x0 6)) a21 k23 (-1 : Int32)).2.2 x0 29) fun a24 =>
  Option.bind (gA Γ a24 0) fun N25 =>
  Option.bind (ix x7 N25) fun k26 =>
  Option.bind ((uI (uI (uI (uL (uI (uI (uI (uI φ a1 k3 y0) a6 k8 (x2 >>> ((11 : Int32) &&& 31))) a9 k11 x3) a12 k14 x4) a15 k17 x5) a18 k20 ((uL (uI (uI (uI (uI φ a1 k3 y0) a6 k8 (x2 >>> ((11 : Int32) &&& 31))) a9 k11 x3) a12 k14 x4) a15 k17 x5).1 x0 6)) a21 k23 (-1 : Int32)) a24 k26 (-1 : Int32)).2.2 x0 30) fun a27 =>
  Option.bind (gA Γ a27 0) fun N28 =>
  Option.bind (ix x7 N28) fun k29 =>
  Option.bind ((uI (uI (uI (uI (uL (uI (uI (uI (uI φ a1 k3 y0) a6 k8 (x2 >>> ((11 : Int32) &&& 31))) a9 k11 x3) a12 k14 x4) a15 k17 x5) a18 k20 ((uL (uI (uI (uI (uI φ a1 k3 y0) a6 k8 (x2 >>> ((11 : Int32) &&& 31))) a9 k11 x3) a12 k14 x4) a15 k17 x5).1 x0 6)) a21 k23 (-1 : Int32)) a24 k26 (-1 : Int32)) a27 k29 (0 : Int32)).2.2 x0 31) fun a30 =>
  Option.bind (gA Γ a30 0) fun N31 =>
  Option.bind (ix x7 N31) fun k32 =>
  some (x7, (uI (uI (uI (uI (uI (uI (uL (uI (uI (uI (uI φ a1 k3 y0) a6 k8 (x2 >>> ((11 : Int32) &&& 31))) a9 k11 x3) a12 k14 x4) a15 k17 x5) a18 k20 ((uL (uI (uI (uI (uI φ a1 k3 y0) a6 k8 (x2 >>> ((11 : Int32) &&& 31))) a9 k11 x3) a12 k14 x4) a15 k17 x5).1 x0 6)) a21 k23 (-1 : Int32)) a24 k26 (-1 : Int32)) a27 k29 (0 : Int32)) a30 k32 (0 : Int32)) x0 15 (((uI (uI (uI (uI (uI (uL (uI (uI (uI (uI φ a1 k3 y0) a6 k8 (x2 >>> ((11 : Int32) &&& 31))) a9 k11 x3) a12 k14 x4) a15 k17 x5) a18 k20 ((uL (uI (uI (uI (uI φ a1 k3 y0) a6 k8 (x2 >>> ((11 : Int32) &&& 31))) a9 k11 x3) a12 k14 x4) a15 k17 x5).1 x0 6)) a21 k23 (-1 : Int32)) a24 k26 (-1 : Int32)) a27 k29 (0 : Int32)) a30 k32 (0 : Int32)).1 x0 15) + (1 : Int32))))
  ) none
  ) none
set_option maxRecDepth 100000 in
set_option maxHeartbeats 4000000 in
theorem p_Ref_request_L365 {w : jw_T} (hw : jok w) {Γ : gm_T} {n : Nat} (hG : gd w Γ n)  {x : Bool} {φ : ph_T} {x0 : Nat} {x2 : Int32} {x3 : Int32} {x4 : Int32} {x5 : Int64} {x7 : Int32} {y0 : Int32} {y1 : Int32} {y2 : Option Nat} {q : Int32 × ph_T} (H : f_Ref_request_L365 Γ  φ x0 x2 x3 x4 x5 x7 y0 y1 y2 = some q) : J w M_Ref_request 365 [some (.ref x0), none, some (.int x2), some (.int x3), some (.int x4), some (.long x5), none, some (.int x7), none, none, none, none, none] [.int y0, .int y1, va_rf y2] (pic Γ φ) n x 0 0 (fq Γ n (.inl (some (.int q.1))) q.2) := by
  unfold f_Ref_request_L365 at H
  obtain ⟨a1, ha1, H⟩ := Option.bind_eq_some_iff.mp H
  rw [j_rf ha1]
  obtain ⟨N2, hN2, H⟩ := Option.bind_eq_some_iff.mp H
  obtain ⟨k3, hk3, H⟩ := Option.bind_eq_some_iff.mp H
  have z4 : y0 = 0 ∨ y0 = 1 := by
    apply Classical.byContradiction
    intro q9
    rw [if_neg q9] at H
    cases H
  rw [if_pos z4] at H
  refine F_zast k3 hw hG d_Ref_request_365 (gA_some hN2) (ix_some hk3) z4 ?_
  refine J_aload_n d_Ref_request_366 rfl ?_
  have g5 : Γ x0 = .inr 12 := by
    apply Classical.byContradiction
    intro q9
    rw [if_neg q9] at H
    cases H
  rw [if_pos g5] at H
  refine F_getR (ci := 12) (k := 23) hG (cf_Ref hw) (fl_Ref_57 hw) (by decide) (by decide) rfl d_Ref_request_367 g5 ?_
  refine J_iload d_Ref_request_370 rfl ?_
  refine J_iload_n d_Ref_request_372 rfl ?_
  refine J_bipush (v := 11) d_Ref_request_373 (by decide) ?_
  refine J_ishr d_Ref_request_375 ?_
  obtain ⟨a6, ha6, H⟩ := Option.bind_eq_some_iff.mp H
  rw [j_rf ha6]
  obtain ⟨N7, hN7, H⟩ := Option.bind_eq_some_iff.mp H
  obtain ⟨k8, hk8, H⟩ := Option.bind_eq_some_iff.mp H
  refine F_iast k8 hw hG d_Ref_request_376 (gA_some hN7) (ix_some hk8) ?_
  refine J_aload_n d_Ref_request_377 rfl ?_
  refine F_getR (ci := 12) (k := 24) hG (cf_Ref hw) (fl_Ref_60 hw) (by decide) (by decide) rfl d_Ref_request_378 g5 ?_
  refine J_iload d_Ref_request_381 rfl ?_
  refine J_iload_n d_Ref_request_383 rfl ?_
  obtain ⟨a9, ha9, H⟩ := Option.bind_eq_some_iff.mp H
  rw [j_rf ha9]
  obtain ⟨N10, hN10, H⟩ := Option.bind_eq_some_iff.mp H
  obtain ⟨k11, hk11, H⟩ := Option.bind_eq_some_iff.mp H
  refine F_iast k11 hw hG d_Ref_request_384 (gA_some hN10) (ix_some hk11) ?_
  refine J_aload_n d_Ref_request_385 rfl ?_
  refine F_getR (ci := 12) (k := 25) hG (cf_Ref hw) (fl_Ref_63 hw) (by decide) (by decide) rfl d_Ref_request_386 g5 ?_
  refine J_iload d_Ref_request_389 rfl ?_
  refine J_iload d_Ref_request_391 rfl ?_
  obtain ⟨a12, ha12, H⟩ := Option.bind_eq_some_iff.mp H
  rw [j_rf ha12]
  obtain ⟨N13, hN13, H⟩ := Option.bind_eq_some_iff.mp H
  obtain ⟨k14, hk14, H⟩ := Option.bind_eq_some_iff.mp H
  refine F_iast k14 hw hG d_Ref_request_393 (gA_some hN13) (ix_some hk14) ?_
  refine J_aload_n d_Ref_request_394 rfl ?_
  refine F_getR (ci := 12) (k := 26) hG (cf_Ref hw) (fl_Ref_66 hw) (by decide) (by decide) rfl d_Ref_request_395 g5 ?_
  refine J_iload d_Ref_request_398 rfl ?_
  refine J_lload d_Ref_request_400 rfl ?_
  obtain ⟨a15, ha15, H⟩ := Option.bind_eq_some_iff.mp H
  rw [j_rf ha15]
  obtain ⟨N16, hN16, H⟩ := Option.bind_eq_some_iff.mp H
  obtain ⟨k17, hk17, H⟩ := Option.bind_eq_some_iff.mp H
  refine F_last k17 hw hG d_Ref_request_402 (gA_some hN16) (ix_some hk17) ?_
  refine J_aload_n d_Ref_request_403 rfl ?_
  refine F_getR (ci := 12) (k := 27) hG (cf_Ref hw) (fl_Ref_70 hw) (by decide) (by decide) rfl d_Ref_request_404 g5 ?_
  refine J_iload d_Ref_request_407 rfl ?_
  refine J_aload_n d_Ref_request_409 rfl ?_
  refine F_getI (ci := 12) (k := 6) hG (cf_Ref hw) (fl_Ref_348 hw) (by decide) (by decide) rfl d_Ref_request_410 g5 ?_
  obtain ⟨a18, ha18, H⟩ := Option.bind_eq_some_iff.mp H
  rw [j_rf ha18]
  obtain ⟨N19, hN19, H⟩ := Option.bind_eq_some_iff.mp H
  obtain ⟨k20, hk20, H⟩ := Option.bind_eq_some_iff.mp H
  refine F_iast k20 hw hG d_Ref_request_413 (gA_some hN19) (ix_some hk20) ?_
  refine J_aload_n d_Ref_request_414 rfl ?_
  refine F_getR (ci := 12) (k := 28) hG (cf_Ref hw) (fl_Ref_73 hw) (by decide) (by decide) rfl d_Ref_request_415 g5 ?_
  refine J_iload d_Ref_request_418 rfl ?_
  refine J_iconst (v := -1) d_Ref_request_420 (by decide) ?_
  obtain ⟨a21, ha21, H⟩ := Option.bind_eq_some_iff.mp H
  rw [j_rf ha21]
  obtain ⟨N22, hN22, H⟩ := Option.bind_eq_some_iff.mp H
  obtain ⟨k23, hk23, H⟩ := Option.bind_eq_some_iff.mp H
  refine F_iast k23 hw hG d_Ref_request_421 (gA_some hN22) (ix_some hk23) ?_
  refine J_aload_n d_Ref_request_422 rfl ?_
  refine F_getR (ci := 12) (k := 29) hG (cf_Ref hw) (fl_Ref_76 hw) (by decide) (by decide) rfl d_Ref_request_423 g5 ?_
  refine J_iload d_Ref_request_426 rfl ?_
  refine J_iconst (v := -1) d_Ref_request_428 (by decide) ?_
  obtain ⟨a24, ha24, H⟩ := Option.bind_eq_some_iff.mp H
  rw [j_rf ha24]
  obtain ⟨N25, hN25, H⟩ := Option.bind_eq_some_iff.mp H
  obtain ⟨k26, hk26, H⟩ := Option.bind_eq_some_iff.mp H
  refine F_iast k26 hw hG d_Ref_request_429 (gA_some hN25) (ix_some hk26) ?_
  refine J_aload_n d_Ref_request_430 rfl ?_
  refine F_getR (ci := 12) (k := 30) hG (cf_Ref hw) (fl_Ref_79 hw) (by decide) (by decide) rfl d_Ref_request_431 g5 ?_
  refine J_iload d_Ref_request_434 rfl ?_
  refine J_iconst (v := 0) d_Ref_request_436 (by decide) ?_
  obtain ⟨a27, ha27, H⟩ := Option.bind_eq_some_iff.mp H
  rw [j_rf ha27]
  obtain ⟨N28, hN28, H⟩ := Option.bind_eq_some_iff.mp H
  obtain ⟨k29, hk29, H⟩ := Option.bind_eq_some_iff.mp H
  refine F_iast k29 hw hG d_Ref_request_437 (gA_some hN28) (ix_some hk29) ?_
  refine J_aload_n d_Ref_request_438 rfl ?_
  refine F_getR (ci := 12) (k := 31) hG (cf_Ref hw) (fl_Ref_82 hw) (by decide) (by decide) rfl d_Ref_request_439 g5 ?_
  refine J_iload d_Ref_request_442 rfl ?_
  refine J_iconst (v := 0) d_Ref_request_444 (by decide) ?_
  obtain ⟨a30, ha30, H⟩ := Option.bind_eq_some_iff.mp H
  rw [j_rf ha30]
  obtain ⟨N31, hN31, H⟩ := Option.bind_eq_some_iff.mp H
  obtain ⟨k32, hk32, H⟩ := Option.bind_eq_some_iff.mp H
  refine F_iast k32 hw hG d_Ref_request_445 (gA_some hN31) (ix_some hk32) ?_
  refine J_aload_n d_Ref_request_446 rfl ?_
  refine J_dup d_Ref_request_447 rfl ?_
  refine F_getI (ci := 12) (k := 15) hG (cf_Ref hw) (fl_Ref_337 hw) (by decide) (by decide) rfl d_Ref_request_448 g5 ?_
  refine J_iconst (v := 1) d_Ref_request_451 (by decide) ?_
  refine J_iadd d_Ref_request_452 ?_
  refine F_putI (ci := 12) (k := 15) hG (cf_Ref hw) (fl_Ref_337 hw) (by decide) (by decide) rfl d_Ref_request_453 rfl rfl rfl g5 ?_
  refine J_iload d_Ref_request_456 rfl ?_
  cases H
  exact J_iret (st := []) d_Ref_request_458 rfl rfl ⟨rfl, rfl, rfl⟩
def f_Ref_request_L343 (Γ : gm_T)  (φ : ph_T) (x0 : Nat) (x2 : Int32) (x3 : Int32) (x4 : Int32) (x5 : Int64) (x7 : Int32) (y0 : Int32) (y1 : Int32) (y2 : Option Nat) : Option (Int32 × ph_T) :=
  Option.bind y2 fun a33 =>
  Option.bind (gA Γ a33 2) fun N34 =>
  Option.bind (ix y1 N34) fun k35 =>
  @ite _ (y0 = 0 ∨ y0 = 1) _ (
  @ite _ (Γ x0 = .inr 12) _ (
  if ((x2 >>> ((10 : Int32) &&& 31)) &&& (1 : Int32)) = (1 : Int32) then
    f_Ref_request_L365 Γ  (uI φ a33 k35 y0) x0 x2 x3 x4 x5 x7 (1 : Int32) x7 ((uI φ a33 k35 y0).2.2 x0 22)
  else
    f_Ref_request_L365 Γ  (uI φ a33 k35 y0) x0 x2 x3 x4 x5 x7 (0 : Int32) x7 ((uI φ a33 k35 y0).2.2 x0 22)
  ) none
  ) none
set_option maxRecDepth 100000 in
set_option maxHeartbeats 4000000 in
theorem p_Ref_request_L343 {w : jw_T} (hw : jok w) {Γ : gm_T} {n : Nat} (hG : gd w Γ n)  {x : Bool} {φ : ph_T} {x0 : Nat} {x2 : Int32} {x3 : Int32} {x4 : Int32} {x5 : Int64} {x7 : Int32} {y0 : Int32} {y1 : Int32} {y2 : Option Nat} {q : Int32 × ph_T} (H : f_Ref_request_L343 Γ  φ x0 x2 x3 x4 x5 x7 y0 y1 y2 = some q) : J w M_Ref_request 343 [some (.ref x0), none, some (.int x2), some (.int x3), some (.int x4), some (.long x5), none, some (.int x7), none, none, none, none, none] [.int y0, .int y1, va_rf y2] (pic Γ φ) n x 0 0 (fq Γ n (.inl (some (.int q.1))) q.2) := by
  unfold f_Ref_request_L343 at H
  obtain ⟨a33, ha33, H⟩ := Option.bind_eq_some_iff.mp H
  rw [j_rf ha33]
  obtain ⟨N34, hN34, H⟩ := Option.bind_eq_some_iff.mp H
  obtain ⟨k35, hk35, H⟩ := Option.bind_eq_some_iff.mp H
  have z36 : y0 = 0 ∨ y0 = 1 := by
    apply Classical.byContradiction
    intro q9
    rw [if_neg q9] at H
    cases H
  rw [if_pos z36] at H
  refine F_zast k35 hw hG d_Ref_request_343 (gA_some hN34) (ix_some hk35) z36 ?_
  refine J_aload_n d_Ref_request_344 rfl ?_
  have g37 : Γ x0 = .inr 12 := by
    apply Classical.byContradiction
    intro q9
    rw [if_neg q9] at H
    cases H
  rw [if_pos g37] at H
  refine F_getR (ci := 12) (k := 22) hG (cf_Ref hw) (fl_Ref_54 hw) (by decide) (by decide) rfl d_Ref_request_345 g37 ?_
  refine J_iload d_Ref_request_348 rfl ?_
  refine J_iload_n d_Ref_request_350 rfl ?_
  refine J_bipush (v := 10) d_Ref_request_351 (by decide) ?_
  refine J_ishr d_Ref_request_353 ?_
  refine J_iconst (v := 1) d_Ref_request_354 (by decide) ?_
  refine J_iand d_Ref_request_355 ?_
  refine J_iconst (v := 1) d_Ref_request_356 (by decide) ?_
  refine J_icmp_ne (tgt := 364) d_Ref_request_357 (by decide) ?_ ?_
  · intro c38
    rw [if_neg c38] at H
    refine J_iconst (v := 0) d_Ref_request_364 (by decide) ?_
    refine J.drop [true, false, true, true, true, true, false, true, false, false, false, false, false] rfl ?_
    exact p_Ref_request_L365 hw hG  H
  · intro c38
    rw [if_pos c38] at H
    refine J_iconst (v := 1) d_Ref_request_360 (by decide) ?_
    refine J_goto (tgt := 365) d_Ref_request_361 (by decide) ?_
    refine J.drop [true, false, true, true, true, true, false, true, false, false, false, false, false] rfl ?_
    exact p_Ref_request_L365 hw hG  H
def f_Ref_request_L255 (Γ : gm_T)  (φ : ph_T) (x0 : Nat) (x1 : Int32) (x2 : Int32) (x3 : Int32) (x4 : Int32) (x5 : Int64) (x7 : Int32) (x10 : Int32) (y0 : Int32) (y1 : Nat) : Option (Int32 × ph_T) :=
  @ite _ (Γ y1 = .inr 12) _ (
  @ite _ (Γ x0 = .inr 12) _ (
  if ((uI φ y1 0 y0).1 x0 0) ≤ 0 then
    Option.bind ((uI φ y1 0 y0).2.2 x0 16) fun a41 =>
    Option.bind (gA Γ a41 0) fun N42 =>
    Option.bind (ix x7 N42) fun k43 =>
    Option.bind ((uI (uI φ y1 0 y0) a41 k43 x1).2.2 x0 17) fun a44 =>
    Option.bind (gA Γ a44 0) fun N45 =>
    Option.bind (ix x7 N45) fun k46 =>
    Option.bind ((uI (uI (uI φ y1 0 y0) a41 k43 x1) a44 k46 ((x2 &&& (15 : Int32)) + (1 : Int32))).2.2 x0 18) fun a47 =>
    Option.bind (gA Γ a47 0) fun N48 =>
    Option.bind (ix x7 N48) fun k49 =>
    Option.bind ((uI (uI (uI (uI φ y1 0 y0) a41 k43 x1) a44 k46 ((x2 &&& (15 : Int32)) + (1 : Int32))) a47 k49 ((x2 >>> ((4 : Int32) &&& 31)) &&& (3 : Int32))).2.2 x0 19) fun a50 =>
    Option.bind (gA Γ a50 0) fun N51 =>
    Option.bind (ix x7 N51) fun k52 =>
    Option.bind ((uI (uI (uI (uI (uI φ y1 0 y0) a41 k43 x1) a44 k46 ((x2 &&& (15 : Int32)) + (1 : Int32))) a47 k49 ((x2 >>> ((4 : Int32) &&& 31)) &&& (3 : Int32))) a50 k52 ((x2 >>> ((6 : Int32) &&& 31)) &&& (3 : Int32))).2.2 x0 20) fun a53 =>
    Option.bind (gA Γ a53 2) fun N54 =>
    Option.bind (ix x7 N54) fun k55 =>
    @ite _ (x10 = 0 ∨ x10 = 1) _ (
    if ((x2 >>> ((9 : Int32) &&& 31)) &&& (1 : Int32)) = (1 : Int32) then
      f_Ref_request_L343 Γ  (uI (uI (uI (uI (uI (uI φ y1 0 y0) a41 k43 x1) a44 k46 ((x2 &&& (15 : Int32)) + (1 : Int32))) a47 k49 ((x2 >>> ((4 : Int32) &&& 31)) &&& (3 : Int32))) a50 k52 ((x2 >>> ((6 : Int32) &&& 31)) &&& (3 : Int32))) a53 k55 x10) x0 x2 x3 x4 x5 x7 (1 : Int32) x7 ((uI (uI (uI (uI (uI (uI φ y1 0 y0) a41 k43 x1) a44 k46 ((x2 &&& (15 : Int32)) + (1 : Int32))) a47 k49 ((x2 >>> ((4 : Int32) &&& 31)) &&& (3 : Int32))) a50 k52 ((x2 >>> ((6 : Int32) &&& 31)) &&& (3 : Int32))) a53 k55 x10).2.2 x0 21)
    else
      f_Ref_request_L343 Γ  (uI (uI (uI (uI (uI (uI φ y1 0 y0) a41 k43 x1) a44 k46 ((x2 &&& (15 : Int32)) + (1 : Int32))) a47 k49 ((x2 >>> ((4 : Int32) &&& 31)) &&& (3 : Int32))) a50 k52 ((x2 >>> ((6 : Int32) &&& 31)) &&& (3 : Int32))) a53 k55 x10) x0 x2 x3 x4 x5 x7 (0 : Int32) x7 ((uI (uI (uI (uI (uI (uI φ y1 0 y0) a41 k43 x1) a44 k46 ((x2 &&& (15 : Int32)) + (1 : Int32))) a47 k49 ((x2 >>> ((4 : Int32) &&& 31)) &&& (3 : Int32))) a50 k52 ((x2 >>> ((6 : Int32) &&& 31)) &&& (3 : Int32))) a53 k55 x10).2.2 x0 21)
    ) none
  else
    some ((0 : Int32), (uI φ y1 0 y0))
  ) none
  ) none
set_option maxRecDepth 100000 in
set_option maxHeartbeats 4000000 in
theorem p_Ref_request_L255 {w : jw_T} (hw : jok w) {Γ : gm_T} {n : Nat} (hG : gd w Γ n)  {x : Bool} {φ : ph_T} {x0 : Nat} {x1 : Int32} {x2 : Int32} {x3 : Int32} {x4 : Int32} {x5 : Int64} {x7 : Int32} {x10 : Int32} {y0 : Int32} {y1 : Nat} {q : Int32 × ph_T} (H : f_Ref_request_L255 Γ  φ x0 x1 x2 x3 x4 x5 x7 x10 y0 y1 = some q) : J w M_Ref_request 255 [some (.ref x0), some (.int x1), some (.int x2), some (.int x3), some (.int x4), some (.long x5), none, some (.int x7), none, none, some (.int x10), none, none] [.int y0, .ref y1] (pic Γ φ) n x 0 0 (fq Γ n (.inl (some (.int q.1))) q.2) := by
  unfold f_Ref_request_L255 at H
  have g39 : Γ y1 = .inr 12 := by
    apply Classical.byContradiction
    intro q9
    rw [if_neg q9] at H
    cases H
  rw [if_pos g39] at H
  refine F_putI (ci := 12) (k := 0) hG (cf_Ref hw) (fl_Ref_303 hw) (by decide) (by decide) rfl d_Ref_request_255 rfl rfl rfl g39 ?_
  refine J_aload_n d_Ref_request_258 rfl ?_
  have g40 : Γ x0 = .inr 12 := by
    apply Classical.byContradiction
    intro q9
    rw [if_neg q9] at H
    cases H
  rw [if_pos g40] at H
  refine F_getI (ci := 12) (k := 0) hG (cf_Ref hw) (fl_Ref_303 hw) (by decide) (by decide) rfl d_Ref_request_259 g40 ?_
  refine J_if_le (tgt := 267) d_Ref_request_262 (by decide) ?_ ?_
  · intro c58
    rw [if_pos c58] at H
    refine J_aload_n d_Ref_request_267 rfl ?_
    refine F_getR (ci := 12) (k := 16) hG (cf_Ref hw) (fl_Ref_36 hw) (by decide) (by decide) rfl d_Ref_request_268 g40 ?_
    refine J_iload d_Ref_request_271 rfl ?_
    refine J_iload_n d_Ref_request_273 rfl ?_
    obtain ⟨a41, ha41, H⟩ := Option.bind_eq_some_iff.mp H
    rw [j_rf ha41]
    obtain ⟨N42, hN42, H⟩ := Option.bind_eq_some_iff.mp H
    obtain ⟨k43, hk43, H⟩ := Option.bind_eq_some_iff.mp H
    refine F_iast k43 hw hG d_Ref_request_274 (gA_some hN42) (ix_some hk43) ?_
    refine J_aload_n d_Ref_request_275 rfl ?_
    refine F_getR (ci := 12) (k := 17) hG (cf_Ref hw) (fl_Ref_39 hw) (by decide) (by decide) rfl d_Ref_request_276 g40 ?_
    refine J_iload d_Ref_request_279 rfl ?_
    refine J_iload_n d_Ref_request_281 rfl ?_
    refine J_bipush (v := 15) d_Ref_request_282 (by decide) ?_
    refine J_iand d_Ref_request_284 ?_
    refine J_iconst (v := 1) d_Ref_request_285 (by decide) ?_
    refine J_iadd d_Ref_request_286 ?_
    obtain ⟨a44, ha44, H⟩ := Option.bind_eq_some_iff.mp H
    rw [j_rf ha44]
    obtain ⟨N45, hN45, H⟩ := Option.bind_eq_some_iff.mp H
    obtain ⟨k46, hk46, H⟩ := Option.bind_eq_some_iff.mp H
    refine F_iast k46 hw hG d_Ref_request_287 (gA_some hN45) (ix_some hk46) ?_
    refine J_aload_n d_Ref_request_288 rfl ?_
    refine F_getR (ci := 12) (k := 18) hG (cf_Ref hw) (fl_Ref_42 hw) (by decide) (by decide) rfl d_Ref_request_289 g40 ?_
    refine J_iload d_Ref_request_292 rfl ?_
    refine J_iload_n d_Ref_request_294 rfl ?_
    refine J_iconst (v := 4) d_Ref_request_295 (by decide) ?_
    refine J_ishr d_Ref_request_296 ?_
    refine J_iconst (v := 3) d_Ref_request_297 (by decide) ?_
    refine J_iand d_Ref_request_298 ?_
    obtain ⟨a47, ha47, H⟩ := Option.bind_eq_some_iff.mp H
    rw [j_rf ha47]
    obtain ⟨N48, hN48, H⟩ := Option.bind_eq_some_iff.mp H
    obtain ⟨k49, hk49, H⟩ := Option.bind_eq_some_iff.mp H
    refine F_iast k49 hw hG d_Ref_request_299 (gA_some hN48) (ix_some hk49) ?_
    refine J_aload_n d_Ref_request_300 rfl ?_
    refine F_getR (ci := 12) (k := 19) hG (cf_Ref hw) (fl_Ref_45 hw) (by decide) (by decide) rfl d_Ref_request_301 g40 ?_
    refine J_iload d_Ref_request_304 rfl ?_
    refine J_iload_n d_Ref_request_306 rfl ?_
    refine J_bipush (v := 6) d_Ref_request_307 (by decide) ?_
    refine J_ishr d_Ref_request_309 ?_
    refine J_iconst (v := 3) d_Ref_request_310 (by decide) ?_
    refine J_iand d_Ref_request_311 ?_
    obtain ⟨a50, ha50, H⟩ := Option.bind_eq_some_iff.mp H
    rw [j_rf ha50]
    obtain ⟨N51, hN51, H⟩ := Option.bind_eq_some_iff.mp H
    obtain ⟨k52, hk52, H⟩ := Option.bind_eq_some_iff.mp H
    refine F_iast k52 hw hG d_Ref_request_312 (gA_some hN51) (ix_some hk52) ?_
    refine J_aload_n d_Ref_request_313 rfl ?_
    refine F_getR (ci := 12) (k := 20) hG (cf_Ref hw) (fl_Ref_48 hw) (by decide) (by decide) rfl d_Ref_request_314 g40 ?_
    refine J_iload d_Ref_request_317 rfl ?_
    refine J_iload d_Ref_request_319 rfl ?_
    obtain ⟨a53, ha53, H⟩ := Option.bind_eq_some_iff.mp H
    rw [j_rf ha53]
    obtain ⟨N54, hN54, H⟩ := Option.bind_eq_some_iff.mp H
    obtain ⟨k55, hk55, H⟩ := Option.bind_eq_some_iff.mp H
    have z56 : x10 = 0 ∨ x10 = 1 := by
      apply Classical.byContradiction
      intro q9
      rw [if_neg q9] at H
      cases H
    rw [if_pos z56] at H
    refine F_zast k55 hw hG d_Ref_request_321 (gA_some hN54) (ix_some hk55) z56 ?_
    refine J_aload_n d_Ref_request_322 rfl ?_
    refine F_getR (ci := 12) (k := 21) hG (cf_Ref hw) (fl_Ref_51 hw) (by decide) (by decide) rfl d_Ref_request_323 g40 ?_
    refine J_iload d_Ref_request_326 rfl ?_
    refine J_iload_n d_Ref_request_328 rfl ?_
    refine J_bipush (v := 9) d_Ref_request_329 (by decide) ?_
    refine J_ishr d_Ref_request_331 ?_
    refine J_iconst (v := 1) d_Ref_request_332 (by decide) ?_
    refine J_iand d_Ref_request_333 ?_
    refine J_iconst (v := 1) d_Ref_request_334 (by decide) ?_
    refine J_icmp_ne (tgt := 342) d_Ref_request_335 (by decide) ?_ ?_
    · intro c57
      rw [if_neg c57] at H
      refine J_iconst (v := 0) d_Ref_request_342 (by decide) ?_
      refine J.drop [true, false, true, true, true, true, false, true, false, false, false, false, false] rfl ?_
      exact p_Ref_request_L343 hw hG  H
    · intro c57
      rw [if_pos c57] at H
      refine J_iconst (v := 1) d_Ref_request_338 (by decide) ?_
      refine J_goto (tgt := 343) d_Ref_request_339 (by decide) ?_
      refine J.drop [true, false, true, true, true, true, false, true, false, false, false, false, false] rfl ?_
      exact p_Ref_request_L343 hw hG  H
  · intro c58
    rw [if_neg c58] at H
    refine J_iconst (v := 0) d_Ref_request_265 (by decide) ?_
    cases H
    exact J_iret (st := []) d_Ref_request_266 rfl rfl ⟨rfl, rfl, rfl⟩
def f_Ref_request_L250 (Γ : gm_T)  (φ : ph_T) (x0 : Nat) (x1 : Int32) (x2 : Int32) (x3 : Int32) (x4 : Int32) (x5 : Int64) (x7 : Int32) (x10 : Int32) (y0 : Nat) : Option (Int32 × ph_T) :=
  f_Ref_request_L255 Γ  φ x0 x1 x2 x3 x4 x5 x7 x10 (3 : Int32) y0
set_option maxRecDepth 100000 in
set_option maxHeartbeats 4000000 in
theorem p_Ref_request_L250 {w : jw_T} (hw : jok w) {Γ : gm_T} {n : Nat} (hG : gd w Γ n)  {x : Bool} {φ : ph_T} {x0 : Nat} {x1 : Int32} {x2 : Int32} {x3 : Int32} {x4 : Int32} {x5 : Int64} {x7 : Int32} {x10 : Int32} {y0 : Nat} {q : Int32 × ph_T} (H : f_Ref_request_L250 Γ  φ x0 x1 x2 x3 x4 x5 x7 x10 y0 = some q) : J w M_Ref_request 250 [some (.ref x0), some (.int x1), some (.int x2), some (.int x3), some (.int x4), some (.long x5), none, some (.int x7), none, none, some (.int x10), none, none] [.ref y0] (pic Γ φ) n x 0 0 (fq Γ n (.inl (some (.int q.1))) q.2) := by
  unfold f_Ref_request_L250 at H
  refine J_iconst (v := 3) d_Ref_request_250 (by decide) ?_
  refine J_goto (tgt := 255) d_Ref_request_251 (by decide) ?_
  refine J.drop [true, true, true, true, true, true, false, true, false, false, true, false, false] rfl ?_
  exact p_Ref_request_L255 hw hG  H
def f_Ref_request_L212 (Γ : gm_T) (Kc162 : ph_T → Nat → Int32 → Int32 → Int32 → Int32 → Int64 → Int32 → Int64 → Int32 → Int32 → Int32 → Option (Int32 × ph_T)) (φ : ph_T) (x0 : Nat) (x1 : Int32) (x2 : Int32) (x3 : Int32) (x4 : Int32) (x5 : Int64) (x7 : Int32) (x8 : Int64) (x10 : Int32) (x12 : Int32) (y0 : Int32) (y1 : Int32) : Option (Int32 × ph_T) :=
  Kc162 φ x0 x1 x2 x3 x4 x5 x7 x8 x10 (y1 + y0) (x12 + (1 : Int32))
set_option maxRecDepth 100000 in
set_option maxHeartbeats 4000000 in
theorem p_Ref_request_L212 {w : jw_T} (hw : jok w) {Γ : gm_T} {n : Nat} (hG : gd w Γ n) {Kc162 : ph_T → Nat → Int32 → Int32 → Int32 → Int32 → Int64 → Int32 → Int64 → Int32 → Int32 → Int32 → Option (Int32 × ph_T)} (hKc162 : ∀ {x : Bool} {φ : ph_T} {x0 : Nat} {x1 : Int32} {x2 : Int32} {x3 : Int32} {x4 : Int32} {x5 : Int64} {x7 : Int32} {x8 : Int64} {x10 : Int32} {x11 : Int32} {x12 : Int32} {q : Int32 × ph_T}, Kc162 φ x0 x1 x2 x3 x4 x5 x7 x8 x10 x11 x12 = some q → J w M_Ref_request 162 [some (.ref x0), some (.int x1), some (.int x2), some (.int x3), some (.int x4), some (.long x5), none, some (.int x7), some (.long x8), none, some (.int x10), some (.int x11), some (.int x12)] [] (pic Γ φ) n x 0 0 (fq Γ n (.inl (some (.int q.1))) q.2)) {x : Bool} {φ : ph_T} {x0 : Nat} {x1 : Int32} {x2 : Int32} {x3 : Int32} {x4 : Int32} {x5 : Int64} {x7 : Int32} {x8 : Int64} {x10 : Int32} {x12 : Int32} {y0 : Int32} {y1 : Int32} {q : Int32 × ph_T} (H : f_Ref_request_L212 Γ Kc162 φ x0 x1 x2 x3 x4 x5 x7 x8 x10 x12 y0 y1 = some q) : J w M_Ref_request 212 [some (.ref x0), some (.int x1), some (.int x2), some (.int x3), some (.int x4), some (.long x5), none, some (.int x7), some (.long x8), none, some (.int x10), none, some (.int x12)] [.int y0, .int y1] (pic Γ φ) n x 0 0 (fq Γ n (.inl (some (.int q.1))) q.2) := by
  unfold f_Ref_request_L212 at H
  refine J_iadd d_Ref_request_212 ?_
  refine J_istore d_Ref_request_213 (Nat.le_of_ble_eq_true rfl) ?_
  refine J_iinc (v := x12 + 1) d_Ref_request_215 rfl (by rw [show Int32.ofInt 1 = (1 : Int32) from by decide]) ?_
  refine J_goto (tgt := 162) d_Ref_request_218 (by decide) ?_
  refine J.drop [true, true, true, true, true, true, false, true, true, false, true, true, true] rfl ?_
  exact hKc162 H
def f_Ref_request_L211 (Γ : gm_T) (Kc162 : ph_T → Nat → Int32 → Int32 → Int32 → Int32 → Int64 → Int32 → Int64 → Int32 → Int32 → Int32 → Option (Int32 × ph_T)) (φ : ph_T) (x0 : Nat) (x1 : Int32) (x2 : Int32) (x3 : Int32) (x4 : Int32) (x5 : Int64) (x7 : Int32) (x8 : Int64) (x10 : Int32) (x12 : Int32) (y0 : Int32) : Option (Int32 × ph_T) :=
  f_Ref_request_L212 Γ Kc162 φ x0 x1 x2 x3 x4 x5 x7 x8 x10 x12 (0 : Int32) y0
set_option maxRecDepth 100000 in
set_option maxHeartbeats 4000000 in
theorem p_Ref_request_L211 {w : jw_T} (hw : jok w) {Γ : gm_T} {n : Nat} (hG : gd w Γ n) {Kc162 : ph_T → Nat → Int32 → Int32 → Int32 → Int32 → Int64 → Int32 → Int64 → Int32 → Int32 → Int32 → Option (Int32 × ph_T)} (hKc162 : ∀ {x : Bool} {φ : ph_T} {x0 : Nat} {x1 : Int32} {x2 : Int32} {x3 : Int32} {x4 : Int32} {x5 : Int64} {x7 : Int32} {x8 : Int64} {x10 : Int32} {x11 : Int32} {x12 : Int32} {q : Int32 × ph_T}, Kc162 φ x0 x1 x2 x3 x4 x5 x7 x8 x10 x11 x12 = some q → J w M_Ref_request 162 [some (.ref x0), some (.int x1), some (.int x2), some (.int x3), some (.int x4), some (.long x5), none, some (.int x7), some (.long x8), none, some (.int x10), some (.int x11), some (.int x12)] [] (pic Γ φ) n x 0 0 (fq Γ n (.inl (some (.int q.1))) q.2)) {x : Bool} {φ : ph_T} {x0 : Nat} {x1 : Int32} {x2 : Int32} {x3 : Int32} {x4 : Int32} {x5 : Int64} {x7 : Int32} {x8 : Int64} {x10 : Int32} {x12 : Int32} {y0 : Int32} {q : Int32 × ph_T} (H : f_Ref_request_L211 Γ Kc162 φ x0 x1 x2 x3 x4 x5 x7 x8 x10 x12 y0 = some q) : J w M_Ref_request 211 [some (.ref x0), some (.int x1), some (.int x2), some (.int x3), some (.int x4), some (.long x5), none, some (.int x7), some (.long x8), none, some (.int x10), none, some (.int x12)] [.int y0] (pic Γ φ) n x 0 0 (fq Γ n (.inl (some (.int q.1))) q.2) := by
  unfold f_Ref_request_L211 at H
  refine J_iconst (v := 0) d_Ref_request_211 (by decide) ?_
  refine J.drop [true, true, true, true, true, true, false, true, true, false, true, false, true] rfl ?_
  exact p_Ref_request_L212 hw hG hKc162 H
def f_Ref_request_L162 (Γ : gm_T)  : Nat → ph_T → Nat → Int32 → Int32 → Int32 → Int32 → Int64 → Int32 → Int64 → Int32 → Int32 → Int32 → Option (Int32 × ph_T)
  | 0, _, _, _, _, _, _, _, _, _, _, _, _ => none
  | fu + 1, φ, x0, x1, x2, x3, x4, x5, x7, x8, x10, x11, x12 =>
    @ite _ (Γ x0 = .inr 12) _ (
    if (φ.1 x0 15) ≤ x12 then
      Option.bind (f_Ref_breaks Γ φ x8) fun q60 =>
      if q60.1 ≤ 0 then
        if (q60.2.1 x0 15) = (64 : Int32) then
          f_Ref_request_L250 Γ  q60.2 x0 x1 x2 x3 x4 x5 x7 x10 x0
        else
          if x11 = (8 : Int32) then
            f_Ref_request_L250 Γ  q60.2 x0 x1 x2 x3 x4 x5 x7 x10 x0
          else
            f_Ref_request_L255 Γ  q60.2 x0 x1 x2 x3 x4 x5 x7 x10 (0 : Int32) x0
      else
        f_Ref_request_L255 Γ  q60.2 x0 x1 x2 x3 x4 x5 x7 x10 (2 : Int32) x0
    else
      Option.bind (φ.2.2 x0 16) fun a64 =>
      Option.bind (gA Γ a64 0) fun N65 =>
      Option.bind (ix x12 N65) fun k66 =>
      if (φ.1 a64 k66) = x1 then
        Option.bind (φ.2.2 x0 20) fun a67 =>
        Option.bind (gA Γ a67 2) fun N68 =>
        Option.bind (ix x12 N68) fun k69 =>
        if (φ.1 a67 k69) = x10 then
          Option.bind (φ.2.2 x0 28) fun a70 =>
          Option.bind (gA Γ a70 0) fun N71 =>
          Option.bind (ix x12 N71) fun k72 =>
          if (φ.1 a70 k72) = (-1 : Int32) then
            f_Ref_request_L212 Γ (f_Ref_request_L162 Γ  fu) φ x0 x1 x2 x3 x4 x5 x7 x8 x10 x12 (1 : Int32) x11
          else
            f_Ref_request_L211 Γ (f_Ref_request_L162 Γ  fu) φ x0 x1 x2 x3 x4 x5 x7 x8 x10 x12 x11
        else
          f_Ref_request_L211 Γ (f_Ref_request_L162 Γ  fu) φ x0 x1 x2 x3 x4 x5 x7 x8 x10 x12 x11
      else
        f_Ref_request_L211 Γ (f_Ref_request_L162 Γ  fu) φ x0 x1 x2 x3 x4 x5 x7 x8 x10 x12 x11
    ) none
set_option maxRecDepth 100000 in
set_option maxHeartbeats 4000000 in
theorem p_Ref_request_L162 {w : jw_T} (hw : jok w) {Γ : gm_T} {n : Nat} (hG : gd w Γ n)  : ∀ (fu : Nat) {x : Bool} {φ : ph_T} {x0 : Nat} {x1 : Int32} {x2 : Int32} {x3 : Int32} {x4 : Int32} {x5 : Int64} {x7 : Int32} {x8 : Int64} {x10 : Int32} {x11 : Int32} {x12 : Int32} {q : Int32 × ph_T}, f_Ref_request_L162 Γ  fu φ x0 x1 x2 x3 x4 x5 x7 x8 x10 x11 x12 = some q → J w M_Ref_request 162 [some (.ref x0), some (.int x1), some (.int x2), some (.int x3), some (.int x4), some (.long x5), none, some (.int x7), some (.long x8), none, some (.int x10), some (.int x11), some (.int x12)] [] (pic Γ φ) n x 0 0 (fq Γ n (.inl (some (.int q.1))) q.2) := by
  intro fu
  induction fu with
  | zero =>
    intro x φ x0 x1 x2 x3 x4 x5 x7 x8 x10 x11 x12 q H
    cases H
  | succ fu ih =>
    intro x φ x0 x1 x2 x3 x4 x5 x7 x8 x10 x11 x12 q H
    unfold f_Ref_request_L162 at H
    refine J_iload d_Ref_request_162 rfl ?_
    refine J_aload_n d_Ref_request_164 rfl ?_
    have g59 : Γ x0 = .inr 12 := by
      apply Classical.byContradiction
      intro q9
      rw [if_neg q9] at H
      cases H
    rw [if_pos g59] at H
    refine F_getI (ci := 12) (k := 15) hG (cf_Ref hw) (fl_Ref_337 hw) (by decide) (by decide) rfl d_Ref_request_165 g59 ?_
    refine J_icmp_ge (tgt := 221) d_Ref_request_168 (by decide) ?_ ?_
    · intro c76
      rw [if_pos c76] at H
      refine J_aload_n d_Ref_request_221 rfl ?_
      refine J_lload d_Ref_request_222 rfl ?_
      obtain ⟨q60, hq60, H⟩ := Option.bind_eq_some_iff.mp H
      refine J_callS (kc := 0) (ks := 0) (kc' := 0) (ks' := 0) (as := [.long x8]) (st := [.ref x0]) (mf_Ref_breaks hw) (ms_Ref_419 hw) d_Ref_request_224 ln_Ref_breaks (by decide) (by first | exact Nat.le_of_ble_eq_true rfl | (simp only [List.map_cons, List.map_nil, List.sum_cons, List.sum_nil, va_rf_cat]; exact Nat.le_of_ble_eq_true rfl)) rfl (p_Ref_breaks hw hG hq60) ?_ (fun E h' n' x' e1 => by cases e1.1)
      intro v9 h9 n9 x9 e9
      obtain ⟨e91, e92, e93⟩ := e9
      cases e91
      subst e92
      subst e93
      clear x
      rename Bool => x
      show J _ _ _ _ (_ :: _) _ _ _ _ _ _
      refine J_if_le (tgt := 234) d_Ref_request_227 (by decide) ?_ ?_
      · intro c63
        rw [if_pos c63] at H
        refine J_aload_n d_Ref_request_234 rfl ?_
        refine F_getI (ci := 12) (k := 15) hG (cf_Ref hw) (fl_Ref_337 hw) (by decide) (by decide) rfl d_Ref_request_235 g59 ?_
        refine J_bipush (v := 64) d_Ref_request_238 (by decide) ?_
        refine J_icmp_eq (tgt := 250) d_Ref_request_240 (by decide) ?_ ?_
        · intro c62
          rw [if_pos c62] at H
          refine J.drop [true, true, true, true, true, true, false, true, false, false, true, false, false] rfl ?_
          exact p_Ref_request_L250 hw hG  H
        · intro c62
          rw [if_neg c62] at H
          refine J_iload d_Ref_request_243 rfl ?_
          refine J_bipush (v := 8) d_Ref_request_245 (by decide) ?_
          refine J_icmp_ne (tgt := 254) d_Ref_request_247 (by decide) ?_ ?_
          · intro c61
            rw [if_neg c61] at H
            refine J_iconst (v := 0) d_Ref_request_254 (by decide) ?_
            refine J.drop [true, true, true, true, true, true, false, true, false, false, true, false, false] rfl ?_
            exact p_Ref_request_L255 hw hG  H
          · intro c61
            rw [if_pos c61] at H
            refine J.drop [true, true, true, true, true, true, false, true, false, false, true, false, false] rfl ?_
            exact p_Ref_request_L250 hw hG  H
      · intro c63
        rw [if_neg c63] at H
        refine J_iconst (v := 2) d_Ref_request_230 (by decide) ?_
        refine J_goto (tgt := 255) d_Ref_request_231 (by decide) ?_
        refine J.drop [true, true, true, true, true, true, false, true, false, false, true, false, false] rfl ?_
        exact p_Ref_request_L255 hw hG  H
    · intro c76
      rw [if_neg c76] at H
      refine J_iload d_Ref_request_171 rfl ?_
      refine J_aload_n d_Ref_request_173 rfl ?_
      refine F_getR (ci := 12) (k := 16) hG (cf_Ref hw) (fl_Ref_36 hw) (by decide) (by decide) rfl d_Ref_request_174 g59 ?_
      refine J_iload d_Ref_request_177 rfl ?_
      obtain ⟨a64, ha64, H⟩ := Option.bind_eq_some_iff.mp H
      rw [j_rf ha64]
      obtain ⟨N65, hN65, H⟩ := Option.bind_eq_some_iff.mp H
      obtain ⟨k66, hk66, H⟩ := Option.bind_eq_some_iff.mp H
      refine F_iald k66 hw hG d_Ref_request_179 (gA_some hN65) (ix_some hk66) ?_
      refine J_iload_n d_Ref_request_180 rfl ?_
      refine J_icmp_ne (tgt := 211) d_Ref_request_181 (by decide) ?_ ?_
      · intro c75
        rw [if_neg c75] at H
        refine J.drop [true, true, true, true, true, true, false, true, true, false, true, false, true] rfl ?_
        exact p_Ref_request_L211 hw hG ih H
      · intro c75
        rw [if_pos c75] at H
        refine J_aload_n d_Ref_request_184 rfl ?_
        refine F_getR (ci := 12) (k := 20) hG (cf_Ref hw) (fl_Ref_48 hw) (by decide) (by decide) rfl d_Ref_request_185 g59 ?_
        refine J_iload d_Ref_request_188 rfl ?_
        obtain ⟨a67, ha67, H⟩ := Option.bind_eq_some_iff.mp H
        rw [j_rf ha67]
        obtain ⟨N68, hN68, H⟩ := Option.bind_eq_some_iff.mp H
        obtain ⟨k69, hk69, H⟩ := Option.bind_eq_some_iff.mp H
        refine F_zald k69 hw hG d_Ref_request_190 (gA_some hN68) (ix_some hk69) ?_
        refine J_iload d_Ref_request_191 rfl ?_
        refine J_icmp_ne (tgt := 211) d_Ref_request_193 (by decide) ?_ ?_
        · intro c74
          rw [if_neg c74] at H
          refine J.drop [true, true, true, true, true, true, false, true, true, false, true, false, true] rfl ?_
          exact p_Ref_request_L211 hw hG ih H
        · intro c74
          rw [if_pos c74] at H
          refine J_aload_n d_Ref_request_196 rfl ?_
          refine F_getR (ci := 12) (k := 28) hG (cf_Ref hw) (fl_Ref_73 hw) (by decide) (by decide) rfl d_Ref_request_197 g59 ?_
          refine J_iload d_Ref_request_200 rfl ?_
          obtain ⟨a70, ha70, H⟩ := Option.bind_eq_some_iff.mp H
          rw [j_rf ha70]
          obtain ⟨N71, hN71, H⟩ := Option.bind_eq_some_iff.mp H
          obtain ⟨k72, hk72, H⟩ := Option.bind_eq_some_iff.mp H
          refine F_iald k72 hw hG d_Ref_request_202 (gA_some hN71) (ix_some hk72) ?_
          refine J_iconst (v := -1) d_Ref_request_203 (by decide) ?_
          refine J_icmp_ne (tgt := 211) d_Ref_request_204 (by decide) ?_ ?_
          · intro c73
            rw [if_neg c73] at H
            refine J.drop [true, true, true, true, true, true, false, true, true, false, true, false, true] rfl ?_
            exact p_Ref_request_L211 hw hG ih H
          · intro c73
            rw [if_pos c73] at H
            refine J_iconst (v := 1) d_Ref_request_207 (by decide) ?_
            refine J_goto (tgt := 212) d_Ref_request_208 (by decide) ?_
            refine J.drop [true, true, true, true, true, true, false, true, true, false, true, false, true] rfl ?_
            exact p_Ref_request_L212 hw hG ih H
def f_Ref_request_L154 (Γ : gm_T)  (φ : ph_T) (x0 : Nat) (x1 : Int32) (x2 : Int32) (x3 : Int32) (x4 : Int32) (x5 : Int64) (x7 : Int32) (x8 : Int64) (y0 : Int32) : Option (Int32 × ph_T) :=
  f_Ref_request_L162 Γ  jF φ x0 x1 x2 x3 x4 x5 x7 x8 y0 (0 : Int32) (0 : Int32)
set_option maxRecDepth 100000 in
set_option maxHeartbeats 4000000 in
theorem p_Ref_request_L154 {w : jw_T} (hw : jok w) {Γ : gm_T} {n : Nat} (hG : gd w Γ n)  {x : Bool} {φ : ph_T} {x0 : Nat} {x1 : Int32} {x2 : Int32} {x3 : Int32} {x4 : Int32} {x5 : Int64} {x7 : Int32} {x8 : Int64} {y0 : Int32} {q : Int32 × ph_T} (H : f_Ref_request_L154 Γ  φ x0 x1 x2 x3 x4 x5 x7 x8 y0 = some q) : J w M_Ref_request 154 [some (.ref x0), some (.int x1), some (.int x2), some (.int x3), some (.int x4), some (.long x5), none, some (.int x7), some (.long x8), none, none, none, none] [.int y0] (pic Γ φ) n x 0 0 (fq Γ n (.inl (some (.int q.1))) q.2) := by
  unfold f_Ref_request_L154 at H
  refine J_istore d_Ref_request_154 (Nat.le_of_ble_eq_true rfl) ?_
  refine J_iconst (v := 0) d_Ref_request_156 (by decide) ?_
  refine J_istore d_Ref_request_157 (Nat.le_of_ble_eq_true rfl) ?_
  refine J_iconst (v := 0) d_Ref_request_159 (by decide) ?_
  refine J_istore d_Ref_request_160 (Nat.le_of_ble_eq_true rfl) ?_
  refine J.drop [true, true, true, true, true, true, false, true, true, false, true, true, true] rfl ?_
  exact p_Ref_request_L162 hw hG  _ H
def f_Ref_request_L69 (Γ : gm_T)  (φ : ph_T) (x0 : Nat) (x1 : Int32) (x2 : Int32) (x3 : Int32) (x4 : Int32) (x5 : Int64) (x7 : Int32) (y0 : Int32) (y1 : Nat) : Option (Int32 × ph_T) :=
  @ite _ (Γ y1 = .inr 12) _ (
  @ite _ (Γ x0 = .inr 12) _ (
  if ((uI φ y1 0 y0).1 x0 0) ≤ 0 then
    if ((x2 >>> ((8 : Int32) &&& 31)) &&& (1 : Int32)) = (1 : Int32) then
      f_Ref_request_L154 Γ  (uI φ y1 0 y0) x0 x1 x2 x3 x4 x5 x7 ((((((Int32.toInt64 x4) + ((64 : Int64) * (Int32.toInt64 x3))) + (((Int32.toInt64 x2) &&& (15 : Int64)) <<< (Int32.toInt64 (22 : Int32) &&& 63))) + (((Int32.toInt64 (x2 >>> ((4 : Int32) &&& 31))) &&& (3 : Int64)) <<< (Int32.toInt64 (26 : Int32) &&& 63))) + (((Int32.toInt64 (x2 >>> ((6 : Int32) &&& 31))) &&& (3 : Int64)) <<< (Int32.toInt64 (28 : Int32) &&& 63))) + (((Int32.toInt64 (x2 >>> ((9 : Int32) &&& 31))) &&& (1 : Int64)) <<< (Int32.toInt64 (30 : Int32) &&& 63))) (1 : Int32)
    else
      f_Ref_request_L154 Γ  (uI φ y1 0 y0) x0 x1 x2 x3 x4 x5 x7 ((((((Int32.toInt64 x4) + ((64 : Int64) * (Int32.toInt64 x3))) + (((Int32.toInt64 x2) &&& (15 : Int64)) <<< (Int32.toInt64 (22 : Int32) &&& 63))) + (((Int32.toInt64 (x2 >>> ((4 : Int32) &&& 31))) &&& (3 : Int64)) <<< (Int32.toInt64 (26 : Int32) &&& 63))) + (((Int32.toInt64 (x2 >>> ((6 : Int32) &&& 31))) &&& (3 : Int64)) <<< (Int32.toInt64 (28 : Int32) &&& 63))) + (((Int32.toInt64 (x2 >>> ((9 : Int32) &&& 31))) &&& (1 : Int64)) <<< (Int32.toInt64 (30 : Int32) &&& 63))) (0 : Int32)
  else
    some ((0 : Int32), (uI φ y1 0 y0))
  ) none
  ) none
set_option maxRecDepth 100000 in
set_option maxHeartbeats 4000000 in
theorem p_Ref_request_L69 {w : jw_T} (hw : jok w) {Γ : gm_T} {n : Nat} (hG : gd w Γ n)  {x : Bool} {φ : ph_T} {x0 : Nat} {x1 : Int32} {x2 : Int32} {x3 : Int32} {x4 : Int32} {x5 : Int64} {x7 : Int32} {y0 : Int32} {y1 : Nat} {q : Int32 × ph_T} (H : f_Ref_request_L69 Γ  φ x0 x1 x2 x3 x4 x5 x7 y0 y1 = some q) : J w M_Ref_request 69 [some (.ref x0), some (.int x1), some (.int x2), some (.int x3), some (.int x4), some (.long x5), none, some (.int x7), none, none, none, none, none] [.int y0, .ref y1] (pic Γ φ) n x 0 0 (fq Γ n (.inl (some (.int q.1))) q.2) := by
  unfold f_Ref_request_L69 at H
  have g77 : Γ y1 = .inr 12 := by
    apply Classical.byContradiction
    intro q9
    rw [if_neg q9] at H
    cases H
  rw [if_pos g77] at H
  refine F_putI (ci := 12) (k := 0) hG (cf_Ref hw) (fl_Ref_303 hw) (by decide) (by decide) rfl d_Ref_request_69 rfl rfl rfl g77 ?_
  refine J_aload_n d_Ref_request_72 rfl ?_
  have g78 : Γ x0 = .inr 12 := by
    apply Classical.byContradiction
    intro q9
    rw [if_neg q9] at H
    cases H
  rw [if_pos g78] at H
  refine F_getI (ci := 12) (k := 0) hG (cf_Ref hw) (fl_Ref_303 hw) (by decide) (by decide) rfl d_Ref_request_73 g78 ?_
  refine J_if_le (tgt := 81) d_Ref_request_76 (by decide) ?_ ?_
  · intro c80
    rw [if_pos c80] at H
    refine J_iload d_Ref_request_81 rfl ?_
    refine J_i2l d_Ref_request_83 ?_
    refine J_ldc2 (v := 64) d_Ref_request_84 (kn_Ref_340 hw) ?_
    refine J_iload_n d_Ref_request_87 rfl ?_
    refine J_i2l d_Ref_request_88 ?_
    refine J_lmul d_Ref_request_89 ?_
    refine J_ladd d_Ref_request_90 ?_
    refine J_iload_n d_Ref_request_91 rfl ?_
    refine J_i2l d_Ref_request_92 ?_
    refine J_ldc2 (v := 15) d_Ref_request_93 (kn_Ref_310 hw) ?_
    refine J_land d_Ref_request_96 ?_
    refine J_bipush (v := 22) d_Ref_request_97 (by decide) ?_
    refine J_lshl d_Ref_request_99 ?_
    refine J_ladd d_Ref_request_100 ?_
    refine J_iload_n d_Ref_request_101 rfl ?_
    refine J_iconst (v := 4) d_Ref_request_102 (by decide) ?_
    refine J_ishr d_Ref_request_103 ?_
    refine J_i2l d_Ref_request_104 ?_
    refine J_ldc2 (v := 3) d_Ref_request_105 (kn_Ref_312 hw) ?_
    refine J_land d_Ref_request_108 ?_
    refine J_bipush (v := 26) d_Ref_request_109 (by decide) ?_
    refine J_lshl d_Ref_request_111 ?_
    refine J_ladd d_Ref_request_112 ?_
    refine J_iload_n d_Ref_request_113 rfl ?_
    refine J_bipush (v := 6) d_Ref_request_114 (by decide) ?_
    refine J_ishr d_Ref_request_116 ?_
    refine J_i2l d_Ref_request_117 ?_
    refine J_ldc2 (v := 3) d_Ref_request_118 (kn_Ref_312 hw) ?_
    refine J_land d_Ref_request_121 ?_
    refine J_bipush (v := 28) d_Ref_request_122 (by decide) ?_
    refine J_lshl d_Ref_request_124 ?_
    refine J_ladd d_Ref_request_125 ?_
    refine J_iload_n d_Ref_request_126 rfl ?_
    refine J_bipush (v := 9) d_Ref_request_127 (by decide) ?_
    refine J_ishr d_Ref_request_129 ?_
    refine J_i2l d_Ref_request_130 ?_
    refine J_lconst (v := 1) d_Ref_request_131 (by decide) ?_
    refine J_land d_Ref_request_132 ?_
    refine J_bipush (v := 30) d_Ref_request_133 (by decide) ?_
    refine J_lshl d_Ref_request_135 ?_
    refine J_ladd d_Ref_request_136 ?_
    refine J_lstore d_Ref_request_137 (Nat.le_of_ble_eq_true rfl) ?_
    refine J_iload_n d_Ref_request_139 rfl ?_
    refine J_bipush (v := 8) d_Ref_request_140 (by decide) ?_
    refine J_ishr d_Ref_request_142 ?_
    refine J_iconst (v := 1) d_Ref_request_143 (by decide) ?_
    refine J_iand d_Ref_request_144 ?_
    refine J_iconst (v := 1) d_Ref_request_145 (by decide) ?_
    refine J_icmp_ne (tgt := 153) d_Ref_request_146 (by decide) ?_ ?_
    · intro c79
      rw [if_neg c79] at H
      refine J_iconst (v := 0) d_Ref_request_153 (by decide) ?_
      refine J.drop [true, true, true, true, true, true, false, true, true, false, false, false, false] rfl ?_
      exact p_Ref_request_L154 hw hG  H
    · intro c79
      rw [if_pos c79] at H
      refine J_iconst (v := 1) d_Ref_request_149 (by decide) ?_
      refine J_goto (tgt := 154) d_Ref_request_150 (by decide) ?_
      refine J.drop [true, true, true, true, true, true, false, true, true, false, false, false, false] rfl ?_
      exact p_Ref_request_L154 hw hG  H
  · intro c80
    rw [if_neg c80] at H
    refine J_iconst (v := 0) d_Ref_request_79 (by decide) ?_
    cases H
    exact J_iret (st := []) d_Ref_request_80 rfl rfl ⟨rfl, rfl, rfl⟩
def f_Ref_request_L64 (Γ : gm_T)  (φ : ph_T) (x0 : Nat) (x1 : Int32) (x2 : Int32) (x3 : Int32) (x4 : Int32) (x5 : Int64) (x7 : Int32) (y0 : Nat) : Option (Int32 × ph_T) :=
  f_Ref_request_L69 Γ  φ x0 x1 x2 x3 x4 x5 x7 (2 : Int32) y0
set_option maxRecDepth 100000 in
set_option maxHeartbeats 4000000 in
theorem p_Ref_request_L64 {w : jw_T} (hw : jok w) {Γ : gm_T} {n : Nat} (hG : gd w Γ n)  {x : Bool} {φ : ph_T} {x0 : Nat} {x1 : Int32} {x2 : Int32} {x3 : Int32} {x4 : Int32} {x5 : Int64} {x7 : Int32} {y0 : Nat} {q : Int32 × ph_T} (H : f_Ref_request_L64 Γ  φ x0 x1 x2 x3 x4 x5 x7 y0 = some q) : J w M_Ref_request 64 [some (.ref x0), some (.int x1), some (.int x2), some (.int x3), some (.int x4), some (.long x5), none, some (.int x7), none, none, none, none, none] [.ref y0] (pic Γ φ) n x 0 0 (fq Γ n (.inl (some (.int q.1))) q.2) := by
  unfold f_Ref_request_L64 at H
  refine J_iconst (v := 2) d_Ref_request_64 (by decide) ?_
  refine J_goto (tgt := 69) d_Ref_request_65 (by decide) ?_
  refine J.drop [true, true, true, true, true, true, false, true, false, false, false, false, false] rfl ?_
  exact p_Ref_request_L69 hw hG  H
def f_Ref_request_L35 (Γ : gm_T)  (φ : ph_T) (x0 : Nat) (x1 : Int32) (x2 : Int32) (x3 : Int32) (x4 : Int32) (x5 : Int64) (x7 : Int32) (y0 : Nat) : Option (Int32 × ph_T) :=
  f_Ref_request_L69 Γ  φ x0 x1 x2 x3 x4 x5 x7 (1 : Int32) y0
set_option maxRecDepth 100000 in
set_option maxHeartbeats 4000000 in
theorem p_Ref_request_L35 {w : jw_T} (hw : jok w) {Γ : gm_T} {n : Nat} (hG : gd w Γ n)  {x : Bool} {φ : ph_T} {x0 : Nat} {x1 : Int32} {x2 : Int32} {x3 : Int32} {x4 : Int32} {x5 : Int64} {x7 : Int32} {y0 : Nat} {q : Int32 × ph_T} (H : f_Ref_request_L35 Γ  φ x0 x1 x2 x3 x4 x5 x7 y0 = some q) : J w M_Ref_request 35 [some (.ref x0), some (.int x1), some (.int x2), some (.int x3), some (.int x4), some (.long x5), none, some (.int x7), none, none, none, none, none] [.ref y0] (pic Γ φ) n x 0 0 (fq Γ n (.inl (some (.int q.1))) q.2) := by
  unfold f_Ref_request_L35 at H
  refine J_iconst (v := 1) d_Ref_request_35 (by decide) ?_
  refine J_goto (tgt := 69) d_Ref_request_36 (by decide) ?_
  refine J.drop [true, true, true, true, true, true, false, true, false, false, false, false, false] rfl ?_
  exact p_Ref_request_L69 hw hG  H
def f_Ref_request (Γ : gm_T) (φ : ph_T) (this : Nat) (p0 : Int32) (p1 : Int32) (p2 : Int32) (p3 : Int32) (p4 : Int64) : Option (Int32 × ph_T) :=
  @ite _ (Γ this = .inr 12) _ (
  Option.bind (f_Ref_in Γ φ (Int32.toInt64 p0) (0 : Int64) ((Int32.toInt64 (φ.1 this 1)) - (1 : Int64))) fun q82 =>
  if q82.1 = 0 then
    f_Ref_request_L35 Γ  q82.2 this p0 p1 p2 p3 p4 (φ.1 this 15) this
  else
    Option.bind (f_Ref_in Γ q82.2 (Int32.toInt64 p2) (0 : Int64) (65535 : Int64)) fun q83 =>
    if q83.1 = 0 then
      f_Ref_request_L35 Γ  q83.2 this p0 p1 p2 p3 p4 (φ.1 this 15) this
    else
      Option.bind (f_Ref_in Γ q83.2 (Int32.toInt64 p1) (0 : Int64) (32767 : Int64)) fun q84 =>
      if q84.1 = 0 then
        f_Ref_request_L64 Γ  q84.2 this p0 p1 p2 p3 p4 (φ.1 this 15) this
      else
        Option.bind (f_Ref_in Γ q84.2 (Int32.toInt64 p3) (0 : Int64) (15 : Int64)) fun q85 =>
        if q85.1 = 0 then
          f_Ref_request_L64 Γ  q85.2 this p0 p1 p2 p3 p4 (φ.1 this 15) this
        else
          f_Ref_request_L69 Γ  q85.2 this p0 p1 p2 p3 p4 (φ.1 this 15) (0 : Int32) this
  ) none
set_option maxRecDepth 100000 in
set_option maxHeartbeats 4000000 in
theorem p_Ref_request {w : jw_T} (hw : jok w) {Γ : gm_T} {n : Nat} (hG : gd w Γ n) {x : Bool} {φ : ph_T} {this : Nat} {p0 : Int32} {p1 : Int32} {p2 : Int32} {p3 : Int32} {p4 : Int64} {q : Int32 × ph_T} (H : f_Ref_request Γ φ this p0 p1 p2 p3 p4 = some q) : jc w M_Ref_request [.ref this, .int p0, .int p1, .int p2, .int p3, .long p4] (pic Γ φ) n x 0 0 (fq Γ n (.inl (some (.int q.1))) q.2) := by
  refine jc.of (by simp only [jent_r, jent_i, jent_l, jent_a, jent_0]; exact Nat.le_of_ble_eq_true rfl) ?_
  have hls : jents [.ref this, .int p0, .int p1, .int p2, .int p3, .long p4] (jm_nL M_Ref_request) = [some (.ref this), some (.int p0), some (.int p1), some (.int p2), some (.int p3), some (.long p4), none, none, none, none, none, none, none] := by simp only [jents, jent_r, jent_i, jent_l, jent_a, jent_0]; rfl
  rw [hls]
  clear hls
  unfold f_Ref_request at H
  refine J_aload_n d_Ref_request_0 rfl ?_
  have g81 : Γ this = .inr 12 := by
    apply Classical.byContradiction
    intro q9
    rw [if_neg q9] at H
    cases H
  rw [if_pos g81] at H
  refine F_getI (ci := 12) (k := 15) hG (cf_Ref hw) (fl_Ref_337 hw) (by decide) (by decide) rfl d_Ref_request_1 g81 ?_
  refine J_istore d_Ref_request_4 (Nat.le_of_ble_eq_true rfl) ?_
  refine J_aload_n d_Ref_request_6 rfl ?_
  refine J_iload_n d_Ref_request_7 rfl ?_
  refine J_i2l d_Ref_request_8 ?_
  refine J_lconst (v := 0) d_Ref_request_9 (by decide) ?_
  refine J_aload_n d_Ref_request_10 rfl ?_
  refine F_getI (ci := 12) (k := 1) hG (cf_Ref hw) (fl_Ref_290 hw) (by decide) (by decide) rfl d_Ref_request_11 g81 ?_
  refine J_i2l d_Ref_request_14 ?_
  refine J_lconst (v := 1) d_Ref_request_15 (by decide) ?_
  refine J_lsub d_Ref_request_16 ?_
  obtain ⟨q82, hq82, H⟩ := Option.bind_eq_some_iff.mp H
  refine J_callS (kc := 0) (ks := 0) (kc' := 0) (ks' := 0) (as := [.long (Int32.toInt64 p0), .long (0 : Int64), .long ((Int32.toInt64 (φ.1 this 1)) - (1 : Int64))]) (st := [.ref this]) (mf_Ref_in hw) (ms_Ref_599 hw) d_Ref_request_17 ln_Ref_in (by decide) (by first | exact Nat.le_of_ble_eq_true rfl | (simp only [List.map_cons, List.map_nil, List.sum_cons, List.sum_nil, va_rf_cat]; exact Nat.le_of_ble_eq_true rfl)) rfl (p_Ref_in hw hG hq82) ?_ (fun E h' n' x' e1 => by cases e1.1)
  intro v9 h9 n9 x9 e9
  obtain ⟨e91, e92, e93⟩ := e9
  cases e91
  subst e92
  subst e93
  clear x
  rename Bool => x
  show J _ _ _ _ (_ :: _) _ _ _ _ _ _
  refine J_if_eq (tgt := 35) d_Ref_request_20 (by decide) ?_ ?_
  · intro c89
    rw [if_pos c89] at H
    refine J.drop [true, true, true, true, true, true, false, true, false, false, false, false, false] rfl ?_
    exact p_Ref_request_L35 hw hG  H
  · intro c89
    rw [if_neg c89] at H
    refine J_iload_n d_Ref_request_23 rfl ?_
    refine J_i2l d_Ref_request_24 ?_
    refine J_lconst (v := 0) d_Ref_request_25 (by decide) ?_
    refine J_ldc2 (v := 65535) d_Ref_request_26 (kn_Ref_308 hw) ?_
    obtain ⟨q83, hq83, H⟩ := Option.bind_eq_some_iff.mp H
    refine J_callS (kc := 0) (ks := 0) (kc' := 0) (ks' := 0) (as := [.long (Int32.toInt64 p2), .long (0 : Int64), .long (65535 : Int64)]) (st := [.ref this]) (mf_Ref_in hw) (ms_Ref_599 hw) d_Ref_request_29 ln_Ref_in (by decide) (by first | exact Nat.le_of_ble_eq_true rfl | (simp only [List.map_cons, List.map_nil, List.sum_cons, List.sum_nil, va_rf_cat]; exact Nat.le_of_ble_eq_true rfl)) rfl (p_Ref_in hw hG hq83) ?_ (fun E h' n' x' e1 => by cases e1.1)
    intro v9 h9 n9 x9 e9
    obtain ⟨e91, e92, e93⟩ := e9
    cases e91
    subst e92
    subst e93
    clear x
    rename Bool => x
    show J _ _ _ _ (_ :: _) _ _ _ _ _ _
    refine J_if_ne (tgt := 39) d_Ref_request_32 (by decide) ?_ ?_
    · intro c88
      rw [if_neg c88] at H
      refine J_iload_n d_Ref_request_39 rfl ?_
      refine J_i2l d_Ref_request_40 ?_
      refine J_lconst (v := 0) d_Ref_request_41 (by decide) ?_
      refine J_ldc2 (v := 32767) d_Ref_request_42 (kn_Ref_614 hw) ?_
      obtain ⟨q84, hq84, H⟩ := Option.bind_eq_some_iff.mp H
      refine J_callS (kc := 0) (ks := 0) (kc' := 0) (ks' := 0) (as := [.long (Int32.toInt64 p1), .long (0 : Int64), .long (32767 : Int64)]) (st := [.ref this]) (mf_Ref_in hw) (ms_Ref_599 hw) d_Ref_request_45 ln_Ref_in (by decide) (by first | exact Nat.le_of_ble_eq_true rfl | (simp only [List.map_cons, List.map_nil, List.sum_cons, List.sum_nil, va_rf_cat]; exact Nat.le_of_ble_eq_true rfl)) rfl (p_Ref_in hw hG hq84) ?_ (fun E h' n' x' e1 => by cases e1.1)
      intro v9 h9 n9 x9 e9
      obtain ⟨e91, e92, e93⟩ := e9
      cases e91
      subst e92
      subst e93
      clear x
      rename Bool => x
      show J _ _ _ _ (_ :: _) _ _ _ _ _ _
      refine J_if_eq (tgt := 64) d_Ref_request_48 (by decide) ?_ ?_
      · intro c87
        rw [if_pos c87] at H
        refine J.drop [true, true, true, true, true, true, false, true, false, false, false, false, false] rfl ?_
        exact p_Ref_request_L64 hw hG  H
      · intro c87
        rw [if_neg c87] at H
        refine J_iload d_Ref_request_51 rfl ?_
        refine J_i2l d_Ref_request_53 ?_
        refine J_lconst (v := 0) d_Ref_request_54 (by decide) ?_
        refine J_ldc2 (v := 15) d_Ref_request_55 (kn_Ref_310 hw) ?_
        obtain ⟨q85, hq85, H⟩ := Option.bind_eq_some_iff.mp H
        refine J_callS (kc := 0) (ks := 0) (kc' := 0) (ks' := 0) (as := [.long (Int32.toInt64 p3), .long (0 : Int64), .long (15 : Int64)]) (st := [.ref this]) (mf_Ref_in hw) (ms_Ref_599 hw) d_Ref_request_58 ln_Ref_in (by decide) (by first | exact Nat.le_of_ble_eq_true rfl | (simp only [List.map_cons, List.map_nil, List.sum_cons, List.sum_nil, va_rf_cat]; exact Nat.le_of_ble_eq_true rfl)) rfl (p_Ref_in hw hG hq85) ?_ (fun E h' n' x' e1 => by cases e1.1)
        intro v9 h9 n9 x9 e9
        obtain ⟨e91, e92, e93⟩ := e9
        cases e91
        subst e92
        subst e93
        clear x
        rename Bool => x
        show J _ _ _ _ (_ :: _) _ _ _ _ _ _
        refine J_if_ne (tgt := 68) d_Ref_request_61 (by decide) ?_ ?_
        · intro c86
          rw [if_neg c86] at H
          refine J_iconst (v := 0) d_Ref_request_68 (by decide) ?_
          refine J.drop [true, true, true, true, true, true, false, true, false, false, false, false, false] rfl ?_
          exact p_Ref_request_L69 hw hG  H
        · intro c86
          rw [if_pos c86] at H
          refine J.drop [true, true, true, true, true, true, false, true, false, false, false, false, false] rfl ?_
          exact p_Ref_request_L64 hw hG  H
    · intro c88
      rw [if_pos c88] at H
      refine J.drop [true, true, true, true, true, true, false, true, false, false, false, false, false] rfl ?_
      exact p_Ref_request_L35 hw hG  H
theorem ln_Ref_unsent : (parseMethodDescriptor y_Ref_unsent.desc).map (fun q => q.parameters.length) = some 2 := by decide +kernel
def f_Ref_unsent_L42 (Γ : gm_T) (Kc2 : ph_T → Nat → Int32 → Int32 → Int32 → Option (Int32 × ph_T)) (φ : ph_T) (x0 : Nat) (x1 : Int32) (x2 : Int32) (x3 : Int32) : Option (Int32 × ph_T) :=
  Kc2 φ x0 x1 x2 (x3 + (1 : Int32))
set_option maxRecDepth 100000 in
set_option maxHeartbeats 4000000 in
theorem p_Ref_unsent_L42 {w : jw_T} (hw : jok w) {Γ : gm_T} {n : Nat} (hG : gd w Γ n) {Kc2 : ph_T → Nat → Int32 → Int32 → Int32 → Option (Int32 × ph_T)} (hKc2 : ∀ {x : Bool} {φ : ph_T} {x0 : Nat} {x1 : Int32} {x2 : Int32} {x3 : Int32} {q : Int32 × ph_T}, Kc2 φ x0 x1 x2 x3 = some q → J w M_Ref_unsent 2 [some (.ref x0), some (.int x1), some (.int x2), some (.int x3)] [] (pic Γ φ) n x 0 0 (fq Γ n (.inl (some (.int q.1))) q.2)) {x : Bool} {φ : ph_T} {x0 : Nat} {x1 : Int32} {x2 : Int32} {x3 : Int32} {q : Int32 × ph_T} (H : f_Ref_unsent_L42 Γ Kc2 φ x0 x1 x2 x3 = some q) : J w M_Ref_unsent 42 [some (.ref x0), some (.int x1), some (.int x2), some (.int x3)] [] (pic Γ φ) n x 0 0 (fq Γ n (.inl (some (.int q.1))) q.2) := by
  unfold f_Ref_unsent_L42 at H
  refine J_iinc (v := x3 + 1) d_Ref_unsent_42 rfl (by rw [show Int32.ofInt 1 = (1 : Int32) from by decide]) ?_
  refine J_goto (tgt := 2) d_Ref_unsent_45 (by decide) ?_
  refine J.drop [true, true, true, true] rfl ?_
  exact hKc2 H
def f_Ref_unsent_L2 (Γ : gm_T)  : Nat → ph_T → Nat → Int32 → Int32 → Int32 → Option (Int32 × ph_T)
  | 0, _, _, _, _, _ => none
  | fu + 1, φ, x0, x1, x2, x3 =>
    @ite _ (Γ x0 = .inr 12) _ (
    if (φ.1 x0 15) ≤ x3 then
      some ((-1 : Int32), φ)
    else
      Option.bind (φ.2.2 x0 16) fun a2 =>
      Option.bind (gA Γ a2 0) fun N3 =>
      Option.bind (ix x3 N3) fun k4 =>
      if (φ.1 a2 k4) = x1 then
        Option.bind (φ.2.2 x0 20) fun a5 =>
        Option.bind (gA Γ a5 2) fun N6 =>
        Option.bind (ix x3 N6) fun k7 =>
        if (φ.1 a5 k7) = x2 then
          Option.bind (φ.2.2 x0 28) fun a8 =>
          Option.bind (gA Γ a8 0) fun N9 =>
          Option.bind (ix x3 N9) fun k10 =>
          if (φ.1 a8 k10) = (-1 : Int32) then
            some (x3, φ)
          else
            f_Ref_unsent_L42 Γ (f_Ref_unsent_L2 Γ  fu) φ x0 x1 x2 x3
        else
          f_Ref_unsent_L42 Γ (f_Ref_unsent_L2 Γ  fu) φ x0 x1 x2 x3
      else
        f_Ref_unsent_L42 Γ (f_Ref_unsent_L2 Γ  fu) φ x0 x1 x2 x3
    ) none
set_option maxRecDepth 100000 in
set_option maxHeartbeats 4000000 in
theorem p_Ref_unsent_L2 {w : jw_T} (hw : jok w) {Γ : gm_T} {n : Nat} (hG : gd w Γ n)  : ∀ (fu : Nat) {x : Bool} {φ : ph_T} {x0 : Nat} {x1 : Int32} {x2 : Int32} {x3 : Int32} {q : Int32 × ph_T}, f_Ref_unsent_L2 Γ  fu φ x0 x1 x2 x3 = some q → J w M_Ref_unsent 2 [some (.ref x0), some (.int x1), some (.int x2), some (.int x3)] [] (pic Γ φ) n x 0 0 (fq Γ n (.inl (some (.int q.1))) q.2) := by
  intro fu
  induction fu with
  | zero =>
    intro x φ x0 x1 x2 x3 q H
    cases H
  | succ fu ih =>
    intro x φ x0 x1 x2 x3 q H
    unfold f_Ref_unsent_L2 at H
    refine J_iload_n d_Ref_unsent_2 rfl ?_
    refine J_aload_n d_Ref_unsent_3 rfl ?_
    have g1 : Γ x0 = .inr 12 := by
      apply Classical.byContradiction
      intro q9
      rw [if_neg q9] at H
      cases H
    rw [if_pos g1] at H
    refine F_getI (ci := 12) (k := 15) hG (cf_Ref hw) (fl_Ref_337 hw) (by decide) (by decide) rfl d_Ref_unsent_4 g1 ?_
    refine J_icmp_ge (tgt := 48) d_Ref_unsent_7 (by decide) ?_ ?_
    · intro c14
      rw [if_pos c14] at H
      refine J_iconst (v := -1) d_Ref_unsent_48 (by decide) ?_
      cases H
      exact J_iret (st := []) d_Ref_unsent_49 rfl rfl ⟨rfl, rfl, rfl⟩
    · intro c14
      rw [if_neg c14] at H
      refine J_aload_n d_Ref_unsent_10 rfl ?_
      refine F_getR (ci := 12) (k := 16) hG (cf_Ref hw) (fl_Ref_36 hw) (by decide) (by decide) rfl d_Ref_unsent_11 g1 ?_
      refine J_iload_n d_Ref_unsent_14 rfl ?_
      obtain ⟨a2, ha2, H⟩ := Option.bind_eq_some_iff.mp H
      rw [j_rf ha2]
      obtain ⟨N3, hN3, H⟩ := Option.bind_eq_some_iff.mp H
      obtain ⟨k4, hk4, H⟩ := Option.bind_eq_some_iff.mp H
      refine F_iald k4 hw hG d_Ref_unsent_15 (gA_some hN3) (ix_some hk4) ?_
      refine J_iload_n d_Ref_unsent_16 rfl ?_
      refine J_icmp_ne (tgt := 42) d_Ref_unsent_17 (by decide) ?_ ?_
      · intro c13
        rw [if_neg c13] at H
        refine J.drop [true, true, true, true] rfl ?_
        exact p_Ref_unsent_L42 hw hG ih H
      · intro c13
        rw [if_pos c13] at H
        refine J_aload_n d_Ref_unsent_20 rfl ?_
        refine F_getR (ci := 12) (k := 20) hG (cf_Ref hw) (fl_Ref_48 hw) (by decide) (by decide) rfl d_Ref_unsent_21 g1 ?_
        refine J_iload_n d_Ref_unsent_24 rfl ?_
        obtain ⟨a5, ha5, H⟩ := Option.bind_eq_some_iff.mp H
        rw [j_rf ha5]
        obtain ⟨N6, hN6, H⟩ := Option.bind_eq_some_iff.mp H
        obtain ⟨k7, hk7, H⟩ := Option.bind_eq_some_iff.mp H
        refine F_zald k7 hw hG d_Ref_unsent_25 (gA_some hN6) (ix_some hk7) ?_
        refine J_iload_n d_Ref_unsent_26 rfl ?_
        refine J_icmp_ne (tgt := 42) d_Ref_unsent_27 (by decide) ?_ ?_
        · intro c12
          rw [if_neg c12] at H
          refine J.drop [true, true, true, true] rfl ?_
          exact p_Ref_unsent_L42 hw hG ih H
        · intro c12
          rw [if_pos c12] at H
          refine J_aload_n d_Ref_unsent_30 rfl ?_
          refine F_getR (ci := 12) (k := 28) hG (cf_Ref hw) (fl_Ref_73 hw) (by decide) (by decide) rfl d_Ref_unsent_31 g1 ?_
          refine J_iload_n d_Ref_unsent_34 rfl ?_
          obtain ⟨a8, ha8, H⟩ := Option.bind_eq_some_iff.mp H
          rw [j_rf ha8]
          obtain ⟨N9, hN9, H⟩ := Option.bind_eq_some_iff.mp H
          obtain ⟨k10, hk10, H⟩ := Option.bind_eq_some_iff.mp H
          refine F_iald k10 hw hG d_Ref_unsent_35 (gA_some hN9) (ix_some hk10) ?_
          refine J_iconst (v := -1) d_Ref_unsent_36 (by decide) ?_
          refine J_icmp_ne (tgt := 42) d_Ref_unsent_37 (by decide) ?_ ?_
          · intro c11
            rw [if_neg c11] at H
            refine J.drop [true, true, true, true] rfl ?_
            exact p_Ref_unsent_L42 hw hG ih H
          · intro c11
            rw [if_pos c11] at H
            refine J_iload_n d_Ref_unsent_40 rfl ?_
            cases H
            exact J_iret (st := []) d_Ref_unsent_41 rfl rfl ⟨rfl, rfl, rfl⟩
def f_Ref_unsent (Γ : gm_T) (φ : ph_T) (this : Nat) (p0 : Int32) (p1 : Int32) : Option (Int32 × ph_T) :=
  f_Ref_unsent_L2 Γ  jF φ this p0 p1 (0 : Int32)
set_option maxRecDepth 100000 in
set_option maxHeartbeats 4000000 in
theorem p_Ref_unsent {w : jw_T} (hw : jok w) {Γ : gm_T} {n : Nat} (hG : gd w Γ n) {x : Bool} {φ : ph_T} {this : Nat} {p0 : Int32} {p1 : Int32} {q : Int32 × ph_T} (H : f_Ref_unsent Γ φ this p0 p1 = some q) : jc w M_Ref_unsent [.ref this, .int p0, .int p1] (pic Γ φ) n x 0 0 (fq Γ n (.inl (some (.int q.1))) q.2) := by
  refine jc.of (by simp only [jent_r, jent_i, jent_l, jent_a, jent_0]; exact Nat.le_of_ble_eq_true rfl) ?_
  have hls : jents [.ref this, .int p0, .int p1] (jm_nL M_Ref_unsent) = [some (.ref this), some (.int p0), some (.int p1), none] := by simp only [jents, jent_r, jent_i, jent_l, jent_a, jent_0]; rfl
  rw [hls]
  clear hls
  unfold f_Ref_unsent at H
  refine J_iconst (v := 0) d_Ref_unsent_0 (by decide) ?_
  refine J_istore_n d_Ref_unsent_1 (Nat.le_of_ble_eq_true rfl) ?_
  refine J.drop [true, true, true, true] rfl ?_
  exact p_Ref_unsent_L2 hw hG  _ H
theorem ln_Ref_tells : (parseMethodDescriptor y_Ref_tells.desc).map (fun q => q.parameters.length) = some 2 := by decide +kernel
def f_Ref_tells_L17 (Γ : gm_T)  (φ : ph_T) (y0 : Int32) : Option (Int32 × ph_T) :=
  @ite _ (y0 = 0 ∨ y0 = 1) _ (
  some (y0, φ)
  ) none
set_option maxRecDepth 100000 in
set_option maxHeartbeats 4000000 in
theorem p_Ref_tells_L17 {w : jw_T} (hw : jok w) {Γ : gm_T} {n : Nat} (hG : gd w Γ n)  {x : Bool} {φ : ph_T} {y0 : Int32} {q : Int32 × ph_T} (H : f_Ref_tells_L17 Γ  φ y0 = some q) : J w M_Ref_tells 17 [none, none] [.int y0] (pic Γ φ) n x 0 0 (fq Γ n (.inl (some (.int q.1))) q.2) := by
  unfold f_Ref_tells_L17 at H
  have z2 : y0 = 0 ∨ y0 = 1 := by
    apply Classical.byContradiction
    intro q9
    rw [if_neg q9] at H
    cases H
  rw [if_pos z2] at H
  cases H
  exact J_iret (st := []) d_Ref_tells_17 rfl (narrow_z z2).1 ⟨rfl, rfl, rfl⟩
def f_Ref_tells (Γ : gm_T) (φ : ph_T) (p0 : Int32) (p1 : Int32) : Option (Int32 × ph_T) :=
  @ite _ ((16 : Int32) = 0) _ none (
  if ((p0 >>> ((p1 - p1 / (16 : Int32) * (16 : Int32)) &&& 31)) &&& (1 : Int32)) = (1 : Int32) then
    f_Ref_tells_L17 Γ  φ (1 : Int32)
  else
    f_Ref_tells_L17 Γ  φ (0 : Int32)
  )
set_option maxRecDepth 100000 in
set_option maxHeartbeats 4000000 in
theorem p_Ref_tells {w : jw_T} (hw : jok w) {Γ : gm_T} {n : Nat} (hG : gd w Γ n) {x : Bool} {φ : ph_T} {p0 : Int32} {p1 : Int32} {q : Int32 × ph_T} (H : f_Ref_tells Γ φ p0 p1 = some q) : jc w M_Ref_tells [.int p0, .int p1] (pic Γ φ) n x 0 0 (fq Γ n (.inl (some (.int q.1))) q.2) := by
  refine jc.of (by simp only [jent_r, jent_i, jent_l, jent_a, jent_0]; exact Nat.le_of_ble_eq_true rfl) ?_
  have hls : jents [.int p0, .int p1] (jm_nL M_Ref_tells) = [some (.int p0), some (.int p1)] := by simp only [jents, jent_r, jent_i, jent_l, jent_a, jent_0]; rfl
  rw [hls]
  clear hls
  unfold f_Ref_tells at H
  refine J_iload_n d_Ref_tells_0 rfl ?_
  refine J_iload_n d_Ref_tells_1 rfl ?_
  refine J_bipush (v := 16) d_Ref_tells_2 (by decide) ?_
  have h3 : ¬ (16 : Int32) = 0 := by
    intro q9
    rw [if_pos q9] at H
    cases H
  rw [if_neg h3] at H
  refine J_irem d_Ref_tells_4 h3 ?_
  refine J_ishr d_Ref_tells_5 ?_
  refine J_iconst (v := 1) d_Ref_tells_6 (by decide) ?_
  refine J_iand d_Ref_tells_7 ?_
  refine J_iconst (v := 1) d_Ref_tells_8 (by decide) ?_
  refine J_icmp_ne (tgt := 16) d_Ref_tells_9 (by decide) ?_ ?_
  · intro c4
    rw [if_neg c4] at H
    refine J_iconst (v := 0) d_Ref_tells_16 (by decide) ?_
    refine J.drop [false, false] rfl ?_
    exact p_Ref_tells_L17 hw hG  H
  · intro c4
    rw [if_pos c4] at H
    refine J_iconst (v := 1) d_Ref_tells_12 (by decide) ?_
    refine J_goto (tgt := 17) d_Ref_tells_13 (by decide) ?_
    refine J.drop [false, false] rfl ?_
    exact p_Ref_tells_L17 hw hG  H
theorem ln_Ref_burstOf : (parseMethodDescriptor y_Ref_burstOf.desc).map (fun q => q.parameters.length) = some 1 := by decide +kernel
def f_Ref_burstOf_L70 (Γ : gm_T)  (φ : ph_T) (x0 : Nat) (x1 : Int32) (y0 : Int64) (y1 : Int64) : Option (Int64 × ph_T) :=
  @ite _ (Γ x0 = .inr 12) _ (
  Option.bind (φ.2.2 x0 23) fun a2 =>
  Option.bind (gA Γ a2 0) fun N3 =>
  Option.bind (ix x1 N3) fun k4 =>
  some (((y1 + y0) + ((Int32.toInt64 (φ.1 a2 k4)) <<< (Int32.toInt64 (31 : Int32) &&& 63))), φ)
  ) none
set_option maxRecDepth 100000 in
set_option maxHeartbeats 4000000 in
theorem p_Ref_burstOf_L70 {w : jw_T} (hw : jok w) {Γ : gm_T} {n : Nat} (hG : gd w Γ n)  {x : Bool} {φ : ph_T} {x0 : Nat} {x1 : Int32} {y0 : Int64} {y1 : Int64} {q : Int64 × ph_T} (H : f_Ref_burstOf_L70 Γ  φ x0 x1 y0 y1 = some q) : J w M_Ref_burstOf 70 [some (.ref x0), some (.int x1)] [.long y0, .long y1] (pic Γ φ) n x 0 0 (fq Γ n (.inl (some (.long q.1))) q.2) := by
  unfold f_Ref_burstOf_L70 at H
  refine J_ladd d_Ref_burstOf_70 ?_
  refine J_aload_n d_Ref_burstOf_71 rfl ?_
  have g1 : Γ x0 = .inr 12 := by
    apply Classical.byContradiction
    intro q9
    rw [if_neg q9] at H
    cases H
  rw [if_pos g1] at H
  refine F_getR (ci := 12) (k := 23) hG (cf_Ref hw) (fl_Ref_57 hw) (by decide) (by decide) rfl d_Ref_burstOf_72 g1 ?_
  refine J_iload_n d_Ref_burstOf_75 rfl ?_
  obtain ⟨a2, ha2, H⟩ := Option.bind_eq_some_iff.mp H
  rw [j_rf ha2]
  obtain ⟨N3, hN3, H⟩ := Option.bind_eq_some_iff.mp H
  obtain ⟨k4, hk4, H⟩ := Option.bind_eq_some_iff.mp H
  refine F_iald k4 hw hG d_Ref_burstOf_76 (gA_some hN3) (ix_some hk4) ?_
  refine J_i2l d_Ref_burstOf_77 ?_
  refine J_bipush (v := 31) d_Ref_burstOf_78 (by decide) ?_
  refine J_lshl d_Ref_burstOf_80 ?_
  refine J_ladd d_Ref_burstOf_81 ?_
  cases H
  exact J_lret (st := []) d_Ref_burstOf_82 rfl ⟨rfl, rfl, rfl⟩
def f_Ref_burstOf (Γ : gm_T) (φ : ph_T) (this : Nat) (p0 : Int32) : Option (Int64 × ph_T) :=
  @ite _ (Γ this = .inr 12) _ (
  Option.bind (φ.2.2 this 25) fun a6 =>
  Option.bind (gA Γ a6 0) fun N7 =>
  Option.bind (ix p0 N7) fun k8 =>
  Option.bind (φ.2.2 this 24) fun a9 =>
  Option.bind (gA Γ a9 0) fun N10 =>
  Option.bind (ix p0 N10) fun k11 =>
  Option.bind (φ.2.2 this 17) fun a12 =>
  Option.bind (gA Γ a12 0) fun N13 =>
  Option.bind (ix p0 N13) fun k14 =>
  Option.bind (φ.2.2 this 18) fun a15 =>
  Option.bind (gA Γ a15 0) fun N16 =>
  Option.bind (ix p0 N16) fun k17 =>
  Option.bind (φ.2.2 this 19) fun a18 =>
  Option.bind (gA Γ a18 0) fun N19 =>
  Option.bind (ix p0 N19) fun k20 =>
  Option.bind (φ.2.2 this 21) fun a21 =>
  Option.bind (gA Γ a21 2) fun N22 =>
  Option.bind (ix p0 N22) fun k23 =>
  if (φ.1 a21 k23) = 0 then
    f_Ref_burstOf_L70 Γ  φ this p0 (0 : Int64) (((((Int32.toInt64 (φ.1 a6 k8)) + ((64 : Int64) * (Int32.toInt64 (φ.1 a9 k11)))) + (((Int32.toInt64 (φ.1 a12 k14)) - (1 : Int64)) <<< (Int32.toInt64 (22 : Int32) &&& 63))) + ((Int32.toInt64 (φ.1 a15 k17)) <<< (Int32.toInt64 (26 : Int32) &&& 63))) + ((Int32.toInt64 (φ.1 a18 k20)) <<< (Int32.toInt64 (28 : Int32) &&& 63)))
  else
    f_Ref_burstOf_L70 Γ  φ this p0 (1073741824 : Int64) (((((Int32.toInt64 (φ.1 a6 k8)) + ((64 : Int64) * (Int32.toInt64 (φ.1 a9 k11)))) + (((Int32.toInt64 (φ.1 a12 k14)) - (1 : Int64)) <<< (Int32.toInt64 (22 : Int32) &&& 63))) + ((Int32.toInt64 (φ.1 a15 k17)) <<< (Int32.toInt64 (26 : Int32) &&& 63))) + ((Int32.toInt64 (φ.1 a18 k20)) <<< (Int32.toInt64 (28 : Int32) &&& 63)))
  ) none
set_option maxRecDepth 100000 in
set_option maxHeartbeats 4000000 in
theorem p_Ref_burstOf {w : jw_T} (hw : jok w) {Γ : gm_T} {n : Nat} (hG : gd w Γ n) {x : Bool} {φ : ph_T} {this : Nat} {p0 : Int32} {q : Int64 × ph_T} (H : f_Ref_burstOf Γ φ this p0 = some q) : jc w M_Ref_burstOf [.ref this, .int p0] (pic Γ φ) n x 0 0 (fq Γ n (.inl (some (.long q.1))) q.2) := by
  refine jc.of (by simp only [jent_r, jent_i, jent_l, jent_a, jent_0]; exact Nat.le_of_ble_eq_true rfl) ?_
  have hls : jents [.ref this, .int p0] (jm_nL M_Ref_burstOf) = [some (.ref this), some (.int p0)] := by simp only [jents, jent_r, jent_i, jent_l, jent_a, jent_0]; rfl
  rw [hls]
  clear hls
  unfold f_Ref_burstOf at H
  refine J_aload_n d_Ref_burstOf_0 rfl ?_
  have g5 : Γ this = .inr 12 := by
    apply Classical.byContradiction
    intro q9
    rw [if_neg q9] at H
    cases H
  rw [if_pos g5] at H
  refine F_getR (ci := 12) (k := 25) hG (cf_Ref hw) (fl_Ref_63 hw) (by decide) (by decide) rfl d_Ref_burstOf_1 g5 ?_
  refine J_iload_n d_Ref_burstOf_4 rfl ?_
  obtain ⟨a6, ha6, H⟩ := Option.bind_eq_some_iff.mp H
  rw [j_rf ha6]
  obtain ⟨N7, hN7, H⟩ := Option.bind_eq_some_iff.mp H
  obtain ⟨k8, hk8, H⟩ := Option.bind_eq_some_iff.mp H
  refine F_iald k8 hw hG d_Ref_burstOf_5 (gA_some hN7) (ix_some hk8) ?_
  refine J_i2l d_Ref_burstOf_6 ?_
  refine J_ldc2 (v := 64) d_Ref_burstOf_7 (kn_Ref_340 hw) ?_
  refine J_aload_n d_Ref_burstOf_10 rfl ?_
  refine F_getR (ci := 12) (k := 24) hG (cf_Ref hw) (fl_Ref_60 hw) (by decide) (by decide) rfl d_Ref_burstOf_11 g5 ?_
  refine J_iload_n d_Ref_burstOf_14 rfl ?_
  obtain ⟨a9, ha9, H⟩ := Option.bind_eq_some_iff.mp H
  rw [j_rf ha9]
  obtain ⟨N10, hN10, H⟩ := Option.bind_eq_some_iff.mp H
  obtain ⟨k11, hk11, H⟩ := Option.bind_eq_some_iff.mp H
  refine F_iald k11 hw hG d_Ref_burstOf_15 (gA_some hN10) (ix_some hk11) ?_
  refine J_i2l d_Ref_burstOf_16 ?_
  refine J_lmul d_Ref_burstOf_17 ?_
  refine J_ladd d_Ref_burstOf_18 ?_
  refine J_aload_n d_Ref_burstOf_19 rfl ?_
  refine F_getR (ci := 12) (k := 17) hG (cf_Ref hw) (fl_Ref_39 hw) (by decide) (by decide) rfl d_Ref_burstOf_20 g5 ?_
  refine J_iload_n d_Ref_burstOf_23 rfl ?_
  obtain ⟨a12, ha12, H⟩ := Option.bind_eq_some_iff.mp H
  rw [j_rf ha12]
  obtain ⟨N13, hN13, H⟩ := Option.bind_eq_some_iff.mp H
  obtain ⟨k14, hk14, H⟩ := Option.bind_eq_some_iff.mp H
  refine F_iald k14 hw hG d_Ref_burstOf_24 (gA_some hN13) (ix_some hk14) ?_
  refine J_i2l d_Ref_burstOf_25 ?_
  refine J_lconst (v := 1) d_Ref_burstOf_26 (by decide) ?_
  refine J_lsub d_Ref_burstOf_27 ?_
  refine J_bipush (v := 22) d_Ref_burstOf_28 (by decide) ?_
  refine J_lshl d_Ref_burstOf_30 ?_
  refine J_ladd d_Ref_burstOf_31 ?_
  refine J_aload_n d_Ref_burstOf_32 rfl ?_
  refine F_getR (ci := 12) (k := 18) hG (cf_Ref hw) (fl_Ref_42 hw) (by decide) (by decide) rfl d_Ref_burstOf_33 g5 ?_
  refine J_iload_n d_Ref_burstOf_36 rfl ?_
  obtain ⟨a15, ha15, H⟩ := Option.bind_eq_some_iff.mp H
  rw [j_rf ha15]
  obtain ⟨N16, hN16, H⟩ := Option.bind_eq_some_iff.mp H
  obtain ⟨k17, hk17, H⟩ := Option.bind_eq_some_iff.mp H
  refine F_iald k17 hw hG d_Ref_burstOf_37 (gA_some hN16) (ix_some hk17) ?_
  refine J_i2l d_Ref_burstOf_38 ?_
  refine J_bipush (v := 26) d_Ref_burstOf_39 (by decide) ?_
  refine J_lshl d_Ref_burstOf_41 ?_
  refine J_ladd d_Ref_burstOf_42 ?_
  refine J_aload_n d_Ref_burstOf_43 rfl ?_
  refine F_getR (ci := 12) (k := 19) hG (cf_Ref hw) (fl_Ref_45 hw) (by decide) (by decide) rfl d_Ref_burstOf_44 g5 ?_
  refine J_iload_n d_Ref_burstOf_47 rfl ?_
  obtain ⟨a18, ha18, H⟩ := Option.bind_eq_some_iff.mp H
  rw [j_rf ha18]
  obtain ⟨N19, hN19, H⟩ := Option.bind_eq_some_iff.mp H
  obtain ⟨k20, hk20, H⟩ := Option.bind_eq_some_iff.mp H
  refine F_iald k20 hw hG d_Ref_burstOf_48 (gA_some hN19) (ix_some hk20) ?_
  refine J_i2l d_Ref_burstOf_49 ?_
  refine J_bipush (v := 28) d_Ref_burstOf_50 (by decide) ?_
  refine J_lshl d_Ref_burstOf_52 ?_
  refine J_ladd d_Ref_burstOf_53 ?_
  refine J_aload_n d_Ref_burstOf_54 rfl ?_
  refine F_getR (ci := 12) (k := 21) hG (cf_Ref hw) (fl_Ref_51 hw) (by decide) (by decide) rfl d_Ref_burstOf_55 g5 ?_
  refine J_iload_n d_Ref_burstOf_58 rfl ?_
  obtain ⟨a21, ha21, H⟩ := Option.bind_eq_some_iff.mp H
  rw [j_rf ha21]
  obtain ⟨N22, hN22, H⟩ := Option.bind_eq_some_iff.mp H
  obtain ⟨k23, hk23, H⟩ := Option.bind_eq_some_iff.mp H
  refine F_zald k23 hw hG d_Ref_burstOf_59 (gA_some hN22) (ix_some hk23) ?_
  refine J_if_eq (tgt := 69) d_Ref_burstOf_60 (by decide) ?_ ?_
  · intro c24
    rw [if_pos c24] at H
    refine J_lconst (v := 0) d_Ref_burstOf_69 (by decide) ?_
    refine J.drop [true, true] rfl ?_
    exact p_Ref_burstOf_L70 hw hG  H
  · intro c24
    rw [if_neg c24] at H
    refine J_ldc2 (v := 1073741824) d_Ref_burstOf_63 (kn_Ref_342 hw) ?_
    refine J_goto (tgt := 70) d_Ref_burstOf_66 (by decide) ?_
    refine J.drop [true, true] rfl ?_
    exact p_Ref_burstOf_L70 hw hG  H
theorem ln_Ref_showAddress : (parseMethodDescriptor y_Ref_showAddress.desc).map (fun q => q.parameters.length) = some 2 := by decide +kernel
def f_Ref_showAddress_L80 (Γ : gm_T)  (φ : ph_T) (y0 : Int64) (y1 : Int32) (y2 : Int32) (y3 : Nat) : Option (Unit × ph_T) :=
  @ite _ (Γ y3 = .inr 12) _ (
  Option.bind (f_Ref_show Γ φ y3 y2 y1 y0 (0 : Int32)) fun q2 =>
  some ((), q2.2)
  ) none
set_option maxRecDepth 100000 in
set_option maxHeartbeats 4000000 in
theorem p_Ref_showAddress_L80 {w : jw_T} (hw : jok w) {Γ : gm_T} {n : Nat} (hG : gd w Γ n)  {x : Bool} {φ : ph_T} {y0 : Int64} {y1 : Int32} {y2 : Int32} {y3 : Nat} {q : Unit × ph_T} (H : f_Ref_showAddress_L80 Γ  φ y0 y1 y2 y3 = some q) : J w M_Ref_showAddress 80 [none, none, none, none, none, none] [.long y0, .int y1, .int y2, .ref y3] (pic Γ φ) n x 0 0 (fq Γ n (.inl none) q.2) := by
  unfold f_Ref_showAddress_L80 at H
  refine J_iconst (v := 0) d_Ref_showAddress_80 (by decide) ?_
  have g1 : Γ y3 = .inr 12 := by
    apply Classical.byContradiction
    intro q9
    rw [if_neg q9] at H
    cases H
  rw [if_pos g1] at H
  obtain ⟨q2, hq2, H⟩ := Option.bind_eq_some_iff.mp H
  refine J_callV (kc := 0) (ks := 0) (kc' := 0) (ks' := 0) (a := y3) (ci := 12) (as := [.int y2, .int y1, .long y0, .int (0 : Int32)]) (st := []) (mf_Ref_show hw) (mv_Ref_359 hw) d_Ref_showAddress_81 ln_Ref_show (by decide) (by first | exact Nat.le_of_ble_eq_true rfl | (simp only [List.map_cons, List.map_nil, List.sum_cons, List.sum_nil, va_rf_cat]; exact Nat.le_of_ble_eq_true rfl)) rfl ((hG _).1 _ g1 (by decide)).1 ((hG _).1 _ g1 (by decide)).2 (by unfold pic; rw [g1]; rfl) (jcl_at hw rfl) rfl (p_Ref_show hw hG hq2) ?_ (fun E h' n' x' e1 => by cases e1.1)
  intro v9 h9 n9 x9 e9
  obtain ⟨e91, e92, e93⟩ := e9
  cases e91
  subst e92
  subst e93
  clear x
  rename Bool => x
  show J _ _ _ _ [] _ _ _ _ _ _
  cases H
  exact J_vret (st := []) d_Ref_showAddress_84 rfl ⟨rfl, rfl, rfl⟩
def f_Ref_showAddress_L58 (Γ : gm_T)  (φ : ph_T) (x0 : Nat) (x3 : Int32) (x4 : Int32) (y0 : Int32) : Option (Unit × ph_T) :=
  if x4 = (-1 : Int32) then
    f_Ref_showAddress_L80 Γ  φ (0 : Int64) y0 x3 x0
  else
    @ite _ (Γ x0 = .inr 12) _ (
    Option.bind (f_Ref_burstOf Γ φ x0 x4) fun q4 =>
    f_Ref_showAddress_L80 Γ  q4.2 q4.1 y0 x3 x0
    ) none
set_option maxRecDepth 100000 in
set_option maxHeartbeats 4000000 in
theorem p_Ref_showAddress_L58 {w : jw_T} (hw : jok w) {Γ : gm_T} {n : Nat} (hG : gd w Γ n)  {x : Bool} {φ : ph_T} {x0 : Nat} {x3 : Int32} {x4 : Int32} {y0 : Int32} {q : Unit × ph_T} (H : f_Ref_showAddress_L58 Γ  φ x0 x3 x4 y0 = some q) : J w M_Ref_showAddress 58 [some (.ref x0), none, none, some (.int x3), some (.int x4), none] [.int y0] (pic Γ φ) n x 0 0 (fq Γ n (.inl none) q.2) := by
  unfold f_Ref_showAddress_L58 at H
  refine J_istore d_Ref_showAddress_58 (Nat.le_of_ble_eq_true rfl) ?_
  refine J_aload_n d_Ref_showAddress_60 rfl ?_
  refine J_iload_n d_Ref_showAddress_61 rfl ?_
  refine J_iload d_Ref_showAddress_62 rfl ?_
  refine J_iload d_Ref_showAddress_64 rfl ?_
  refine J_iconst (v := -1) d_Ref_showAddress_66 (by decide) ?_
  refine J_icmp_ne (tgt := 74) d_Ref_showAddress_67 (by decide) ?_ ?_
  · intro c5
    rw [if_neg c5] at H
    refine J_aload_n d_Ref_showAddress_74 rfl ?_
    refine J_iload d_Ref_showAddress_75 rfl ?_
    have g3 : Γ x0 = .inr 12 := by
      apply Classical.byContradiction
      intro q9
      rw [if_neg q9] at H
      cases H
    rw [if_pos g3] at H
    obtain ⟨q4, hq4, H⟩ := Option.bind_eq_some_iff.mp H
    refine J_callV (kc := 0) (ks := 0) (kc' := 0) (ks' := 0) (a := x0) (ci := 12) (as := [.int x4]) (st := [.int y0, .int x3, .ref x0]) (mf_Ref_burstOf hw) (mv_Ref_355 hw) d_Ref_showAddress_77 ln_Ref_burstOf (by decide) (by first | exact Nat.le_of_ble_eq_true rfl | (simp only [List.map_cons, List.map_nil, List.sum_cons, List.sum_nil, va_rf_cat]; exact Nat.le_of_ble_eq_true rfl)) rfl ((hG _).1 _ g3 (by decide)).1 ((hG _).1 _ g3 (by decide)).2 (by unfold pic; rw [g3]; rfl) (jcl_at hw rfl) rfl (p_Ref_burstOf hw hG hq4) ?_ (fun E h' n' x' e1 => by cases e1.1)
    intro v9 h9 n9 x9 e9
    obtain ⟨e91, e92, e93⟩ := e9
    cases e91
    subst e92
    subst e93
    clear x
    rename Bool => x
    show J _ _ _ _ (_ :: _) _ _ _ _ _ _
    refine J.drop [false, false, false, false, false, false] rfl ?_
    exact p_Ref_showAddress_L80 hw hG  H
  · intro c5
    rw [if_pos c5] at H
    refine J_lconst (v := 0) d_Ref_showAddress_70 (by decide) ?_
    refine J_goto (tgt := 80) d_Ref_showAddress_71 (by decide) ?_
    refine J.drop [false, false, false, false, false, false] rfl ?_
    exact p_Ref_showAddress_L80 hw hG  H
def f_Ref_showAddress_L57 (Γ : gm_T)  (φ : ph_T) (x0 : Nat) (x3 : Int32) (x4 : Int32) : Option (Unit × ph_T) :=
  f_Ref_showAddress_L58 Γ  φ x0 x3 x4 (0 : Int32)
set_option maxRecDepth 100000 in
set_option maxHeartbeats 4000000 in
theorem p_Ref_showAddress_L57 {w : jw_T} (hw : jok w) {Γ : gm_T} {n : Nat} (hG : gd w Γ n)  {x : Bool} {φ : ph_T} {x0 : Nat} {x3 : Int32} {x4 : Int32} {q : Unit × ph_T} (H : f_Ref_showAddress_L57 Γ  φ x0 x3 x4 = some q) : J w M_Ref_showAddress 57 [some (.ref x0), none, none, some (.int x3), some (.int x4), none] [] (pic Γ φ) n x 0 0 (fq Γ n (.inl none) q.2) := by
  unfold f_Ref_showAddress_L57 at H
  refine J_iconst (v := 0) d_Ref_showAddress_57 (by decide) ?_
  refine J.drop [true, false, false, true, true, false] rfl ?_
  exact p_Ref_showAddress_L58 hw hG  H
def f_Ref_showAddress_L53 (Γ : gm_T)  (φ : ph_T) (x0 : Nat) (x3 : Int32) (x4 : Int32) : Option (Unit × ph_T) :=
  f_Ref_showAddress_L58 Γ  φ x0 x3 x4 (1 : Int32)
set_option maxRecDepth 100000 in
set_option maxHeartbeats 4000000 in
theorem p_Ref_showAddress_L53 {w : jw_T} (hw : jok w) {Γ : gm_T} {n : Nat} (hG : gd w Γ n)  {x : Bool} {φ : ph_T} {x0 : Nat} {x3 : Int32} {x4 : Int32} {q : Unit × ph_T} (H : f_Ref_showAddress_L53 Γ  φ x0 x3 x4 = some q) : J w M_Ref_showAddress 53 [some (.ref x0), none, none, some (.int x3), some (.int x4), none] [] (pic Γ φ) n x 0 0 (fq Γ n (.inl none) q.2) := by
  unfold f_Ref_showAddress_L53 at H
  refine J_iconst (v := 1) d_Ref_showAddress_53 (by decide) ?_
  refine J_goto (tgt := 58) d_Ref_showAddress_54 (by decide) ?_
  refine J.drop [true, false, false, true, true, false] rfl ?_
  exact p_Ref_showAddress_L58 hw hG  H
def f_Ref_showAddress_L17 (Γ : gm_T)  (φ : ph_T) (x0 : Nat) (x3 : Int32) (y0 : Int32) (y1 : Int32) (y2 : Nat) : Option (Unit × ph_T) :=
  @ite _ (Γ y2 = .inr 12) _ (
  Option.bind (f_Ref_unsent Γ φ y2 y1 y0) fun q7 =>
  @ite _ (Γ x0 = .inr 12) _ (
  Option.bind (q7.2.2.2 x0 37) fun a9 =>
  Option.bind (gA Γ a9 2) fun N10 =>
  Option.bind (ix x3 N10) fun k11 =>
  if (q7.2.1 a9 k11) = 0 then
    if q7.1 = (-1 : Int32) then
      f_Ref_showAddress_L57 Γ  q7.2 x0 x3 q7.1
    else
      Option.bind (q7.2.2.2 x0 8) fun a12 =>
      Option.bind (gA Γ a12 0) fun N13 =>
      Option.bind (ix x3 N13) fun k14 =>
      Option.bind (f_Ref_tells Γ q7.2 (q7.2.1 a12 k14) (q7.2.1 x0 6)) fun q15 =>
      if q15.1 = 0 then
        f_Ref_showAddress_L57 Γ  q15.2 x0 x3 q7.1
      else
        f_Ref_showAddress_L53 Γ  q15.2 x0 x3 q7.1
  else
    f_Ref_showAddress_L53 Γ  q7.2 x0 x3 q7.1
  ) none
  ) none
set_option maxRecDepth 100000 in
set_option maxHeartbeats 4000000 in
theorem p_Ref_showAddress_L17 {w : jw_T} (hw : jok w) {Γ : gm_T} {n : Nat} (hG : gd w Γ n)  {x : Bool} {φ : ph_T} {x0 : Nat} {x3 : Int32} {y0 : Int32} {y1 : Int32} {y2 : Nat} {q : Unit × ph_T} (H : f_Ref_showAddress_L17 Γ  φ x0 x3 y0 y1 y2 = some q) : J w M_Ref_showAddress 17 [some (.ref x0), none, none, some (.int x3), none, none] [.int y0, .int y1, .ref y2] (pic Γ φ) n x 0 0 (fq Γ n (.inl none) q.2) := by
  unfold f_Ref_showAddress_L17 at H
  have g6 : Γ y2 = .inr 12 := by
    apply Classical.byContradiction
    intro q9
    rw [if_neg q9] at H
    cases H
  rw [if_pos g6] at H
  obtain ⟨q7, hq7, H⟩ := Option.bind_eq_some_iff.mp H
  refine J_callV (kc := 0) (ks := 0) (kc' := 0) (ks' := 0) (a := y2) (ci := 12) (as := [.int y1, .int y0]) (st := []) (mf_Ref_unsent hw) (mv_Ref_344 hw) d_Ref_showAddress_17 ln_Ref_unsent (by decide) (by first | exact Nat.le_of_ble_eq_true rfl | (simp only [List.map_cons, List.map_nil, List.sum_cons, List.sum_nil, va_rf_cat]; exact Nat.le_of_ble_eq_true rfl)) rfl ((hG _).1 _ g6 (by decide)).1 ((hG _).1 _ g6 (by decide)).2 (by unfold pic; rw [g6]; rfl) (jcl_at hw rfl) rfl (p_Ref_unsent hw hG hq7) ?_ (fun E h' n' x' e1 => by cases e1.1)
  intro v9 h9 n9 x9 e9
  obtain ⟨e91, e92, e93⟩ := e9
  cases e91
  subst e92
  subst e93
  clear x
  rename Bool => x
  show J _ _ _ _ (_ :: _) _ _ _ _ _ _
  refine J_istore d_Ref_showAddress_20 (Nat.le_of_ble_eq_true rfl) ?_
  refine J_aload_n d_Ref_showAddress_22 rfl ?_
  have g8 : Γ x0 = .inr 12 := by
    apply Classical.byContradiction
    intro q9
    rw [if_neg q9] at H
    cases H
  rw [if_pos g8] at H
  refine F_getR (ci := 12) (k := 37) hG (cf_Ref hw) (fl_Ref_100 hw) (by decide) (by decide) rfl d_Ref_showAddress_23 g8 ?_
  refine J_iload_n d_Ref_showAddress_26 rfl ?_
  obtain ⟨a9, ha9, H⟩ := Option.bind_eq_some_iff.mp H
  rw [j_rf ha9]
  obtain ⟨N10, hN10, H⟩ := Option.bind_eq_some_iff.mp H
  obtain ⟨k11, hk11, H⟩ := Option.bind_eq_some_iff.mp H
  refine F_zald k11 hw hG d_Ref_showAddress_27 (gA_some hN10) (ix_some hk11) ?_
  refine J_if_ne (tgt := 53) d_Ref_showAddress_28 (by decide) ?_ ?_
  · intro c18
    rw [if_neg c18] at H
    refine J.drop [true, false, false, true, true, false] rfl ?_
    exact p_Ref_showAddress_L53 hw hG  H
  · intro c18
    rw [if_pos c18] at H
    refine J_iload d_Ref_showAddress_31 rfl ?_
    refine J_iconst (v := -1) d_Ref_showAddress_33 (by decide) ?_
    refine J_icmp_eq (tgt := 57) d_Ref_showAddress_34 (by decide) ?_ ?_
    · intro c17
      rw [if_pos c17] at H
      refine J.drop [true, false, false, true, true, false] rfl ?_
      exact p_Ref_showAddress_L57 hw hG  H
    · intro c17
      rw [if_neg c17] at H
      refine J_aload_n d_Ref_showAddress_37 rfl ?_
      refine F_getR (ci := 12) (k := 8) hG (cf_Ref hw) (fl_Ref_13 hw) (by decide) (by decide) rfl d_Ref_showAddress_38 g8 ?_
      refine J_iload_n d_Ref_showAddress_41 rfl ?_
      obtain ⟨a12, ha12, H⟩ := Option.bind_eq_some_iff.mp H
      rw [j_rf ha12]
      obtain ⟨N13, hN13, H⟩ := Option.bind_eq_some_iff.mp H
      obtain ⟨k14, hk14, H⟩ := Option.bind_eq_some_iff.mp H
      refine F_iald k14 hw hG d_Ref_showAddress_42 (gA_some hN13) (ix_some hk14) ?_
      refine J_aload_n d_Ref_showAddress_43 rfl ?_
      refine F_getI (ci := 12) (k := 6) hG (cf_Ref hw) (fl_Ref_348 hw) (by decide) (by decide) rfl d_Ref_showAddress_44 g8 ?_
      obtain ⟨q15, hq15, H⟩ := Option.bind_eq_some_iff.mp H
      refine J_callS (kc := 0) (ks := 0) (kc' := 0) (ks' := 0) (as := [.int (q7.2.1 a12 k14), .int (q7.2.1 x0 6)]) (st := []) (mf_Ref_tells hw) (ms_Ref_351 hw) d_Ref_showAddress_47 ln_Ref_tells (by decide) (by first | exact Nat.le_of_ble_eq_true rfl | (simp only [List.map_cons, List.map_nil, List.sum_cons, List.sum_nil, va_rf_cat]; exact Nat.le_of_ble_eq_true rfl)) rfl (p_Ref_tells hw hG hq15) ?_ (fun E h' n' x' e1 => by cases e1.1)
      intro v9 h9 n9 x9 e9
      obtain ⟨e91, e92, e93⟩ := e9
      cases e91
      subst e92
      subst e93
      clear x
      rename Bool => x
      show J _ _ _ _ (_ :: _) _ _ _ _ _ _
      refine J_if_eq (tgt := 57) d_Ref_showAddress_50 (by decide) ?_ ?_
      · intro c16
        rw [if_pos c16] at H
        refine J.drop [true, false, false, true, true, false] rfl ?_
        exact p_Ref_showAddress_L57 hw hG  H
      · intro c16
        rw [if_neg c16] at H
        refine J.drop [true, false, false, true, true, false] rfl ?_
        exact p_Ref_showAddress_L53 hw hG  H
def f_Ref_showAddress (Γ : gm_T) (φ : ph_T) (this : Nat) (p0 : Int32) (p1 : Int32) : Option (Unit × ph_T) :=
  if p1 = 0 then
    f_Ref_showAddress_L17 Γ  φ this (((5 : Int32) * p0) + p1) (1 : Int32) p0 this
  else
    f_Ref_showAddress_L17 Γ  φ this (((5 : Int32) * p0) + p1) (0 : Int32) p0 this
set_option maxRecDepth 100000 in
set_option maxHeartbeats 4000000 in
theorem p_Ref_showAddress {w : jw_T} (hw : jok w) {Γ : gm_T} {n : Nat} (hG : gd w Γ n) {x : Bool} {φ : ph_T} {this : Nat} {p0 : Int32} {p1 : Int32} {q : Unit × ph_T} (H : f_Ref_showAddress Γ φ this p0 p1 = some q) : jc w M_Ref_showAddress [.ref this, .int p0, .int p1] (pic Γ φ) n x 0 0 (fq Γ n (.inl none) q.2) := by
  refine jc.of (by simp only [jent_r, jent_i, jent_l, jent_a, jent_0]; exact Nat.le_of_ble_eq_true rfl) ?_
  have hls : jents [.ref this, .int p0, .int p1] (jm_nL M_Ref_showAddress) = [some (.ref this), some (.int p0), some (.int p1), none, none, none] := by simp only [jents, jent_r, jent_i, jent_l, jent_a, jent_0]; rfl
  rw [hls]
  clear hls
  unfold f_Ref_showAddress at H
  refine J_iconst (v := 5) d_Ref_showAddress_0 (by decide) ?_
  refine J_iload_n d_Ref_showAddress_1 rfl ?_
  refine J_imul d_Ref_showAddress_2 ?_
  refine J_iload_n d_Ref_showAddress_3 rfl ?_
  refine J_iadd d_Ref_showAddress_4 ?_
  refine J_istore_n d_Ref_showAddress_5 (Nat.le_of_ble_eq_true rfl) ?_
  refine J_aload_n d_Ref_showAddress_6 rfl ?_
  refine J_iload_n d_Ref_showAddress_7 rfl ?_
  refine J_iload_n d_Ref_showAddress_8 rfl ?_
  refine J_if_ne (tgt := 16) d_Ref_showAddress_9 (by decide) ?_ ?_
  · intro c19
    rw [if_neg c19] at H
    refine J_iconst (v := 0) d_Ref_showAddress_16 (by decide) ?_
    refine J.drop [true, false, false, true, false, false] rfl ?_
    exact p_Ref_showAddress_L17 hw hG  H
  · intro c19
    rw [if_pos c19] at H
    refine J_iconst (v := 1) d_Ref_showAddress_12 (by decide) ?_
    refine J_goto (tgt := 17) d_Ref_showAddress_13 (by decide) ?_
    refine J.drop [true, false, false, true, false, false] rfl ?_
    exact p_Ref_showAddress_L17 hw hG  H
theorem ln_Ref_unfinished : (parseMethodDescriptor y_Ref_unfinished.desc).map (fun q => q.parameters.length) = some 1 := by decide +kernel
def f_Ref_unfinished_L46 (Γ : gm_T) (Kc2 : ph_T → Nat → Int32 → Int32 → Option (Int32 × ph_T)) (φ : ph_T) (x0 : Nat) (x1 : Int32) (x2 : Int32) : Option (Int32 × ph_T) :=
  Kc2 φ x0 x1 (x2 + (1 : Int32))
set_option maxRecDepth 100000 in
set_option maxHeartbeats 4000000 in
theorem p_Ref_unfinished_L46 {w : jw_T} (hw : jok w) {Γ : gm_T} {n : Nat} (hG : gd w Γ n) {Kc2 : ph_T → Nat → Int32 → Int32 → Option (Int32 × ph_T)} (hKc2 : ∀ {x : Bool} {φ : ph_T} {x0 : Nat} {x1 : Int32} {x2 : Int32} {q : Int32 × ph_T}, Kc2 φ x0 x1 x2 = some q → J w M_Ref_unfinished 2 [some (.ref x0), some (.int x1), some (.int x2)] [] (pic Γ φ) n x 0 0 (fq Γ n (.inl (some (.int q.1))) q.2)) {x : Bool} {φ : ph_T} {x0 : Nat} {x1 : Int32} {x2 : Int32} {q : Int32 × ph_T} (H : f_Ref_unfinished_L46 Γ Kc2 φ x0 x1 x2 = some q) : J w M_Ref_unfinished 46 [some (.ref x0), some (.int x1), some (.int x2)] [] (pic Γ φ) n x 0 0 (fq Γ n (.inl (some (.int q.1))) q.2) := by
  unfold f_Ref_unfinished_L46 at H
  refine J_iinc (v := x2 + 1) d_Ref_unfinished_46 rfl (by rw [show Int32.ofInt 1 = (1 : Int32) from by decide]) ?_
  refine J_goto (tgt := 2) d_Ref_unfinished_49 (by decide) ?_
  refine J.drop [true, true, true] rfl ?_
  exact hKc2 H
def f_Ref_unfinished_L2 (Γ : gm_T)  : Nat → ph_T → Nat → Int32 → Int32 → Option (Int32 × ph_T)
  | 0, _, _, _, _ => none
  | fu + 1, φ, x0, x1, x2 =>
    @ite _ (Γ x0 = .inr 12) _ (
    if (φ.1 x0 15) ≤ x2 then
      some ((-1 : Int32), φ)
    else
      Option.bind (φ.2.2 x0 16) fun a2 =>
      Option.bind (gA Γ a2 0) fun N3 =>
      Option.bind (ix x2 N3) fun k4 =>
      if (φ.1 a2 k4) = x1 then
        Option.bind (φ.2.2 x0 20) fun a5 =>
        Option.bind (gA Γ a5 2) fun N6 =>
        Option.bind (ix x2 N6) fun k7 =>
        if (φ.1 a5 k7) = 0 then
          f_Ref_unfinished_L46 Γ (f_Ref_unfinished_L2 Γ  fu) φ x0 x1 x2
        else
          Option.bind (φ.2.2 x0 30) fun a8 =>
          Option.bind (gA Γ a8 0) fun N9 =>
          Option.bind (ix x2 N9) fun k10 =>
          Option.bind (φ.2.2 x0 17) fun a11 =>
          Option.bind (gA Γ a11 0) fun N12 =>
          Option.bind (ix x2 N12) fun k13 =>
          if (φ.1 a11 k13) ≤ (φ.1 a8 k10) then
            f_Ref_unfinished_L46 Γ (f_Ref_unfinished_L2 Γ  fu) φ x0 x1 x2
          else
            some (x2, φ)
      else
        f_Ref_unfinished_L46 Γ (f_Ref_unfinished_L2 Γ  fu) φ x0 x1 x2
    ) none
set_option maxRecDepth 100000 in
set_option maxHeartbeats 4000000 in
theorem p_Ref_unfinished_L2 {w : jw_T} (hw : jok w) {Γ : gm_T} {n : Nat} (hG : gd w Γ n)  : ∀ (fu : Nat) {x : Bool} {φ : ph_T} {x0 : Nat} {x1 : Int32} {x2 : Int32} {q : Int32 × ph_T}, f_Ref_unfinished_L2 Γ  fu φ x0 x1 x2 = some q → J w M_Ref_unfinished 2 [some (.ref x0), some (.int x1), some (.int x2)] [] (pic Γ φ) n x 0 0 (fq Γ n (.inl (some (.int q.1))) q.2) := by
  intro fu
  induction fu with
  | zero =>
    intro x φ x0 x1 x2 q H
    cases H
  | succ fu ih =>
    intro x φ x0 x1 x2 q H
    unfold f_Ref_unfinished_L2 at H
    refine J_iload_n d_Ref_unfinished_2 rfl ?_
    refine J_aload_n d_Ref_unfinished_3 rfl ?_
    have g1 : Γ x0 = .inr 12 := by
      apply Classical.byContradiction
      intro q9
      rw [if_neg q9] at H
      cases H
    rw [if_pos g1] at H
    refine F_getI (ci := 12) (k := 15) hG (cf_Ref hw) (fl_Ref_337 hw) (by decide) (by decide) rfl d_Ref_unfinished_4 g1 ?_
    refine J_icmp_ge (tgt := 52) d_Ref_unfinished_7 (by decide) ?_ ?_
    · intro c17
      rw [if_pos c17] at H
      refine J_iconst (v := -1) d_Ref_unfinished_52 (by decide) ?_
      cases H
      exact J_iret (st := []) d_Ref_unfinished_53 rfl rfl ⟨rfl, rfl, rfl⟩
    · intro c17
      rw [if_neg c17] at H
      refine J_aload_n d_Ref_unfinished_10 rfl ?_
      refine F_getR (ci := 12) (k := 16) hG (cf_Ref hw) (fl_Ref_36 hw) (by decide) (by decide) rfl d_Ref_unfinished_11 g1 ?_
      refine J_iload_n d_Ref_unfinished_14 rfl ?_
      obtain ⟨a2, ha2, H⟩ := Option.bind_eq_some_iff.mp H
      rw [j_rf ha2]
      obtain ⟨N3, hN3, H⟩ := Option.bind_eq_some_iff.mp H
      obtain ⟨k4, hk4, H⟩ := Option.bind_eq_some_iff.mp H
      refine F_iald k4 hw hG d_Ref_unfinished_15 (gA_some hN3) (ix_some hk4) ?_
      refine J_iload_n d_Ref_unfinished_16 rfl ?_
      refine J_icmp_ne (tgt := 46) d_Ref_unfinished_17 (by decide) ?_ ?_
      · intro c16
        rw [if_neg c16] at H
        refine J.drop [true, true, true] rfl ?_
        exact p_Ref_unfinished_L46 hw hG ih H
      · intro c16
        rw [if_pos c16] at H
        refine J_aload_n d_Ref_unfinished_20 rfl ?_
        refine F_getR (ci := 12) (k := 20) hG (cf_Ref hw) (fl_Ref_48 hw) (by decide) (by decide) rfl d_Ref_unfinished_21 g1 ?_
        refine J_iload_n d_Ref_unfinished_24 rfl ?_
        obtain ⟨a5, ha5, H⟩ := Option.bind_eq_some_iff.mp H
        rw [j_rf ha5]
        obtain ⟨N6, hN6, H⟩ := Option.bind_eq_some_iff.mp H
        obtain ⟨k7, hk7, H⟩ := Option.bind_eq_some_iff.mp H
        refine F_zald k7 hw hG d_Ref_unfinished_25 (gA_some hN6) (ix_some hk7) ?_
        refine J_if_eq (tgt := 46) d_Ref_unfinished_26 (by decide) ?_ ?_
        · intro c15
          rw [if_pos c15] at H
          refine J.drop [true, true, true] rfl ?_
          exact p_Ref_unfinished_L46 hw hG ih H
        · intro c15
          rw [if_neg c15] at H
          refine J_aload_n d_Ref_unfinished_29 rfl ?_
          refine F_getR (ci := 12) (k := 30) hG (cf_Ref hw) (fl_Ref_79 hw) (by decide) (by decide) rfl d_Ref_unfinished_30 g1 ?_
          refine J_iload_n d_Ref_unfinished_33 rfl ?_
          obtain ⟨a8, ha8, H⟩ := Option.bind_eq_some_iff.mp H
          rw [j_rf ha8]
          obtain ⟨N9, hN9, H⟩ := Option.bind_eq_some_iff.mp H
          obtain ⟨k10, hk10, H⟩ := Option.bind_eq_some_iff.mp H
          refine F_iald k10 hw hG d_Ref_unfinished_34 (gA_some hN9) (ix_some hk10) ?_
          refine J_aload_n d_Ref_unfinished_35 rfl ?_
          refine F_getR (ci := 12) (k := 17) hG (cf_Ref hw) (fl_Ref_39 hw) (by decide) (by decide) rfl d_Ref_unfinished_36 g1 ?_
          refine J_iload_n d_Ref_unfinished_39 rfl ?_
          obtain ⟨a11, ha11, H⟩ := Option.bind_eq_some_iff.mp H
          rw [j_rf ha11]
          obtain ⟨N12, hN12, H⟩ := Option.bind_eq_some_iff.mp H
          obtain ⟨k13, hk13, H⟩ := Option.bind_eq_some_iff.mp H
          refine F_iald k13 hw hG d_Ref_unfinished_40 (gA_some hN12) (ix_some hk13) ?_
          refine J_icmp_ge (tgt := 46) d_Ref_unfinished_41 (by decide) ?_ ?_
          · intro c14
            rw [if_pos c14] at H
            refine J.drop [true, true, true] rfl ?_
            exact p_Ref_unfinished_L46 hw hG ih H
          · intro c14
            rw [if_neg c14] at H
            refine J_iload_n d_Ref_unfinished_44 rfl ?_
            cases H
            exact J_iret (st := []) d_Ref_unfinished_45 rfl rfl ⟨rfl, rfl, rfl⟩
def f_Ref_unfinished (Γ : gm_T) (φ : ph_T) (this : Nat) (p0 : Int32) : Option (Int32 × ph_T) :=
  f_Ref_unfinished_L2 Γ  jF φ this p0 (0 : Int32)
set_option maxRecDepth 100000 in
set_option maxHeartbeats 4000000 in
theorem p_Ref_unfinished {w : jw_T} (hw : jok w) {Γ : gm_T} {n : Nat} (hG : gd w Γ n) {x : Bool} {φ : ph_T} {this : Nat} {p0 : Int32} {q : Int32 × ph_T} (H : f_Ref_unfinished Γ φ this p0 = some q) : jc w M_Ref_unfinished [.ref this, .int p0] (pic Γ φ) n x 0 0 (fq Γ n (.inl (some (.int q.1))) q.2) := by
  refine jc.of (by simp only [jent_r, jent_i, jent_l, jent_a, jent_0]; exact Nat.le_of_ble_eq_true rfl) ?_
  have hls : jents [.ref this, .int p0] (jm_nL M_Ref_unfinished) = [some (.ref this), some (.int p0), none] := by simp only [jents, jent_r, jent_i, jent_l, jent_a, jent_0]; rfl
  rw [hls]
  clear hls
  unfold f_Ref_unfinished at H
  refine J_iconst (v := 0) d_Ref_unfinished_0 (by decide) ?_
  refine J_istore_n d_Ref_unfinished_1 (Nat.le_of_ble_eq_true rfl) ?_
  refine J.drop [true, true, true] rfl ?_
  exact p_Ref_unfinished_L2 hw hG  _ H
theorem ln_Ref_beatAt : (parseMethodDescriptor y_Ref_beatAt.desc).map (fun q => q.parameters.length) = some 2 := by decide +kernel
def f_Ref_beatAt_L88 (Γ : gm_T)  (φ : ph_T) (y0 : Int32) : Option (Int32 × ph_T) :=
  some (y0, φ)
set_option maxRecDepth 100000 in
set_option maxHeartbeats 4000000 in
theorem p_Ref_beatAt_L88 {w : jw_T} (hw : jok w) {Γ : gm_T} {n : Nat} (hG : gd w Γ n)  {x : Bool} {φ : ph_T} {y0 : Int32} {q : Int32 × ph_T} (H : f_Ref_beatAt_L88 Γ  φ y0 = some q) : J w M_Ref_beatAt 88 [none, none, none, none, none, none, none, none] [.int y0] (pic Γ φ) n x 0 0 (fq Γ n (.inl (some (.int q.1))) q.2) := by
  unfold f_Ref_beatAt_L88 at H
  cases H
  exact J_iret (st := []) d_Ref_beatAt_88 rfl rfl ⟨rfl, rfl, rfl⟩
def f_Ref_beatAt_L53 (Γ : gm_T)  (φ : ph_T) (x2 : Int32) (x3 : Int32) (x4 : Int32) (x5 : Int32) (x6 : Int32) (x7 : Int32) : Option (Int32 × ph_T) :=
  if x6 = (1 : Int32) then
    @ite _ (x4 = 0) _ none (
    f_Ref_beatAt_L88 Γ  φ ((x3 - (x3 - x3 / x4 * x4)) + (x2 * x4))
    )
  else
    @ite _ (x5 = 0) _ none (
    f_Ref_beatAt_L88 Γ  φ (x7 + (((x3 - x7) + (x2 * x4)) - ((x3 - x7) + (x2 * x4)) / x5 * x5))
    )
set_option maxRecDepth 100000 in
set_option maxHeartbeats 4000000 in
theorem p_Ref_beatAt_L53 {w : jw_T} (hw : jok w) {Γ : gm_T} {n : Nat} (hG : gd w Γ n)  {x : Bool} {φ : ph_T} {x2 : Int32} {x3 : Int32} {x4 : Int32} {x5 : Int32} {x6 : Int32} {x7 : Int32} {q : Int32 × ph_T} (H : f_Ref_beatAt_L53 Γ  φ x2 x3 x4 x5 x6 x7 = some q) : J w M_Ref_beatAt 53 [none, none, some (.int x2), some (.int x3), some (.int x4), some (.int x5), some (.int x6), some (.int x7)] [] (pic Γ φ) n x 0 0 (fq Γ n (.inl (some (.int q.1))) q.2) := by
  unfold f_Ref_beatAt_L53 at H
  refine J_iload d_Ref_beatAt_53 rfl ?_
  refine J_iconst (v := 1) d_Ref_beatAt_55 (by decide) ?_
  refine J_icmp_ne (tgt := 73) d_Ref_beatAt_56 (by decide) ?_ ?_
  · intro c6
    rw [if_neg c6] at H
    refine J_iload d_Ref_beatAt_73 rfl ?_
    refine J_iload_n d_Ref_beatAt_75 rfl ?_
    refine J_iload d_Ref_beatAt_76 rfl ?_
    refine J_isub d_Ref_beatAt_78 ?_
    refine J_iload_n d_Ref_beatAt_79 rfl ?_
    refine J_iload d_Ref_beatAt_80 rfl ?_
    refine J_imul d_Ref_beatAt_82 ?_
    refine J_iadd d_Ref_beatAt_83 ?_
    refine J_iload d_Ref_beatAt_84 rfl ?_
    have h4 : ¬ x5 = 0 := by
      intro q9
      rw [if_pos q9] at H
      cases H
    rw [if_neg h4] at H
    refine J_irem d_Ref_beatAt_86 h4 ?_
    refine J_iadd d_Ref_beatAt_87 ?_
    refine J.drop [false, false, false, false, false, false, false, false] rfl ?_
    exact p_Ref_beatAt_L88 hw hG  H
  · intro c6
    rw [if_pos c6] at H
    refine J_iload_n d_Ref_beatAt_59 rfl ?_
    refine J_iload_n d_Ref_beatAt_60 rfl ?_
    refine J_iload d_Ref_beatAt_61 rfl ?_
    have h5 : ¬ x4 = 0 := by
      intro q9
      rw [if_pos q9] at H
      cases H
    rw [if_neg h5] at H
    refine J_irem d_Ref_beatAt_63 h5 ?_
    refine J_isub d_Ref_beatAt_64 ?_
    refine J_iload_n d_Ref_beatAt_65 rfl ?_
    refine J_iload d_Ref_beatAt_66 rfl ?_
    refine J_imul d_Ref_beatAt_68 ?_
    refine J_iadd d_Ref_beatAt_69 ?_
    refine J_goto (tgt := 88) d_Ref_beatAt_70 (by decide) ?_
    refine J.drop [false, false, false, false, false, false, false, false] rfl ?_
    exact p_Ref_beatAt_L88 hw hG  H
def f_Ref_beatAt_L49 (Γ : gm_T)  (φ : ph_T) (x3 : Int32) : Option (Int32 × ph_T) :=
  f_Ref_beatAt_L88 Γ  φ x3
set_option maxRecDepth 100000 in
set_option maxHeartbeats 4000000 in
theorem p_Ref_beatAt_L49 {w : jw_T} (hw : jok w) {Γ : gm_T} {n : Nat} (hG : gd w Γ n)  {x : Bool} {φ : ph_T} {x3 : Int32} {q : Int32 × ph_T} (H : f_Ref_beatAt_L49 Γ  φ x3 = some q) : J w M_Ref_beatAt 49 [none, none, none, some (.int x3), none, none, none, none] [] (pic Γ φ) n x 0 0 (fq Γ n (.inl (some (.int q.1))) q.2) := by
  unfold f_Ref_beatAt_L49 at H
  refine J_iload_n d_Ref_beatAt_49 rfl ?_
  refine J_goto (tgt := 88) d_Ref_beatAt_50 (by decide) ?_
  refine J.drop [false, false, false, false, false, false, false, false] rfl ?_
  exact p_Ref_beatAt_L88 hw hG  H
def f_Ref_beatAt (Γ : gm_T) (φ : ph_T) (p0 : Int64) (p1 : Int32) : Option (Int32 × ph_T) :=
  Option.bind (f_Ref_addressOf Γ φ p0) fun q7 =>
  Option.bind (f_Ref_sizeOf Γ q7.2 p0) fun q8 =>
  Option.bind (f_Ref_lengthOf Γ q8.2 p0) fun q9 =>
  Option.bind (f_Ref_kindOf Γ q9.2 p0) fun q10 =>
  @ite _ ((q9.1 * q8.1) = 0) _ none (
  if q10.1 = 0 then
    f_Ref_beatAt_L49 Γ  q10.2 q7.1
  else
    if q10.1 = (1 : Int32) then
      if p1 = 0 then
        f_Ref_beatAt_L49 Γ  q10.2 q7.1
      else
        f_Ref_beatAt_L53 Γ  q10.2 p1 q7.1 q8.1 (q9.1 * q8.1) q10.1 (q7.1 - (q7.1 - q7.1 / (q9.1 * q8.1) * (q9.1 * q8.1)))
    else
      f_Ref_beatAt_L53 Γ  q10.2 p1 q7.1 q8.1 (q9.1 * q8.1) q10.1 (q7.1 - (q7.1 - q7.1 / (q9.1 * q8.1) * (q9.1 * q8.1)))
  )
set_option maxRecDepth 100000 in
set_option maxHeartbeats 4000000 in
theorem p_Ref_beatAt {w : jw_T} (hw : jok w) {Γ : gm_T} {n : Nat} (hG : gd w Γ n) {x : Bool} {φ : ph_T} {p0 : Int64} {p1 : Int32} {q : Int32 × ph_T} (H : f_Ref_beatAt Γ φ p0 p1 = some q) : jc w M_Ref_beatAt [.long p0, .int p1] (pic Γ φ) n x 0 0 (fq Γ n (.inl (some (.int q.1))) q.2) := by
  refine jc.of (by simp only [jent_r, jent_i, jent_l, jent_a, jent_0]; exact Nat.le_of_ble_eq_true rfl) ?_
  have hls : jents [.long p0, .int p1] (jm_nL M_Ref_beatAt) = [some (.long p0), none, some (.int p1), none, none, none, none, none] := by simp only [jents, jent_r, jent_i, jent_l, jent_a, jent_0]; rfl
  rw [hls]
  clear hls
  unfold f_Ref_beatAt at H
  refine J_lload_n d_Ref_beatAt_0 rfl ?_
  obtain ⟨q7, hq7, H⟩ := Option.bind_eq_some_iff.mp H
  refine J_callS (kc := 0) (ks := 0) (kc' := 0) (ks' := 0) (as := [.long p0]) (st := []) (mf_Ref_addressOf hw) (ms_Ref_314 hw) d_Ref_beatAt_1 ln_Ref_addressOf (by decide) (by first | exact Nat.le_of_ble_eq_true rfl | (simp only [List.map_cons, List.map_nil, List.sum_cons, List.sum_nil, va_rf_cat]; exact Nat.le_of_ble_eq_true rfl)) rfl (p_Ref_addressOf hw hG hq7) ?_ (fun E h' n' x' e1 => by cases e1.1)
  intro v9 h9 n9 x9 e9
  obtain ⟨e91, e92, e93⟩ := e9
  cases e91
  subst e92
  subst e93
  clear x
  rename Bool => x
  show J _ _ _ _ (_ :: _) _ _ _ _ _ _
  refine J_istore_n d_Ref_beatAt_4 (Nat.le_of_ble_eq_true rfl) ?_
  refine J_lload_n d_Ref_beatAt_5 rfl ?_
  obtain ⟨q8, hq8, H⟩ := Option.bind_eq_some_iff.mp H
  refine J_callS (kc := 0) (ks := 0) (kc' := 0) (ks' := 0) (as := [.long p0]) (st := []) (mf_Ref_sizeOf hw) (ms_Ref_318 hw) d_Ref_beatAt_6 ln_Ref_sizeOf (by decide) (by first | exact Nat.le_of_ble_eq_true rfl | (simp only [List.map_cons, List.map_nil, List.sum_cons, List.sum_nil, va_rf_cat]; exact Nat.le_of_ble_eq_true rfl)) rfl (p_Ref_sizeOf hw hG hq8) ?_ (fun E h' n' x' e1 => by cases e1.1)
  intro v9 h9 n9 x9 e9
  obtain ⟨e91, e92, e93⟩ := e9
  cases e91
  subst e92
  subst e93
  clear x
  rename Bool => x
  show J _ _ _ _ (_ :: _) _ _ _ _ _ _
  refine J_istore d_Ref_beatAt_9 (Nat.le_of_ble_eq_true rfl) ?_
  refine J_lload_n d_Ref_beatAt_11 rfl ?_
  obtain ⟨q9, hq9, H⟩ := Option.bind_eq_some_iff.mp H
  refine J_callS (kc := 0) (ks := 0) (kc' := 0) (ks' := 0) (as := [.long p0]) (st := []) (mf_Ref_lengthOf hw) (ms_Ref_321 hw) d_Ref_beatAt_12 ln_Ref_lengthOf (by decide) (by first | exact Nat.le_of_ble_eq_true rfl | (simp only [List.map_cons, List.map_nil, List.sum_cons, List.sum_nil, va_rf_cat]; exact Nat.le_of_ble_eq_true rfl)) rfl (p_Ref_lengthOf hw hG hq9) ?_ (fun E h' n' x' e1 => by cases e1.1)
  intro v9 h9 n9 x9 e9
  obtain ⟨e91, e92, e93⟩ := e9
  cases e91
  subst e92
  subst e93
  clear x
  rename Bool => x
  show J _ _ _ _ (_ :: _) _ _ _ _ _ _
  refine J_iload d_Ref_beatAt_15 rfl ?_
  refine J_imul d_Ref_beatAt_17 ?_
  refine J_istore d_Ref_beatAt_18 (Nat.le_of_ble_eq_true rfl) ?_
  refine J_lload_n d_Ref_beatAt_20 rfl ?_
  obtain ⟨q10, hq10, H⟩ := Option.bind_eq_some_iff.mp H
  refine J_callS (kc := 0) (ks := 0) (kc' := 0) (ks' := 0) (as := [.long p0]) (st := []) (mf_Ref_kindOf hw) (ms_Ref_324 hw) d_Ref_beatAt_21 ln_Ref_kindOf (by decide) (by first | exact Nat.le_of_ble_eq_true rfl | (simp only [List.map_cons, List.map_nil, List.sum_cons, List.sum_nil, va_rf_cat]; exact Nat.le_of_ble_eq_true rfl)) rfl (p_Ref_kindOf hw hG hq10) ?_ (fun E h' n' x' e1 => by cases e1.1)
  intro v9 h9 n9 x9 e9
  obtain ⟨e91, e92, e93⟩ := e9
  cases e91
  subst e92
  subst e93
  clear x
  rename Bool => x
  show J _ _ _ _ (_ :: _) _ _ _ _ _ _
  refine J_istore d_Ref_beatAt_24 (Nat.le_of_ble_eq_true rfl) ?_
  refine J_iload_n d_Ref_beatAt_26 rfl ?_
  refine J_iload_n d_Ref_beatAt_27 rfl ?_
  refine J_iload d_Ref_beatAt_28 rfl ?_
  have h11 : ¬ (q9.1 * q8.1) = 0 := by
    intro q9
    rw [if_pos q9] at H
    cases H
  rw [if_neg h11] at H
  refine J_irem d_Ref_beatAt_30 h11 ?_
  refine J_isub d_Ref_beatAt_31 ?_
  refine J_istore d_Ref_beatAt_32 (Nat.le_of_ble_eq_true rfl) ?_
  refine J_iload d_Ref_beatAt_34 rfl ?_
  refine J_if_eq (tgt := 49) d_Ref_beatAt_36 (by decide) ?_ ?_
  · intro c14
    rw [if_pos c14] at H
    refine J.drop [false, false, false, true, false, false, false, false] rfl ?_
    exact p_Ref_beatAt_L49 hw hG  H
  · intro c14
    rw [if_neg c14] at H
    refine J_iload d_Ref_beatAt_39 rfl ?_
    refine J_iconst (v := 1) d_Ref_beatAt_41 (by decide) ?_
    refine J_icmp_ne (tgt := 53) d_Ref_beatAt_42 (by decide) ?_ ?_
    · intro c13
      rw [if_neg c13] at H
      refine J.drop [false, false, true, true, true, true, true, true] rfl ?_
      exact p_Ref_beatAt_L53 hw hG  H
    · intro c13
      rw [if_pos c13] at H
      refine J_iload_n d_Ref_beatAt_45 rfl ?_
      refine J_if_ne (tgt := 53) d_Ref_beatAt_46 (by decide) ?_ ?_
      · intro c12
        rw [if_neg c12] at H
        refine J.drop [false, false, true, true, true, true, true, true] rfl ?_
        exact p_Ref_beatAt_L53 hw hG  H
      · intro c12
        rw [if_pos c12] at H
        refine J.drop [false, false, false, true, false, false, false, false] rfl ?_
        exact p_Ref_beatAt_L49 hw hG  H
theorem ln_Ref_lanesOf : (parseMethodDescriptor y_Ref_lanesOf.desc).map (fun q => q.parameters.length) = some 2 := by decide +kernel
def f_Ref_lanesOf_L4 (Γ : gm_T)  : Nat → ph_T → Int32 → Int32 → Int32 → Int32 → Option (Int32 × ph_T)
  | 0, _, _, _, _, _ => none
  | fu + 1, φ, x0, x1, x2, x3 =>
    @ite _ (x1 = 0) _ none (
    if ((x0 - (x0 - x0 / x1 * x1)) + x1) ≤ x3 then
      some (x2, φ)
    else
      @ite _ ((8 : Int32) = 0) _ none (
      (f_Ref_lanesOf_L4 Γ  fu) φ x0 x1 (x2 ||| ((1 : Int32) <<< ((x3 - x3 / (8 : Int32) * (8 : Int32)) &&& 31))) (x3 + (1 : Int32))
      )
    )
set_option maxRecDepth 100000 in
set_option maxHeartbeats 4000000 in
theorem p_Ref_lanesOf_L4 {w : jw_T} (hw : jok w) {Γ : gm_T} {n : Nat} (hG : gd w Γ n)  : ∀ (fu : Nat) {x : Bool} {φ : ph_T} {x0 : Int32} {x1 : Int32} {x2 : Int32} {x3 : Int32} {q : Int32 × ph_T}, f_Ref_lanesOf_L4 Γ  fu φ x0 x1 x2 x3 = some q → J w M_Ref_lanesOf 4 [some (.int x0), some (.int x1), some (.int x2), some (.int x3)] [] (pic Γ φ) n x 0 0 (fq Γ n (.inl (some (.int q.1))) q.2) := by
  intro fu
  induction fu with
  | zero =>
    intro x φ x0 x1 x2 x3 q H
    cases H
  | succ fu ih =>
    intro x φ x0 x1 x2 x3 q H
    unfold f_Ref_lanesOf_L4 at H
    refine J_iload_n d_Ref_lanesOf_4 rfl ?_
    refine J_iload_n d_Ref_lanesOf_5 rfl ?_
    refine J_iload_n d_Ref_lanesOf_6 rfl ?_
    refine J_iload_n d_Ref_lanesOf_7 rfl ?_
    have h3 : ¬ x1 = 0 := by
      intro q9
      rw [if_pos q9] at H
      cases H
    rw [if_neg h3] at H
    refine J_irem d_Ref_lanesOf_8 h3 ?_
    refine J_isub d_Ref_lanesOf_9 ?_
    refine J_iload_n d_Ref_lanesOf_10 rfl ?_
    refine J_iadd d_Ref_lanesOf_11 ?_
    refine J_icmp_ge (tgt := 30) d_Ref_lanesOf_12 (by decide) ?_ ?_
    · intro c5
      rw [if_pos c5] at H
      refine J_iload_n d_Ref_lanesOf_30 rfl ?_
      cases H
      exact J_iret (st := []) d_Ref_lanesOf_31 rfl rfl ⟨rfl, rfl, rfl⟩
    · intro c5
      rw [if_neg c5] at H
      refine J_iload_n d_Ref_lanesOf_15 rfl ?_
      refine J_iconst (v := 1) d_Ref_lanesOf_16 (by decide) ?_
      refine J_iload_n d_Ref_lanesOf_17 rfl ?_
      refine J_bipush (v := 8) d_Ref_lanesOf_18 (by decide) ?_
      have h4 : ¬ (8 : Int32) = 0 := by
        intro q9
        rw [if_pos q9] at H
        cases H
      rw [if_neg h4] at H
      refine J_irem d_Ref_lanesOf_20 h4 ?_
      refine J_ishl d_Ref_lanesOf_21 ?_
      refine J_ior d_Ref_lanesOf_22 ?_
      refine J_istore_n d_Ref_lanesOf_23 (Nat.le_of_ble_eq_true rfl) ?_
      refine J_iinc (v := x3 + 1) d_Ref_lanesOf_24 rfl (by rw [show Int32.ofInt 1 = (1 : Int32) from by decide]) ?_
      refine J_goto (tgt := 4) d_Ref_lanesOf_27 (by decide) ?_
      refine J.drop [true, true, true, true] rfl ?_
      exact ih H
def f_Ref_lanesOf (Γ : gm_T) (φ : ph_T) (p0 : Int32) (p1 : Int32) : Option (Int32 × ph_T) :=
  f_Ref_lanesOf_L4 Γ  jF φ p0 p1 (0 : Int32) p0
set_option maxRecDepth 100000 in
set_option maxHeartbeats 4000000 in
theorem p_Ref_lanesOf {w : jw_T} (hw : jok w) {Γ : gm_T} {n : Nat} (hG : gd w Γ n) {x : Bool} {φ : ph_T} {p0 : Int32} {p1 : Int32} {q : Int32 × ph_T} (H : f_Ref_lanesOf Γ φ p0 p1 = some q) : jc w M_Ref_lanesOf [.int p0, .int p1] (pic Γ φ) n x 0 0 (fq Γ n (.inl (some (.int q.1))) q.2) := by
  refine jc.of (by simp only [jent_r, jent_i, jent_l, jent_a, jent_0]; exact Nat.le_of_ble_eq_true rfl) ?_
  have hls : jents [.int p0, .int p1] (jm_nL M_Ref_lanesOf) = [some (.int p0), some (.int p1), none, none] := by simp only [jents, jent_r, jent_i, jent_l, jent_a, jent_0]; rfl
  rw [hls]
  clear hls
  unfold f_Ref_lanesOf at H
  refine J_iconst (v := 0) d_Ref_lanesOf_0 (by decide) ?_
  refine J_istore_n d_Ref_lanesOf_1 (Nat.le_of_ble_eq_true rfl) ?_
  refine J_iload_n d_Ref_lanesOf_2 rfl ?_
  refine J_istore_n d_Ref_lanesOf_3 (Nat.le_of_ble_eq_true rfl) ?_
  refine J.drop [true, true, true, true] rfl ?_
  exact p_Ref_lanesOf_L4 hw hG  _ H
theorem ln_Ref_maskOf : (parseMethodDescriptor y_Ref_maskOf.desc).map (fun q => q.parameters.length) = some 1 := by decide +kernel
def f_Ref_maskOf_L32 (Γ : gm_T) (Kc4 : ph_T → Int32 → Int64 → Int32 → Option (Int64 × ph_T)) (φ : ph_T) (x0 : Int32) (x3 : Int32) (y0 : Int64) (y1 : Int64) : Option (Int64 × ph_T) :=
  Kc4 φ x0 (y1 ||| y0) (x3 + (1 : Int32))
set_option maxRecDepth 100000 in
set_option maxHeartbeats 4000000 in
theorem p_Ref_maskOf_L32 {w : jw_T} (hw : jok w) {Γ : gm_T} {n : Nat} (hG : gd w Γ n) {Kc4 : ph_T → Int32 → Int64 → Int32 → Option (Int64 × ph_T)} (hKc4 : ∀ {x : Bool} {φ : ph_T} {x0 : Int32} {x1 : Int64} {x3 : Int32} {q : Int64 × ph_T}, Kc4 φ x0 x1 x3 = some q → J w M_Ref_maskOf 4 [some (.int x0), some (.long x1), none, some (.int x3)] [] (pic Γ φ) n x 0 0 (fq Γ n (.inl (some (.long q.1))) q.2)) {x : Bool} {φ : ph_T} {x0 : Int32} {x3 : Int32} {y0 : Int64} {y1 : Int64} {q : Int64 × ph_T} (H : f_Ref_maskOf_L32 Γ Kc4 φ x0 x3 y0 y1 = some q) : J w M_Ref_maskOf 32 [some (.int x0), none, none, some (.int x3)] [.long y0, .long y1] (pic Γ φ) n x 0 0 (fq Γ n (.inl (some (.long q.1))) q.2) := by
  unfold f_Ref_maskOf_L32 at H
  refine J_lor d_Ref_maskOf_32 ?_
  refine J_lstore_n d_Ref_maskOf_33 (Nat.le_of_ble_eq_true rfl) ?_
  refine J_iinc (v := x3 + 1) d_Ref_maskOf_34 rfl (by rw [show Int32.ofInt 1 = (1 : Int32) from by decide]) ?_
  refine J_goto (tgt := 4) d_Ref_maskOf_37 (by decide) ?_
  refine J.drop [true, true, false, true] rfl ?_
  exact hKc4 H
def f_Ref_maskOf_L4 (Γ : gm_T)  : Nat → ph_T → Int32 → Int64 → Int32 → Option (Int64 × ph_T)
  | 0, _, _, _, _ => none
  | fu + 1, φ, x0, x1, x3 =>
    if (8 : Int32) ≤ x3 then
      some (x1, φ)
    else
      if ((x0 >>> (x3 &&& 31)) &&& (1 : Int32)) = (1 : Int32) then
        f_Ref_maskOf_L32 Γ (f_Ref_maskOf_L4 Γ  fu) φ x0 x3 ((255 : Int64) <<< (Int32.toInt64 ((8 : Int32) * x3) &&& 63)) x1
      else
        f_Ref_maskOf_L32 Γ (f_Ref_maskOf_L4 Γ  fu) φ x0 x3 (0 : Int64) x1
set_option maxRecDepth 100000 in
set_option maxHeartbeats 4000000 in
theorem p_Ref_maskOf_L4 {w : jw_T} (hw : jok w) {Γ : gm_T} {n : Nat} (hG : gd w Γ n)  : ∀ (fu : Nat) {x : Bool} {φ : ph_T} {x0 : Int32} {x1 : Int64} {x3 : Int32} {q : Int64 × ph_T}, f_Ref_maskOf_L4 Γ  fu φ x0 x1 x3 = some q → J w M_Ref_maskOf 4 [some (.int x0), some (.long x1), none, some (.int x3)] [] (pic Γ φ) n x 0 0 (fq Γ n (.inl (some (.long q.1))) q.2) := by
  intro fu
  induction fu with
  | zero =>
    intro x φ x0 x1 x3 q H
    cases H
  | succ fu ih =>
    intro x φ x0 x1 x3 q H
    unfold f_Ref_maskOf_L4 at H
    refine J_iload_n d_Ref_maskOf_4 rfl ?_
    refine J_bipush (v := 8) d_Ref_maskOf_5 (by decide) ?_
    refine J_icmp_ge (tgt := 40) d_Ref_maskOf_7 (by decide) ?_ ?_
    · intro c2
      rw [if_pos c2] at H
      refine J_lload_n d_Ref_maskOf_40 rfl ?_
      cases H
      exact J_lret (st := []) d_Ref_maskOf_41 rfl ⟨rfl, rfl, rfl⟩
    · intro c2
      rw [if_neg c2] at H
      refine J_lload_n d_Ref_maskOf_10 rfl ?_
      refine J_iload_n d_Ref_maskOf_11 rfl ?_
      refine J_iload_n d_Ref_maskOf_12 rfl ?_
      refine J_ishr d_Ref_maskOf_13 ?_
      refine J_iconst (v := 1) d_Ref_maskOf_14 (by decide) ?_
      refine J_iand d_Ref_maskOf_15 ?_
      refine J_iconst (v := 1) d_Ref_maskOf_16 (by decide) ?_
      refine J_icmp_ne (tgt := 31) d_Ref_maskOf_17 (by decide) ?_ ?_
      · intro c1
        rw [if_neg c1] at H
        refine J_lconst (v := 0) d_Ref_maskOf_31 (by decide) ?_
        refine J.drop [true, false, false, true] rfl ?_
        exact p_Ref_maskOf_L32 hw hG ih H
      · intro c1
        rw [if_pos c1] at H
        refine J_ldc2 (v := 255) d_Ref_maskOf_20 (kn_Ref_327 hw) ?_
        refine J_bipush (v := 8) d_Ref_maskOf_23 (by decide) ?_
        refine J_iload_n d_Ref_maskOf_25 rfl ?_
        refine J_imul d_Ref_maskOf_26 ?_
        refine J_lshl d_Ref_maskOf_27 ?_
        refine J_goto (tgt := 32) d_Ref_maskOf_28 (by decide) ?_
        refine J.drop [true, false, false, true] rfl ?_
        exact p_Ref_maskOf_L32 hw hG ih H
def f_Ref_maskOf (Γ : gm_T) (φ : ph_T) (p0 : Int32) : Option (Int64 × ph_T) :=
  f_Ref_maskOf_L4 Γ  jF φ p0 (0 : Int64) (0 : Int32)
set_option maxRecDepth 100000 in
set_option maxHeartbeats 4000000 in
theorem p_Ref_maskOf {w : jw_T} (hw : jok w) {Γ : gm_T} {n : Nat} (hG : gd w Γ n) {x : Bool} {φ : ph_T} {p0 : Int32} {q : Int64 × ph_T} (H : f_Ref_maskOf Γ φ p0 = some q) : jc w M_Ref_maskOf [.int p0] (pic Γ φ) n x 0 0 (fq Γ n (.inl (some (.long q.1))) q.2) := by
  refine jc.of (by simp only [jent_r, jent_i, jent_l, jent_a, jent_0]; exact Nat.le_of_ble_eq_true rfl) ?_
  have hls : jents [.int p0] (jm_nL M_Ref_maskOf) = [some (.int p0), none, none, none] := by simp only [jents, jent_r, jent_i, jent_l, jent_a, jent_0]; rfl
  rw [hls]
  clear hls
  unfold f_Ref_maskOf at H
  refine J_lconst (v := 0) d_Ref_maskOf_0 (by decide) ?_
  refine J_lstore_n d_Ref_maskOf_1 (Nat.le_of_ble_eq_true rfl) ?_
  refine J_iconst (v := 0) d_Ref_maskOf_2 (by decide) ?_
  refine J_istore_n d_Ref_maskOf_3 (Nat.le_of_ble_eq_true rfl) ?_
  refine J.drop [true, true, false, true] rfl ?_
  exact p_Ref_maskOf_L4 hw hG  _ H
theorem ln_Ref_showData : (parseMethodDescriptor y_Ref_showData.desc).map (fun q => q.parameters.length) = some 1 := by decide +kernel
def f_Ref_showData_L236 (Γ : gm_T)  (φ : ph_T) (y0 : Int32) (y1 : Int32) (y2 : Int64) (y3 : Int32) (y4 : Int32) (y5 : Nat) : Option (Unit × ph_T) :=
  @ite _ (Γ y5 = .inr 12) _ (
  Option.bind (f_Ref_show Γ φ y5 y4 y3 y2 (y1 ||| y0)) fun q2 =>
  some ((), q2.2)
  ) none
set_option maxRecDepth 100000 in
set_option maxHeartbeats 4000000 in
theorem p_Ref_showData_L236 {w : jw_T} (hw : jok w) {Γ : gm_T} {n : Nat} (hG : gd w Γ n)  {x : Bool} {φ : ph_T} {y0 : Int32} {y1 : Int32} {y2 : Int64} {y3 : Int32} {y4 : Int32} {y5 : Nat} {q : Unit × ph_T} (H : f_Ref_showData_L236 Γ  φ y0 y1 y2 y3 y4 y5 = some q) : J w M_Ref_showData 236 [none, none, none, none, none, none, none, none, none, none, none, none, none] [.int y0, .int y1, .long y2, .int y3, .int y4, .ref y5] (pic Γ φ) n x 0 0 (fq Γ n (.inl none) q.2) := by
  unfold f_Ref_showData_L236 at H
  refine J_ior d_Ref_showData_236 ?_
  have g1 : Γ y5 = .inr 12 := by
    apply Classical.byContradiction
    intro q9
    rw [if_neg q9] at H
    cases H
  rw [if_pos g1] at H
  obtain ⟨q2, hq2, H⟩ := Option.bind_eq_some_iff.mp H
  refine J_callV (kc := 0) (ks := 0) (kc' := 0) (ks' := 0) (a := y5) (ci := 12) (as := [.int y4, .int y3, .long y2, .int (y1 ||| y0)]) (st := []) (mf_Ref_show hw) (mv_Ref_359 hw) d_Ref_showData_237 ln_Ref_show (by decide) (by first | exact Nat.le_of_ble_eq_true rfl | (simp only [List.map_cons, List.map_nil, List.sum_cons, List.sum_nil, va_rf_cat]; exact Nat.le_of_ble_eq_true rfl)) rfl ((hG _).1 _ g1 (by decide)).1 ((hG _).1 _ g1 (by decide)).2 (by unfold pic; rw [g1]; rfl) (jcl_at hw rfl) rfl (p_Ref_show hw hG hq2) ?_ (fun E h' n' x' e1 => by cases e1.1)
  intro v9 h9 n9 x9 e9
  obtain ⟨e91, e92, e93⟩ := e9
  cases e91
  subst e92
  subst e93
  clear x
  rename Bool => x
  show J _ _ _ _ [] _ _ _ _ _ _
  cases H
  exact J_vret (st := []) d_Ref_showData_240 rfl ⟨rfl, rfl, rfl⟩
def f_Ref_showData_L199 (Γ : gm_T)  (φ : ph_T) (x0 : Nat) (x2 : Int32) (x3 : Int32) (x8 : Int32) (x9 : Int64) (x11 : Int32) : Option (Unit × ph_T) :=
  Option.bind (f_Ref_maskOf Γ φ x8) fun q3 =>
  @ite _ (Γ x0 = .inr 12) _ (
  Option.bind (q3.2.2.2 x0 30) fun a5 =>
  Option.bind (gA Γ a5 0) fun N6 =>
  Option.bind (ix x3 N6) fun k7 =>
  Option.bind (q3.2.2.2 x0 17) fun a8 =>
  Option.bind (gA Γ a8 0) fun N9 =>
  Option.bind (ix x3 N9) fun k10 =>
  if (q3.2.1 a5 k7) = ((q3.2.1 a8 k10) - (1 : Int32)) then
    f_Ref_showData_L236 Γ  q3.2 (256 : Int32) x11 (x9 &&& q3.1) (1 : Int32) x2 x0
  else
    f_Ref_showData_L236 Γ  q3.2 (0 : Int32) x11 (x9 &&& q3.1) (1 : Int32) x2 x0
  ) none
set_option maxRecDepth 100000 in
set_option maxHeartbeats 4000000 in
theorem p_Ref_showData_L199 {w : jw_T} (hw : jok w) {Γ : gm_T} {n : Nat} (hG : gd w Γ n)  {x : Bool} {φ : ph_T} {x0 : Nat} {x2 : Int32} {x3 : Int32} {x8 : Int32} {x9 : Int64} {x11 : Int32} {q : Unit × ph_T} (H : f_Ref_showData_L199 Γ  φ x0 x2 x3 x8 x9 x11 = some q) : J w M_Ref_showData 199 [some (.ref x0), none, some (.int x2), some (.int x3), none, none, none, none, some (.int x8), some (.long x9), none, some (.int x11), none] [] (pic Γ φ) n x 0 0 (fq Γ n (.inl none) q.2) := by
  unfold f_Ref_showData_L199 at H
  refine J_aload_n d_Ref_showData_199 rfl ?_
  refine J_iload_n d_Ref_showData_200 rfl ?_
  refine J_iconst (v := 1) d_Ref_showData_201 (by decide) ?_
  refine J_lload d_Ref_showData_202 rfl ?_
  refine J_iload d_Ref_showData_204 rfl ?_
  obtain ⟨q3, hq3, H⟩ := Option.bind_eq_some_iff.mp H
  refine J_callS (kc := 0) (ks := 0) (kc' := 0) (ks' := 0) (as := [.int x8]) (st := [.long x9, .int (1 : Int32), .int x2, .ref x0]) (mf_Ref_maskOf hw) (ms_Ref_377 hw) d_Ref_showData_206 ln_Ref_maskOf (by decide) (by first | exact Nat.le_of_ble_eq_true rfl | (simp only [List.map_cons, List.map_nil, List.sum_cons, List.sum_nil, va_rf_cat]; exact Nat.le_of_ble_eq_true rfl)) rfl (p_Ref_maskOf hw hG hq3) ?_ (fun E h' n' x' e1 => by cases e1.1)
  intro v9 h9 n9 x9 e9
  obtain ⟨e91, e92, e93⟩ := e9
  cases e91
  subst e92
  subst e93
  clear x
  rename Bool => x
  show J _ _ _ _ (_ :: _) _ _ _ _ _ _
  refine J_land d_Ref_showData_209 ?_
  refine J_iload d_Ref_showData_210 rfl ?_
  refine J_aload_n d_Ref_showData_212 rfl ?_
  have g4 : Γ x0 = .inr 12 := by
    apply Classical.byContradiction
    intro q9
    rw [if_neg q9] at H
    cases H
  rw [if_pos g4] at H
  refine F_getR (ci := 12) (k := 30) hG (cf_Ref hw) (fl_Ref_79 hw) (by decide) (by decide) rfl d_Ref_showData_213 g4 ?_
  refine J_iload_n d_Ref_showData_216 rfl ?_
  obtain ⟨a5, ha5, H⟩ := Option.bind_eq_some_iff.mp H
  rw [j_rf ha5]
  obtain ⟨N6, hN6, H⟩ := Option.bind_eq_some_iff.mp H
  obtain ⟨k7, hk7, H⟩ := Option.bind_eq_some_iff.mp H
  refine F_iald k7 hw hG d_Ref_showData_217 (gA_some hN6) (ix_some hk7) ?_
  refine J_aload_n d_Ref_showData_218 rfl ?_
  refine F_getR (ci := 12) (k := 17) hG (cf_Ref hw) (fl_Ref_39 hw) (by decide) (by decide) rfl d_Ref_showData_219 g4 ?_
  refine J_iload_n d_Ref_showData_222 rfl ?_
  obtain ⟨a8, ha8, H⟩ := Option.bind_eq_some_iff.mp H
  rw [j_rf ha8]
  obtain ⟨N9, hN9, H⟩ := Option.bind_eq_some_iff.mp H
  obtain ⟨k10, hk10, H⟩ := Option.bind_eq_some_iff.mp H
  refine F_iald k10 hw hG d_Ref_showData_223 (gA_some hN9) (ix_some hk10) ?_
  refine J_iconst (v := 1) d_Ref_showData_224 (by decide) ?_
  refine J_isub d_Ref_showData_225 ?_
  refine J_icmp_ne (tgt := 235) d_Ref_showData_226 (by decide) ?_ ?_
  · intro c11
    rw [if_neg c11] at H
    refine J_iconst (v := 0) d_Ref_showData_235 (by decide) ?_
    refine J.drop [false, false, false, false, false, false, false, false, false, false, false, false, false] rfl ?_
    exact p_Ref_showData_L236 hw hG  H
  · intro c11
    rw [if_pos c11] at H
    refine J_sipush (v := 256) d_Ref_showData_229 (by decide) ?_
    refine J_goto (tgt := 236) d_Ref_showData_232 (by decide) ?_
    refine J.drop [false, false, false, false, false, false, false, false, false, false, false, false, false] rfl ?_
    exact p_Ref_showData_L236 hw hG  H
def f_Ref_showData_L190 (Γ : gm_T) (Kc145 : ph_T → Nat → Int32 → Int32 → Int32 → Int64 → Int32 → Int32 → Option (Unit × ph_T)) (φ : ph_T) (x0 : Nat) (x2 : Int32) (x3 : Int32) (x8 : Int32) (x9 : Int64) (x12 : Int32) (y0 : Int32) (y1 : Int32) : Option (Unit × ph_T) :=
  Kc145 φ x0 x2 x3 x8 x9 (y1 &&& y0) (x12 + (1 : Int32))
set_option maxRecDepth 100000 in
set_option maxHeartbeats 4000000 in
theorem p_Ref_showData_L190 {w : jw_T} (hw : jok w) {Γ : gm_T} {n : Nat} (hG : gd w Γ n) {Kc145 : ph_T → Nat → Int32 → Int32 → Int32 → Int64 → Int32 → Int32 → Option (Unit × ph_T)} (hKc145 : ∀ {x : Bool} {φ : ph_T} {x0 : Nat} {x2 : Int32} {x3 : Int32} {x8 : Int32} {x9 : Int64} {x11 : Int32} {x12 : Int32} {q : Unit × ph_T}, Kc145 φ x0 x2 x3 x8 x9 x11 x12 = some q → J w M_Ref_showData 145 [some (.ref x0), none, some (.int x2), some (.int x3), none, none, none, none, some (.int x8), some (.long x9), none, some (.int x11), some (.int x12)] [] (pic Γ φ) n x 0 0 (fq Γ n (.inl none) q.2)) {x : Bool} {φ : ph_T} {x0 : Nat} {x2 : Int32} {x3 : Int32} {x8 : Int32} {x9 : Int64} {x12 : Int32} {y0 : Int32} {y1 : Int32} {q : Unit × ph_T} (H : f_Ref_showData_L190 Γ Kc145 φ x0 x2 x3 x8 x9 x12 y0 y1 = some q) : J w M_Ref_showData 190 [some (.ref x0), none, some (.int x2), some (.int x3), none, none, none, none, some (.int x8), some (.long x9), none, none, some (.int x12)] [.int y0, .int y1] (pic Γ φ) n x 0 0 (fq Γ n (.inl none) q.2) := by
  unfold f_Ref_showData_L190 at H
  refine J_iand d_Ref_showData_190 ?_
  refine J_istore d_Ref_showData_191 (Nat.le_of_ble_eq_true rfl) ?_
  refine J_iinc (v := x12 + 1) d_Ref_showData_193 rfl (by rw [show Int32.ofInt 1 = (1 : Int32) from by decide]) ?_
  refine J_goto (tgt := 145) d_Ref_showData_196 (by decide) ?_
  refine J.drop [true, false, true, true, false, false, false, false, true, true, false, true, true] rfl ?_
  exact hKc145 H
def f_Ref_showData_L145 (Γ : gm_T)  : Nat → ph_T → Nat → Int32 → Int32 → Int32 → Int64 → Int32 → Int32 → Option (Unit × ph_T)
  | 0, _, _, _, _, _, _, _, _ => none
  | fu + 1, φ, x0, x2, x3, x8, x9, x11, x12 =>
    if (8 : Int32) ≤ x12 then
      f_Ref_showData_L199 Γ  φ x0 x2 x3 x8 x9 x11
    else
      @ite _ (Γ x0 = .inr 12) _ (
      Option.bind (φ.2.2 x0 22) fun a13 =>
      Option.bind (gA Γ a13 2) fun N14 =>
      Option.bind (ix x3 N14) fun k15 =>
      if (φ.1 a13 k15) = 0 then
        f_Ref_showData_L199 Γ  φ x0 x2 x3 x8 x9 x11
      else
        if (lg_cmp ((x9 >>> (Int32.toInt64 ((56 : Int32) + x12) &&& 63)) &&& (1 : Int64)) (1 : Int64)) = 0 then
          f_Ref_showData_L190 Γ (f_Ref_showData_L145 Γ  fu) φ x0 x2 x3 x8 x9 x12 (255 : Int32) x11
        else
          f_Ref_showData_L190 Γ (f_Ref_showData_L145 Γ  fu) φ x0 x2 x3 x8 x9 x12 (((1 : Int32) <<< (x12 &&& 31)) ^^^ (-1 : Int32)) x11
      ) none
set_option maxRecDepth 100000 in
set_option maxHeartbeats 4000000 in
theorem p_Ref_showData_L145 {w : jw_T} (hw : jok w) {Γ : gm_T} {n : Nat} (hG : gd w Γ n)  : ∀ (fu : Nat) {x : Bool} {φ : ph_T} {x0 : Nat} {x2 : Int32} {x3 : Int32} {x8 : Int32} {x9 : Int64} {x11 : Int32} {x12 : Int32} {q : Unit × ph_T}, f_Ref_showData_L145 Γ  fu φ x0 x2 x3 x8 x9 x11 x12 = some q → J w M_Ref_showData 145 [some (.ref x0), none, some (.int x2), some (.int x3), none, none, none, none, some (.int x8), some (.long x9), none, some (.int x11), some (.int x12)] [] (pic Γ φ) n x 0 0 (fq Γ n (.inl none) q.2) := by
  intro fu
  induction fu with
  | zero =>
    intro x φ x0 x2 x3 x8 x9 x11 x12 q H
    cases H
  | succ fu ih =>
    intro x φ x0 x2 x3 x8 x9 x11 x12 q H
    unfold f_Ref_showData_L145 at H
    refine J_iload d_Ref_showData_145 rfl ?_
    refine J_bipush (v := 8) d_Ref_showData_147 (by decide) ?_
    refine J_icmp_ge (tgt := 199) d_Ref_showData_149 (by decide) ?_ ?_
    · intro c18
      rw [if_pos c18] at H
      refine J.drop [true, false, true, true, false, false, false, false, true, true, false, true, false] rfl ?_
      exact p_Ref_showData_L199 hw hG  H
    · intro c18
      rw [if_neg c18] at H
      refine J_aload_n d_Ref_showData_152 rfl ?_
      have g12 : Γ x0 = .inr 12 := by
        apply Classical.byContradiction
        intro q9
        rw [if_neg q9] at H
        cases H
      rw [if_pos g12] at H
      refine F_getR (ci := 12) (k := 22) hG (cf_Ref hw) (fl_Ref_54 hw) (by decide) (by decide) rfl d_Ref_showData_153 g12 ?_
      refine J_iload_n d_Ref_showData_156 rfl ?_
      obtain ⟨a13, ha13, H⟩ := Option.bind_eq_some_iff.mp H
      rw [j_rf ha13]
      obtain ⟨N14, hN14, H⟩ := Option.bind_eq_some_iff.mp H
      obtain ⟨k15, hk15, H⟩ := Option.bind_eq_some_iff.mp H
      refine F_zald k15 hw hG d_Ref_showData_157 (gA_some hN14) (ix_some hk15) ?_
      refine J_if_eq (tgt := 199) d_Ref_showData_158 (by decide) ?_ ?_
      · intro c17
        rw [if_pos c17] at H
        refine J.drop [true, false, true, true, false, false, false, false, true, true, false, true, false] rfl ?_
        exact p_Ref_showData_L199 hw hG  H
      · intro c17
        rw [if_neg c17] at H
        refine J_iload d_Ref_showData_161 rfl ?_
        refine J_lload d_Ref_showData_163 rfl ?_
        refine J_bipush (v := 56) d_Ref_showData_165 (by decide) ?_
        refine J_iload d_Ref_showData_167 rfl ?_
        refine J_iadd d_Ref_showData_169 ?_
        refine J_lshr d_Ref_showData_170 ?_
        refine J_lconst (v := 1) d_Ref_showData_171 (by decide) ?_
        refine J_land d_Ref_showData_172 ?_
        refine J_lconst (v := 1) d_Ref_showData_173 (by decide) ?_
        refine J_lcmp d_Ref_showData_174 ?_
        refine J_if_ne (tgt := 184) d_Ref_showData_175 (by decide) ?_ ?_
        · intro c16
          rw [if_neg c16] at H
          refine J_iconst (v := 1) d_Ref_showData_184 (by decide) ?_
          refine J_iload d_Ref_showData_185 rfl ?_
          refine J_ishl d_Ref_showData_187 ?_
          refine J_iconst (v := -1) d_Ref_showData_188 (by decide) ?_
          refine J_ixor d_Ref_showData_189 ?_
          refine J.drop [true, false, true, true, false, false, false, false, true, true, false, false, true] rfl ?_
          exact p_Ref_showData_L190 hw hG ih H
        · intro c16
          rw [if_pos c16] at H
          refine J_sipush (v := 255) d_Ref_showData_178 (by decide) ?_
          refine J_goto (tgt := 190) d_Ref_showData_181 (by decide) ?_
          refine J.drop [true, false, true, true, false, false, false, false, true, true, false, false, true] rfl ?_
          exact p_Ref_showData_L190 hw hG ih H
def f_Ref_showData_L78 (Γ : gm_T)  (φ : ph_T) (x0 : Nat) (x2 : Int32) (x3 : Int32) (y0 : Int32) : Option (Unit × ph_T) :=
  if y0 = 0 then
    @ite _ (Γ x0 = .inr 12) _ (
    Option.bind (f_Ref_show Γ φ x0 x2 (0 : Int32) (0 : Int64) (0 : Int32)) fun q31 =>
    some ((), q31.2)
    ) none
  else
    @ite _ (Γ x0 = .inr 12) _ (
    Option.bind (f_Ref_burstOf Γ φ x0 x3) fun q20 =>
    Option.bind (q20.2.2.2 x0 30) fun a21 =>
    Option.bind (gA Γ a21 0) fun N22 =>
    Option.bind (ix x3 N22) fun k23 =>
    Option.bind (f_Ref_beatAt Γ q20.2 q20.1 (q20.2.1 a21 k23)) fun q24 =>
    Option.bind (f_Ref_sizeOf Γ q24.2 q20.1) fun q25 =>
    Option.bind (f_Ref_lanesOf Γ q25.2 q24.1 q25.1) fun q26 =>
    Option.bind (q26.2.2.2 x0 26) fun a27 =>
    Option.bind (gA Γ a27 1) fun N28 =>
    Option.bind (ix x3 N28) fun k29 =>
    f_Ref_showData_L145 Γ  jF q26.2 x0 x2 x3 q26.1 (((q26.2.2.1 a27 k29) * (6364136223846793005 : Int64)) + (1442695040888963407 : Int64)) q26.1 (0 : Int32)
    ) none
set_option maxRecDepth 100000 in
set_option maxHeartbeats 4000000 in
theorem p_Ref_showData_L78 {w : jw_T} (hw : jok w) {Γ : gm_T} {n : Nat} (hG : gd w Γ n)  {x : Bool} {φ : ph_T} {x0 : Nat} {x2 : Int32} {x3 : Int32} {y0 : Int32} {q : Unit × ph_T} (H : f_Ref_showData_L78 Γ  φ x0 x2 x3 y0 = some q) : J w M_Ref_showData 78 [some (.ref x0), none, some (.int x2), some (.int x3), none, none, none, none, none, none, none, none, none] [.int y0] (pic Γ φ) n x 0 0 (fq Γ n (.inl none) q.2) := by
  unfold f_Ref_showData_L78 at H
  refine J_istore d_Ref_showData_78 (Nat.le_of_ble_eq_true rfl) ?_
  refine J_iload d_Ref_showData_80 rfl ?_
  refine J_if_ne (tgt := 94) d_Ref_showData_82 (by decide) ?_ ?_
  · intro c32
    rw [if_neg c32] at H
    refine J_aload_n d_Ref_showData_94 rfl ?_
    refine J_iload_n d_Ref_showData_95 rfl ?_
    have g19 : Γ x0 = .inr 12 := by
      apply Classical.byContradiction
      intro q9
      rw [if_neg q9] at H
      cases H
    rw [if_pos g19] at H
    obtain ⟨q20, hq20, H⟩ := Option.bind_eq_some_iff.mp H
    refine J_callV (kc := 0) (ks := 0) (kc' := 0) (ks' := 0) (a := x0) (ci := 12) (as := [.int x3]) (st := []) (mf_Ref_burstOf hw) (mv_Ref_355 hw) d_Ref_showData_96 ln_Ref_burstOf (by decide) (by first | exact Nat.le_of_ble_eq_true rfl | (simp only [List.map_cons, List.map_nil, List.sum_cons, List.sum_nil, va_rf_cat]; exact Nat.le_of_ble_eq_true rfl)) rfl ((hG _).1 _ g19 (by decide)).1 ((hG _).1 _ g19 (by decide)).2 (by unfold pic; rw [g19]; rfl) (jcl_at hw rfl) rfl (p_Ref_burstOf hw hG hq20) ?_ (fun E h' n' x' e1 => by cases e1.1)
    intro v9 h9 n9 x9 e9
    obtain ⟨e91, e92, e93⟩ := e9
    cases e91
    subst e92
    subst e93
    clear x
    rename Bool => x
    show J _ _ _ _ (_ :: _) _ _ _ _ _ _
    refine J_lstore d_Ref_showData_99 (Nat.le_of_ble_eq_true rfl) ?_
    refine J_lload d_Ref_showData_101 rfl ?_
    refine J_aload_n d_Ref_showData_103 rfl ?_
    refine F_getR (ci := 12) (k := 30) hG (cf_Ref hw) (fl_Ref_79 hw) (by decide) (by decide) rfl d_Ref_showData_104 g19 ?_
    refine J_iload_n d_Ref_showData_107 rfl ?_
    obtain ⟨a21, ha21, H⟩ := Option.bind_eq_some_iff.mp H
    rw [j_rf ha21]
    obtain ⟨N22, hN22, H⟩ := Option.bind_eq_some_iff.mp H
    obtain ⟨k23, hk23, H⟩ := Option.bind_eq_some_iff.mp H
    refine F_iald k23 hw hG d_Ref_showData_108 (gA_some hN22) (ix_some hk23) ?_
    obtain ⟨q24, hq24, H⟩ := Option.bind_eq_some_iff.mp H
    refine J_callS (kc := 0) (ks := 0) (kc' := 0) (ks' := 0) (as := [.long q20.1, .int (q20.2.1 a21 k23)]) (st := []) (mf_Ref_beatAt hw) (ms_Ref_366 hw) d_Ref_showData_109 ln_Ref_beatAt (by decide) (by first | exact Nat.le_of_ble_eq_true rfl | (simp only [List.map_cons, List.map_nil, List.sum_cons, List.sum_nil, va_rf_cat]; exact Nat.le_of_ble_eq_true rfl)) rfl (p_Ref_beatAt hw hG hq24) ?_ (fun E h' n' x' e1 => by cases e1.1)
    intro v9 h9 n9 x9 e9
    obtain ⟨e91, e92, e93⟩ := e9
    cases e91
    subst e92
    subst e93
    clear x
    rename Bool => x
    show J _ _ _ _ (_ :: _) _ _ _ _ _ _
    refine J_lload d_Ref_showData_112 rfl ?_
    obtain ⟨q25, hq25, H⟩ := Option.bind_eq_some_iff.mp H
    refine J_callS (kc := 0) (ks := 0) (kc' := 0) (ks' := 0) (as := [.long q20.1]) (st := [.int q24.1]) (mf_Ref_sizeOf hw) (ms_Ref_318 hw) d_Ref_showData_114 ln_Ref_sizeOf (by decide) (by first | exact Nat.le_of_ble_eq_true rfl | (simp only [List.map_cons, List.map_nil, List.sum_cons, List.sum_nil, va_rf_cat]; exact Nat.le_of_ble_eq_true rfl)) rfl (p_Ref_sizeOf hw hG hq25) ?_ (fun E h' n' x' e1 => by cases e1.1)
    intro v9 h9 n9 x9 e9
    obtain ⟨e91, e92, e93⟩ := e9
    cases e91
    subst e92
    subst e93
    clear x
    rename Bool => x
    show J _ _ _ _ (_ :: _) _ _ _ _ _ _
    obtain ⟨q26, hq26, H⟩ := Option.bind_eq_some_iff.mp H
    refine J_callS (kc := 0) (ks := 0) (kc' := 0) (ks' := 0) (as := [.int q24.1, .int q25.1]) (st := []) (mf_Ref_lanesOf hw) (ms_Ref_370 hw) d_Ref_showData_117 ln_Ref_lanesOf (by decide) (by first | exact Nat.le_of_ble_eq_true rfl | (simp only [List.map_cons, List.map_nil, List.sum_cons, List.sum_nil, va_rf_cat]; exact Nat.le_of_ble_eq_true rfl)) rfl (p_Ref_lanesOf hw hG hq26) ?_ (fun E h' n' x' e1 => by cases e1.1)
    intro v9 h9 n9 x9 e9
    obtain ⟨e91, e92, e93⟩ := e9
    cases e91
    subst e92
    subst e93
    clear x
    rename Bool => x
    show J _ _ _ _ (_ :: _) _ _ _ _ _ _
    refine J_istore d_Ref_showData_120 (Nat.le_of_ble_eq_true rfl) ?_
    refine J_aload_n d_Ref_showData_122 rfl ?_
    refine F_getR (ci := 12) (k := 26) hG (cf_Ref hw) (fl_Ref_66 hw) (by decide) (by decide) rfl d_Ref_showData_123 g19 ?_
    refine J_iload_n d_Ref_showData_126 rfl ?_
    obtain ⟨a27, ha27, H⟩ := Option.bind_eq_some_iff.mp H
    rw [j_rf ha27]
    obtain ⟨N28, hN28, H⟩ := Option.bind_eq_some_iff.mp H
    obtain ⟨k29, hk29, H⟩ := Option.bind_eq_some_iff.mp H
    refine F_lald k29 hw hG d_Ref_showData_127 (gA_some hN28) (ix_some hk29) ?_
    refine J_ldc2 (v := 6364136223846793005) d_Ref_showData_128 (kn_Ref_373 hw) ?_
    refine J_lmul d_Ref_showData_131 ?_
    refine J_ldc2 (v := 1442695040888963407) d_Ref_showData_132 (kn_Ref_375 hw) ?_
    refine J_ladd d_Ref_showData_135 ?_
    refine J_lstore d_Ref_showData_136 (Nat.le_of_ble_eq_true rfl) ?_
    refine J_iload d_Ref_showData_138 rfl ?_
    refine J_istore d_Ref_showData_140 (Nat.le_of_ble_eq_true rfl) ?_
    refine J_iconst (v := 0) d_Ref_showData_142 (by decide) ?_
    refine J_istore d_Ref_showData_143 (Nat.le_of_ble_eq_true rfl) ?_
    refine J.drop [true, false, true, true, false, false, false, false, true, true, false, true, true] rfl ?_
    exact p_Ref_showData_L145 hw hG  _ H
  · intro c32
    rw [if_pos c32] at H
    refine J_aload_n d_Ref_showData_85 rfl ?_
    refine J_iload_n d_Ref_showData_86 rfl ?_
    refine J_iconst (v := 0) d_Ref_showData_87 (by decide) ?_
    refine J_lconst (v := 0) d_Ref_showData_88 (by decide) ?_
    refine J_iconst (v := 0) d_Ref_showData_89 (by decide) ?_
    have g30 : Γ x0 = .inr 12 := by
      apply Classical.byContradiction
      intro q9
      rw [if_neg q9] at H
      cases H
    rw [if_pos g30] at H
    obtain ⟨q31, hq31, H⟩ := Option.bind_eq_some_iff.mp H
    refine J_callV (kc := 0) (ks := 0) (kc' := 0) (ks' := 0) (a := x0) (ci := 12) (as := [.int x2, .int (0 : Int32), .long (0 : Int64), .int (0 : Int32)]) (st := []) (mf_Ref_show hw) (mv_Ref_359 hw) d_Ref_showData_90 ln_Ref_show (by decide) (by first | exact Nat.le_of_ble_eq_true rfl | (simp only [List.map_cons, List.map_nil, List.sum_cons, List.sum_nil, va_rf_cat]; exact Nat.le_of_ble_eq_true rfl)) rfl ((hG _).1 _ g30 (by decide)).1 ((hG _).1 _ g30 (by decide)).2 (by unfold pic; rw [g30]; rfl) (jcl_at hw rfl) rfl (p_Ref_show hw hG hq31) ?_ (fun E h' n' x' e1 => by cases e1.1)
    intro v9 h9 n9 x9 e9
    obtain ⟨e91, e92, e93⟩ := e9
    cases e91
    subst e92
    subst e93
    clear x
    rename Bool => x
    show J _ _ _ _ [] _ _ _ _ _ _
    cases H
    exact J_vret (st := []) d_Ref_showData_93 rfl ⟨rfl, rfl, rfl⟩
def f_Ref_showData_L77 (Γ : gm_T)  (φ : ph_T) (x0 : Nat) (x2 : Int32) (x3 : Int32) : Option (Unit × ph_T) :=
  f_Ref_showData_L78 Γ  φ x0 x2 x3 (0 : Int32)
set_option maxRecDepth 100000 in
set_option maxHeartbeats 4000000 in
theorem p_Ref_showData_L77 {w : jw_T} (hw : jok w) {Γ : gm_T} {n : Nat} (hG : gd w Γ n)  {x : Bool} {φ : ph_T} {x0 : Nat} {x2 : Int32} {x3 : Int32} {q : Unit × ph_T} (H : f_Ref_showData_L77 Γ  φ x0 x2 x3 = some q) : J w M_Ref_showData 77 [some (.ref x0), none, some (.int x2), some (.int x3), none, none, none, none, none, none, none, none, none] [] (pic Γ φ) n x 0 0 (fq Γ n (.inl none) q.2) := by
  unfold f_Ref_showData_L77 at H
  refine J_iconst (v := 0) d_Ref_showData_77 (by decide) ?_
  refine J.drop [true, false, true, true, false, false, false, false, false, false, false, false, false] rfl ?_
  exact p_Ref_showData_L78 hw hG  H
def f_Ref_showData_L73 (Γ : gm_T)  (φ : ph_T) (x0 : Nat) (x2 : Int32) (x3 : Int32) : Option (Unit × ph_T) :=
  f_Ref_showData_L78 Γ  φ x0 x2 x3 (1 : Int32)
set_option maxRecDepth 100000 in
set_option maxHeartbeats 4000000 in
theorem p_Ref_showData_L73 {w : jw_T} (hw : jok w) {Γ : gm_T} {n : Nat} (hG : gd w Γ n)  {x : Bool} {φ : ph_T} {x0 : Nat} {x2 : Int32} {x3 : Int32} {q : Unit × ph_T} (H : f_Ref_showData_L73 Γ  φ x0 x2 x3 = some q) : J w M_Ref_showData 73 [some (.ref x0), none, some (.int x2), some (.int x3), none, none, none, none, none, none, none, none, none] [] (pic Γ φ) n x 0 0 (fq Γ n (.inl none) q.2) := by
  unfold f_Ref_showData_L73 at H
  refine J_iconst (v := 1) d_Ref_showData_73 (by decide) ?_
  refine J_goto (tgt := 78) d_Ref_showData_74 (by decide) ?_
  refine J.drop [true, false, true, true, false, false, false, false, false, false, false, false, false] rfl ?_
  exact p_Ref_showData_L78 hw hG  H
def f_Ref_showData_L41 (Γ : gm_T)  (φ : ph_T) (x0 : Nat) (x2 : Int32) (x3 : Int32) (y0 : Int32) : Option (Unit × ph_T) :=
  @ite _ (Γ x0 = .inr 12) _ (
  Option.bind (φ.2.2 x0 37) fun a34 =>
  Option.bind (gA Γ a34 2) fun N35 =>
  Option.bind (ix x2 N35) fun k36 =>
  if (φ.1 a34 k36) = 0 then
    if y0 = 0 then
      f_Ref_showData_L77 Γ  φ x0 x2 x3
    else
      Option.bind (φ.2.2 x0 8) fun a37 =>
      Option.bind (gA Γ a37 0) fun N38 =>
      Option.bind (ix x2 N38) fun k39 =>
      Option.bind (f_Ref_tells Γ φ (φ.1 a37 k39) (φ.1 x0 6)) fun q40 =>
      if q40.1 = 0 then
        f_Ref_showData_L77 Γ  q40.2 x0 x2 x3
      else
        f_Ref_showData_L73 Γ  q40.2 x0 x2 x3
  else
    f_Ref_showData_L73 Γ  φ x0 x2 x3
  ) none
set_option maxRecDepth 100000 in
set_option maxHeartbeats 4000000 in
theorem p_Ref_showData_L41 {w : jw_T} (hw : jok w) {Γ : gm_T} {n : Nat} (hG : gd w Γ n)  {x : Bool} {φ : ph_T} {x0 : Nat} {x2 : Int32} {x3 : Int32} {y0 : Int32} {q : Unit × ph_T} (H : f_Ref_showData_L41 Γ  φ x0 x2 x3 y0 = some q) : J w M_Ref_showData 41 [some (.ref x0), none, some (.int x2), some (.int x3), none, none, none, none, none, none, none, none, none] [.int y0] (pic Γ φ) n x 0 0 (fq Γ n (.inl none) q.2) := by
  unfold f_Ref_showData_L41 at H
  refine J_istore d_Ref_showData_41 (Nat.le_of_ble_eq_true rfl) ?_
  refine J_aload_n d_Ref_showData_43 rfl ?_
  have g33 : Γ x0 = .inr 12 := by
    apply Classical.byContradiction
    intro q9
    rw [if_neg q9] at H
    cases H
  rw [if_pos g33] at H
  refine F_getR (ci := 12) (k := 37) hG (cf_Ref hw) (fl_Ref_100 hw) (by decide) (by decide) rfl d_Ref_showData_44 g33 ?_
  refine J_iload_n d_Ref_showData_47 rfl ?_
  obtain ⟨a34, ha34, H⟩ := Option.bind_eq_some_iff.mp H
  rw [j_rf ha34]
  obtain ⟨N35, hN35, H⟩ := Option.bind_eq_some_iff.mp H
  obtain ⟨k36, hk36, H⟩ := Option.bind_eq_some_iff.mp H
  refine F_zald k36 hw hG d_Ref_showData_48 (gA_some hN35) (ix_some hk36) ?_
  refine J_if_ne (tgt := 73) d_Ref_showData_49 (by decide) ?_ ?_
  · intro c43
    rw [if_neg c43] at H
    refine J.drop [true, false, true, true, false, false, false, false, false, false, false, false, false] rfl ?_
    exact p_Ref_showData_L73 hw hG  H
  · intro c43
    rw [if_pos c43] at H
    refine J_iload d_Ref_showData_52 rfl ?_
    refine J_if_eq (tgt := 77) d_Ref_showData_54 (by decide) ?_ ?_
    · intro c42
      rw [if_pos c42] at H
      refine J.drop [true, false, true, true, false, false, false, false, false, false, false, false, false] rfl ?_
      exact p_Ref_showData_L77 hw hG  H
    · intro c42
      rw [if_neg c42] at H
      refine J_aload_n d_Ref_showData_57 rfl ?_
      refine F_getR (ci := 12) (k := 8) hG (cf_Ref hw) (fl_Ref_13 hw) (by decide) (by decide) rfl d_Ref_showData_58 g33 ?_
      refine J_iload_n d_Ref_showData_61 rfl ?_
      obtain ⟨a37, ha37, H⟩ := Option.bind_eq_some_iff.mp H
      rw [j_rf ha37]
      obtain ⟨N38, hN38, H⟩ := Option.bind_eq_some_iff.mp H
      obtain ⟨k39, hk39, H⟩ := Option.bind_eq_some_iff.mp H
      refine F_iald k39 hw hG d_Ref_showData_62 (gA_some hN38) (ix_some hk39) ?_
      refine J_aload_n d_Ref_showData_63 rfl ?_
      refine F_getI (ci := 12) (k := 6) hG (cf_Ref hw) (fl_Ref_348 hw) (by decide) (by decide) rfl d_Ref_showData_64 g33 ?_
      obtain ⟨q40, hq40, H⟩ := Option.bind_eq_some_iff.mp H
      refine J_callS (kc := 0) (ks := 0) (kc' := 0) (ks' := 0) (as := [.int (φ.1 a37 k39), .int (φ.1 x0 6)]) (st := []) (mf_Ref_tells hw) (ms_Ref_351 hw) d_Ref_showData_67 ln_Ref_tells (by decide) (by first | exact Nat.le_of_ble_eq_true rfl | (simp only [List.map_cons, List.map_nil, List.sum_cons, List.sum_nil, va_rf_cat]; exact Nat.le_of_ble_eq_true rfl)) rfl (p_Ref_tells hw hG hq40) ?_ (fun E h' n' x' e1 => by cases e1.1)
      intro v9 h9 n9 x9 e9
      obtain ⟨e91, e92, e93⟩ := e9
      cases e91
      subst e92
      subst e93
      clear x
      rename Bool => x
      show J _ _ _ _ (_ :: _) _ _ _ _ _ _
      refine J_if_eq (tgt := 77) d_Ref_showData_70 (by decide) ?_ ?_
      · intro c41
        rw [if_pos c41] at H
        refine J.drop [true, false, true, true, false, false, false, false, false, false, false, false, false] rfl ?_
        exact p_Ref_showData_L77 hw hG  H
      · intro c41
        rw [if_neg c41] at H
        refine J.drop [true, false, true, true, false, false, false, false, false, false, false, false, false] rfl ?_
        exact p_Ref_showData_L73 hw hG  H
def f_Ref_showData_L40 (Γ : gm_T)  (φ : ph_T) (x0 : Nat) (x2 : Int32) (x3 : Int32) : Option (Unit × ph_T) :=
  f_Ref_showData_L41 Γ  φ x0 x2 x3 (0 : Int32)
set_option maxRecDepth 100000 in
set_option maxHeartbeats 4000000 in
theorem p_Ref_showData_L40 {w : jw_T} (hw : jok w) {Γ : gm_T} {n : Nat} (hG : gd w Γ n)  {x : Bool} {φ : ph_T} {x0 : Nat} {x2 : Int32} {x3 : Int32} {q : Unit × ph_T} (H : f_Ref_showData_L40 Γ  φ x0 x2 x3 = some q) : J w M_Ref_showData 40 [some (.ref x0), none, some (.int x2), some (.int x3), none, none, none, none, none, none, none, none, none] [] (pic Γ φ) n x 0 0 (fq Γ n (.inl none) q.2) := by
  unfold f_Ref_showData_L40 at H
  refine J_iconst (v := 0) d_Ref_showData_40 (by decide) ?_
  refine J.drop [true, false, true, true, false, false, false, false, false, false, false, false, false] rfl ?_
  exact p_Ref_showData_L41 hw hG  H
def f_Ref_showData_L36 (Γ : gm_T)  (φ : ph_T) (x0 : Nat) (x2 : Int32) (x3 : Int32) : Option (Unit × ph_T) :=
  f_Ref_showData_L41 Γ  φ x0 x2 x3 (1 : Int32)
set_option maxRecDepth 100000 in
set_option maxHeartbeats 4000000 in
theorem p_Ref_showData_L36 {w : jw_T} (hw : jok w) {Γ : gm_T} {n : Nat} (hG : gd w Γ n)  {x : Bool} {φ : ph_T} {x0 : Nat} {x2 : Int32} {x3 : Int32} {q : Unit × ph_T} (H : f_Ref_showData_L36 Γ  φ x0 x2 x3 = some q) : J w M_Ref_showData 36 [some (.ref x0), none, some (.int x2), some (.int x3), none, none, none, none, none, none, none, none, none] [] (pic Γ φ) n x 0 0 (fq Γ n (.inl none) q.2) := by
  unfold f_Ref_showData_L36 at H
  refine J_iconst (v := 1) d_Ref_showData_36 (by decide) ?_
  refine J_goto (tgt := 41) d_Ref_showData_37 (by decide) ?_
  refine J.drop [true, false, true, true, false, false, false, false, false, false, false, false, false] rfl ?_
  exact p_Ref_showData_L41 hw hG  H
def f_Ref_showData (Γ : gm_T) (φ : ph_T) (this : Nat) (p0 : Int32) : Option (Unit × ph_T) :=
  @ite _ (Γ this = .inr 12) _ (
  Option.bind (f_Ref_unfinished Γ φ this p0) fun q45 =>
  if q45.1 = (-1 : Int32) then
    f_Ref_showData_L40 Γ  q45.2 this (((5 : Int32) * p0) + (1 : Int32)) q45.1
  else
    Option.bind (q45.2.2.2 this 28) fun a46 =>
    Option.bind (gA Γ a46 0) fun N47 =>
    Option.bind (ix q45.1 N47) fun k48 =>
    if (q45.2.1 a46 k48) = (-1 : Int32) then
      Option.bind (q45.2.2.2 this 10) fun a49 =>
      Option.bind (gA Γ a49 2) fun N50 =>
      Option.bind (ix p0 N50) fun k51 =>
      if (q45.2.1 a49 k51) = 0 then
        f_Ref_showData_L40 Γ  q45.2 this (((5 : Int32) * p0) + (1 : Int32)) q45.1
      else
        f_Ref_showData_L36 Γ  q45.2 this (((5 : Int32) * p0) + (1 : Int32)) q45.1
    else
      f_Ref_showData_L36 Γ  q45.2 this (((5 : Int32) * p0) + (1 : Int32)) q45.1
  ) none
set_option maxRecDepth 100000 in
set_option maxHeartbeats 4000000 in
theorem p_Ref_showData {w : jw_T} (hw : jok w) {Γ : gm_T} {n : Nat} (hG : gd w Γ n) {x : Bool} {φ : ph_T} {this : Nat} {p0 : Int32} {q : Unit × ph_T} (H : f_Ref_showData Γ φ this p0 = some q) : jc w M_Ref_showData [.ref this, .int p0] (pic Γ φ) n x 0 0 (fq Γ n (.inl none) q.2) := by
  refine jc.of (by simp only [jent_r, jent_i, jent_l, jent_a, jent_0]; exact Nat.le_of_ble_eq_true rfl) ?_
  have hls : jents [.ref this, .int p0] (jm_nL M_Ref_showData) = [some (.ref this), some (.int p0), none, none, none, none, none, none, none, none, none, none, none] := by simp only [jents, jent_r, jent_i, jent_l, jent_a, jent_0]; rfl
  rw [hls]
  clear hls
  unfold f_Ref_showData at H
  refine J_iconst (v := 5) d_Ref_showData_0 (by decide) ?_
  refine J_iload_n d_Ref_showData_1 rfl ?_
  refine J_imul d_Ref_showData_2 ?_
  refine J_iconst (v := 1) d_Ref_showData_3 (by decide) ?_
  refine J_iadd d_Ref_showData_4 ?_
  refine J_istore_n d_Ref_showData_5 (Nat.le_of_ble_eq_true rfl) ?_
  refine J_aload_n d_Ref_showData_6 rfl ?_
  refine J_iload_n d_Ref_showData_7 rfl ?_
  have g44 : Γ this = .inr 12 := by
    apply Classical.byContradiction
    intro q9
    rw [if_neg q9] at H
    cases H
  rw [if_pos g44] at H
  obtain ⟨q45, hq45, H⟩ := Option.bind_eq_some_iff.mp H
  refine J_callV (kc := 0) (ks := 0) (kc' := 0) (ks' := 0) (a := this) (ci := 12) (as := [.int p0]) (st := []) (mf_Ref_unfinished hw) (mv_Ref_363 hw) d_Ref_showData_8 ln_Ref_unfinished (by decide) (by first | exact Nat.le_of_ble_eq_true rfl | (simp only [List.map_cons, List.map_nil, List.sum_cons, List.sum_nil, va_rf_cat]; exact Nat.le_of_ble_eq_true rfl)) rfl ((hG _).1 _ g44 (by decide)).1 ((hG _).1 _ g44 (by decide)).2 (by unfold pic; rw [g44]; rfl) (jcl_at hw rfl) rfl (p_Ref_unfinished hw hG hq45) ?_ (fun E h' n' x' e1 => by cases e1.1)
  intro v9 h9 n9 x9 e9
  obtain ⟨e91, e92, e93⟩ := e9
  cases e91
  subst e92
  subst e93
  clear x
  rename Bool => x
  show J _ _ _ _ (_ :: _) _ _ _ _ _ _
  refine J_istore_n d_Ref_showData_11 (Nat.le_of_ble_eq_true rfl) ?_
  refine J_iload_n d_Ref_showData_12 rfl ?_
  refine J_iconst (v := -1) d_Ref_showData_13 (by decide) ?_
  refine J_icmp_eq (tgt := 40) d_Ref_showData_14 (by decide) ?_ ?_
  · intro c54
    rw [if_pos c54] at H
    refine J.drop [true, false, true, true, false, false, false, false, false, false, false, false, false] rfl ?_
    exact p_Ref_showData_L40 hw hG  H
  · intro c54
    rw [if_neg c54] at H
    refine J_aload_n d_Ref_showData_17 rfl ?_
    refine F_getR (ci := 12) (k := 28) hG (cf_Ref hw) (fl_Ref_73 hw) (by decide) (by decide) rfl d_Ref_showData_18 g44 ?_
    refine J_iload_n d_Ref_showData_21 rfl ?_
    obtain ⟨a46, ha46, H⟩ := Option.bind_eq_some_iff.mp H
    rw [j_rf ha46]
    obtain ⟨N47, hN47, H⟩ := Option.bind_eq_some_iff.mp H
    obtain ⟨k48, hk48, H⟩ := Option.bind_eq_some_iff.mp H
    refine F_iald k48 hw hG d_Ref_showData_22 (gA_some hN47) (ix_some hk48) ?_
    refine J_iconst (v := -1) d_Ref_showData_23 (by decide) ?_
    refine J_icmp_ne (tgt := 36) d_Ref_showData_24 (by decide) ?_ ?_
    · intro c53
      rw [if_neg c53] at H
      refine J.drop [true, false, true, true, false, false, false, false, false, false, false, false, false] rfl ?_
      exact p_Ref_showData_L36 hw hG  H
    · intro c53
      rw [if_pos c53] at H
      refine J_aload_n d_Ref_showData_27 rfl ?_
      refine F_getR (ci := 12) (k := 10) hG (cf_Ref hw) (fl_Ref_19 hw) (by decide) (by decide) rfl d_Ref_showData_28 g44 ?_
      refine J_iload_n d_Ref_showData_31 rfl ?_
      obtain ⟨a49, ha49, H⟩ := Option.bind_eq_some_iff.mp H
      rw [j_rf ha49]
      obtain ⟨N50, hN50, H⟩ := Option.bind_eq_some_iff.mp H
      obtain ⟨k51, hk51, H⟩ := Option.bind_eq_some_iff.mp H
      refine F_zald k51 hw hG d_Ref_showData_32 (gA_some hN50) (ix_some hk51) ?_
      refine J_if_eq (tgt := 40) d_Ref_showData_33 (by decide) ?_ ?_
      · intro c52
        rw [if_pos c52] at H
        refine J.drop [true, false, true, true, false, false, false, false, false, false, false, false, false] rfl ?_
        exact p_Ref_showData_L40 hw hG  H
      · intro c52
        rw [if_neg c52] at H
        refine J.drop [true, false, true, true, false, false, false, false, false, false, false, false, false] rfl ?_
        exact p_Ref_showData_L36 hw hG  H
