theorem ln_Memory_mark : (parseMethodDescriptor y_Memory_mark.desc).map (fun q => q.parameters.length) = some 3 := by decide +kernel
def f_Memory_mark_L119 (Γ : gm_T) (Kc27 : ph_T → Nat → Int32 → Int32 → Int32 → Int32 → Int32 → Int32 → Int32 → Option (Int32 × ph_T)) (φ : ph_T) (x0 : Nat) (x1 : Int32) (x3 : Int32) (x4 : Int32) (x5 : Int32) (x6 : Int32) (x7 : Int32) (x8 : Int32) (x11 : Int64) (y0 : Int64) (y1 : Int32) (y2 : Option Nat) : Option (Int32 × ph_T) :=
  Option.bind y2 fun a1 =>
  Option.bind (gA Γ a1 1) fun N2 =>
  Option.bind (ix y1 N2) fun k3 =>
  @ite _ (Γ x0 = .inr 2) _ (
  Option.bind (φ.2.2 x0 1) fun a5 =>
  Option.bind (gA Γ a5 1) fun N6 =>
  Option.bind (ix x8 N6) fun k7 =>
  Option.bind (f_Long_bitCount Γ (uL φ a1 k3 y0) (x11 ^^^ ((uL φ a1 k3 y0).2.1 a5 k7))) fun q8 =>
  Kc27 q8.2 x0 x1 x3 x4 x5 x6 (x7 + q8.1) (x8 + (1 : Int32))
  ) none
set_option maxRecDepth 100000 in
set_option maxHeartbeats 4000000 in
theorem p_Memory_mark_L119 {w : jw_T} (hw : jok w) {Γ : gm_T} {n : Nat} (hG : gd w Γ n) {Kc27 : ph_T → Nat → Int32 → Int32 → Int32 → Int32 → Int32 → Int32 → Int32 → Option (Int32 × ph_T)} (hKc27 : ∀ {x : Bool} {φ : ph_T} {x0 : Nat} {x1 : Int32} {x3 : Int32} {x4 : Int32} {x5 : Int32} {x6 : Int32} {x7 : Int32} {x8 : Int32} {q : Int32 × ph_T}, Kc27 φ x0 x1 x3 x4 x5 x6 x7 x8 = some q → J w M_Memory_mark 27 [some (.ref x0), some (.int x1), none, some (.int x3), some (.int x4), some (.int x5), some (.int x6), some (.int x7), some (.int x8), none, none, none, none] [] (pic Γ φ) n x 0 0 (fq Γ n (.inl (some (.int q.1))) q.2)) {x : Bool} {φ : ph_T} {x0 : Nat} {x1 : Int32} {x3 : Int32} {x4 : Int32} {x5 : Int32} {x6 : Int32} {x7 : Int32} {x8 : Int32} {x11 : Int64} {y0 : Int64} {y1 : Int32} {y2 : Option Nat} {q : Int32 × ph_T} (H : f_Memory_mark_L119 Γ Kc27 φ x0 x1 x3 x4 x5 x6 x7 x8 x11 y0 y1 y2 = some q) : J w M_Memory_mark 119 [some (.ref x0), some (.int x1), none, some (.int x3), some (.int x4), some (.int x5), some (.int x6), some (.int x7), some (.int x8), none, none, some (.long x11), none] [.long y0, .int y1, va_rf y2] (pic Γ φ) n x 0 0 (fq Γ n (.inl (some (.int q.1))) q.2) := by
  unfold f_Memory_mark_L119 at H
  obtain ⟨a1, ha1, H⟩ := Option.bind_eq_some_iff.mp H
  rw [j_rf ha1]
  obtain ⟨N2, hN2, H⟩ := Option.bind_eq_some_iff.mp H
  obtain ⟨k3, hk3, H⟩ := Option.bind_eq_some_iff.mp H
  refine F_last k3 hw hG d_Memory_mark_119 (gA_some hN2) (ix_some hk3) ?_
  refine J_iload d_Memory_mark_120 rfl ?_
  refine J_lload d_Memory_mark_122 rfl ?_
  refine J_aload_n d_Memory_mark_124 rfl ?_
  have g4 : Γ x0 = .inr 2 := by
    apply Classical.byContradiction
    intro q9
    rw [if_neg q9] at H
    cases H
  rw [if_pos g4] at H
  refine F_getR (ci := 2) (k := 1) hG (cf_Memory hw) (fl_Memory_15 hw) (by decide) (by decide) rfl d_Memory_mark_125 g4 ?_
  show J _ _ _ _ (va_rf (φ.2.2 x0 1) :: _) _ _ _ _ _ _
  refine J_iload d_Memory_mark_128 rfl ?_
  obtain ⟨a5, ha5, H⟩ := Option.bind_eq_some_iff.mp H
  rw [j_rf ha5]
  obtain ⟨N6, hN6, H⟩ := Option.bind_eq_some_iff.mp H
  obtain ⟨k7, hk7, H⟩ := Option.bind_eq_some_iff.mp H
  refine F_lald k7 hw hG d_Memory_mark_130 (gA_some hN6) (ix_some hk7) ?_
  refine J_lxor d_Memory_mark_131 ?_
  obtain ⟨q8, hq8, H⟩ := Option.bind_eq_some_iff.mp H
  refine J_callS (kc := 0) (ks := 0) (kc' := 0) (ks' := 0) (as := [.long (x11 ^^^ ((uL φ a1 k3 y0).2.1 a5 k7))]) (st := [.int x7]) (mf_Long_bitCount hw) (ms_Memory_37 hw) d_Memory_mark_132 ln_Long_bitCount (by decide) (by first | exact Nat.le_of_ble_eq_true rfl | (simp only [List.map_cons, List.map_nil, List.sum_cons, List.sum_nil, va_rf_cat]; exact Nat.le_of_ble_eq_true rfl)) rfl (p_Long_bitCount hw hG hq8) ?_ (fun E h' n' x' e1 => by cases e1.1)
  intro v9 h9 n9 x9 e9
  obtain ⟨e91, e92, e93⟩ := e9
  cases e91
  subst e92
  subst e93
  clear x
  rename Bool => x
  show J _ _ _ _ (_ :: _) _ _ _ _ _ _
  refine J_iadd d_Memory_mark_135 ?_
  refine J_istore d_Memory_mark_136 (Nat.le_of_ble_eq_true rfl) ?_
  refine J.ls (ls' := [some (.ref x0), some (.int x1), none, some (.int x3), some (.int x4), some (.int x5), some (.int x6), some (.int (x7 + q8.1)), some (.int x8), none, none, some (.long x11), none]) rfl ?_
  refine J_iinc (v := x8 + 1) d_Memory_mark_138 rfl (by rw [show Int32.ofInt 1 = (1 : Int32) from by decide]) ?_
  refine J.ls (ls' := [some (.ref x0), some (.int x1), none, some (.int x3), some (.int x4), some (.int x5), some (.int x6), some (.int (x7 + q8.1)), some (.int (x8 + (1 : Int32))), none, none, some (.long x11), none]) rfl ?_
  refine J_goto (tgt := 27) d_Memory_mark_141 (by decide) ?_
  refine J.drop [true, true, false, true, true, true, true, true, true, false, false, false, false] rfl ?_
  exact hKc27 H
def f_Memory_mark_L83 (Γ : gm_T) (Kc27 : ph_T → Nat → Int32 → Int32 → Int32 → Int32 → Int32 → Int32 → Int32 → Option (Int32 × ph_T)) (φ : ph_T) (x0 : Nat) (x1 : Int32) (x3 : Int32) (x4 : Int32) (x5 : Int32) (x6 : Int32) (x7 : Int32) (x8 : Int32) (x9 : Int64) : Option (Int32 × ph_T) :=
  @ite _ (Γ x0 = .inr 2) _ (
  Option.bind (φ.2.2 x0 1) fun a10 =>
  Option.bind (gA Γ a10 1) fun N11 =>
  Option.bind (ix x8 N11) fun k12 =>
  if x3 = 0 then
    f_Memory_mark_L119 Γ Kc27 φ x0 x1 x3 x4 x5 x6 x7 x8 (φ.2.1 a10 k12) ((φ.2.1 a10 k12) &&& (x9 ^^^ (-1 : Int64))) x8 (φ.2.2 x0 1)
  else
    f_Memory_mark_L119 Γ Kc27 φ x0 x1 x3 x4 x5 x6 x7 x8 (φ.2.1 a10 k12) ((φ.2.1 a10 k12) ||| x9) x8 (φ.2.2 x0 1)
  ) none
set_option maxRecDepth 100000 in
set_option maxHeartbeats 4000000 in
theorem p_Memory_mark_L83 {w : jw_T} (hw : jok w) {Γ : gm_T} {n : Nat} (hG : gd w Γ n) {Kc27 : ph_T → Nat → Int32 → Int32 → Int32 → Int32 → Int32 → Int32 → Int32 → Option (Int32 × ph_T)} (hKc27 : ∀ {x : Bool} {φ : ph_T} {x0 : Nat} {x1 : Int32} {x3 : Int32} {x4 : Int32} {x5 : Int32} {x6 : Int32} {x7 : Int32} {x8 : Int32} {q : Int32 × ph_T}, Kc27 φ x0 x1 x3 x4 x5 x6 x7 x8 = some q → J w M_Memory_mark 27 [some (.ref x0), some (.int x1), none, some (.int x3), some (.int x4), some (.int x5), some (.int x6), some (.int x7), some (.int x8), none, none, none, none] [] (pic Γ φ) n x 0 0 (fq Γ n (.inl (some (.int q.1))) q.2)) {x : Bool} {φ : ph_T} {x0 : Nat} {x1 : Int32} {x3 : Int32} {x4 : Int32} {x5 : Int32} {x6 : Int32} {x7 : Int32} {x8 : Int32} {x9 : Int64} {q : Int32 × ph_T} (H : f_Memory_mark_L83 Γ Kc27 φ x0 x1 x3 x4 x5 x6 x7 x8 x9 = some q) : J w M_Memory_mark 83 [some (.ref x0), some (.int x1), none, some (.int x3), some (.int x4), some (.int x5), some (.int x6), some (.int x7), some (.int x8), some (.long x9), none, none, none] [] (pic Γ φ) n x 0 0 (fq Γ n (.inl (some (.int q.1))) q.2) := by
  unfold f_Memory_mark_L83 at H
  refine J_aload_n d_Memory_mark_83 rfl ?_
  have g9 : Γ x0 = .inr 2 := by
    apply Classical.byContradiction
    intro q9
    rw [if_neg q9] at H
    cases H
  rw [if_pos g9] at H
  refine F_getR (ci := 2) (k := 1) hG (cf_Memory hw) (fl_Memory_15 hw) (by decide) (by decide) rfl d_Memory_mark_84 g9 ?_
  refine J_iload d_Memory_mark_87 rfl ?_
  obtain ⟨a10, ha10, H⟩ := Option.bind_eq_some_iff.mp H
  rw [j_rf ha10]
  obtain ⟨N11, hN11, H⟩ := Option.bind_eq_some_iff.mp H
  obtain ⟨k12, hk12, H⟩ := Option.bind_eq_some_iff.mp H
  refine F_lald k12 hw hG d_Memory_mark_89 (gA_some hN11) (ix_some hk12) ?_
  refine J_lstore d_Memory_mark_90 (Nat.le_of_ble_eq_true rfl) ?_
  refine J.ls (ls' := [some (.ref x0), some (.int x1), none, some (.int x3), some (.int x4), some (.int x5), some (.int x6), some (.int x7), some (.int x8), some (.long x9), none, some (.long (φ.2.1 a10 k12)), none]) rfl ?_
  refine J_aload_n d_Memory_mark_92 rfl ?_
  refine F_getR (ci := 2) (k := 1) hG (cf_Memory hw) (fl_Memory_15 hw) (by decide) (by decide) rfl d_Memory_mark_93 g9 ?_
  refine J_iload d_Memory_mark_96 rfl ?_
  refine J_iload_n d_Memory_mark_98 rfl ?_
  refine J_if_eq (tgt := 110) d_Memory_mark_99 (by decide) ?_ ?_
  · intro c13
    rw [if_pos c13] at H
    refine J_lload d_Memory_mark_110 rfl ?_
    refine J_lload d_Memory_mark_112 rfl ?_
    refine J_ldc2 (v := -1) d_Memory_mark_114 (kn_Memory_32 hw) ?_
    refine J_lxor d_Memory_mark_117 ?_
    refine J_land d_Memory_mark_118 ?_
    refine J.drop [true, true, false, true, true, true, true, true, true, false, false, true, false] rfl ?_
    exact p_Memory_mark_L119 hw hG hKc27 H
  · intro c13
    rw [if_neg c13] at H
    refine J_lload d_Memory_mark_102 rfl ?_
    refine J_lload d_Memory_mark_104 rfl ?_
    refine J_lor d_Memory_mark_106 ?_
    refine J_goto (tgt := 119) d_Memory_mark_107 (by decide) ?_
    refine J.drop [true, true, false, true, true, true, true, true, true, false, false, true, false] rfl ?_
    exact p_Memory_mark_L119 hw hG hKc27 H
def f_Memory_mark_L59 (Γ : gm_T) (Kc27 : ph_T → Nat → Int32 → Int32 → Int32 → Int32 → Int32 → Int32 → Int32 → Option (Int32 × ph_T)) (φ : ph_T) (x0 : Nat) (x1 : Int32) (x3 : Int32) (x4 : Int32) (x5 : Int32) (x6 : Int32) (x7 : Int32) (x8 : Int32) (x9 : Int64) : Option (Int32 × ph_T) :=
  if x8 = x6 then
    f_Memory_mark_L83 Γ Kc27 φ x0 x1 x3 x4 x5 x6 x7 x8 (x9 &&& ((Int64.toUInt64 (-1 : Int64) >>> (Int64.toUInt64 (Int32.toInt64 ((63 : Int32) - (x4 &&& (63 : Int32)))) &&& Int64.toUInt64 63)).toInt64))
  else
    f_Memory_mark_L83 Γ Kc27 φ x0 x1 x3 x4 x5 x6 x7 x8 x9
set_option maxRecDepth 100000 in
set_option maxHeartbeats 4000000 in
theorem p_Memory_mark_L59 {w : jw_T} (hw : jok w) {Γ : gm_T} {n : Nat} (hG : gd w Γ n) {Kc27 : ph_T → Nat → Int32 → Int32 → Int32 → Int32 → Int32 → Int32 → Int32 → Option (Int32 × ph_T)} (hKc27 : ∀ {x : Bool} {φ : ph_T} {x0 : Nat} {x1 : Int32} {x3 : Int32} {x4 : Int32} {x5 : Int32} {x6 : Int32} {x7 : Int32} {x8 : Int32} {q : Int32 × ph_T}, Kc27 φ x0 x1 x3 x4 x5 x6 x7 x8 = some q → J w M_Memory_mark 27 [some (.ref x0), some (.int x1), none, some (.int x3), some (.int x4), some (.int x5), some (.int x6), some (.int x7), some (.int x8), none, none, none, none] [] (pic Γ φ) n x 0 0 (fq Γ n (.inl (some (.int q.1))) q.2)) {x : Bool} {φ : ph_T} {x0 : Nat} {x1 : Int32} {x3 : Int32} {x4 : Int32} {x5 : Int32} {x6 : Int32} {x7 : Int32} {x8 : Int32} {x9 : Int64} {q : Int32 × ph_T} (H : f_Memory_mark_L59 Γ Kc27 φ x0 x1 x3 x4 x5 x6 x7 x8 x9 = some q) : J w M_Memory_mark 59 [some (.ref x0), some (.int x1), none, some (.int x3), some (.int x4), some (.int x5), some (.int x6), some (.int x7), some (.int x8), some (.long x9), none, none, none] [] (pic Γ φ) n x 0 0 (fq Γ n (.inl (some (.int q.1))) q.2) := by
  unfold f_Memory_mark_L59 at H
  refine J_iload d_Memory_mark_59 rfl ?_
  refine J_iload d_Memory_mark_61 rfl ?_
  refine J_icmp_ne (tgt := 83) d_Memory_mark_63 (by decide) ?_ ?_
  · intro c14
    rw [if_neg c14] at H
    refine J.drop [true, true, false, true, true, true, true, true, true, true, false, false, false] rfl ?_
    exact p_Memory_mark_L83 hw hG hKc27 H
  · intro c14
    rw [if_pos c14] at H
    refine J_lload d_Memory_mark_66 rfl ?_
    refine J_ldc2 (v := -1) d_Memory_mark_68 (kn_Memory_32 hw) ?_
    refine J_bipush (v := 63) d_Memory_mark_71 (by decide) ?_
    refine J_iload d_Memory_mark_73 rfl ?_
    refine J_bipush (v := 63) d_Memory_mark_75 (by decide) ?_
    refine J_iand d_Memory_mark_77 ?_
    refine J_isub d_Memory_mark_78 ?_
    refine J_lushr d_Memory_mark_79 ?_
    refine J_land d_Memory_mark_80 ?_
    refine J_lstore d_Memory_mark_81 (Nat.le_of_ble_eq_true rfl) ?_
    refine J.ls (ls' := [some (.ref x0), some (.int x1), none, some (.int x3), some (.int x4), some (.int x5), some (.int x6), some (.int x7), some (.int x8), some (.long (x9 &&& ((Int64.toUInt64 (-1 : Int64) >>> (Int64.toUInt64 (Int32.toInt64 ((63 : Int32) - (x4 &&& (63 : Int32)))) &&& Int64.toUInt64 63)).toInt64))), none, none, none]) rfl ?_
    refine J.drop [true, true, false, true, true, true, true, true, true, true, false, false, false] rfl ?_
    exact p_Memory_mark_L83 hw hG hKc27 H
def f_Memory_mark_L27 (Γ : gm_T)  : Nat → ph_T → Nat → Int32 → Int32 → Int32 → Int32 → Int32 → Int32 → Int32 → Option (Int32 × ph_T)
  | 0, _, _, _, _, _, _, _, _, _ => none
  | fu + 1, φ, x0, x1, x3, x4, x5, x6, x7, x8 =>
    if x6 < x8 then
      some (x7, φ)
    else
      if x8 = x5 then
        f_Memory_mark_L59 Γ (f_Memory_mark_L27 Γ  fu) φ x0 x1 x3 x4 x5 x6 x7 x8 ((-1 : Int64) &&& ((-1 : Int64) <<< (Int32.toInt64 (x1 &&& (63 : Int32)) &&& 63)))
      else
        f_Memory_mark_L59 Γ (f_Memory_mark_L27 Γ  fu) φ x0 x1 x3 x4 x5 x6 x7 x8 (-1 : Int64)
set_option maxRecDepth 100000 in
set_option maxHeartbeats 4000000 in
theorem p_Memory_mark_L27 {w : jw_T} (hw : jok w) {Γ : gm_T} {n : Nat} (hG : gd w Γ n)  : ∀ (fu : Nat) {x : Bool} {φ : ph_T} {x0 : Nat} {x1 : Int32} {x3 : Int32} {x4 : Int32} {x5 : Int32} {x6 : Int32} {x7 : Int32} {x8 : Int32} {q : Int32 × ph_T}, f_Memory_mark_L27 Γ  fu φ x0 x1 x3 x4 x5 x6 x7 x8 = some q → J w M_Memory_mark 27 [some (.ref x0), some (.int x1), none, some (.int x3), some (.int x4), some (.int x5), some (.int x6), some (.int x7), some (.int x8), none, none, none, none] [] (pic Γ φ) n x 0 0 (fq Γ n (.inl (some (.int q.1))) q.2) := by
  intro fu
  induction fu with
  | zero =>
    intro x φ x0 x1 x3 x4 x5 x6 x7 x8 q H
    cases H
  | succ fu ih =>
    intro x φ x0 x1 x3 x4 x5 x6 x7 x8 q H
    unfold f_Memory_mark_L27 at H
    refine J_iload d_Memory_mark_27 rfl ?_
    refine J_iload d_Memory_mark_29 rfl ?_
    refine J_icmp_gt (tgt := 144) d_Memory_mark_31 (by decide) ?_ ?_
    · intro c16
      rw [if_pos c16] at H
      refine J_iload d_Memory_mark_144 rfl ?_
      have H := Option.some.inj H
      subst H
      exact J_iret (st := []) d_Memory_mark_146 rfl rfl ⟨rfl, rfl, rfl⟩
    · intro c16
      rw [if_neg c16] at H
      refine J_ldc2 (v := -1) d_Memory_mark_34 (kn_Memory_32 hw) ?_
      refine J_lstore d_Memory_mark_37 (Nat.le_of_ble_eq_true rfl) ?_
      refine J.ls (ls' := [some (.ref x0), some (.int x1), none, some (.int x3), some (.int x4), some (.int x5), some (.int x6), some (.int x7), some (.int x8), some (.long (-1 : Int64)), none, none, none]) rfl ?_
      refine J_iload d_Memory_mark_39 rfl ?_
      refine J_iload d_Memory_mark_41 rfl ?_
      refine J_icmp_ne (tgt := 59) d_Memory_mark_43 (by decide) ?_ ?_
      · intro c15
        rw [if_neg c15] at H
        refine J.drop [true, true, false, true, true, true, true, true, true, true, false, false, false] rfl ?_
        exact p_Memory_mark_L59 hw hG ih H
      · intro c15
        rw [if_pos c15] at H
        refine J_lload d_Memory_mark_46 rfl ?_
        refine J_ldc2 (v := -1) d_Memory_mark_48 (kn_Memory_32 hw) ?_
        refine J_iload_n d_Memory_mark_51 rfl ?_
        refine J_bipush (v := 63) d_Memory_mark_52 (by decide) ?_
        refine J_iand d_Memory_mark_54 ?_
        refine J_lshl d_Memory_mark_55 ?_
        refine J_land d_Memory_mark_56 ?_
        refine J_lstore d_Memory_mark_57 (Nat.le_of_ble_eq_true rfl) ?_
        refine J.ls (ls' := [some (.ref x0), some (.int x1), none, some (.int x3), some (.int x4), some (.int x5), some (.int x6), some (.int x7), some (.int x8), some (.long ((-1 : Int64) &&& ((-1 : Int64) <<< (Int32.toInt64 (x1 &&& (63 : Int32)) &&& 63)))), none, none, none]) rfl ?_
        refine J.drop [true, true, false, true, true, true, true, true, true, true, false, false, false] rfl ?_
        exact p_Memory_mark_L59 hw hG ih H
def f_Memory_mark (Γ : gm_T) (φ : ph_T) (this : Nat) (p0 : Int32) (p1 : Int32) (p2 : Int32) : Option (Int32 × ph_T) :=
  Option.bind (f_Memory_spoiltWordOf Γ φ p0) fun q17 =>
  Option.bind (f_Memory_spoiltWordOf Γ q17.2 ((p0 + p1) - (1 : Int32))) fun q18 =>
  f_Memory_mark_L27 Γ  jF q18.2 this p0 p2 ((p0 + p1) - (1 : Int32)) q17.1 q18.1 (0 : Int32) q17.1
set_option maxRecDepth 100000 in
set_option maxHeartbeats 4000000 in
theorem p_Memory_mark {w : jw_T} (hw : jok w) {Γ : gm_T} {n : Nat} (hG : gd w Γ n) {x : Bool} {φ : ph_T} {this : Nat} {p0 : Int32} {p1 : Int32} {p2 : Int32} {q : Int32 × ph_T} (H : f_Memory_mark Γ φ this p0 p1 p2 = some q) : jc w M_Memory_mark [.ref this, .int p0, .int p1, .int p2] (pic Γ φ) n x 0 0 (fq Γ n (.inl (some (.int q.1))) q.2) := by
  refine jc.of (by simp only [jent_r, jent_i, jent_l, jent_a, jent_0]; exact Nat.le_of_ble_eq_true rfl) ?_
  have hls : jents [.ref this, .int p0, .int p1, .int p2] (jm_nL M_Memory_mark) = [some (.ref this), some (.int p0), some (.int p1), some (.int p2), none, none, none, none, none, none, none, none, none] := by simp only [jents, jent_r, jent_i, jent_l, jent_a, jent_0]; rfl
  rw [hls]
  clear hls
  unfold f_Memory_mark at H
  refine J_iload_n d_Memory_mark_0 rfl ?_
  refine J_iload_n d_Memory_mark_1 rfl ?_
  refine J_iadd d_Memory_mark_2 ?_
  refine J_iconst (v := 1) d_Memory_mark_3 (by decide) ?_
  refine J_isub d_Memory_mark_4 ?_
  refine J_istore d_Memory_mark_5 (Nat.le_of_ble_eq_true rfl) ?_
  refine J.ls (ls' := [some (.ref this), some (.int p0), some (.int p1), some (.int p2), some (.int ((p0 + p1) - (1 : Int32))), none, none, none, none, none, none, none, none]) rfl ?_
  refine J_iload_n d_Memory_mark_7 rfl ?_
  obtain ⟨q17, hq17, H⟩ := Option.bind_eq_some_iff.mp H
  refine J_callS (kc := 0) (ks := 0) (kc' := 0) (ks' := 0) (as := [.int p0]) (st := []) (mf_Memory_spoiltWordOf hw) (ms_Memory_34 hw) d_Memory_mark_8 ln_Memory_spoiltWordOf (by decide) (by first | exact Nat.le_of_ble_eq_true rfl | (simp only [List.map_cons, List.map_nil, List.sum_cons, List.sum_nil, va_rf_cat]; exact Nat.le_of_ble_eq_true rfl)) rfl (p_Memory_spoiltWordOf hw hG hq17) ?_ (fun E h' n' x' e1 => by cases e1.1)
  intro v9 h9 n9 x9 e9
  obtain ⟨e91, e92, e93⟩ := e9
  cases e91
  subst e92
  subst e93
  clear x
  rename Bool => x
  show J _ _ _ _ (_ :: _) _ _ _ _ _ _
  refine J_istore d_Memory_mark_11 (Nat.le_of_ble_eq_true rfl) ?_
  refine J.ls (ls' := [some (.ref this), some (.int p0), some (.int p1), some (.int p2), some (.int ((p0 + p1) - (1 : Int32))), some (.int q17.1), none, none, none, none, none, none, none]) rfl ?_
  refine J_iload d_Memory_mark_13 rfl ?_
  obtain ⟨q18, hq18, H⟩ := Option.bind_eq_some_iff.mp H
  refine J_callS (kc := 0) (ks := 0) (kc' := 0) (ks' := 0) (as := [.int ((p0 + p1) - (1 : Int32))]) (st := []) (mf_Memory_spoiltWordOf hw) (ms_Memory_34 hw) d_Memory_mark_15 ln_Memory_spoiltWordOf (by decide) (by first | exact Nat.le_of_ble_eq_true rfl | (simp only [List.map_cons, List.map_nil, List.sum_cons, List.sum_nil, va_rf_cat]; exact Nat.le_of_ble_eq_true rfl)) rfl (p_Memory_spoiltWordOf hw hG hq18) ?_ (fun E h' n' x' e1 => by cases e1.1)
  intro v9 h9 n9 x9 e9
  obtain ⟨e91, e92, e93⟩ := e9
  cases e91
  subst e92
  subst e93
  clear x
  rename Bool => x
  show J _ _ _ _ (_ :: _) _ _ _ _ _ _
  refine J_istore d_Memory_mark_18 (Nat.le_of_ble_eq_true rfl) ?_
  refine J.ls (ls' := [some (.ref this), some (.int p0), some (.int p1), some (.int p2), some (.int ((p0 + p1) - (1 : Int32))), some (.int q17.1), some (.int q18.1), none, none, none, none, none, none]) rfl ?_
  refine J_iconst (v := 0) d_Memory_mark_20 (by decide) ?_
  refine J_istore d_Memory_mark_21 (Nat.le_of_ble_eq_true rfl) ?_
  refine J.ls (ls' := [some (.ref this), some (.int p0), some (.int p1), some (.int p2), some (.int ((p0 + p1) - (1 : Int32))), some (.int q17.1), some (.int q18.1), some (.int (0 : Int32)), none, none, none, none, none]) rfl ?_
  refine J_iload d_Memory_mark_23 rfl ?_
  refine J_istore d_Memory_mark_25 (Nat.le_of_ble_eq_true rfl) ?_
  refine J.ls (ls' := [some (.ref this), some (.int p0), some (.int p1), some (.int p2), some (.int ((p0 + p1) - (1 : Int32))), some (.int q17.1), some (.int q18.1), some (.int (0 : Int32)), some (.int q17.1), none, none, none, none]) rfl ?_
  refine J.drop [true, true, false, true, true, true, true, true, true, false, false, false, false] rfl ?_
  exact p_Memory_mark_L27 hw hG  _ H
theorem ln_Memory_wordOf : (parseMethodDescriptor y_Memory_wordOf.desc).map (fun q => q.parameters.length) = some 1 := by decide +kernel
def f_Memory_wordOf (Γ : gm_T) (φ : ph_T) (p0 : Int32) : Option (Int32 × ph_T) :=
  some (((p0 >>> ((3 : Int32) &&& 31)) &&& (8191 : Int32)), φ)
set_option maxRecDepth 100000 in
set_option maxHeartbeats 4000000 in
theorem p_Memory_wordOf {w : jw_T} (hw : jok w) {Γ : gm_T} {n : Nat} (hG : gd w Γ n) {x : Bool} {φ : ph_T} {p0 : Int32} {q : Int32 × ph_T} (H : f_Memory_wordOf Γ φ p0 = some q) : jc w M_Memory_wordOf [.int p0] (pic Γ φ) n x 0 0 (fq Γ n (.inl (some (.int q.1))) q.2) := by
  refine jc.of (by simp only [jent_r, jent_i, jent_l, jent_a, jent_0]; exact Nat.le_of_ble_eq_true rfl) ?_
  have hls : jents [.int p0] (jm_nL M_Memory_wordOf) = [some (.int p0)] := by simp only [jents, jent_r, jent_i, jent_l, jent_a, jent_0]; rfl
  rw [hls]
  clear hls
  unfold f_Memory_wordOf at H
  refine J_iload_n d_Memory_wordOf_0 rfl ?_
  refine J_iconst (v := 3) d_Memory_wordOf_1 (by decide) ?_
  refine J_ishr d_Memory_wordOf_2 ?_
  refine J_sipush (v := 8191) d_Memory_wordOf_3 (by decide) ?_
  refine J_iand d_Memory_wordOf_6 ?_
  have H := Option.some.inj H
  subst H
  exact J_iret (st := []) d_Memory_wordOf_7 rfl rfl ⟨rfl, rfl, rfl⟩
theorem ln_Memory_byteAt : (parseMethodDescriptor y_Memory_byteAt.desc).map (fun q => q.parameters.length) = some 1 := by decide +kernel
def f_Memory_byteAt (Γ : gm_T) (φ : ph_T) (this : Nat) (p0 : Int32) : Option (Int32 × ph_T) :=
  @ite _ (Γ this = .inr 2) _ (
  Option.bind (f_Memory_wordOf Γ φ p0) fun q2 =>
  Option.bind (φ.2.2 this 0) fun a3 =>
  Option.bind (gA Γ a3 1) fun N4 =>
  Option.bind (ix q2.1 N4) fun k5 =>
  some (((Int64.toInt32 ((q2.2.2.1 a3 k5) >>> (Int32.toInt64 ((8 : Int32) * (p0 &&& (7 : Int32))) &&& 63))) &&& (255 : Int32)), q2.2)
  ) none
set_option maxRecDepth 100000 in
set_option maxHeartbeats 4000000 in
theorem p_Memory_byteAt {w : jw_T} (hw : jok w) {Γ : gm_T} {n : Nat} (hG : gd w Γ n) {x : Bool} {φ : ph_T} {this : Nat} {p0 : Int32} {q : Int32 × ph_T} (H : f_Memory_byteAt Γ φ this p0 = some q) : jc w M_Memory_byteAt [.ref this, .int p0] (pic Γ φ) n x 0 0 (fq Γ n (.inl (some (.int q.1))) q.2) := by
  refine jc.of (by simp only [jent_r, jent_i, jent_l, jent_a, jent_0]; exact Nat.le_of_ble_eq_true rfl) ?_
  have hls : jents [.ref this, .int p0] (jm_nL M_Memory_byteAt) = [some (.ref this), some (.int p0)] := by simp only [jents, jent_r, jent_i, jent_l, jent_a, jent_0]; rfl
  rw [hls]
  clear hls
  unfold f_Memory_byteAt at H
  refine J_aload_n d_Memory_byteAt_0 rfl ?_
  have g1 : Γ this = .inr 2 := by
    apply Classical.byContradiction
    intro q9
    rw [if_neg q9] at H
    cases H
  rw [if_pos g1] at H
  refine F_getR (ci := 2) (k := 0) hG (cf_Memory hw) (fl_Memory_9 hw) (by decide) (by decide) rfl d_Memory_byteAt_1 g1 ?_
  refine J_iload_n d_Memory_byteAt_4 rfl ?_
  obtain ⟨q2, hq2, H⟩ := Option.bind_eq_some_iff.mp H
  refine J_callS (kc := 0) (ks := 0) (kc' := 0) (ks' := 0) (as := [.int p0]) (st := [va_rf (φ.2.2 this 0)]) (mf_Memory_wordOf hw) (ms_Memory_24 hw) d_Memory_byteAt_5 ln_Memory_wordOf (by decide) (by first | exact Nat.le_of_ble_eq_true rfl | (simp only [List.map_cons, List.map_nil, List.sum_cons, List.sum_nil, va_rf_cat]; exact Nat.le_of_ble_eq_true rfl)) rfl (p_Memory_wordOf hw hG hq2) ?_ (fun E h' n' x' e1 => by cases e1.1)
  intro v9 h9 n9 x9 e9
  obtain ⟨e91, e92, e93⟩ := e9
  cases e91
  subst e92
  subst e93
  clear x
  rename Bool => x
  show J _ _ _ _ (_ :: _) _ _ _ _ _ _
  obtain ⟨a3, ha3, H⟩ := Option.bind_eq_some_iff.mp H
  rw [j_rf ha3]
  obtain ⟨N4, hN4, H⟩ := Option.bind_eq_some_iff.mp H
  obtain ⟨k5, hk5, H⟩ := Option.bind_eq_some_iff.mp H
  refine F_lald k5 hw hG d_Memory_byteAt_8 (gA_some hN4) (ix_some hk5) ?_
  refine J_bipush (v := 8) d_Memory_byteAt_9 (by decide) ?_
  refine J_iload_n d_Memory_byteAt_11 rfl ?_
  refine J_bipush (v := 7) d_Memory_byteAt_12 (by decide) ?_
  refine J_iand d_Memory_byteAt_14 ?_
  refine J_imul d_Memory_byteAt_15 ?_
  refine J_lshr d_Memory_byteAt_16 ?_
  refine J_l2i d_Memory_byteAt_17 ?_
  refine J_sipush (v := 255) d_Memory_byteAt_18 (by decide) ?_
  refine J_iand d_Memory_byteAt_21 ?_
  have H := Option.some.inj H
  subst H
  exact J_iret (st := []) d_Memory_byteAt_22 rfl rfl ⟨rfl, rfl, rfl⟩
theorem ln_Bus_laneBits : (parseMethodDescriptor y_Bus_laneBits.desc).map (fun q => q.parameters.length) = some 1 := by decide +kernel
def f_Bus_laneBits_L30 (Γ : gm_T) (Kc4 : ph_T → Int32 → Int64 → Int32 → Option (Int64 × ph_T)) (φ : ph_T) (x0 : Int32) (x1 : Int64) (x3 : Int32) : Option (Int64 × ph_T) :=
  Kc4 φ x0 x1 (x3 + (1 : Int32))
set_option maxRecDepth 100000 in
set_option maxHeartbeats 4000000 in
theorem p_Bus_laneBits_L30 {w : jw_T} (hw : jok w) {Γ : gm_T} {n : Nat} (hG : gd w Γ n) {Kc4 : ph_T → Int32 → Int64 → Int32 → Option (Int64 × ph_T)} (hKc4 : ∀ {x : Bool} {φ : ph_T} {x0 : Int32} {x1 : Int64} {x3 : Int32} {q : Int64 × ph_T}, Kc4 φ x0 x1 x3 = some q → J w M_Bus_laneBits 4 [some (.int x0), some (.long x1), none, some (.int x3)] [] (pic Γ φ) n x 0 0 (fq Γ n (.inl (some (.long q.1))) q.2)) {x : Bool} {φ : ph_T} {x0 : Int32} {x1 : Int64} {x3 : Int32} {q : Int64 × ph_T} (H : f_Bus_laneBits_L30 Γ Kc4 φ x0 x1 x3 = some q) : J w M_Bus_laneBits 30 [some (.int x0), some (.long x1), none, some (.int x3)] [] (pic Γ φ) n x 0 0 (fq Γ n (.inl (some (.long q.1))) q.2) := by
  unfold f_Bus_laneBits_L30 at H
  refine J_iinc (v := x3 + 1) d_Bus_laneBits_30 rfl (by rw [show Int32.ofInt 1 = (1 : Int32) from by decide]) ?_
  refine J.ls (ls' := [some (.int x0), some (.long x1), none, some (.int (x3 + (1 : Int32)))]) rfl ?_
  refine J_goto (tgt := 4) d_Bus_laneBits_33 (by decide) ?_
  refine J.drop [true, true, false, true] rfl ?_
  exact hKc4 H
def f_Bus_laneBits_L4 (Γ : gm_T)  : Nat → ph_T → Int32 → Int64 → Int32 → Option (Int64 × ph_T)
  | 0, _, _, _, _ => none
  | fu + 1, φ, x0, x1, x3 =>
    if (8 : Int32) ≤ x3 then
      some (x1, φ)
    else
      if ((x0 >>> (x3 &&& 31)) &&& (1 : Int32)) = (1 : Int32) then
        f_Bus_laneBits_L30 Γ (f_Bus_laneBits_L4 Γ  fu) φ x0 (x1 ||| ((255 : Int64) <<< (Int32.toInt64 ((8 : Int32) * x3) &&& 63))) x3
      else
        f_Bus_laneBits_L30 Γ (f_Bus_laneBits_L4 Γ  fu) φ x0 x1 x3
set_option maxRecDepth 100000 in
set_option maxHeartbeats 4000000 in
theorem p_Bus_laneBits_L4 {w : jw_T} (hw : jok w) {Γ : gm_T} {n : Nat} (hG : gd w Γ n)  : ∀ (fu : Nat) {x : Bool} {φ : ph_T} {x0 : Int32} {x1 : Int64} {x3 : Int32} {q : Int64 × ph_T}, f_Bus_laneBits_L4 Γ  fu φ x0 x1 x3 = some q → J w M_Bus_laneBits 4 [some (.int x0), some (.long x1), none, some (.int x3)] [] (pic Γ φ) n x 0 0 (fq Γ n (.inl (some (.long q.1))) q.2) := by
  intro fu
  induction fu with
  | zero =>
    intro x φ x0 x1 x3 q H
    cases H
  | succ fu ih =>
    intro x φ x0 x1 x3 q H
    unfold f_Bus_laneBits_L4 at H
    refine J_iload_n d_Bus_laneBits_4 rfl ?_
    refine J_bipush (v := 8) d_Bus_laneBits_5 (by decide) ?_
    refine J_icmp_ge (tgt := 36) d_Bus_laneBits_7 (by decide) ?_ ?_
    · intro c2
      rw [if_pos c2] at H
      refine J_lload_n d_Bus_laneBits_36 rfl ?_
      have H := Option.some.inj H
      subst H
      exact J_lret (st := []) d_Bus_laneBits_37 rfl ⟨rfl, rfl, rfl⟩
    · intro c2
      rw [if_neg c2] at H
      refine J_iload_n d_Bus_laneBits_10 rfl ?_
      refine J_iload_n d_Bus_laneBits_11 rfl ?_
      refine J_ishr d_Bus_laneBits_12 ?_
      refine J_iconst (v := 1) d_Bus_laneBits_13 (by decide) ?_
      refine J_iand d_Bus_laneBits_14 ?_
      refine J_iconst (v := 1) d_Bus_laneBits_15 (by decide) ?_
      refine J_icmp_ne (tgt := 30) d_Bus_laneBits_16 (by decide) ?_ ?_
      · intro c1
        rw [if_neg c1] at H
        refine J.drop [true, true, false, true] rfl ?_
        exact p_Bus_laneBits_L30 hw hG ih H
      · intro c1
        rw [if_pos c1] at H
        refine J_lload_n d_Bus_laneBits_19 rfl ?_
        refine J_ldc2 (v := 255) d_Bus_laneBits_20 (kn_Bus_351 hw) ?_
        refine J_bipush (v := 8) d_Bus_laneBits_23 (by decide) ?_
        refine J_iload_n d_Bus_laneBits_25 rfl ?_
        refine J_imul d_Bus_laneBits_26 ?_
        refine J_lshl d_Bus_laneBits_27 ?_
        refine J_lor d_Bus_laneBits_28 ?_
        refine J_lstore_n d_Bus_laneBits_29 (Nat.le_of_ble_eq_true rfl) ?_
        refine J.ls (ls' := [some (.int x0), some (.long (x1 ||| ((255 : Int64) <<< (Int32.toInt64 ((8 : Int32) * x3) &&& 63)))), none, some (.int x3)]) rfl ?_
        refine J.drop [true, true, false, true] rfl ?_
        exact p_Bus_laneBits_L30 hw hG ih H
def f_Bus_laneBits (Γ : gm_T) (φ : ph_T) (p0 : Int32) : Option (Int64 × ph_T) :=
  f_Bus_laneBits_L4 Γ  jF φ p0 (0 : Int64) (0 : Int32)
set_option maxRecDepth 100000 in
set_option maxHeartbeats 4000000 in
theorem p_Bus_laneBits {w : jw_T} (hw : jok w) {Γ : gm_T} {n : Nat} (hG : gd w Γ n) {x : Bool} {φ : ph_T} {p0 : Int32} {q : Int64 × ph_T} (H : f_Bus_laneBits Γ φ p0 = some q) : jc w M_Bus_laneBits [.int p0] (pic Γ φ) n x 0 0 (fq Γ n (.inl (some (.long q.1))) q.2) := by
  refine jc.of (by simp only [jent_r, jent_i, jent_l, jent_a, jent_0]; exact Nat.le_of_ble_eq_true rfl) ?_
  have hls : jents [.int p0] (jm_nL M_Bus_laneBits) = [some (.int p0), none, none, none] := by simp only [jents, jent_r, jent_i, jent_l, jent_a, jent_0]; rfl
  rw [hls]
  clear hls
  unfold f_Bus_laneBits at H
  refine J_lconst (v := 0) d_Bus_laneBits_0 (by decide) ?_
  refine J_lstore_n d_Bus_laneBits_1 (Nat.le_of_ble_eq_true rfl) ?_
  refine J.ls (ls' := [some (.int p0), some (.long (0 : Int64)), none, none]) rfl ?_
  refine J_iconst (v := 0) d_Bus_laneBits_2 (by decide) ?_
  refine J_istore_n d_Bus_laneBits_3 (Nat.le_of_ble_eq_true rfl) ?_
  refine J.ls (ls' := [some (.int p0), some (.long (0 : Int64)), none, some (.int (0 : Int32))]) rfl ?_
  refine J.drop [true, true, false, true] rfl ?_
  exact p_Bus_laneBits_L4 hw hG  _ H
theorem ln_Memory_store : (parseMethodDescriptor y_Memory_store.desc).map (fun q => q.parameters.length) = some 3 := by decide +kernel
def f_Memory_store (Γ : gm_T) (φ : ph_T) (this : Nat) (p0 : Int32) (p1 : Int64) (p2 : Int32) : Option (Unit × ph_T) :=
  Option.bind (f_Bus_laneBits Γ φ p2) fun q1 =>
  Option.bind (f_Memory_wordOf Γ q1.2 p0) fun q2 =>
  @ite _ (Γ this = .inr 2) _ (
  Option.bind (q2.2.2.2 this 0) fun a4 =>
  Option.bind (gA Γ a4 1) fun N5 =>
  Option.bind (ix q2.1 N5) fun k6 =>
  Option.bind (gA Γ a4 1) fun N7 =>
  Option.bind (ix q2.1 N7) fun k8 =>
  some ((), (uL q2.2 a4 k8 (((q2.2.2.1 a4 k6) &&& (q1.1 ^^^ (-1 : Int64))) ||| (p1 &&& q1.1))))
  ) none
set_option maxRecDepth 100000 in
set_option maxHeartbeats 4000000 in
theorem p_Memory_store {w : jw_T} (hw : jok w) {Γ : gm_T} {n : Nat} (hG : gd w Γ n) {x : Bool} {φ : ph_T} {this : Nat} {p0 : Int32} {p1 : Int64} {p2 : Int32} {q : Unit × ph_T} (H : f_Memory_store Γ φ this p0 p1 p2 = some q) : jc w M_Memory_store [.ref this, .int p0, .long p1, .int p2] (pic Γ φ) n x 0 0 (fq Γ n (.inl none) q.2) := by
  refine jc.of (by simp only [jent_r, jent_i, jent_l, jent_a, jent_0]; exact Nat.le_of_ble_eq_true rfl) ?_
  have hls : jents [.ref this, .int p0, .long p1, .int p2] (jm_nL M_Memory_store) = [some (.ref this), some (.int p0), some (.long p1), none, some (.int p2), none, none, none] := by simp only [jents, jent_r, jent_i, jent_l, jent_a, jent_0]; rfl
  rw [hls]
  clear hls
  unfold f_Memory_store at H
  refine J_iload d_Memory_store_0 rfl ?_
  obtain ⟨q1, hq1, H⟩ := Option.bind_eq_some_iff.mp H
  refine J_callS (kc := 0) (ks := 0) (kc' := 0) (ks' := 0) (as := [.int p2]) (st := []) (mf_Bus_laneBits hw) (ms_Memory_28 hw) d_Memory_store_2 ln_Bus_laneBits (by decide) (by first | exact Nat.le_of_ble_eq_true rfl | (simp only [List.map_cons, List.map_nil, List.sum_cons, List.sum_nil, va_rf_cat]; exact Nat.le_of_ble_eq_true rfl)) rfl (p_Bus_laneBits hw hG hq1) ?_ (fun E h' n' x' e1 => by cases e1.1)
  intro v9 h9 n9 x9 e9
  obtain ⟨e91, e92, e93⟩ := e9
  cases e91
  subst e92
  subst e93
  clear x
  rename Bool => x
  show J _ _ _ _ (_ :: _) _ _ _ _ _ _
  refine J_lstore d_Memory_store_5 (Nat.le_of_ble_eq_true rfl) ?_
  refine J.ls (ls' := [some (.ref this), some (.int p0), some (.long p1), none, some (.int p2), some (.long q1.1), none, none]) rfl ?_
  refine J_iload_n d_Memory_store_7 rfl ?_
  obtain ⟨q2, hq2, H⟩ := Option.bind_eq_some_iff.mp H
  refine J_callS (kc := 0) (ks := 0) (kc' := 0) (ks' := 0) (as := [.int p0]) (st := []) (mf_Memory_wordOf hw) (ms_Memory_24 hw) d_Memory_store_8 ln_Memory_wordOf (by decide) (by first | exact Nat.le_of_ble_eq_true rfl | (simp only [List.map_cons, List.map_nil, List.sum_cons, List.sum_nil, va_rf_cat]; exact Nat.le_of_ble_eq_true rfl)) rfl (p_Memory_wordOf hw hG hq2) ?_ (fun E h' n' x' e1 => by cases e1.1)
  intro v9 h9 n9 x9 e9
  obtain ⟨e91, e92, e93⟩ := e9
  cases e91
  subst e92
  subst e93
  clear x
  rename Bool => x
  show J _ _ _ _ (_ :: _) _ _ _ _ _ _
  refine J_istore d_Memory_store_11 (Nat.le_of_ble_eq_true rfl) ?_
  refine J.ls (ls' := [some (.ref this), some (.int p0), some (.long p1), none, some (.int p2), some (.long q1.1), none, some (.int q2.1)]) rfl ?_
  refine J_aload_n d_Memory_store_13 rfl ?_
  have g3 : Γ this = .inr 2 := by
    apply Classical.byContradiction
    intro q9
    rw [if_neg q9] at H
    cases H
  rw [if_pos g3] at H
  refine F_getR (ci := 2) (k := 0) hG (cf_Memory hw) (fl_Memory_9 hw) (by decide) (by decide) rfl d_Memory_store_14 g3 ?_
  refine J_iload d_Memory_store_17 rfl ?_
  refine J_aload_n d_Memory_store_19 rfl ?_
  refine F_getR (ci := 2) (k := 0) hG (cf_Memory hw) (fl_Memory_9 hw) (by decide) (by decide) rfl d_Memory_store_20 g3 ?_
  refine J_iload d_Memory_store_23 rfl ?_
  obtain ⟨a4, ha4, H⟩ := Option.bind_eq_some_iff.mp H
  rw [j_rf ha4]
  obtain ⟨N5, hN5, H⟩ := Option.bind_eq_some_iff.mp H
  obtain ⟨k6, hk6, H⟩ := Option.bind_eq_some_iff.mp H
  refine F_lald k6 hw hG d_Memory_store_25 (gA_some hN5) (ix_some hk6) ?_
  refine J_lload d_Memory_store_26 rfl ?_
  refine J_ldc2 (v := -1) d_Memory_store_28 (kn_Memory_32 hw) ?_
  refine J_lxor d_Memory_store_31 ?_
  refine J_land d_Memory_store_32 ?_
  refine J_lload_n d_Memory_store_33 rfl ?_
  refine J_lload d_Memory_store_34 rfl ?_
  refine J_land d_Memory_store_36 ?_
  refine J_lor d_Memory_store_37 ?_
  obtain ⟨N7, hN7, H⟩ := Option.bind_eq_some_iff.mp H
  obtain ⟨k8, hk8, H⟩ := Option.bind_eq_some_iff.mp H
  refine F_last k8 hw hG d_Memory_store_38 (gA_some hN7) (ix_some hk8) ?_
  have H := Option.some.inj H
  subst H
  exact J_vret (st := []) d_Memory_store_39 rfl ⟨rfl, rfl, rfl⟩
theorem ln_Burst_contentOf : (parseMethodDescriptor y_Burst_contentOf.desc).map (fun q => q.parameters.length) = some 3 := by decide +kernel
def f_Burst_contentOf_L13 (Γ : gm_T)  (φ : ph_T) (x0 : Int32) (x1 : Int32) (x2 : Int32) (y0 : Int64) : Option (Int64 × ph_T) :=
  some ((((((Int32.toInt64 x2) ||| ((Int32.toInt64 x1) <<< (Int32.toInt64 (6 : Int32) &&& 63))) ||| (((Int32.toInt64 x0) &&& (255 : Int64)) <<< (Int32.toInt64 (22 : Int32) &&& 63))) ||| (y0 <<< (Int32.toInt64 (30 : Int32) &&& 63))) ||| ((Int32.toInt64 ((x0 >>> ((11 : Int32) &&& 31)) &&& (15 : Int32))) <<< (Int32.toInt64 (31 : Int32) &&& 63))), φ)
set_option maxRecDepth 100000 in
set_option maxHeartbeats 4000000 in
theorem p_Burst_contentOf_L13 {w : jw_T} (hw : jok w) {Γ : gm_T} {n : Nat} (hG : gd w Γ n)  {x : Bool} {φ : ph_T} {x0 : Int32} {x1 : Int32} {x2 : Int32} {y0 : Int64} {q : Int64 × ph_T} (H : f_Burst_contentOf_L13 Γ  φ x0 x1 x2 y0 = some q) : J w M_Burst_contentOf 13 [some (.int x0), some (.int x1), some (.int x2), none, none, none, none] [.long y0] (pic Γ φ) n x 0 0 (fq Γ n (.inl (some (.long q.1))) q.2) := by
  unfold f_Burst_contentOf_L13 at H
  refine J_lstore_n d_Burst_contentOf_13 (Nat.le_of_ble_eq_true rfl) ?_
  refine J.ls (ls' := [some (.int x0), some (.int x1), some (.int x2), some (.long y0), none, none, none]) rfl ?_
  refine J_iload_n d_Burst_contentOf_14 rfl ?_
  refine J_bipush (v := 11) d_Burst_contentOf_15 (by decide) ?_
  refine J_ishr d_Burst_contentOf_17 ?_
  refine J_bipush (v := 15) d_Burst_contentOf_18 (by decide) ?_
  refine J_iand d_Burst_contentOf_20 ?_
  refine J_i2l d_Burst_contentOf_21 ?_
  refine J_lstore d_Burst_contentOf_22 (Nat.le_of_ble_eq_true rfl) ?_
  refine J.ls (ls' := [some (.int x0), some (.int x1), some (.int x2), some (.long y0), none, some (.long (Int32.toInt64 ((x0 >>> ((11 : Int32) &&& 31)) &&& (15 : Int32)))), none]) rfl ?_
  refine J_iload_n d_Burst_contentOf_24 rfl ?_
  refine J_i2l d_Burst_contentOf_25 ?_
  refine J_iload_n d_Burst_contentOf_26 rfl ?_
  refine J_i2l d_Burst_contentOf_27 ?_
  refine J_bipush (v := 6) d_Burst_contentOf_28 (by decide) ?_
  refine J_lshl d_Burst_contentOf_30 ?_
  refine J_lor d_Burst_contentOf_31 ?_
  refine J_iload_n d_Burst_contentOf_32 rfl ?_
  refine J_i2l d_Burst_contentOf_33 ?_
  refine J_ldc2 (v := 255) d_Burst_contentOf_34 (kn_Burst_40 hw) ?_
  refine J_land d_Burst_contentOf_37 ?_
  refine J_bipush (v := 22) d_Burst_contentOf_38 (by decide) ?_
  refine J_lshl d_Burst_contentOf_40 ?_
  refine J_lor d_Burst_contentOf_41 ?_
  refine J_lload_n d_Burst_contentOf_42 rfl ?_
  refine J_bipush (v := 30) d_Burst_contentOf_43 (by decide) ?_
  refine J_lshl d_Burst_contentOf_45 ?_
  refine J_lor d_Burst_contentOf_46 ?_
  refine J_lload d_Burst_contentOf_47 rfl ?_
  refine J_bipush (v := 31) d_Burst_contentOf_49 (by decide) ?_
  refine J_lshl d_Burst_contentOf_51 ?_
  refine J_lor d_Burst_contentOf_52 ?_
  have H := Option.some.inj H
  subst H
  exact J_lret (st := []) d_Burst_contentOf_53 rfl ⟨rfl, rfl, rfl⟩
def f_Burst_contentOf (Γ : gm_T) (φ : ph_T) (p0 : Int32) (p1 : Int32) (p2 : Int32) : Option (Int64 × ph_T) :=
  if (p0 &&& (512 : Int32)) = 0 then
    f_Burst_contentOf_L13 Γ  φ p0 p1 p2 (0 : Int64)
  else
    f_Burst_contentOf_L13 Γ  φ p0 p1 p2 (1 : Int64)
set_option maxRecDepth 100000 in
set_option maxHeartbeats 4000000 in
theorem p_Burst_contentOf {w : jw_T} (hw : jok w) {Γ : gm_T} {n : Nat} (hG : gd w Γ n) {x : Bool} {φ : ph_T} {p0 : Int32} {p1 : Int32} {p2 : Int32} {q : Int64 × ph_T} (H : f_Burst_contentOf Γ φ p0 p1 p2 = some q) : jc w M_Burst_contentOf [.int p0, .int p1, .int p2] (pic Γ φ) n x 0 0 (fq Γ n (.inl (some (.long q.1))) q.2) := by
  refine jc.of (by simp only [jent_r, jent_i, jent_l, jent_a, jent_0]; exact Nat.le_of_ble_eq_true rfl) ?_
  have hls : jents [.int p0, .int p1, .int p2] (jm_nL M_Burst_contentOf) = [some (.int p0), some (.int p1), some (.int p2), none, none, none, none] := by simp only [jents, jent_r, jent_i, jent_l, jent_a, jent_0]; rfl
  rw [hls]
  clear hls
  unfold f_Burst_contentOf at H
  refine J_iload_n d_Burst_contentOf_0 rfl ?_
  refine J_sipush (v := 512) d_Burst_contentOf_1 (by decide) ?_
  refine J_iand d_Burst_contentOf_4 ?_
  refine J_if_eq (tgt := 12) d_Burst_contentOf_5 (by decide) ?_ ?_
  · intro c1
    rw [if_pos c1] at H
    refine J_lconst (v := 0) d_Burst_contentOf_12 (by decide) ?_
    refine J.drop [true, true, true, false, false, false, false] rfl ?_
    exact p_Burst_contentOf_L13 hw hG  H
  · intro c1
    rw [if_neg c1] at H
    refine J_lconst (v := 1) d_Burst_contentOf_8 (by decide) ?_
    refine J_goto (tgt := 13) d_Burst_contentOf_9 (by decide) ?_
    refine J.drop [true, true, true, false, false, false, false] rfl ?_
    exact p_Burst_contentOf_L13 hw hG  H
theorem ln_Burst_kindOf : (parseMethodDescriptor y_Burst_kindOf.desc).map (fun q => q.parameters.length) = some 1 := by decide +kernel
def f_Burst_kindOf (Γ : gm_T) (φ : ph_T) (p0 : Int64) : Option (Int32 × ph_T) :=
  some (((Int64.toInt32 (p0 >>> (Int32.toInt64 (28 : Int32) &&& 63))) &&& (3 : Int32)), φ)
set_option maxRecDepth 100000 in
set_option maxHeartbeats 4000000 in
theorem p_Burst_kindOf {w : jw_T} (hw : jok w) {Γ : gm_T} {n : Nat} (hG : gd w Γ n) {x : Bool} {φ : ph_T} {p0 : Int64} {q : Int32 × ph_T} (H : f_Burst_kindOf Γ φ p0 = some q) : jc w M_Burst_kindOf [.long p0] (pic Γ φ) n x 0 0 (fq Γ n (.inl (some (.int q.1))) q.2) := by
  refine jc.of (by simp only [jent_r, jent_i, jent_l, jent_a, jent_0]; exact Nat.le_of_ble_eq_true rfl) ?_
  have hls : jents [.long p0] (jm_nL M_Burst_kindOf) = [some (.long p0), none] := by simp only [jents, jent_r, jent_i, jent_l, jent_a, jent_0]; rfl
  rw [hls]
  clear hls
  unfold f_Burst_kindOf at H
  refine J_lload_n d_Burst_kindOf_0 rfl ?_
  refine J_bipush (v := 28) d_Burst_kindOf_1 (by decide) ?_
  refine J_lshr d_Burst_kindOf_3 ?_
  refine J_l2i d_Burst_kindOf_4 ?_
  refine J_iconst (v := 3) d_Burst_kindOf_5 (by decide) ?_
  refine J_iand d_Burst_kindOf_6 ?_
  have H := Option.some.inj H
  subst H
  exact J_iret (st := []) d_Burst_kindOf_7 rfl rfl ⟨rfl, rfl, rfl⟩
theorem ln_Burst_lengthOf : (parseMethodDescriptor y_Burst_lengthOf.desc).map (fun q => q.parameters.length) = some 1 := by decide +kernel
def f_Burst_lengthOf (Γ : gm_T) (φ : ph_T) (p0 : Int64) : Option (Int32 × ph_T) :=
  some ((((Int64.toInt32 (p0 >>> (Int32.toInt64 (22 : Int32) &&& 63))) &&& (15 : Int32)) + (1 : Int32)), φ)
set_option maxRecDepth 100000 in
set_option maxHeartbeats 4000000 in
theorem p_Burst_lengthOf {w : jw_T} (hw : jok w) {Γ : gm_T} {n : Nat} (hG : gd w Γ n) {x : Bool} {φ : ph_T} {p0 : Int64} {q : Int32 × ph_T} (H : f_Burst_lengthOf Γ φ p0 = some q) : jc w M_Burst_lengthOf [.long p0] (pic Γ φ) n x 0 0 (fq Γ n (.inl (some (.int q.1))) q.2) := by
  refine jc.of (by simp only [jent_r, jent_i, jent_l, jent_a, jent_0]; exact Nat.le_of_ble_eq_true rfl) ?_
  have hls : jents [.long p0] (jm_nL M_Burst_lengthOf) = [some (.long p0), none] := by simp only [jents, jent_r, jent_i, jent_l, jent_a, jent_0]; rfl
  rw [hls]
  clear hls
  unfold f_Burst_lengthOf at H
  refine J_lload_n d_Burst_lengthOf_0 rfl ?_
  refine J_bipush (v := 22) d_Burst_lengthOf_1 (by decide) ?_
  refine J_lshr d_Burst_lengthOf_3 ?_
  refine J_l2i d_Burst_lengthOf_4 ?_
  refine J_bipush (v := 15) d_Burst_lengthOf_5 (by decide) ?_
  refine J_iand d_Burst_lengthOf_7 ?_
  refine J_iconst (v := 1) d_Burst_lengthOf_8 (by decide) ?_
  refine J_iadd d_Burst_lengthOf_9 ?_
  have H := Option.some.inj H
  subst H
  exact J_iret (st := []) d_Burst_lengthOf_10 rfl rfl ⟨rfl, rfl, rfl⟩
theorem ln_Burst_addressOf : (parseMethodDescriptor y_Burst_addressOf.desc).map (fun q => q.parameters.length) = some 1 := by decide +kernel
def f_Burst_addressOf (Γ : gm_T) (φ : ph_T) (p0 : Int64) : Option (Int32 × ph_T) :=
  some (((Int64.toInt32 (p0 >>> (Int32.toInt64 (6 : Int32) &&& 63))) &&& (65535 : Int32)), φ)
set_option maxRecDepth 100000 in
set_option maxHeartbeats 4000000 in
theorem p_Burst_addressOf {w : jw_T} (hw : jok w) {Γ : gm_T} {n : Nat} (hG : gd w Γ n) {x : Bool} {φ : ph_T} {p0 : Int64} {q : Int32 × ph_T} (H : f_Burst_addressOf Γ φ p0 = some q) : jc w M_Burst_addressOf [.long p0] (pic Γ φ) n x 0 0 (fq Γ n (.inl (some (.int q.1))) q.2) := by
  refine jc.of (by simp only [jent_r, jent_i, jent_l, jent_a, jent_0]; exact Nat.le_of_ble_eq_true rfl) ?_
  have hls : jents [.long p0] (jm_nL M_Burst_addressOf) = [some (.long p0), none] := by simp only [jents, jent_r, jent_i, jent_l, jent_a, jent_0]; rfl
  rw [hls]
  clear hls
  unfold f_Burst_addressOf at H
  refine J_lload_n d_Burst_addressOf_0 rfl ?_
  refine J_bipush (v := 6) d_Burst_addressOf_1 (by decide) ?_
  refine J_lshr d_Burst_addressOf_3 ?_
  refine J_l2i d_Burst_addressOf_4 ?_
  refine J_ldc (v := 65535) d_Burst_addressOf_5 (kn_Burst_42 hw) ?_
  refine J_iand d_Burst_addressOf_7 ?_
  have H := Option.some.inj H
  subst H
  exact J_iret (st := []) d_Burst_addressOf_8 rfl rfl ⟨rfl, rfl, rfl⟩
theorem ln_Burst_bytesOf : (parseMethodDescriptor y_Burst_bytesOf.desc).map (fun q => q.parameters.length) = some 1 := by decide +kernel
def f_Burst_bytesOf (Γ : gm_T) (φ : ph_T) (p0 : Int64) : Option (Int32 × ph_T) :=
  some (((1 : Int32) <<< (((Int64.toInt32 (p0 >>> (Int32.toInt64 (26 : Int32) &&& 63))) &&& (3 : Int32)) &&& 31)), φ)
set_option maxRecDepth 100000 in
set_option maxHeartbeats 4000000 in
theorem p_Burst_bytesOf {w : jw_T} (hw : jok w) {Γ : gm_T} {n : Nat} (hG : gd w Γ n) {x : Bool} {φ : ph_T} {p0 : Int64} {q : Int32 × ph_T} (H : f_Burst_bytesOf Γ φ p0 = some q) : jc w M_Burst_bytesOf [.long p0] (pic Γ φ) n x 0 0 (fq Γ n (.inl (some (.int q.1))) q.2) := by
  refine jc.of (by simp only [jent_r, jent_i, jent_l, jent_a, jent_0]; exact Nat.le_of_ble_eq_true rfl) ?_
  have hls : jents [.long p0] (jm_nL M_Burst_bytesOf) = [some (.long p0), none] := by simp only [jents, jent_r, jent_i, jent_l, jent_a, jent_0]; rfl
  rw [hls]
  clear hls
  unfold f_Burst_bytesOf at H
  refine J_iconst (v := 1) d_Burst_bytesOf_0 (by decide) ?_
  refine J_lload_n d_Burst_bytesOf_1 rfl ?_
  refine J_bipush (v := 26) d_Burst_bytesOf_2 (by decide) ?_
  refine J_lshr d_Burst_bytesOf_4 ?_
  refine J_l2i d_Burst_bytesOf_5 ?_
  refine J_iconst (v := 3) d_Burst_bytesOf_6 (by decide) ?_
  refine J_iand d_Burst_bytesOf_7 ?_
  refine J_ishl d_Burst_bytesOf_8 ?_
  have H := Option.some.inj H
  subst H
  exact J_iret (st := []) d_Burst_bytesOf_9 rfl rfl ⟨rfl, rfl, rfl⟩
theorem ln_Burst_breaksWrap : (parseMethodDescriptor y_Burst_breaksWrap.desc).map (fun q => q.parameters.length) = some 1 := by decide +kernel
def f_Burst_breaksWrap_L54 (Γ : gm_T)  (φ : ph_T) (y0 : Int32) : Option (Int32 × ph_T) :=
  @ite _ (y0 = 0 ∨ y0 = 1) _ (
  some (y0, φ)
  ) none
set_option maxRecDepth 100000 in
set_option maxHeartbeats 4000000 in
theorem p_Burst_breaksWrap_L54 {w : jw_T} (hw : jok w) {Γ : gm_T} {n : Nat} (hG : gd w Γ n)  {x : Bool} {φ : ph_T} {y0 : Int32} {q : Int32 × ph_T} (H : f_Burst_breaksWrap_L54 Γ  φ y0 = some q) : J w M_Burst_breaksWrap 54 [none, none, none, none] [.int y0] (pic Γ φ) n x 0 0 (fq Γ n (.inl (some (.int q.1))) q.2) := by
  unfold f_Burst_breaksWrap_L54 at H
  have z2 : y0 = 0 ∨ y0 = 1 := by
    apply Classical.byContradiction
    intro q9
    rw [if_neg q9] at H
    cases H
  rw [if_pos z2] at H
  have H := Option.some.inj H
  subst H
  exact J_iret (st := []) d_Burst_breaksWrap_54 rfl (narrow_z z2).1 ⟨rfl, rfl, rfl⟩
def f_Burst_breaksWrap_L49 (Γ : gm_T)  (φ : ph_T) : Option (Int32 × ph_T) :=
  f_Burst_breaksWrap_L54 Γ  φ (1 : Int32)
set_option maxRecDepth 100000 in
set_option maxHeartbeats 4000000 in
theorem p_Burst_breaksWrap_L49 {w : jw_T} (hw : jok w) {Γ : gm_T} {n : Nat} (hG : gd w Γ n)  {x : Bool} {φ : ph_T} {q : Int32 × ph_T} (H : f_Burst_breaksWrap_L49 Γ  φ  = some q) : J w M_Burst_breaksWrap 49 [none, none, none, none] [] (pic Γ φ) n x 0 0 (fq Γ n (.inl (some (.int q.1))) q.2) := by
  unfold f_Burst_breaksWrap_L49 at H
  refine J_iconst (v := 1) d_Burst_breaksWrap_49 (by decide) ?_
  refine J_goto (tgt := 54) d_Burst_breaksWrap_50 (by decide) ?_
  refine J.drop [false, false, false, false] rfl ?_
  exact p_Burst_breaksWrap_L54 hw hG  H
def f_Burst_breaksWrap_L32 (Γ : gm_T)  (φ : ph_T) (x0 : Int64) (y0 : Int32) : Option (Int32 × ph_T) :=
  if y0 = 0 then
    f_Burst_breaksWrap_L49 Γ  φ 
  else
    Option.bind (f_Burst_addressOf Γ φ x0) fun q3 =>
    Option.bind (f_Burst_bytesOf Γ q3.2 x0) fun q4 =>
    @ite _ (q4.1 = 0) _ none (
    if (q3.1 - q3.1 / q4.1 * q4.1) = 0 then
      f_Burst_breaksWrap_L54 Γ  q4.2 (0 : Int32)
    else
      f_Burst_breaksWrap_L49 Γ  q4.2 
    )
set_option maxRecDepth 100000 in
set_option maxHeartbeats 4000000 in
theorem p_Burst_breaksWrap_L32 {w : jw_T} (hw : jok w) {Γ : gm_T} {n : Nat} (hG : gd w Γ n)  {x : Bool} {φ : ph_T} {x0 : Int64} {y0 : Int32} {q : Int32 × ph_T} (H : f_Burst_breaksWrap_L32 Γ  φ x0 y0 = some q) : J w M_Burst_breaksWrap 32 [some (.long x0), none, none, none] [.int y0] (pic Γ φ) n x 0 0 (fq Γ n (.inl (some (.int q.1))) q.2) := by
  unfold f_Burst_breaksWrap_L32 at H
  refine J_istore_n d_Burst_breaksWrap_32 (Nat.le_of_ble_eq_true rfl) ?_
  refine J.ls (ls' := [some (.long x0), none, none, some (.int y0)]) rfl ?_
  refine J_iload_n d_Burst_breaksWrap_33 rfl ?_
  refine J_if_eq (tgt := 49) d_Burst_breaksWrap_34 (by decide) ?_ ?_
  · intro c7
    rw [if_pos c7] at H
    refine J.drop [false, false, false, false] rfl ?_
    exact p_Burst_breaksWrap_L49 hw hG  H
  · intro c7
    rw [if_neg c7] at H
    refine J_lload_n d_Burst_breaksWrap_37 rfl ?_
    obtain ⟨q3, hq3, H⟩ := Option.bind_eq_some_iff.mp H
    refine J_callS (kc := 0) (ks := 0) (kc' := 0) (ks' := 0) (as := [.long x0]) (st := []) (mf_Burst_addressOf hw) (ms_Burst_63 hw) d_Burst_breaksWrap_38 ln_Burst_addressOf (by decide) (by first | exact Nat.le_of_ble_eq_true rfl | (simp only [List.map_cons, List.map_nil, List.sum_cons, List.sum_nil, va_rf_cat]; exact Nat.le_of_ble_eq_true rfl)) rfl (p_Burst_addressOf hw hG hq3) ?_ (fun E h' n' x' e1 => by cases e1.1)
    intro v9 h9 n9 x9 e9
    obtain ⟨e91, e92, e93⟩ := e9
    cases e91
    subst e92
    subst e93
    clear x
    rename Bool => x
    show J _ _ _ _ (_ :: _) _ _ _ _ _ _
    refine J_lload_n d_Burst_breaksWrap_41 rfl ?_
    obtain ⟨q4, hq4, H⟩ := Option.bind_eq_some_iff.mp H
    refine J_callS (kc := 0) (ks := 0) (kc' := 0) (ks' := 0) (as := [.long x0]) (st := [.int q3.1]) (mf_Burst_bytesOf hw) (ms_Burst_66 hw) d_Burst_breaksWrap_42 ln_Burst_bytesOf (by decide) (by first | exact Nat.le_of_ble_eq_true rfl | (simp only [List.map_cons, List.map_nil, List.sum_cons, List.sum_nil, va_rf_cat]; exact Nat.le_of_ble_eq_true rfl)) rfl (p_Burst_bytesOf hw hG hq4) ?_ (fun E h' n' x' e1 => by cases e1.1)
    intro v9 h9 n9 x9 e9
    obtain ⟨e91, e92, e93⟩ := e9
    cases e91
    subst e92
    subst e93
    clear x
    rename Bool => x
    show J _ _ _ _ (_ :: _) _ _ _ _ _ _
    have h5 : ¬ q4.1 = 0 := by
      intro q9
      rw [if_pos q9] at H
      cases H
    rw [if_neg h5] at H
    refine J_irem d_Burst_breaksWrap_45 h5 ?_
    refine J_if_eq (tgt := 53) d_Burst_breaksWrap_46 (by decide) ?_ ?_
    · intro c6
      rw [if_pos c6] at H
      refine J_iconst (v := 0) d_Burst_breaksWrap_53 (by decide) ?_
      refine J.drop [false, false, false, false] rfl ?_
      exact p_Burst_breaksWrap_L54 hw hG  H
    · intro c6
      rw [if_neg c6] at H
      refine J.drop [false, false, false, false] rfl ?_
      exact p_Burst_breaksWrap_L49 hw hG  H
def f_Burst_breaksWrap_L27 (Γ : gm_T)  (φ : ph_T) (x0 : Int64) : Option (Int32 × ph_T) :=
  f_Burst_breaksWrap_L32 Γ  φ x0 (1 : Int32)
set_option maxRecDepth 100000 in
set_option maxHeartbeats 4000000 in
theorem p_Burst_breaksWrap_L27 {w : jw_T} (hw : jok w) {Γ : gm_T} {n : Nat} (hG : gd w Γ n)  {x : Bool} {φ : ph_T} {x0 : Int64} {q : Int32 × ph_T} (H : f_Burst_breaksWrap_L27 Γ  φ x0 = some q) : J w M_Burst_breaksWrap 27 [some (.long x0), none, none, none] [] (pic Γ φ) n x 0 0 (fq Γ n (.inl (some (.int q.1))) q.2) := by
  unfold f_Burst_breaksWrap_L27 at H
  refine J_iconst (v := 1) d_Burst_breaksWrap_27 (by decide) ?_
  refine J_goto (tgt := 32) d_Burst_breaksWrap_28 (by decide) ?_
  refine J.drop [true, false, false, false] rfl ?_
  exact p_Burst_breaksWrap_L32 hw hG  H
def f_Burst_breaksWrap (Γ : gm_T) (φ : ph_T) (p0 : Int64) : Option (Int32 × ph_T) :=
  Option.bind (f_Burst_lengthOf Γ φ p0) fun q8 =>
  if q8.1 = (2 : Int32) then
    f_Burst_breaksWrap_L27 Γ  q8.2 p0
  else
    if q8.1 = (4 : Int32) then
      f_Burst_breaksWrap_L27 Γ  q8.2 p0
    else
      if q8.1 = (8 : Int32) then
        f_Burst_breaksWrap_L27 Γ  q8.2 p0
      else
        if q8.1 = (16 : Int32) then
          f_Burst_breaksWrap_L27 Γ  q8.2 p0
        else
          f_Burst_breaksWrap_L32 Γ  q8.2 p0 (0 : Int32)
set_option maxRecDepth 100000 in
set_option maxHeartbeats 4000000 in
theorem p_Burst_breaksWrap {w : jw_T} (hw : jok w) {Γ : gm_T} {n : Nat} (hG : gd w Γ n) {x : Bool} {φ : ph_T} {p0 : Int64} {q : Int32 × ph_T} (H : f_Burst_breaksWrap Γ φ p0 = some q) : jc w M_Burst_breaksWrap [.long p0] (pic Γ φ) n x 0 0 (fq Γ n (.inl (some (.int q.1))) q.2) := by
  refine jc.of (by simp only [jent_r, jent_i, jent_l, jent_a, jent_0]; exact Nat.le_of_ble_eq_true rfl) ?_
  have hls : jents [.long p0] (jm_nL M_Burst_breaksWrap) = [some (.long p0), none, none, none] := by simp only [jents, jent_r, jent_i, jent_l, jent_a, jent_0]; rfl
  rw [hls]
  clear hls
  unfold f_Burst_breaksWrap at H
  refine J_lload_n d_Burst_breaksWrap_0 rfl ?_
  obtain ⟨q8, hq8, H⟩ := Option.bind_eq_some_iff.mp H
  refine J_callS (kc := 0) (ks := 0) (kc' := 0) (ks' := 0) (as := [.long p0]) (st := []) (mf_Burst_lengthOf hw) (ms_Burst_60 hw) d_Burst_breaksWrap_1 ln_Burst_lengthOf (by decide) (by first | exact Nat.le_of_ble_eq_true rfl | (simp only [List.map_cons, List.map_nil, List.sum_cons, List.sum_nil, va_rf_cat]; exact Nat.le_of_ble_eq_true rfl)) rfl (p_Burst_lengthOf hw hG hq8) ?_ (fun E h' n' x' e1 => by cases e1.1)
  intro v9 h9 n9 x9 e9
  obtain ⟨e91, e92, e93⟩ := e9
  cases e91
  subst e92
  subst e93
  clear x
  rename Bool => x
  show J _ _ _ _ (_ :: _) _ _ _ _ _ _
  refine J_istore_n d_Burst_breaksWrap_4 (Nat.le_of_ble_eq_true rfl) ?_
  refine J.ls (ls' := [some (.long p0), none, some (.int q8.1), none]) rfl ?_
  refine J_iload_n d_Burst_breaksWrap_5 rfl ?_
  refine J_iconst (v := 2) d_Burst_breaksWrap_6 (by decide) ?_
  refine J_icmp_eq (tgt := 27) d_Burst_breaksWrap_7 (by decide) ?_ ?_
  · intro c12
    rw [if_pos c12] at H
    refine J.drop [true, false, false, false] rfl ?_
    exact p_Burst_breaksWrap_L27 hw hG  H
  · intro c12
    rw [if_neg c12] at H
    refine J_iload_n d_Burst_breaksWrap_10 rfl ?_
    refine J_iconst (v := 4) d_Burst_breaksWrap_11 (by decide) ?_
    refine J_icmp_eq (tgt := 27) d_Burst_breaksWrap_12 (by decide) ?_ ?_
    · intro c11
      rw [if_pos c11] at H
      refine J.drop [true, false, false, false] rfl ?_
      exact p_Burst_breaksWrap_L27 hw hG  H
    · intro c11
      rw [if_neg c11] at H
      refine J_iload_n d_Burst_breaksWrap_15 rfl ?_
      refine J_bipush (v := 8) d_Burst_breaksWrap_16 (by decide) ?_
      refine J_icmp_eq (tgt := 27) d_Burst_breaksWrap_18 (by decide) ?_ ?_
      · intro c10
        rw [if_pos c10] at H
        refine J.drop [true, false, false, false] rfl ?_
        exact p_Burst_breaksWrap_L27 hw hG  H
      · intro c10
        rw [if_neg c10] at H
        refine J_iload_n d_Burst_breaksWrap_21 rfl ?_
        refine J_bipush (v := 16) d_Burst_breaksWrap_22 (by decide) ?_
        refine J_icmp_ne (tgt := 31) d_Burst_breaksWrap_24 (by decide) ?_ ?_
        · intro c9
          rw [if_neg c9] at H
          refine J_iconst (v := 0) d_Burst_breaksWrap_31 (by decide) ?_
          refine J.drop [true, false, false, false] rfl ?_
          exact p_Burst_breaksWrap_L32 hw hG  H
        · intro c9
          rw [if_pos c9] at H
          refine J.drop [true, false, false, false] rfl ?_
          exact p_Burst_breaksWrap_L27 hw hG  H
theorem ln_Burst_breaksPage : (parseMethodDescriptor y_Burst_breaksPage.desc).map (fun q => q.parameters.length) = some 1 := by decide +kernel
def f_Burst_breaksPage_L45 (Γ : gm_T)  (φ : ph_T) (y0 : Int32) : Option (Int32 × ph_T) :=
  @ite _ (y0 = 0 ∨ y0 = 1) _ (
  some (y0, φ)
  ) none
set_option maxRecDepth 100000 in
set_option maxHeartbeats 4000000 in
theorem p_Burst_breaksPage_L45 {w : jw_T} (hw : jok w) {Γ : gm_T} {n : Nat} (hG : gd w Γ n)  {x : Bool} {φ : ph_T} {y0 : Int32} {q : Int32 × ph_T} (H : f_Burst_breaksPage_L45 Γ  φ y0 = some q) : J w M_Burst_breaksPage 45 [none, none, none, none, none] [.int y0] (pic Γ φ) n x 0 0 (fq Γ n (.inl (some (.int q.1))) q.2) := by
  unfold f_Burst_breaksPage_L45 at H
  have z4 : y0 = 0 ∨ y0 = 1 := by
    apply Classical.byContradiction
    intro q9
    rw [if_neg q9] at H
    cases H
  rw [if_pos z4] at H
  have H := Option.some.inj H
  subst H
  exact J_iret (st := []) d_Burst_breaksPage_45 rfl (narrow_z z4).1 ⟨rfl, rfl, rfl⟩
def f_Burst_breaksPage (Γ : gm_T) (φ : ph_T) (p0 : Int64) : Option (Int32 × ph_T) :=
  Option.bind (f_Burst_addressOf Γ φ p0) fun q5 =>
  Option.bind (f_Burst_bytesOf Γ q5.2 p0) fun q6 =>
  @ite _ (q6.1 = 0) _ none (
  Option.bind (f_Burst_lengthOf Γ q6.2 p0) fun q8 =>
  @ite _ ((4096 : Int32) = 0) _ none (
  @ite _ ((4096 : Int32) = 0) _ none (
  if ((((q5.1 - (q5.1 - q5.1 / q6.1 * q6.1)) + (q8.1 * q6.1)) - (1 : Int32)) / (4096 : Int32)) = (q5.1 / (4096 : Int32)) then
    f_Burst_breaksPage_L45 Γ  q8.2 (0 : Int32)
  else
    f_Burst_breaksPage_L45 Γ  q8.2 (1 : Int32)
  )
  )
  )
set_option maxRecDepth 100000 in
set_option maxHeartbeats 4000000 in
theorem p_Burst_breaksPage {w : jw_T} (hw : jok w) {Γ : gm_T} {n : Nat} (hG : gd w Γ n) {x : Bool} {φ : ph_T} {p0 : Int64} {q : Int32 × ph_T} (H : f_Burst_breaksPage Γ φ p0 = some q) : jc w M_Burst_breaksPage [.long p0] (pic Γ φ) n x 0 0 (fq Γ n (.inl (some (.int q.1))) q.2) := by
  refine jc.of (by simp only [jent_r, jent_i, jent_l, jent_a, jent_0]; exact Nat.le_of_ble_eq_true rfl) ?_
  have hls : jents [.long p0] (jm_nL M_Burst_breaksPage) = [some (.long p0), none, none, none, none] := by simp only [jents, jent_r, jent_i, jent_l, jent_a, jent_0]; rfl
  rw [hls]
  clear hls
  unfold f_Burst_breaksPage at H
  refine J_lload_n d_Burst_breaksPage_0 rfl ?_
  obtain ⟨q5, hq5, H⟩ := Option.bind_eq_some_iff.mp H
  refine J_callS (kc := 0) (ks := 0) (kc' := 0) (ks' := 0) (as := [.long p0]) (st := []) (mf_Burst_addressOf hw) (ms_Burst_63 hw) d_Burst_breaksPage_1 ln_Burst_addressOf (by decide) (by first | exact Nat.le_of_ble_eq_true rfl | (simp only [List.map_cons, List.map_nil, List.sum_cons, List.sum_nil, va_rf_cat]; exact Nat.le_of_ble_eq_true rfl)) rfl (p_Burst_addressOf hw hG hq5) ?_ (fun E h' n' x' e1 => by cases e1.1)
  intro v9 h9 n9 x9 e9
  obtain ⟨e91, e92, e93⟩ := e9
  cases e91
  subst e92
  subst e93
  clear x
  rename Bool => x
  show J _ _ _ _ (_ :: _) _ _ _ _ _ _
  refine J_istore_n d_Burst_breaksPage_4 (Nat.le_of_ble_eq_true rfl) ?_
  refine J.ls (ls' := [some (.long p0), none, some (.int q5.1), none, none]) rfl ?_
  refine J_lload_n d_Burst_breaksPage_5 rfl ?_
  obtain ⟨q6, hq6, H⟩ := Option.bind_eq_some_iff.mp H
  refine J_callS (kc := 0) (ks := 0) (kc' := 0) (ks' := 0) (as := [.long p0]) (st := []) (mf_Burst_bytesOf hw) (ms_Burst_66 hw) d_Burst_breaksPage_6 ln_Burst_bytesOf (by decide) (by first | exact Nat.le_of_ble_eq_true rfl | (simp only [List.map_cons, List.map_nil, List.sum_cons, List.sum_nil, va_rf_cat]; exact Nat.le_of_ble_eq_true rfl)) rfl (p_Burst_bytesOf hw hG hq6) ?_ (fun E h' n' x' e1 => by cases e1.1)
  intro v9 h9 n9 x9 e9
  obtain ⟨e91, e92, e93⟩ := e9
  cases e91
  subst e92
  subst e93
  clear x
  rename Bool => x
  show J _ _ _ _ (_ :: _) _ _ _ _ _ _
  refine J_istore_n d_Burst_breaksPage_9 (Nat.le_of_ble_eq_true rfl) ?_
  refine J.ls (ls' := [some (.long p0), none, some (.int q5.1), some (.int q6.1), none]) rfl ?_
  refine J_iload_n d_Burst_breaksPage_10 rfl ?_
  refine J_iload_n d_Burst_breaksPage_11 rfl ?_
  refine J_iload_n d_Burst_breaksPage_12 rfl ?_
  have h7 : ¬ q6.1 = 0 := by
    intro q9
    rw [if_pos q9] at H
    cases H
  rw [if_neg h7] at H
  refine J_irem d_Burst_breaksPage_13 h7 ?_
  refine J_isub d_Burst_breaksPage_14 ?_
  refine J_lload_n d_Burst_breaksPage_15 rfl ?_
  obtain ⟨q8, hq8, H⟩ := Option.bind_eq_some_iff.mp H
  refine J_callS (kc := 0) (ks := 0) (kc' := 0) (ks' := 0) (as := [.long p0]) (st := [.int (q5.1 - (q5.1 - q5.1 / q6.1 * q6.1))]) (mf_Burst_lengthOf hw) (ms_Burst_60 hw) d_Burst_breaksPage_16 ln_Burst_lengthOf (by decide) (by first | exact Nat.le_of_ble_eq_true rfl | (simp only [List.map_cons, List.map_nil, List.sum_cons, List.sum_nil, va_rf_cat]; exact Nat.le_of_ble_eq_true rfl)) rfl (p_Burst_lengthOf hw hG hq8) ?_ (fun E h' n' x' e1 => by cases e1.1)
  intro v9 h9 n9 x9 e9
  obtain ⟨e91, e92, e93⟩ := e9
  cases e91
  subst e92
  subst e93
  clear x
  rename Bool => x
  show J _ _ _ _ (_ :: _) _ _ _ _ _ _
  refine J_iload_n d_Burst_breaksPage_19 rfl ?_
  refine J_imul d_Burst_breaksPage_20 ?_
  refine J_iadd d_Burst_breaksPage_21 ?_
  refine J_iconst (v := 1) d_Burst_breaksPage_22 (by decide) ?_
  refine J_isub d_Burst_breaksPage_23 ?_
  refine J_istore d_Burst_breaksPage_24 (Nat.le_of_ble_eq_true rfl) ?_
  refine J.ls (ls' := [some (.long p0), none, some (.int q5.1), some (.int q6.1), some (.int (((q5.1 - (q5.1 - q5.1 / q6.1 * q6.1)) + (q8.1 * q6.1)) - (1 : Int32)))]) rfl ?_
  refine J_iload d_Burst_breaksPage_26 rfl ?_
  refine J_sipush (v := 4096) d_Burst_breaksPage_28 (by decide) ?_
  have h9 : ¬ (4096 : Int32) = 0 := by
    intro q9
    rw [if_pos q9] at H
    cases H
  rw [if_neg h9] at H
  refine J_idiv d_Burst_breaksPage_31 h9 ?_
  refine J_iload_n d_Burst_breaksPage_32 rfl ?_
  refine J_sipush (v := 4096) d_Burst_breaksPage_33 (by decide) ?_
  have h10 : ¬ (4096 : Int32) = 0 := by
    intro q9
    rw [if_pos q9] at H
    cases H
  rw [if_neg h10] at H
  refine J_idiv d_Burst_breaksPage_36 h10 ?_
  refine J_icmp_eq (tgt := 44) d_Burst_breaksPage_37 (by decide) ?_ ?_
  · intro c11
    rw [if_pos c11] at H
    refine J_iconst (v := 0) d_Burst_breaksPage_44 (by decide) ?_
    refine J.drop [false, false, false, false, false] rfl ?_
    exact p_Burst_breaksPage_L45 hw hG  H
  · intro c11
    rw [if_neg c11] at H
    refine J_iconst (v := 1) d_Burst_breaksPage_40 (by decide) ?_
    refine J_goto (tgt := 45) d_Burst_breaksPage_41 (by decide) ?_
    refine J.drop [false, false, false, false, false] rfl ?_
    exact p_Burst_breaksPage_L45 hw hG  H
theorem ln_Burst_isExclusive : (parseMethodDescriptor y_Burst_isExclusive.desc).map (fun q => q.parameters.length) = some 1 := by decide +kernel
def f_Burst_isExclusive_L16 (Γ : gm_T)  (φ : ph_T) (y0 : Int32) : Option (Int32 × ph_T) :=
  @ite _ (y0 = 0 ∨ y0 = 1) _ (
  some (y0, φ)
  ) none
set_option maxRecDepth 100000 in
set_option maxHeartbeats 4000000 in
theorem p_Burst_isExclusive_L16 {w : jw_T} (hw : jok w) {Γ : gm_T} {n : Nat} (hG : gd w Γ n)  {x : Bool} {φ : ph_T} {y0 : Int32} {q : Int32 × ph_T} (H : f_Burst_isExclusive_L16 Γ  φ y0 = some q) : J w M_Burst_isExclusive 16 [none, none] [.int y0] (pic Γ φ) n x 0 0 (fq Γ n (.inl (some (.int q.1))) q.2) := by
  unfold f_Burst_isExclusive_L16 at H
  have z1 : y0 = 0 ∨ y0 = 1 := by
    apply Classical.byContradiction
    intro q9
    rw [if_neg q9] at H
    cases H
  rw [if_pos z1] at H
  have H := Option.some.inj H
  subst H
  exact J_iret (st := []) d_Burst_isExclusive_16 rfl (narrow_z z1).1 ⟨rfl, rfl, rfl⟩
def f_Burst_isExclusive (Γ : gm_T) (φ : ph_T) (p0 : Int64) : Option (Int32 × ph_T) :=
  if (lg_cmp ((p0 >>> (Int32.toInt64 (30 : Int32) &&& 63)) &&& (1 : Int64)) (1 : Int64)) = 0 then
    f_Burst_isExclusive_L16 Γ  φ (1 : Int32)
  else
    f_Burst_isExclusive_L16 Γ  φ (0 : Int32)
set_option maxRecDepth 100000 in
set_option maxHeartbeats 4000000 in
theorem p_Burst_isExclusive {w : jw_T} (hw : jok w) {Γ : gm_T} {n : Nat} (hG : gd w Γ n) {x : Bool} {φ : ph_T} {p0 : Int64} {q : Int32 × ph_T} (H : f_Burst_isExclusive Γ φ p0 = some q) : jc w M_Burst_isExclusive [.long p0] (pic Γ φ) n x 0 0 (fq Γ n (.inl (some (.int q.1))) q.2) := by
  refine jc.of (by simp only [jent_r, jent_i, jent_l, jent_a, jent_0]; exact Nat.le_of_ble_eq_true rfl) ?_
  have hls : jents [.long p0] (jm_nL M_Burst_isExclusive) = [some (.long p0), none] := by simp only [jents, jent_r, jent_i, jent_l, jent_a, jent_0]; rfl
  rw [hls]
  clear hls
  unfold f_Burst_isExclusive at H
  refine J_lload_n d_Burst_isExclusive_0 rfl ?_
  refine J_bipush (v := 30) d_Burst_isExclusive_1 (by decide) ?_
  refine J_lshr d_Burst_isExclusive_3 ?_
  refine J_lconst (v := 1) d_Burst_isExclusive_4 (by decide) ?_
  refine J_land d_Burst_isExclusive_5 ?_
  refine J_lconst (v := 1) d_Burst_isExclusive_6 (by decide) ?_
  refine J_lcmp d_Burst_isExclusive_7 ?_
  refine J_if_ne (tgt := 15) d_Burst_isExclusive_8 (by decide) ?_ ?_
  · intro c2
    rw [if_neg c2] at H
    refine J_iconst (v := 0) d_Burst_isExclusive_15 (by decide) ?_
    refine J.drop [false, false] rfl ?_
    exact p_Burst_isExclusive_L16 hw hG  H
  · intro c2
    rw [if_pos c2] at H
    refine J_iconst (v := 1) d_Burst_isExclusive_11 (by decide) ?_
    refine J_goto (tgt := 16) d_Burst_isExclusive_12 (by decide) ?_
    refine J.drop [false, false] rfl ?_
    exact p_Burst_isExclusive_L16 hw hG  H
theorem ln_Integer_bitCount : (parseMethodDescriptor y_Integer_bitCount.desc).map (fun q => q.parameters.length) = some 1 := by decide +kernel
def f_Integer_bitCount (Γ : gm_T) (φ : ph_T) (p0 : Int32) : Option (Int32 × ph_T) :=
  some (((((((((p0 - (((Int32.toUInt32 p0 >>> (Int32.toUInt32 (1 : Int32) &&& Int32.toUInt32 31)).toInt32) &&& (1431655765 : Int32))) &&& (858993459 : Int32)) + (((Int32.toUInt32 (p0 - (((Int32.toUInt32 p0 >>> (Int32.toUInt32 (1 : Int32) &&& Int32.toUInt32 31)).toInt32) &&& (1431655765 : Int32))) >>> (Int32.toUInt32 (2 : Int32) &&& Int32.toUInt32 31)).toInt32) &&& (858993459 : Int32))) + ((Int32.toUInt32 (((p0 - (((Int32.toUInt32 p0 >>> (Int32.toUInt32 (1 : Int32) &&& Int32.toUInt32 31)).toInt32) &&& (1431655765 : Int32))) &&& (858993459 : Int32)) + (((Int32.toUInt32 (p0 - (((Int32.toUInt32 p0 >>> (Int32.toUInt32 (1 : Int32) &&& Int32.toUInt32 31)).toInt32) &&& (1431655765 : Int32))) >>> (Int32.toUInt32 (2 : Int32) &&& Int32.toUInt32 31)).toInt32) &&& (858993459 : Int32))) >>> (Int32.toUInt32 (4 : Int32) &&& Int32.toUInt32 31)).toInt32)) &&& (252645135 : Int32)) + ((Int32.toUInt32 (((((p0 - (((Int32.toUInt32 p0 >>> (Int32.toUInt32 (1 : Int32) &&& Int32.toUInt32 31)).toInt32) &&& (1431655765 : Int32))) &&& (858993459 : Int32)) + (((Int32.toUInt32 (p0 - (((Int32.toUInt32 p0 >>> (Int32.toUInt32 (1 : Int32) &&& Int32.toUInt32 31)).toInt32) &&& (1431655765 : Int32))) >>> (Int32.toUInt32 (2 : Int32) &&& Int32.toUInt32 31)).toInt32) &&& (858993459 : Int32))) + ((Int32.toUInt32 (((p0 - (((Int32.toUInt32 p0 >>> (Int32.toUInt32 (1 : Int32) &&& Int32.toUInt32 31)).toInt32) &&& (1431655765 : Int32))) &&& (858993459 : Int32)) + (((Int32.toUInt32 (p0 - (((Int32.toUInt32 p0 >>> (Int32.toUInt32 (1 : Int32) &&& Int32.toUInt32 31)).toInt32) &&& (1431655765 : Int32))) >>> (Int32.toUInt32 (2 : Int32) &&& Int32.toUInt32 31)).toInt32) &&& (858993459 : Int32))) >>> (Int32.toUInt32 (4 : Int32) &&& Int32.toUInt32 31)).toInt32)) &&& (252645135 : Int32)) >>> (Int32.toUInt32 (8 : Int32) &&& Int32.toUInt32 31)).toInt32)) + ((Int32.toUInt32 ((((((p0 - (((Int32.toUInt32 p0 >>> (Int32.toUInt32 (1 : Int32) &&& Int32.toUInt32 31)).toInt32) &&& (1431655765 : Int32))) &&& (858993459 : Int32)) + (((Int32.toUInt32 (p0 - (((Int32.toUInt32 p0 >>> (Int32.toUInt32 (1 : Int32) &&& Int32.toUInt32 31)).toInt32) &&& (1431655765 : Int32))) >>> (Int32.toUInt32 (2 : Int32) &&& Int32.toUInt32 31)).toInt32) &&& (858993459 : Int32))) + ((Int32.toUInt32 (((p0 - (((Int32.toUInt32 p0 >>> (Int32.toUInt32 (1 : Int32) &&& Int32.toUInt32 31)).toInt32) &&& (1431655765 : Int32))) &&& (858993459 : Int32)) + (((Int32.toUInt32 (p0 - (((Int32.toUInt32 p0 >>> (Int32.toUInt32 (1 : Int32) &&& Int32.toUInt32 31)).toInt32) &&& (1431655765 : Int32))) >>> (Int32.toUInt32 (2 : Int32) &&& Int32.toUInt32 31)).toInt32) &&& (858993459 : Int32))) >>> (Int32.toUInt32 (4 : Int32) &&& Int32.toUInt32 31)).toInt32)) &&& (252645135 : Int32)) + ((Int32.toUInt32 (((((p0 - (((Int32.toUInt32 p0 >>> (Int32.toUInt32 (1 : Int32) &&& Int32.toUInt32 31)).toInt32) &&& (1431655765 : Int32))) &&& (858993459 : Int32)) + (((Int32.toUInt32 (p0 - (((Int32.toUInt32 p0 >>> (Int32.toUInt32 (1 : Int32) &&& Int32.toUInt32 31)).toInt32) &&& (1431655765 : Int32))) >>> (Int32.toUInt32 (2 : Int32) &&& Int32.toUInt32 31)).toInt32) &&& (858993459 : Int32))) + ((Int32.toUInt32 (((p0 - (((Int32.toUInt32 p0 >>> (Int32.toUInt32 (1 : Int32) &&& Int32.toUInt32 31)).toInt32) &&& (1431655765 : Int32))) &&& (858993459 : Int32)) + (((Int32.toUInt32 (p0 - (((Int32.toUInt32 p0 >>> (Int32.toUInt32 (1 : Int32) &&& Int32.toUInt32 31)).toInt32) &&& (1431655765 : Int32))) >>> (Int32.toUInt32 (2 : Int32) &&& Int32.toUInt32 31)).toInt32) &&& (858993459 : Int32))) >>> (Int32.toUInt32 (4 : Int32) &&& Int32.toUInt32 31)).toInt32)) &&& (252645135 : Int32)) >>> (Int32.toUInt32 (8 : Int32) &&& Int32.toUInt32 31)).toInt32)) >>> (Int32.toUInt32 (16 : Int32) &&& Int32.toUInt32 31)).toInt32)) &&& (63 : Int32)), φ)
set_option maxRecDepth 100000 in
set_option maxHeartbeats 4000000 in
theorem p_Integer_bitCount {w : jw_T} (hw : jok w) {Γ : gm_T} {n : Nat} (hG : gd w Γ n) {x : Bool} {φ : ph_T} {p0 : Int32} {q : Int32 × ph_T} (H : f_Integer_bitCount Γ φ p0 = some q) : jc w M_Integer_bitCount [.int p0] (pic Γ φ) n x 0 0 (fq Γ n (.inl (some (.int q.1))) q.2) := by
  refine jc.of (by simp only [jent_r, jent_i, jent_l, jent_a, jent_0]; exact Nat.le_of_ble_eq_true rfl) ?_
  have hls : jents [.int p0] (jm_nL M_Integer_bitCount) = [some (.int p0)] := by simp only [jents, jent_r, jent_i, jent_l, jent_a, jent_0]; rfl
  rw [hls]
  clear hls
  unfold f_Integer_bitCount at H
  refine J_iload_n d_Integer_bitCount_0 rfl ?_
  refine J_iload_n d_Integer_bitCount_1 rfl ?_
  refine J_iconst (v := 1) d_Integer_bitCount_2 (by decide) ?_
  refine J_iushr d_Integer_bitCount_3 ?_
  refine J_ldcw (v := 1431655765) d_Integer_bitCount_4 (kn_Integer_265 hw) ?_
  refine J_iand d_Integer_bitCount_7 ?_
  refine J_isub d_Integer_bitCount_8 ?_
  refine J_istore_n d_Integer_bitCount_9 (Nat.le_of_ble_eq_true rfl) ?_
  refine J.ls (ls' := [some (.int (p0 - (((Int32.toUInt32 p0 >>> (Int32.toUInt32 (1 : Int32) &&& Int32.toUInt32 31)).toInt32) &&& (1431655765 : Int32))))]) rfl ?_
  refine J_iload_n d_Integer_bitCount_10 rfl ?_
  refine J_ldcw (v := 858993459) d_Integer_bitCount_11 (kn_Integer_266 hw) ?_
  refine J_iand d_Integer_bitCount_14 ?_
  refine J_iload_n d_Integer_bitCount_15 rfl ?_
  refine J_iconst (v := 2) d_Integer_bitCount_16 (by decide) ?_
  refine J_iushr d_Integer_bitCount_17 ?_
  refine J_ldcw (v := 858993459) d_Integer_bitCount_18 (kn_Integer_266 hw) ?_
  refine J_iand d_Integer_bitCount_21 ?_
  refine J_iadd d_Integer_bitCount_22 ?_
  refine J_istore_n d_Integer_bitCount_23 (Nat.le_of_ble_eq_true rfl) ?_
  refine J.ls (ls' := [some (.int (((p0 - (((Int32.toUInt32 p0 >>> (Int32.toUInt32 (1 : Int32) &&& Int32.toUInt32 31)).toInt32) &&& (1431655765 : Int32))) &&& (858993459 : Int32)) + (((Int32.toUInt32 (p0 - (((Int32.toUInt32 p0 >>> (Int32.toUInt32 (1 : Int32) &&& Int32.toUInt32 31)).toInt32) &&& (1431655765 : Int32))) >>> (Int32.toUInt32 (2 : Int32) &&& Int32.toUInt32 31)).toInt32) &&& (858993459 : Int32))))]) rfl ?_
  refine J_iload_n d_Integer_bitCount_24 rfl ?_
  refine J_iload_n d_Integer_bitCount_25 rfl ?_
  refine J_iconst (v := 4) d_Integer_bitCount_26 (by decide) ?_
  refine J_iushr d_Integer_bitCount_27 ?_
  refine J_iadd d_Integer_bitCount_28 ?_
  refine J_ldcw (v := 252645135) d_Integer_bitCount_29 (kn_Integer_267 hw) ?_
  refine J_iand d_Integer_bitCount_32 ?_
  refine J_istore_n d_Integer_bitCount_33 (Nat.le_of_ble_eq_true rfl) ?_
  refine J.ls (ls' := [some (.int (((((p0 - (((Int32.toUInt32 p0 >>> (Int32.toUInt32 (1 : Int32) &&& Int32.toUInt32 31)).toInt32) &&& (1431655765 : Int32))) &&& (858993459 : Int32)) + (((Int32.toUInt32 (p0 - (((Int32.toUInt32 p0 >>> (Int32.toUInt32 (1 : Int32) &&& Int32.toUInt32 31)).toInt32) &&& (1431655765 : Int32))) >>> (Int32.toUInt32 (2 : Int32) &&& Int32.toUInt32 31)).toInt32) &&& (858993459 : Int32))) + ((Int32.toUInt32 (((p0 - (((Int32.toUInt32 p0 >>> (Int32.toUInt32 (1 : Int32) &&& Int32.toUInt32 31)).toInt32) &&& (1431655765 : Int32))) &&& (858993459 : Int32)) + (((Int32.toUInt32 (p0 - (((Int32.toUInt32 p0 >>> (Int32.toUInt32 (1 : Int32) &&& Int32.toUInt32 31)).toInt32) &&& (1431655765 : Int32))) >>> (Int32.toUInt32 (2 : Int32) &&& Int32.toUInt32 31)).toInt32) &&& (858993459 : Int32))) >>> (Int32.toUInt32 (4 : Int32) &&& Int32.toUInt32 31)).toInt32)) &&& (252645135 : Int32)))]) rfl ?_
  refine J_iload_n d_Integer_bitCount_34 rfl ?_
  refine J_iload_n d_Integer_bitCount_35 rfl ?_
  refine J_bipush (v := 8) d_Integer_bitCount_36 (by decide) ?_
  refine J_iushr d_Integer_bitCount_38 ?_
  refine J_iadd d_Integer_bitCount_39 ?_
  refine J_istore_n d_Integer_bitCount_40 (Nat.le_of_ble_eq_true rfl) ?_
  refine J.ls (ls' := [some (.int ((((((p0 - (((Int32.toUInt32 p0 >>> (Int32.toUInt32 (1 : Int32) &&& Int32.toUInt32 31)).toInt32) &&& (1431655765 : Int32))) &&& (858993459 : Int32)) + (((Int32.toUInt32 (p0 - (((Int32.toUInt32 p0 >>> (Int32.toUInt32 (1 : Int32) &&& Int32.toUInt32 31)).toInt32) &&& (1431655765 : Int32))) >>> (Int32.toUInt32 (2 : Int32) &&& Int32.toUInt32 31)).toInt32) &&& (858993459 : Int32))) + ((Int32.toUInt32 (((p0 - (((Int32.toUInt32 p0 >>> (Int32.toUInt32 (1 : Int32) &&& Int32.toUInt32 31)).toInt32) &&& (1431655765 : Int32))) &&& (858993459 : Int32)) + (((Int32.toUInt32 (p0 - (((Int32.toUInt32 p0 >>> (Int32.toUInt32 (1 : Int32) &&& Int32.toUInt32 31)).toInt32) &&& (1431655765 : Int32))) >>> (Int32.toUInt32 (2 : Int32) &&& Int32.toUInt32 31)).toInt32) &&& (858993459 : Int32))) >>> (Int32.toUInt32 (4 : Int32) &&& Int32.toUInt32 31)).toInt32)) &&& (252645135 : Int32)) + ((Int32.toUInt32 (((((p0 - (((Int32.toUInt32 p0 >>> (Int32.toUInt32 (1 : Int32) &&& Int32.toUInt32 31)).toInt32) &&& (1431655765 : Int32))) &&& (858993459 : Int32)) + (((Int32.toUInt32 (p0 - (((Int32.toUInt32 p0 >>> (Int32.toUInt32 (1 : Int32) &&& Int32.toUInt32 31)).toInt32) &&& (1431655765 : Int32))) >>> (Int32.toUInt32 (2 : Int32) &&& Int32.toUInt32 31)).toInt32) &&& (858993459 : Int32))) + ((Int32.toUInt32 (((p0 - (((Int32.toUInt32 p0 >>> (Int32.toUInt32 (1 : Int32) &&& Int32.toUInt32 31)).toInt32) &&& (1431655765 : Int32))) &&& (858993459 : Int32)) + (((Int32.toUInt32 (p0 - (((Int32.toUInt32 p0 >>> (Int32.toUInt32 (1 : Int32) &&& Int32.toUInt32 31)).toInt32) &&& (1431655765 : Int32))) >>> (Int32.toUInt32 (2 : Int32) &&& Int32.toUInt32 31)).toInt32) &&& (858993459 : Int32))) >>> (Int32.toUInt32 (4 : Int32) &&& Int32.toUInt32 31)).toInt32)) &&& (252645135 : Int32)) >>> (Int32.toUInt32 (8 : Int32) &&& Int32.toUInt32 31)).toInt32)))]) rfl ?_
  refine J_iload_n d_Integer_bitCount_41 rfl ?_
  refine J_iload_n d_Integer_bitCount_42 rfl ?_
  refine J_bipush (v := 16) d_Integer_bitCount_43 (by decide) ?_
  refine J_iushr d_Integer_bitCount_45 ?_
  refine J_iadd d_Integer_bitCount_46 ?_
  refine J_istore_n d_Integer_bitCount_47 (Nat.le_of_ble_eq_true rfl) ?_
  refine J.ls (ls' := [some (.int (((((((p0 - (((Int32.toUInt32 p0 >>> (Int32.toUInt32 (1 : Int32) &&& Int32.toUInt32 31)).toInt32) &&& (1431655765 : Int32))) &&& (858993459 : Int32)) + (((Int32.toUInt32 (p0 - (((Int32.toUInt32 p0 >>> (Int32.toUInt32 (1 : Int32) &&& Int32.toUInt32 31)).toInt32) &&& (1431655765 : Int32))) >>> (Int32.toUInt32 (2 : Int32) &&& Int32.toUInt32 31)).toInt32) &&& (858993459 : Int32))) + ((Int32.toUInt32 (((p0 - (((Int32.toUInt32 p0 >>> (Int32.toUInt32 (1 : Int32) &&& Int32.toUInt32 31)).toInt32) &&& (1431655765 : Int32))) &&& (858993459 : Int32)) + (((Int32.toUInt32 (p0 - (((Int32.toUInt32 p0 >>> (Int32.toUInt32 (1 : Int32) &&& Int32.toUInt32 31)).toInt32) &&& (1431655765 : Int32))) >>> (Int32.toUInt32 (2 : Int32) &&& Int32.toUInt32 31)).toInt32) &&& (858993459 : Int32))) >>> (Int32.toUInt32 (4 : Int32) &&& Int32.toUInt32 31)).toInt32)) &&& (252645135 : Int32)) + ((Int32.toUInt32 (((((p0 - (((Int32.toUInt32 p0 >>> (Int32.toUInt32 (1 : Int32) &&& Int32.toUInt32 31)).toInt32) &&& (1431655765 : Int32))) &&& (858993459 : Int32)) + (((Int32.toUInt32 (p0 - (((Int32.toUInt32 p0 >>> (Int32.toUInt32 (1 : Int32) &&& Int32.toUInt32 31)).toInt32) &&& (1431655765 : Int32))) >>> (Int32.toUInt32 (2 : Int32) &&& Int32.toUInt32 31)).toInt32) &&& (858993459 : Int32))) + ((Int32.toUInt32 (((p0 - (((Int32.toUInt32 p0 >>> (Int32.toUInt32 (1 : Int32) &&& Int32.toUInt32 31)).toInt32) &&& (1431655765 : Int32))) &&& (858993459 : Int32)) + (((Int32.toUInt32 (p0 - (((Int32.toUInt32 p0 >>> (Int32.toUInt32 (1 : Int32) &&& Int32.toUInt32 31)).toInt32) &&& (1431655765 : Int32))) >>> (Int32.toUInt32 (2 : Int32) &&& Int32.toUInt32 31)).toInt32) &&& (858993459 : Int32))) >>> (Int32.toUInt32 (4 : Int32) &&& Int32.toUInt32 31)).toInt32)) &&& (252645135 : Int32)) >>> (Int32.toUInt32 (8 : Int32) &&& Int32.toUInt32 31)).toInt32)) + ((Int32.toUInt32 ((((((p0 - (((Int32.toUInt32 p0 >>> (Int32.toUInt32 (1 : Int32) &&& Int32.toUInt32 31)).toInt32) &&& (1431655765 : Int32))) &&& (858993459 : Int32)) + (((Int32.toUInt32 (p0 - (((Int32.toUInt32 p0 >>> (Int32.toUInt32 (1 : Int32) &&& Int32.toUInt32 31)).toInt32) &&& (1431655765 : Int32))) >>> (Int32.toUInt32 (2 : Int32) &&& Int32.toUInt32 31)).toInt32) &&& (858993459 : Int32))) + ((Int32.toUInt32 (((p0 - (((Int32.toUInt32 p0 >>> (Int32.toUInt32 (1 : Int32) &&& Int32.toUInt32 31)).toInt32) &&& (1431655765 : Int32))) &&& (858993459 : Int32)) + (((Int32.toUInt32 (p0 - (((Int32.toUInt32 p0 >>> (Int32.toUInt32 (1 : Int32) &&& Int32.toUInt32 31)).toInt32) &&& (1431655765 : Int32))) >>> (Int32.toUInt32 (2 : Int32) &&& Int32.toUInt32 31)).toInt32) &&& (858993459 : Int32))) >>> (Int32.toUInt32 (4 : Int32) &&& Int32.toUInt32 31)).toInt32)) &&& (252645135 : Int32)) + ((Int32.toUInt32 (((((p0 - (((Int32.toUInt32 p0 >>> (Int32.toUInt32 (1 : Int32) &&& Int32.toUInt32 31)).toInt32) &&& (1431655765 : Int32))) &&& (858993459 : Int32)) + (((Int32.toUInt32 (p0 - (((Int32.toUInt32 p0 >>> (Int32.toUInt32 (1 : Int32) &&& Int32.toUInt32 31)).toInt32) &&& (1431655765 : Int32))) >>> (Int32.toUInt32 (2 : Int32) &&& Int32.toUInt32 31)).toInt32) &&& (858993459 : Int32))) + ((Int32.toUInt32 (((p0 - (((Int32.toUInt32 p0 >>> (Int32.toUInt32 (1 : Int32) &&& Int32.toUInt32 31)).toInt32) &&& (1431655765 : Int32))) &&& (858993459 : Int32)) + (((Int32.toUInt32 (p0 - (((Int32.toUInt32 p0 >>> (Int32.toUInt32 (1 : Int32) &&& Int32.toUInt32 31)).toInt32) &&& (1431655765 : Int32))) >>> (Int32.toUInt32 (2 : Int32) &&& Int32.toUInt32 31)).toInt32) &&& (858993459 : Int32))) >>> (Int32.toUInt32 (4 : Int32) &&& Int32.toUInt32 31)).toInt32)) &&& (252645135 : Int32)) >>> (Int32.toUInt32 (8 : Int32) &&& Int32.toUInt32 31)).toInt32)) >>> (Int32.toUInt32 (16 : Int32) &&& Int32.toUInt32 31)).toInt32)))]) rfl ?_
  refine J_iload_n d_Integer_bitCount_48 rfl ?_
  refine J_bipush (v := 63) d_Integer_bitCount_49 (by decide) ?_
  refine J_iand d_Integer_bitCount_51 ?_
  have H := Option.some.inj H
  subst H
  exact J_iret (st := []) d_Integer_bitCount_52 rfl rfl ⟨rfl, rfl, rfl⟩
theorem ln_Burst_breaksExclusive : (parseMethodDescriptor y_Burst_breaksExclusive.desc).map (fun q => q.parameters.length) = some 1 := by decide +kernel
def f_Burst_breaksExclusive_L46 (Γ : gm_T)  (φ : ph_T) (y0 : Int32) : Option (Int32 × ph_T) :=
  @ite _ (y0 = 0 ∨ y0 = 1) _ (
  some (y0, φ)
  ) none
set_option maxRecDepth 100000 in
set_option maxHeartbeats 4000000 in
theorem p_Burst_breaksExclusive_L46 {w : jw_T} (hw : jok w) {Γ : gm_T} {n : Nat} (hG : gd w Γ n)  {x : Bool} {φ : ph_T} {y0 : Int32} {q : Int32 × ph_T} (H : f_Burst_breaksExclusive_L46 Γ  φ y0 = some q) : J w M_Burst_breaksExclusive 46 [none, none, none] [.int y0] (pic Γ φ) n x 0 0 (fq Γ n (.inl (some (.int q.1))) q.2) := by
  unfold f_Burst_breaksExclusive_L46 at H
  have z2 : y0 = 0 ∨ y0 = 1 := by
    apply Classical.byContradiction
    intro q9
    rw [if_neg q9] at H
    cases H
  rw [if_pos z2] at H
  have H := Option.some.inj H
  subst H
  exact J_iret (st := []) d_Burst_breaksExclusive_46 rfl (narrow_z z2).1 ⟨rfl, rfl, rfl⟩
def f_Burst_breaksExclusive_L41 (Γ : gm_T)  (φ : ph_T) : Option (Int32 × ph_T) :=
  f_Burst_breaksExclusive_L46 Γ  φ (1 : Int32)
set_option maxRecDepth 100000 in
set_option maxHeartbeats 4000000 in
theorem p_Burst_breaksExclusive_L41 {w : jw_T} (hw : jok w) {Γ : gm_T} {n : Nat} (hG : gd w Γ n)  {x : Bool} {φ : ph_T} {q : Int32 × ph_T} (H : f_Burst_breaksExclusive_L41 Γ  φ  = some q) : J w M_Burst_breaksExclusive 41 [none, none, none] [] (pic Γ φ) n x 0 0 (fq Γ n (.inl (some (.int q.1))) q.2) := by
  unfold f_Burst_breaksExclusive_L41 at H
  refine J_iconst (v := 1) d_Burst_breaksExclusive_41 (by decide) ?_
  refine J_goto (tgt := 46) d_Burst_breaksExclusive_42 (by decide) ?_
  refine J.drop [false, false, false] rfl ?_
  exact p_Burst_breaksExclusive_L46 hw hG  H
def f_Burst_breaksExclusive (Γ : gm_T) (φ : ph_T) (p0 : Int64) : Option (Int32 × ph_T) :=
  Option.bind (f_Burst_lengthOf Γ φ p0) fun q3 =>
  Option.bind (f_Burst_bytesOf Γ q3.2 p0) fun q4 =>
  Option.bind (f_Burst_kindOf Γ q4.2 p0) fun q5 =>
  if q5.1 = 0 then
    f_Burst_breaksExclusive_L41 Γ  q5.2 
  else
    Option.bind (f_Integer_bitCount Γ q5.2 (q3.1 * q4.1)) fun q6 =>
    if q6.1 = (1 : Int32) then
      if (128 : Int32) < (q3.1 * q4.1) then
        f_Burst_breaksExclusive_L41 Γ  q6.2 
      else
        Option.bind (f_Burst_addressOf Γ q6.2 p0) fun q7 =>
        @ite _ ((q3.1 * q4.1) = 0) _ none (
        if (q7.1 - q7.1 / (q3.1 * q4.1) * (q3.1 * q4.1)) = 0 then
          f_Burst_breaksExclusive_L46 Γ  q7.2 (0 : Int32)
        else
          f_Burst_breaksExclusive_L41 Γ  q7.2 
        )
    else
      f_Burst_breaksExclusive_L41 Γ  q6.2 
set_option maxRecDepth 100000 in
set_option maxHeartbeats 4000000 in
theorem p_Burst_breaksExclusive {w : jw_T} (hw : jok w) {Γ : gm_T} {n : Nat} (hG : gd w Γ n) {x : Bool} {φ : ph_T} {p0 : Int64} {q : Int32 × ph_T} (H : f_Burst_breaksExclusive Γ φ p0 = some q) : jc w M_Burst_breaksExclusive [.long p0] (pic Γ φ) n x 0 0 (fq Γ n (.inl (some (.int q.1))) q.2) := by
  refine jc.of (by simp only [jent_r, jent_i, jent_l, jent_a, jent_0]; exact Nat.le_of_ble_eq_true rfl) ?_
  have hls : jents [.long p0] (jm_nL M_Burst_breaksExclusive) = [some (.long p0), none, none] := by simp only [jents, jent_r, jent_i, jent_l, jent_a, jent_0]; rfl
  rw [hls]
  clear hls
  unfold f_Burst_breaksExclusive at H
  refine J_lload_n d_Burst_breaksExclusive_0 rfl ?_
  obtain ⟨q3, hq3, H⟩ := Option.bind_eq_some_iff.mp H
  refine J_callS (kc := 0) (ks := 0) (kc' := 0) (ks' := 0) (as := [.long p0]) (st := []) (mf_Burst_lengthOf hw) (ms_Burst_60 hw) d_Burst_breaksExclusive_1 ln_Burst_lengthOf (by decide) (by first | exact Nat.le_of_ble_eq_true rfl | (simp only [List.map_cons, List.map_nil, List.sum_cons, List.sum_nil, va_rf_cat]; exact Nat.le_of_ble_eq_true rfl)) rfl (p_Burst_lengthOf hw hG hq3) ?_ (fun E h' n' x' e1 => by cases e1.1)
  intro v9 h9 n9 x9 e9
  obtain ⟨e91, e92, e93⟩ := e9
  cases e91
  subst e92
  subst e93
  clear x
  rename Bool => x
  show J _ _ _ _ (_ :: _) _ _ _ _ _ _
  refine J_lload_n d_Burst_breaksExclusive_4 rfl ?_
  obtain ⟨q4, hq4, H⟩ := Option.bind_eq_some_iff.mp H
  refine J_callS (kc := 0) (ks := 0) (kc' := 0) (ks' := 0) (as := [.long p0]) (st := [.int q3.1]) (mf_Burst_bytesOf hw) (ms_Burst_66 hw) d_Burst_breaksExclusive_5 ln_Burst_bytesOf (by decide) (by first | exact Nat.le_of_ble_eq_true rfl | (simp only [List.map_cons, List.map_nil, List.sum_cons, List.sum_nil, va_rf_cat]; exact Nat.le_of_ble_eq_true rfl)) rfl (p_Burst_bytesOf hw hG hq4) ?_ (fun E h' n' x' e1 => by cases e1.1)
  intro v9 h9 n9 x9 e9
  obtain ⟨e91, e92, e93⟩ := e9
  cases e91
  subst e92
  subst e93
  clear x
  rename Bool => x
  show J _ _ _ _ (_ :: _) _ _ _ _ _ _
  refine J_imul d_Burst_breaksExclusive_8 ?_
  refine J_istore_n d_Burst_breaksExclusive_9 (Nat.le_of_ble_eq_true rfl) ?_
  refine J.ls (ls' := [some (.long p0), none, some (.int (q3.1 * q4.1))]) rfl ?_
  refine J_lload_n d_Burst_breaksExclusive_10 rfl ?_
  obtain ⟨q5, hq5, H⟩ := Option.bind_eq_some_iff.mp H
  refine J_callS (kc := 0) (ks := 0) (kc' := 0) (ks' := 0) (as := [.long p0]) (st := []) (mf_Burst_kindOf hw) (ms_Burst_43 hw) d_Burst_breaksExclusive_11 ln_Burst_kindOf (by decide) (by first | exact Nat.le_of_ble_eq_true rfl | (simp only [List.map_cons, List.map_nil, List.sum_cons, List.sum_nil, va_rf_cat]; exact Nat.le_of_ble_eq_true rfl)) rfl (p_Burst_kindOf hw hG hq5) ?_ (fun E h' n' x' e1 => by cases e1.1)
  intro v9 h9 n9 x9 e9
  obtain ⟨e91, e92, e93⟩ := e9
  cases e91
  subst e92
  subst e93
  clear x
  rename Bool => x
  show J _ _ _ _ (_ :: _) _ _ _ _ _ _
  refine J_if_eq (tgt := 41) d_Burst_breaksExclusive_14 (by decide) ?_ ?_
  · intro c12
    rw [if_pos c12] at H
    refine J.drop [false, false, false] rfl ?_
    exact p_Burst_breaksExclusive_L41 hw hG  H
  · intro c12
    rw [if_neg c12] at H
    refine J_iload_n d_Burst_breaksExclusive_17 rfl ?_
    obtain ⟨q6, hq6, H⟩ := Option.bind_eq_some_iff.mp H
    refine J_callS (kc := 0) (ks := 0) (kc' := 0) (ks' := 0) (as := [.int (q3.1 * q4.1)]) (st := []) (mf_Integer_bitCount hw) (ms_Burst_69 hw) d_Burst_breaksExclusive_18 ln_Integer_bitCount (by decide) (by first | exact Nat.le_of_ble_eq_true rfl | (simp only [List.map_cons, List.map_nil, List.sum_cons, List.sum_nil, va_rf_cat]; exact Nat.le_of_ble_eq_true rfl)) rfl (p_Integer_bitCount hw hG hq6) ?_ (fun E h' n' x' e1 => by cases e1.1)
    intro v9 h9 n9 x9 e9
    obtain ⟨e91, e92, e93⟩ := e9
    cases e91
    subst e92
    subst e93
    clear x
    rename Bool => x
    show J _ _ _ _ (_ :: _) _ _ _ _ _ _
    refine J_iconst (v := 1) d_Burst_breaksExclusive_21 (by decide) ?_
    refine J_icmp_ne (tgt := 41) d_Burst_breaksExclusive_22 (by decide) ?_ ?_
    · intro c11
      rw [if_neg c11] at H
      refine J.drop [false, false, false] rfl ?_
      exact p_Burst_breaksExclusive_L41 hw hG  H
    · intro c11
      rw [if_pos c11] at H
      refine J_iload_n d_Burst_breaksExclusive_25 rfl ?_
      refine J_sipush (v := 128) d_Burst_breaksExclusive_26 (by decide) ?_
      refine J_icmp_gt (tgt := 41) d_Burst_breaksExclusive_29 (by decide) ?_ ?_
      · intro c10
        rw [if_pos c10] at H
        refine J.drop [false, false, false] rfl ?_
        exact p_Burst_breaksExclusive_L41 hw hG  H
      · intro c10
        rw [if_neg c10] at H
        refine J_lload_n d_Burst_breaksExclusive_32 rfl ?_
        obtain ⟨q7, hq7, H⟩ := Option.bind_eq_some_iff.mp H
        refine J_callS (kc := 0) (ks := 0) (kc' := 0) (ks' := 0) (as := [.long p0]) (st := []) (mf_Burst_addressOf hw) (ms_Burst_63 hw) d_Burst_breaksExclusive_33 ln_Burst_addressOf (by decide) (by first | exact Nat.le_of_ble_eq_true rfl | (simp only [List.map_cons, List.map_nil, List.sum_cons, List.sum_nil, va_rf_cat]; exact Nat.le_of_ble_eq_true rfl)) rfl (p_Burst_addressOf hw hG hq7) ?_ (fun E h' n' x' e1 => by cases e1.1)
        intro v9 h9 n9 x9 e9
        obtain ⟨e91, e92, e93⟩ := e9
        cases e91
        subst e92
        subst e93
        clear x
        rename Bool => x
        show J _ _ _ _ (_ :: _) _ _ _ _ _ _
        refine J_iload_n d_Burst_breaksExclusive_36 rfl ?_
        have h8 : ¬ (q3.1 * q4.1) = 0 := by
          intro q9
          rw [if_pos q9] at H
          cases H
        rw [if_neg h8] at H
        refine J_irem d_Burst_breaksExclusive_37 h8 ?_
        refine J_if_eq (tgt := 45) d_Burst_breaksExclusive_38 (by decide) ?_ ?_
        · intro c9
          rw [if_pos c9] at H
          refine J_iconst (v := 0) d_Burst_breaksExclusive_45 (by decide) ?_
          refine J.drop [false, false, false] rfl ?_
          exact p_Burst_breaksExclusive_L46 hw hG  H
        · intro c9
          rw [if_neg c9] at H
          refine J.drop [false, false, false] rfl ?_
          exact p_Burst_breaksExclusive_L41 hw hG  H
theorem ln_Burst_brokenRule : (parseMethodDescriptor y_Burst_brokenRule.desc).map (fun q => q.parameters.length) = some 1 := by decide +kernel
def f_Burst_brokenRule_L57 (Γ : gm_T)  (φ : ph_T) : Option (Int32 × ph_T) :=
  some ((0 : Int32), φ)
set_option maxRecDepth 100000 in
set_option maxHeartbeats 4000000 in
theorem p_Burst_brokenRule_L57 {w : jw_T} (hw : jok w) {Γ : gm_T} {n : Nat} (hG : gd w Γ n)  {x : Bool} {φ : ph_T} {q : Int32 × ph_T} (H : f_Burst_brokenRule_L57 Γ  φ  = some q) : J w M_Burst_brokenRule 57 [none, none, none] [] (pic Γ φ) n x 0 0 (fq Γ n (.inl (some (.int q.1))) q.2) := by
  unfold f_Burst_brokenRule_L57 at H
  refine J_iconst (v := 0) d_Burst_brokenRule_57 (by decide) ?_
  have H := Option.some.inj H
  subst H
  exact J_iret (st := []) d_Burst_brokenRule_58 rfl rfl ⟨rfl, rfl, rfl⟩
def f_Burst_brokenRule_L40 (Γ : gm_T)  (φ : ph_T) (x0 : Int64) : Option (Int32 × ph_T) :=
  Option.bind (f_Burst_isExclusive Γ φ x0) fun q1 =>
  if q1.1 = 0 then
    f_Burst_brokenRule_L57 Γ  q1.2 
  else
    Option.bind (f_Burst_breaksExclusive Γ q1.2 x0) fun q2 =>
    if q2.1 = 0 then
      f_Burst_brokenRule_L57 Γ  q2.2 
    else
      some ((6 : Int32), q2.2)
set_option maxRecDepth 100000 in
set_option maxHeartbeats 4000000 in
theorem p_Burst_brokenRule_L40 {w : jw_T} (hw : jok w) {Γ : gm_T} {n : Nat} (hG : gd w Γ n)  {x : Bool} {φ : ph_T} {x0 : Int64} {q : Int32 × ph_T} (H : f_Burst_brokenRule_L40 Γ  φ x0 = some q) : J w M_Burst_brokenRule 40 [some (.long x0), none, none] [] (pic Γ φ) n x 0 0 (fq Γ n (.inl (some (.int q.1))) q.2) := by
  unfold f_Burst_brokenRule_L40 at H
  refine J_lload_n d_Burst_brokenRule_40 rfl ?_
  obtain ⟨q1, hq1, H⟩ := Option.bind_eq_some_iff.mp H
  refine J_callS (kc := 0) (ks := 0) (kc' := 0) (ks' := 0) (as := [.long x0]) (st := []) (mf_Burst_isExclusive hw) (ms_Burst_54 hw) d_Burst_brokenRule_41 ln_Burst_isExclusive (by decide) (by first | exact Nat.le_of_ble_eq_true rfl | (simp only [List.map_cons, List.map_nil, List.sum_cons, List.sum_nil, va_rf_cat]; exact Nat.le_of_ble_eq_true rfl)) rfl (p_Burst_isExclusive hw hG hq1) ?_ (fun E h' n' x' e1 => by cases e1.1)
  intro v9 h9 n9 x9 e9
  obtain ⟨e91, e92, e93⟩ := e9
  cases e91
  subst e92
  subst e93
  clear x
  rename Bool => x
  show J _ _ _ _ (_ :: _) _ _ _ _ _ _
  refine J_if_eq (tgt := 57) d_Burst_brokenRule_44 (by decide) ?_ ?_
  · intro c4
    rw [if_pos c4] at H
    refine J.drop [false, false, false] rfl ?_
    exact p_Burst_brokenRule_L57 hw hG  H
  · intro c4
    rw [if_neg c4] at H
    refine J_lload_n d_Burst_brokenRule_47 rfl ?_
    obtain ⟨q2, hq2, H⟩ := Option.bind_eq_some_iff.mp H
    refine J_callS (kc := 0) (ks := 0) (kc' := 0) (ks' := 0) (as := [.long x0]) (st := []) (mf_Burst_breaksExclusive hw) (ms_Burst_57 hw) d_Burst_brokenRule_48 ln_Burst_breaksExclusive (by decide) (by first | exact Nat.le_of_ble_eq_true rfl | (simp only [List.map_cons, List.map_nil, List.sum_cons, List.sum_nil, va_rf_cat]; exact Nat.le_of_ble_eq_true rfl)) rfl (p_Burst_breaksExclusive hw hG hq2) ?_ (fun E h' n' x' e1 => by cases e1.1)
    intro v9 h9 n9 x9 e9
    obtain ⟨e91, e92, e93⟩ := e9
    cases e91
    subst e92
    subst e93
    clear x
    rename Bool => x
    show J _ _ _ _ (_ :: _) _ _ _ _ _ _
    refine J_if_eq (tgt := 57) d_Burst_brokenRule_51 (by decide) ?_ ?_
    · intro c3
      rw [if_pos c3] at H
      refine J.drop [false, false, false] rfl ?_
      exact p_Burst_brokenRule_L57 hw hG  H
    · intro c3
      rw [if_neg c3] at H
      refine J_bipush (v := 6) d_Burst_brokenRule_54 (by decide) ?_
      have H := Option.some.inj H
      subst H
      exact J_iret (st := []) d_Burst_brokenRule_56 rfl rfl ⟨rfl, rfl, rfl⟩
def f_Burst_brokenRule_L26 (Γ : gm_T)  (φ : ph_T) (x0 : Int64) (x2 : Int32) : Option (Int32 × ph_T) :=
  if x2 = (1 : Int32) then
    Option.bind (f_Burst_breaksPage Γ φ x0) fun q5 =>
    if q5.1 = 0 then
      f_Burst_brokenRule_L40 Γ  q5.2 x0
    else
      some ((5 : Int32), q5.2)
  else
    f_Burst_brokenRule_L40 Γ  φ x0
set_option maxRecDepth 100000 in
set_option maxHeartbeats 4000000 in
theorem p_Burst_brokenRule_L26 {w : jw_T} (hw : jok w) {Γ : gm_T} {n : Nat} (hG : gd w Γ n)  {x : Bool} {φ : ph_T} {x0 : Int64} {x2 : Int32} {q : Int32 × ph_T} (H : f_Burst_brokenRule_L26 Γ  φ x0 x2 = some q) : J w M_Burst_brokenRule 26 [some (.long x0), none, some (.int x2)] [] (pic Γ φ) n x 0 0 (fq Γ n (.inl (some (.int q.1))) q.2) := by
  unfold f_Burst_brokenRule_L26 at H
  refine J_iload_n d_Burst_brokenRule_26 rfl ?_
  refine J_iconst (v := 1) d_Burst_brokenRule_27 (by decide) ?_
  refine J_icmp_ne (tgt := 40) d_Burst_brokenRule_28 (by decide) ?_ ?_
  · intro c7
    rw [if_neg c7] at H
    refine J.drop [true, false, false] rfl ?_
    exact p_Burst_brokenRule_L40 hw hG  H
  · intro c7
    rw [if_pos c7] at H
    refine J_lload_n d_Burst_brokenRule_31 rfl ?_
    obtain ⟨q5, hq5, H⟩ := Option.bind_eq_some_iff.mp H
    refine J_callS (kc := 0) (ks := 0) (kc' := 0) (ks' := 0) (as := [.long x0]) (st := []) (mf_Burst_breaksPage hw) (ms_Burst_51 hw) d_Burst_brokenRule_32 ln_Burst_breaksPage (by decide) (by first | exact Nat.le_of_ble_eq_true rfl | (simp only [List.map_cons, List.map_nil, List.sum_cons, List.sum_nil, va_rf_cat]; exact Nat.le_of_ble_eq_true rfl)) rfl (p_Burst_breaksPage hw hG hq5) ?_ (fun E h' n' x' e1 => by cases e1.1)
    intro v9 h9 n9 x9 e9
    obtain ⟨e91, e92, e93⟩ := e9
    cases e91
    subst e92
    subst e93
    clear x
    rename Bool => x
    show J _ _ _ _ (_ :: _) _ _ _ _ _ _
    refine J_if_eq (tgt := 40) d_Burst_brokenRule_35 (by decide) ?_ ?_
    · intro c6
      rw [if_pos c6] at H
      refine J.drop [true, false, false] rfl ?_
      exact p_Burst_brokenRule_L40 hw hG  H
    · intro c6
      rw [if_neg c6] at H
      refine J_iconst (v := 5) d_Burst_brokenRule_38 (by decide) ?_
      have H := Option.some.inj H
      subst H
      exact J_iret (st := []) d_Burst_brokenRule_39 rfl rfl ⟨rfl, rfl, rfl⟩
def f_Burst_brokenRule (Γ : gm_T) (φ : ph_T) (p0 : Int64) : Option (Int32 × ph_T) :=
  Option.bind (f_Burst_kindOf Γ φ p0) fun q8 =>
  if q8.1 ≤ (2 : Int32) then
    if q8.1 = (2 : Int32) then
      Option.bind (f_Burst_breaksWrap Γ q8.2 p0) fun q9 =>
      if q9.1 = 0 then
        f_Burst_brokenRule_L26 Γ  q9.2 p0 q8.1
      else
        some ((4 : Int32), q9.2)
    else
      f_Burst_brokenRule_L26 Γ  q8.2 p0 q8.1
  else
    some ((3 : Int32), q8.2)
set_option maxRecDepth 100000 in
set_option maxHeartbeats 4000000 in
theorem p_Burst_brokenRule {w : jw_T} (hw : jok w) {Γ : gm_T} {n : Nat} (hG : gd w Γ n) {x : Bool} {φ : ph_T} {p0 : Int64} {q : Int32 × ph_T} (H : f_Burst_brokenRule Γ φ p0 = some q) : jc w M_Burst_brokenRule [.long p0] (pic Γ φ) n x 0 0 (fq Γ n (.inl (some (.int q.1))) q.2) := by
  refine jc.of (by simp only [jent_r, jent_i, jent_l, jent_a, jent_0]; exact Nat.le_of_ble_eq_true rfl) ?_
  have hls : jents [.long p0] (jm_nL M_Burst_brokenRule) = [some (.long p0), none, none] := by simp only [jents, jent_r, jent_i, jent_l, jent_a, jent_0]; rfl
  rw [hls]
  clear hls
  unfold f_Burst_brokenRule at H
  refine J_lload_n d_Burst_brokenRule_0 rfl ?_
  obtain ⟨q8, hq8, H⟩ := Option.bind_eq_some_iff.mp H
  refine J_callS (kc := 0) (ks := 0) (kc' := 0) (ks' := 0) (as := [.long p0]) (st := []) (mf_Burst_kindOf hw) (ms_Burst_43 hw) d_Burst_brokenRule_1 ln_Burst_kindOf (by decide) (by first | exact Nat.le_of_ble_eq_true rfl | (simp only [List.map_cons, List.map_nil, List.sum_cons, List.sum_nil, va_rf_cat]; exact Nat.le_of_ble_eq_true rfl)) rfl (p_Burst_kindOf hw hG hq8) ?_ (fun E h' n' x' e1 => by cases e1.1)
  intro v9 h9 n9 x9 e9
  obtain ⟨e91, e92, e93⟩ := e9
  cases e91
  subst e92
  subst e93
  clear x
  rename Bool => x
  show J _ _ _ _ (_ :: _) _ _ _ _ _ _
  refine J_istore_n d_Burst_brokenRule_4 (Nat.le_of_ble_eq_true rfl) ?_
  refine J.ls (ls' := [some (.long p0), none, some (.int q8.1)]) rfl ?_
  refine J_iload_n d_Burst_brokenRule_5 rfl ?_
  refine J_iconst (v := 2) d_Burst_brokenRule_6 (by decide) ?_
  refine J_icmp_le (tgt := 12) d_Burst_brokenRule_7 (by decide) ?_ ?_
  · intro c12
    rw [if_pos c12] at H
    refine J_iload_n d_Burst_brokenRule_12 rfl ?_
    refine J_iconst (v := 2) d_Burst_brokenRule_13 (by decide) ?_
    refine J_icmp_ne (tgt := 26) d_Burst_brokenRule_14 (by decide) ?_ ?_
    · intro c11
      rw [if_neg c11] at H
      refine J.drop [true, false, true] rfl ?_
      exact p_Burst_brokenRule_L26 hw hG  H
    · intro c11
      rw [if_pos c11] at H
      refine J_lload_n d_Burst_brokenRule_17 rfl ?_
      obtain ⟨q9, hq9, H⟩ := Option.bind_eq_some_iff.mp H
      refine J_callS (kc := 0) (ks := 0) (kc' := 0) (ks' := 0) (as := [.long p0]) (st := []) (mf_Burst_breaksWrap hw) (ms_Burst_47 hw) d_Burst_brokenRule_18 ln_Burst_breaksWrap (by decide) (by first | exact Nat.le_of_ble_eq_true rfl | (simp only [List.map_cons, List.map_nil, List.sum_cons, List.sum_nil, va_rf_cat]; exact Nat.le_of_ble_eq_true rfl)) rfl (p_Burst_breaksWrap hw hG hq9) ?_ (fun E h' n' x' e1 => by cases e1.1)
      intro v9 h9 n9 x9 e9
      obtain ⟨e91, e92, e93⟩ := e9
      cases e91
      subst e92
      subst e93
      clear x
      rename Bool => x
      show J _ _ _ _ (_ :: _) _ _ _ _ _ _
      refine J_if_eq (tgt := 26) d_Burst_brokenRule_21 (by decide) ?_ ?_
      · intro c10
        rw [if_pos c10] at H
        refine J.drop [true, false, true] rfl ?_
        exact p_Burst_brokenRule_L26 hw hG  H
      · intro c10
        rw [if_neg c10] at H
        refine J_iconst (v := 4) d_Burst_brokenRule_24 (by decide) ?_
        have H := Option.some.inj H
        subst H
        exact J_iret (st := []) d_Burst_brokenRule_25 rfl rfl ⟨rfl, rfl, rfl⟩
  · intro c12
    rw [if_neg c12] at H
    refine J_iconst (v := 3) d_Burst_brokenRule_10 (by decide) ?_
    have H := Option.some.inj H
    subst H
    exact J_iret (st := []) d_Burst_brokenRule_11 rfl rfl ⟨rfl, rfl, rfl⟩
theorem ln_Master_hasRoom : (parseMethodDescriptor y_Master_hasRoom.desc).map (fun q => q.parameters.length) = some 1 := by decide +kernel
def f_Master_hasRoom_L51 (Γ : gm_T)  (φ : ph_T) (y0 : Int32) : Option (Int32 × ph_T) :=
  @ite _ (y0 = 0 ∨ y0 = 1) _ (
  some (y0, φ)
  ) none
set_option maxRecDepth 100000 in
set_option maxHeartbeats 4000000 in
theorem p_Master_hasRoom_L51 {w : jw_T} (hw : jok w) {Γ : gm_T} {n : Nat} (hG : gd w Γ n)  {x : Bool} {φ : ph_T} {y0 : Int32} {q : Int32 × ph_T} (H : f_Master_hasRoom_L51 Γ  φ y0 = some q) : J w M_Master_hasRoom 51 [none, none, none, none] [.int y0] (pic Γ φ) n x 0 0 (fq Γ n (.inl (some (.int q.1))) q.2) := by
  unfold f_Master_hasRoom_L51 at H
  have z1 : y0 = 0 ∨ y0 = 1 := by
    apply Classical.byContradiction
    intro q9
    rw [if_neg q9] at H
    cases H
  rw [if_pos z1] at H
  have H := Option.some.inj H
  subst H
  exact J_iret (st := []) d_Master_hasRoom_51 rfl (narrow_z z1).1 ⟨rfl, rfl, rfl⟩
def f_Master_hasRoom_L50 (Γ : gm_T)  (φ : ph_T) : Option (Int32 × ph_T) :=
  f_Master_hasRoom_L51 Γ  φ (0 : Int32)
set_option maxRecDepth 100000 in
set_option maxHeartbeats 4000000 in
theorem p_Master_hasRoom_L50 {w : jw_T} (hw : jok w) {Γ : gm_T} {n : Nat} (hG : gd w Γ n)  {x : Bool} {φ : ph_T} {q : Int32 × ph_T} (H : f_Master_hasRoom_L50 Γ  φ  = some q) : J w M_Master_hasRoom 50 [none, none, none, none] [] (pic Γ φ) n x 0 0 (fq Γ n (.inl (some (.int q.1))) q.2) := by
  unfold f_Master_hasRoom_L50 at H
  refine J_iconst (v := 0) d_Master_hasRoom_50 (by decide) ?_
  refine J.drop [false, false, false, false] rfl ?_
  exact p_Master_hasRoom_L51 hw hG  H
def f_Master_hasRoom_L31 (Γ : gm_T)  (φ : ph_T) (x2 : Int32) (y0 : Int32) : Option (Int32 × ph_T) :=
  if (64 : Int32) ≤ x2 then
    f_Master_hasRoom_L50 Γ  φ 
  else
    if (8 : Int32) ≤ (x2 - y0) then
      f_Master_hasRoom_L50 Γ  φ 
    else
      f_Master_hasRoom_L51 Γ  φ (1 : Int32)
set_option maxRecDepth 100000 in
set_option maxHeartbeats 4000000 in
theorem p_Master_hasRoom_L31 {w : jw_T} (hw : jok w) {Γ : gm_T} {n : Nat} (hG : gd w Γ n)  {x : Bool} {φ : ph_T} {x2 : Int32} {y0 : Int32} {q : Int32 × ph_T} (H : f_Master_hasRoom_L31 Γ  φ x2 y0 = some q) : J w M_Master_hasRoom 31 [none, none, some (.int x2), none] [.int y0] (pic Γ φ) n x 0 0 (fq Γ n (.inl (some (.int q.1))) q.2) := by
  unfold f_Master_hasRoom_L31 at H
  refine J_istore_n d_Master_hasRoom_31 (Nat.le_of_ble_eq_true rfl) ?_
  refine J.ls (ls' := [none, none, some (.int x2), some (.int y0)]) rfl ?_
  refine J_iload_n d_Master_hasRoom_32 rfl ?_
  refine J_bipush (v := 64) d_Master_hasRoom_33 (by decide) ?_
  refine J_icmp_ge (tgt := 50) d_Master_hasRoom_35 (by decide) ?_ ?_
  · intro c3
    rw [if_pos c3] at H
    refine J.drop [false, false, false, false] rfl ?_
    exact p_Master_hasRoom_L50 hw hG  H
  · intro c3
    rw [if_neg c3] at H
    refine J_iload_n d_Master_hasRoom_38 rfl ?_
    refine J_iload_n d_Master_hasRoom_39 rfl ?_
    refine J_isub d_Master_hasRoom_40 ?_
    refine J_bipush (v := 8) d_Master_hasRoom_41 (by decide) ?_
    refine J_icmp_ge (tgt := 50) d_Master_hasRoom_43 (by decide) ?_ ?_
    · intro c2
      rw [if_pos c2] at H
      refine J.drop [false, false, false, false] rfl ?_
      exact p_Master_hasRoom_L50 hw hG  H
    · intro c2
      rw [if_neg c2] at H
      refine J_iconst (v := 1) d_Master_hasRoom_46 (by decide) ?_
      refine J_goto (tgt := 51) d_Master_hasRoom_47 (by decide) ?_
      refine J.drop [false, false, false, false] rfl ?_
      exact p_Master_hasRoom_L51 hw hG  H
def f_Master_hasRoom_L15 (Γ : gm_T)  (φ : ph_T) (x0 : Nat) (x1 : Int32) (y0 : Int32) : Option (Int32 × ph_T) :=
  if x1 = 0 then
    @ite _ (Γ x0 = .inr 7) _ (
    f_Master_hasRoom_L31 Γ  φ y0 (φ.1 x0 7)
    ) none
  else
    @ite _ (Γ x0 = .inr 7) _ (
    f_Master_hasRoom_L31 Γ  φ y0 (φ.1 x0 6)
    ) none
set_option maxRecDepth 100000 in
set_option maxHeartbeats 4000000 in
theorem p_Master_hasRoom_L15 {w : jw_T} (hw : jok w) {Γ : gm_T} {n : Nat} (hG : gd w Γ n)  {x : Bool} {φ : ph_T} {x0 : Nat} {x1 : Int32} {y0 : Int32} {q : Int32 × ph_T} (H : f_Master_hasRoom_L15 Γ  φ x0 x1 y0 = some q) : J w M_Master_hasRoom 15 [some (.ref x0), some (.int x1), none, none] [.int y0] (pic Γ φ) n x 0 0 (fq Γ n (.inl (some (.int q.1))) q.2) := by
  unfold f_Master_hasRoom_L15 at H
  refine J_istore_n d_Master_hasRoom_15 (Nat.le_of_ble_eq_true rfl) ?_
  refine J.ls (ls' := [some (.ref x0), some (.int x1), some (.int y0), none]) rfl ?_
  refine J_iload_n d_Master_hasRoom_16 rfl ?_
  refine J_if_eq (tgt := 27) d_Master_hasRoom_17 (by decide) ?_ ?_
  · intro c6
    rw [if_pos c6] at H
    refine J_aload_n d_Master_hasRoom_27 rfl ?_
    have g4 : Γ x0 = .inr 7 := by
      apply Classical.byContradiction
      intro q9
      rw [if_neg q9] at H
      cases H
    rw [if_pos g4] at H
    refine F_getI (ci := 7) (k := 7) hG (cf_Master hw) (fl_Master_45 hw) (by decide) (by decide) rfl d_Master_hasRoom_28 g4 ?_
    refine J.drop [false, false, true, false] rfl ?_
    exact p_Master_hasRoom_L31 hw hG  H
  · intro c6
    rw [if_neg c6] at H
    refine J_aload_n d_Master_hasRoom_20 rfl ?_
    have g5 : Γ x0 = .inr 7 := by
      apply Classical.byContradiction
      intro q9
      rw [if_neg q9] at H
      cases H
    rw [if_pos g5] at H
    refine F_getI (ci := 7) (k := 6) hG (cf_Master hw) (fl_Master_42 hw) (by decide) (by decide) rfl d_Master_hasRoom_21 g5 ?_
    refine J_goto (tgt := 31) d_Master_hasRoom_24 (by decide) ?_
    refine J.drop [false, false, true, false] rfl ?_
    exact p_Master_hasRoom_L31 hw hG  H
def f_Master_hasRoom (Γ : gm_T) (φ : ph_T) (this : Nat) (p0 : Int32) : Option (Int32 × ph_T) :=
  if p0 = 0 then
    @ite _ (Γ this = .inr 7) _ (
    f_Master_hasRoom_L15 Γ  φ this p0 (φ.1 this 5)
    ) none
  else
    @ite _ (Γ this = .inr 7) _ (
    f_Master_hasRoom_L15 Γ  φ this p0 (φ.1 this 4)
    ) none
set_option maxRecDepth 100000 in
set_option maxHeartbeats 4000000 in
theorem p_Master_hasRoom {w : jw_T} (hw : jok w) {Γ : gm_T} {n : Nat} (hG : gd w Γ n) {x : Bool} {φ : ph_T} {this : Nat} {p0 : Int32} {q : Int32 × ph_T} (H : f_Master_hasRoom Γ φ this p0 = some q) : jc w M_Master_hasRoom [.ref this, .int p0] (pic Γ φ) n x 0 0 (fq Γ n (.inl (some (.int q.1))) q.2) := by
  refine jc.of (by simp only [jent_r, jent_i, jent_l, jent_a, jent_0]; exact Nat.le_of_ble_eq_true rfl) ?_
  have hls : jents [.ref this, .int p0] (jm_nL M_Master_hasRoom) = [some (.ref this), some (.int p0), none, none] := by simp only [jents, jent_r, jent_i, jent_l, jent_a, jent_0]; rfl
  rw [hls]
  clear hls
  unfold f_Master_hasRoom at H
  refine J_iload_n d_Master_hasRoom_0 rfl ?_
  refine J_if_eq (tgt := 11) d_Master_hasRoom_1 (by decide) ?_ ?_
  · intro c9
    rw [if_pos c9] at H
    refine J_aload_n d_Master_hasRoom_11 rfl ?_
    have g7 : Γ this = .inr 7 := by
      apply Classical.byContradiction
      intro q9
      rw [if_neg q9] at H
      cases H
    rw [if_pos g7] at H
    refine F_getI (ci := 7) (k := 5) hG (cf_Master hw) (fl_Master_39 hw) (by decide) (by decide) rfl d_Master_hasRoom_12 g7 ?_
    refine J.drop [true, true, false, false] rfl ?_
    exact p_Master_hasRoom_L15 hw hG  H
  · intro c9
    rw [if_neg c9] at H
    refine J_aload_n d_Master_hasRoom_4 rfl ?_
    have g8 : Γ this = .inr 7 := by
      apply Classical.byContradiction
      intro q9
      rw [if_neg q9] at H
      cases H
    rw [if_pos g8] at H
    refine F_getI (ci := 7) (k := 4) hG (cf_Master hw) (fl_Master_35 hw) (by decide) (by decide) rfl d_Master_hasRoom_5 g8 ?_
    refine J_goto (tgt := 15) d_Master_hasRoom_8 (by decide) ?_
    refine J.drop [true, true, false, false] rfl ?_
    exact p_Master_hasRoom_L15 hw hG  H
theorem ln_Burst_start : (parseMethodDescriptor y_Burst_start.desc).map (fun q => q.parameters.length) = some 1 := by decide +kernel
def f_Burst_start (Γ : gm_T) (φ : ph_T) (this : Nat) (p0 : Int64) : Option (Unit × ph_T) :=
  @ite _ (Γ this = .inr 0) _ (
  @ite _ ((0 : Int32) = 0 ∨ (0 : Int32) = 1) _ (
  @ite _ ((0 : Int32) = 0 ∨ (0 : Int32) = 1) _ (
  some ((), (uI (uI (uI (uI (uI (uL φ this 0 p0) this 1 (0 : Int32)) this 2 (0 : Int32)) this 3 (0 : Int32)) this 4 (-1 : Int32)) this 5 (0 : Int32)))
  ) none
  ) none
  ) none
set_option maxRecDepth 100000 in
set_option maxHeartbeats 4000000 in
theorem p_Burst_start {w : jw_T} (hw : jok w) {Γ : gm_T} {n : Nat} (hG : gd w Γ n) {x : Bool} {φ : ph_T} {this : Nat} {p0 : Int64} {q : Unit × ph_T} (H : f_Burst_start Γ φ this p0 = some q) : jc w M_Burst_start [.ref this, .long p0] (pic Γ φ) n x 0 0 (fq Γ n (.inl none) q.2) := by
  refine jc.of (by simp only [jent_r, jent_i, jent_l, jent_a, jent_0]; exact Nat.le_of_ble_eq_true rfl) ?_
  have hls : jents [.ref this, .long p0] (jm_nL M_Burst_start) = [some (.ref this), some (.long p0), none] := by simp only [jents, jent_r, jent_i, jent_l, jent_a, jent_0]; rfl
  rw [hls]
  clear hls
  unfold f_Burst_start at H
  refine J_aload_n d_Burst_start_0 rfl ?_
  refine J_lload_n d_Burst_start_1 rfl ?_
  have g1 : Γ this = .inr 0 := by
    apply Classical.byContradiction
    intro q9
    rw [if_neg q9] at H
    cases H
  rw [if_pos g1] at H
  refine F_putL (ci := 0) (k := 0) hG (cf_Burst hw) (fl_Burst_19 hw) (by decide) (by decide) rfl d_Burst_start_2 rfl rfl rfl g1 ?_
  refine J_aload_n d_Burst_start_5 rfl ?_
  refine J_iconst (v := 0) d_Burst_start_6 (by decide) ?_
  have z2 : (0 : Int32) = 0 ∨ (0 : Int32) = 1 := by
    apply Classical.byContradiction
    intro q9
    rw [if_neg q9] at H
    cases H
  rw [if_pos z2] at H
  refine F_putI (ci := 0) (k := 1) hG (cf_Burst hw) (fl_Burst_23 hw) (by decide) (by decide) rfl d_Burst_start_7 rfl (narrow_z z2).1 (narrow_z z2).2 g1 ?_
  refine J_aload_n d_Burst_start_10 rfl ?_
  refine J_iconst (v := 0) d_Burst_start_11 (by decide) ?_
  have z3 : (0 : Int32) = 0 ∨ (0 : Int32) = 1 := by
    apply Classical.byContradiction
    intro q9
    rw [if_neg q9] at H
    cases H
  rw [if_pos z3] at H
  refine F_putI (ci := 0) (k := 2) hG (cf_Burst hw) (fl_Burst_27 hw) (by decide) (by decide) rfl d_Burst_start_12 rfl (narrow_z z3).1 (narrow_z z3).2 g1 ?_
  refine J_aload_n d_Burst_start_15 rfl ?_
  refine J_iconst (v := 0) d_Burst_start_16 (by decide) ?_
  refine F_putI (ci := 0) (k := 3) hG (cf_Burst hw) (fl_Burst_30 hw) (by decide) (by decide) rfl d_Burst_start_17 rfl rfl rfl g1 ?_
  refine J_aload_n d_Burst_start_20 rfl ?_
  refine J_iconst (v := -1) d_Burst_start_21 (by decide) ?_
  refine F_putI (ci := 0) (k := 4) hG (cf_Burst hw) (fl_Burst_34 hw) (by decide) (by decide) rfl d_Burst_start_22 rfl rfl rfl g1 ?_
  refine J_aload_n d_Burst_start_25 rfl ?_
  refine J_iconst (v := 0) d_Burst_start_26 (by decide) ?_
  refine F_putI (ci := 0) (k := 5) hG (cf_Burst hw) (fl_Burst_37 hw) (by decide) (by decide) rfl d_Burst_start_27 rfl rfl rfl g1 ?_
  have H := Option.some.inj H
  subst H
  exact J_vret (st := []) d_Burst_start_30 rfl ⟨rfl, rfl, rfl⟩
theorem ln_Request_start : (parseMethodDescriptor y_Request_start.desc).map (fun q => q.parameters.length) = some 3 := by decide +kernel
def f_Request_start (Γ : gm_T) (φ : ph_T) (this : Nat) (p0 : Int64) (p1 : Int32) (p2 : Int32) : Option (Unit × ph_T) :=
  @ite _ (Γ this = .inr 6) _ (
  Option.bind (φ.2.2 this 0) fun a2 =>
  @ite _ (Γ a2 = .inr 0) _ (
  Option.bind (f_Burst_start Γ φ a2 p0) fun q4 =>
  @ite _ (p1 = 0 ∨ p1 = 1) _ (
  some ((), (uI (uI (uI (uI (uI q4.2 this 1 p1) this 2 p2) this 3 (-1 : Int32)) this 4 (-1 : Int32)) this 5 (0 : Int32)))
  ) none
  ) none
  ) none
set_option maxRecDepth 100000 in
set_option maxHeartbeats 4000000 in
theorem p_Request_start {w : jw_T} (hw : jok w) {Γ : gm_T} {n : Nat} (hG : gd w Γ n) {x : Bool} {φ : ph_T} {this : Nat} {p0 : Int64} {p1 : Int32} {p2 : Int32} {q : Unit × ph_T} (H : f_Request_start Γ φ this p0 p1 p2 = some q) : jc w M_Request_start [.ref this, .long p0, .int p1, .int p2] (pic Γ φ) n x 0 0 (fq Γ n (.inl none) q.2) := by
  refine jc.of (by simp only [jent_r, jent_i, jent_l, jent_a, jent_0]; exact Nat.le_of_ble_eq_true rfl) ?_
  have hls : jents [.ref this, .long p0, .int p1, .int p2] (jm_nL M_Request_start) = [some (.ref this), some (.long p0), none, some (.int p1), some (.int p2)] := by simp only [jents, jent_r, jent_i, jent_l, jent_a, jent_0]; rfl
  rw [hls]
  clear hls
  unfold f_Request_start at H
  refine J_aload_n d_Request_start_0 rfl ?_
  have g1 : Γ this = .inr 6 := by
    apply Classical.byContradiction
    intro q9
    rw [if_neg q9] at H
    cases H
  rw [if_pos g1] at H
  refine F_getR (ci := 6) (k := 0) hG (cf_Request hw) (fl_Request_12 hw) (by decide) (by decide) rfl d_Request_start_1 g1 ?_
  refine J_lload_n d_Request_start_4 rfl ?_
  obtain ⟨a2, ha2, H⟩ := Option.bind_eq_some_iff.mp H
  rw [j_rf ha2]
  have g3 : Γ a2 = .inr 0 := by
    apply Classical.byContradiction
    intro q9
    rw [if_neg q9] at H
    cases H
  rw [if_pos g3] at H
  obtain ⟨q4, hq4, H⟩ := Option.bind_eq_some_iff.mp H
  refine J_callV (kc := 0) (ks := 0) (kc' := 0) (ks' := 0) (a := a2) (ci := 0) (as := [.long p0]) (st := []) (mf_Burst_start hw) (mv_Request_18 hw) d_Request_start_5 ln_Burst_start (by decide) (by first | exact Nat.le_of_ble_eq_true rfl | (simp only [List.map_cons, List.map_nil, List.sum_cons, List.sum_nil, va_rf_cat]; exact Nat.le_of_ble_eq_true rfl)) rfl ((hG _).1 _ g3 (by decide)).1 ((hG _).1 _ g3 (by decide)).2 (by unfold pic; rw [g3]; rfl) (jcl_at hw rfl) rfl (p_Burst_start hw hG hq4) ?_ (fun E h' n' x' e1 => by cases e1.1)
  intro v9 h9 n9 x9 e9
  obtain ⟨e91, e92, e93⟩ := e9
  cases e91
  subst e92
  subst e93
  clear x
  rename Bool => x
  show J _ _ _ _ [] _ _ _ _ _ _
  refine J_aload_n d_Request_start_8 rfl ?_
  refine J_iload_n d_Request_start_9 rfl ?_
  have z5 : p1 = 0 ∨ p1 = 1 := by
    apply Classical.byContradiction
    intro q9
    rw [if_neg q9] at H
    cases H
  rw [if_pos z5] at H
  refine F_putI (ci := 6) (k := 1) hG (cf_Request hw) (fl_Request_22 hw) (by decide) (by decide) rfl d_Request_start_10 rfl (narrow_z z5).1 (narrow_z z5).2 g1 ?_
  refine J_aload_n d_Request_start_13 rfl ?_
  refine J_iload d_Request_start_14 rfl ?_
  refine F_putI (ci := 6) (k := 2) hG (cf_Request hw) (fl_Request_26 hw) (by decide) (by decide) rfl d_Request_start_16 rfl rfl rfl g1 ?_
  refine J_aload_n d_Request_start_19 rfl ?_
  refine J_iconst (v := -1) d_Request_start_20 (by decide) ?_
  refine F_putI (ci := 6) (k := 3) hG (cf_Request hw) (fl_Request_30 hw) (by decide) (by decide) rfl d_Request_start_21 rfl rfl rfl g1 ?_
  refine J_aload_n d_Request_start_24 rfl ?_
  refine J_iconst (v := -1) d_Request_start_25 (by decide) ?_
  refine F_putI (ci := 6) (k := 4) hG (cf_Request hw) (fl_Request_33 hw) (by decide) (by decide) rfl d_Request_start_26 rfl rfl rfl g1 ?_
  refine J_aload_n d_Request_start_29 rfl ?_
  refine J_iconst (v := 0) d_Request_start_30 (by decide) ?_
  refine F_putI (ci := 6) (k := 5) hG (cf_Request hw) (fl_Request_36 hw) (by decide) (by decide) rfl d_Request_start_31 rfl rfl rfl g1 ?_
  have H := Option.some.inj H
  subst H
  exact J_vret (st := []) d_Request_start_34 rfl ⟨rfl, rfl, rfl⟩
theorem ln_Burst_beatAddress : (parseMethodDescriptor y_Burst_beatAddress.desc).map (fun q => q.parameters.length) = some 2 := by decide +kernel
def f_Burst_beatAddress_L39 (Γ : gm_T)  (φ : ph_T) (x0 : Int64) (x2 : Int32) (x3 : Int32) (x4 : Int32) (x5 : Int32) : Option (Int32 × ph_T) :=
  if x5 = (2 : Int32) then
    Option.bind (f_Burst_lengthOf Γ φ x0) fun q4 =>
    @ite _ ((q4.1 * x4) = 0) _ none (
    @ite _ ((q4.1 * x4) = 0) _ none (
    some (((x3 - (x3 - x3 / (q4.1 * x4) * (q4.1 * x4))) + (((x3 - (x3 - (x3 - x3 / (q4.1 * x4) * (q4.1 * x4)))) + (x2 * x4)) - ((x3 - (x3 - (x3 - x3 / (q4.1 * x4) * (q4.1 * x4)))) + (x2 * x4)) / (q4.1 * x4) * (q4.1 * x4))), q4.2)
    )
    )
  else
    some (x3, φ)
set_option maxRecDepth 100000 in
set_option maxHeartbeats 4000000 in
theorem p_Burst_beatAddress_L39 {w : jw_T} (hw : jok w) {Γ : gm_T} {n : Nat} (hG : gd w Γ n)  {x : Bool} {φ : ph_T} {x0 : Int64} {x2 : Int32} {x3 : Int32} {x4 : Int32} {x5 : Int32} {q : Int32 × ph_T} (H : f_Burst_beatAddress_L39 Γ  φ x0 x2 x3 x4 x5 = some q) : J w M_Burst_beatAddress 39 [some (.long x0), none, some (.int x2), some (.int x3), some (.int x4), some (.int x5), none, none] [] (pic Γ φ) n x 0 0 (fq Γ n (.inl (some (.int q.1))) q.2) := by
  unfold f_Burst_beatAddress_L39 at H
  refine J_iload d_Burst_beatAddress_39 rfl ?_
  refine J_iconst (v := 2) d_Burst_beatAddress_41 (by decide) ?_
  refine J_icmp_ne (tgt := 78) d_Burst_beatAddress_42 (by decide) ?_ ?_
  · intro c7
    rw [if_neg c7] at H
    refine J_iload_n d_Burst_beatAddress_78 rfl ?_
    have H := Option.some.inj H
    subst H
    exact J_iret (st := []) d_Burst_beatAddress_79 rfl rfl ⟨rfl, rfl, rfl⟩
  · intro c7
    rw [if_pos c7] at H
    refine J_lload_n d_Burst_beatAddress_45 rfl ?_
    obtain ⟨q4, hq4, H⟩ := Option.bind_eq_some_iff.mp H
    refine J_callS (kc := 0) (ks := 0) (kc' := 0) (ks' := 0) (as := [.long x0]) (st := []) (mf_Burst_lengthOf hw) (ms_Burst_60 hw) d_Burst_beatAddress_46 ln_Burst_lengthOf (by decide) (by first | exact Nat.le_of_ble_eq_true rfl | (simp only [List.map_cons, List.map_nil, List.sum_cons, List.sum_nil, va_rf_cat]; exact Nat.le_of_ble_eq_true rfl)) rfl (p_Burst_lengthOf hw hG hq4) ?_ (fun E h' n' x' e1 => by cases e1.1)
    intro v9 h9 n9 x9 e9
    obtain ⟨e91, e92, e93⟩ := e9
    cases e91
    subst e92
    subst e93
    clear x
    rename Bool => x
    show J _ _ _ _ (_ :: _) _ _ _ _ _ _
    refine J_iload d_Burst_beatAddress_49 rfl ?_
    refine J_imul d_Burst_beatAddress_51 ?_
    refine J_istore d_Burst_beatAddress_52 (Nat.le_of_ble_eq_true rfl) ?_
    refine J.ls (ls' := [some (.long x0), none, some (.int x2), some (.int x3), some (.int x4), some (.int x5), some (.int (q4.1 * x4)), none]) rfl ?_
    refine J_iload_n d_Burst_beatAddress_54 rfl ?_
    refine J_iload_n d_Burst_beatAddress_55 rfl ?_
    refine J_iload d_Burst_beatAddress_56 rfl ?_
    have h5 : ¬ (q4.1 * x4) = 0 := by
      intro q9
      rw [if_pos q9] at H
      cases H
    rw [if_neg h5] at H
    refine J_irem d_Burst_beatAddress_58 h5 ?_
    refine J_isub d_Burst_beatAddress_59 ?_
    refine J_istore d_Burst_beatAddress_60 (Nat.le_of_ble_eq_true rfl) ?_
    refine J.ls (ls' := [some (.long x0), none, some (.int x2), some (.int x3), some (.int x4), some (.int x5), some (.int (q4.1 * x4)), some (.int (x3 - (x3 - x3 / (q4.1 * x4) * (q4.1 * x4))))]) rfl ?_
    refine J_iload d_Burst_beatAddress_62 rfl ?_
    refine J_iload_n d_Burst_beatAddress_64 rfl ?_
    refine J_iload d_Burst_beatAddress_65 rfl ?_
    refine J_isub d_Burst_beatAddress_67 ?_
    refine J_iload_n d_Burst_beatAddress_68 rfl ?_
    refine J_iload d_Burst_beatAddress_69 rfl ?_
    refine J_imul d_Burst_beatAddress_71 ?_
    refine J_iadd d_Burst_beatAddress_72 ?_
    refine J_iload d_Burst_beatAddress_73 rfl ?_
    have h6 : ¬ (q4.1 * x4) = 0 := by
      intro q9
      rw [if_pos q9] at H
      cases H
    rw [if_neg h6] at H
    refine J_irem d_Burst_beatAddress_75 h6 ?_
    refine J_iadd d_Burst_beatAddress_76 ?_
    have H := Option.some.inj H
    subst H
    exact J_iret (st := []) d_Burst_beatAddress_77 rfl rfl ⟨rfl, rfl, rfl⟩
def f_Burst_beatAddress (Γ : gm_T) (φ : ph_T) (p0 : Int64) (p1 : Int32) : Option (Int32 × ph_T) :=
  Option.bind (f_Burst_addressOf Γ φ p0) fun q8 =>
  Option.bind (f_Burst_bytesOf Γ q8.2 p0) fun q9 =>
  Option.bind (f_Burst_kindOf Γ q9.2 p0) fun q10 =>
  if q10.1 = (1 : Int32) then
    if p1 ≤ 0 then
      f_Burst_beatAddress_L39 Γ  q10.2 p0 p1 q8.1 q9.1 q10.1
    else
      @ite _ (q9.1 = 0) _ none (
      some (((q8.1 - (q8.1 - q8.1 / q9.1 * q9.1)) + (p1 * q9.1)), q10.2)
      )
  else
    f_Burst_beatAddress_L39 Γ  q10.2 p0 p1 q8.1 q9.1 q10.1
set_option maxRecDepth 100000 in
set_option maxHeartbeats 4000000 in
theorem p_Burst_beatAddress {w : jw_T} (hw : jok w) {Γ : gm_T} {n : Nat} (hG : gd w Γ n) {x : Bool} {φ : ph_T} {p0 : Int64} {p1 : Int32} {q : Int32 × ph_T} (H : f_Burst_beatAddress Γ φ p0 p1 = some q) : jc w M_Burst_beatAddress [.long p0, .int p1] (pic Γ φ) n x 0 0 (fq Γ n (.inl (some (.int q.1))) q.2) := by
  refine jc.of (by simp only [jent_r, jent_i, jent_l, jent_a, jent_0]; exact Nat.le_of_ble_eq_true rfl) ?_
  have hls : jents [.long p0, .int p1] (jm_nL M_Burst_beatAddress) = [some (.long p0), none, some (.int p1), none, none, none, none, none] := by simp only [jents, jent_r, jent_i, jent_l, jent_a, jent_0]; rfl
  rw [hls]
  clear hls
  unfold f_Burst_beatAddress at H
  refine J_lload_n d_Burst_beatAddress_0 rfl ?_
  obtain ⟨q8, hq8, H⟩ := Option.bind_eq_some_iff.mp H
  refine J_callS (kc := 0) (ks := 0) (kc' := 0) (ks' := 0) (as := [.long p0]) (st := []) (mf_Burst_addressOf hw) (ms_Burst_63 hw) d_Burst_beatAddress_1 ln_Burst_addressOf (by decide) (by first | exact Nat.le_of_ble_eq_true rfl | (simp only [List.map_cons, List.map_nil, List.sum_cons, List.sum_nil, va_rf_cat]; exact Nat.le_of_ble_eq_true rfl)) rfl (p_Burst_addressOf hw hG hq8) ?_ (fun E h' n' x' e1 => by cases e1.1)
  intro v9 h9 n9 x9 e9
  obtain ⟨e91, e92, e93⟩ := e9
  cases e91
  subst e92
  subst e93
  clear x
  rename Bool => x
  show J _ _ _ _ (_ :: _) _ _ _ _ _ _
  refine J_istore_n d_Burst_beatAddress_4 (Nat.le_of_ble_eq_true rfl) ?_
  refine J.ls (ls' := [some (.long p0), none, some (.int p1), some (.int q8.1), none, none, none, none]) rfl ?_
  refine J_lload_n d_Burst_beatAddress_5 rfl ?_
  obtain ⟨q9, hq9, H⟩ := Option.bind_eq_some_iff.mp H
  refine J_callS (kc := 0) (ks := 0) (kc' := 0) (ks' := 0) (as := [.long p0]) (st := []) (mf_Burst_bytesOf hw) (ms_Burst_66 hw) d_Burst_beatAddress_6 ln_Burst_bytesOf (by decide) (by first | exact Nat.le_of_ble_eq_true rfl | (simp only [List.map_cons, List.map_nil, List.sum_cons, List.sum_nil, va_rf_cat]; exact Nat.le_of_ble_eq_true rfl)) rfl (p_Burst_bytesOf hw hG hq9) ?_ (fun E h' n' x' e1 => by cases e1.1)
  intro v9 h9 n9 x9 e9
  obtain ⟨e91, e92, e93⟩ := e9
  cases e91
  subst e92
  subst e93
  clear x
  rename Bool => x
  show J _ _ _ _ (_ :: _) _ _ _ _ _ _
  refine J_istore d_Burst_beatAddress_9 (Nat.le_of_ble_eq_true rfl) ?_
  refine J.ls (ls' := [some (.long p0), none, some (.int p1), some (.int q8.1), some (.int q9.1), none, none, none]) rfl ?_
  refine J_lload_n d_Burst_beatAddress_11 rfl ?_
  obtain ⟨q10, hq10, H⟩ := Option.bind_eq_some_iff.mp H
  refine J_callS (kc := 0) (ks := 0) (kc' := 0) (ks' := 0) (as := [.long p0]) (st := []) (mf_Burst_kindOf hw) (ms_Burst_43 hw) d_Burst_beatAddress_12 ln_Burst_kindOf (by decide) (by first | exact Nat.le_of_ble_eq_true rfl | (simp only [List.map_cons, List.map_nil, List.sum_cons, List.sum_nil, va_rf_cat]; exact Nat.le_of_ble_eq_true rfl)) rfl (p_Burst_kindOf hw hG hq10) ?_ (fun E h' n' x' e1 => by cases e1.1)
  intro v9 h9 n9 x9 e9
  obtain ⟨e91, e92, e93⟩ := e9
  cases e91
  subst e92
  subst e93
  clear x
  rename Bool => x
  show J _ _ _ _ (_ :: _) _ _ _ _ _ _
  refine J_istore d_Burst_beatAddress_15 (Nat.le_of_ble_eq_true rfl) ?_
  refine J.ls (ls' := [some (.long p0), none, some (.int p1), some (.int q8.1), some (.int q9.1), some (.int q10.1), none, none]) rfl ?_
  refine J_iload d_Burst_beatAddress_17 rfl ?_
  refine J_iconst (v := 1) d_Burst_beatAddress_19 (by decide) ?_
  refine J_icmp_ne (tgt := 39) d_Burst_beatAddress_20 (by decide) ?_ ?_
  · intro c13
    rw [if_neg c13] at H
    refine J.drop [true, false, true, true, true, true, false, false] rfl ?_
    exact p_Burst_beatAddress_L39 hw hG  H
  · intro c13
    rw [if_pos c13] at H
    refine J_iload_n d_Burst_beatAddress_23 rfl ?_
    refine J_if_le (tgt := 39) d_Burst_beatAddress_24 (by decide) ?_ ?_
    · intro c12
      rw [if_pos c12] at H
      refine J.drop [true, false, true, true, true, true, false, false] rfl ?_
      exact p_Burst_beatAddress_L39 hw hG  H
    · intro c12
      rw [if_neg c12] at H
      refine J_iload_n d_Burst_beatAddress_27 rfl ?_
      refine J_iload_n d_Burst_beatAddress_28 rfl ?_
      refine J_iload d_Burst_beatAddress_29 rfl ?_
      have h11 : ¬ q9.1 = 0 := by
        intro q9
        rw [if_pos q9] at H
        cases H
      rw [if_neg h11] at H
      refine J_irem d_Burst_beatAddress_31 h11 ?_
      refine J_isub d_Burst_beatAddress_32 ?_
      refine J_iload_n d_Burst_beatAddress_33 rfl ?_
      refine J_iload d_Burst_beatAddress_34 rfl ?_
      refine J_imul d_Burst_beatAddress_36 ?_
      refine J_iadd d_Burst_beatAddress_37 ?_
      have H := Option.some.inj H
      subst H
      exact J_iret (st := []) d_Burst_beatAddress_38 rfl rfl ⟨rfl, rfl, rfl⟩
theorem ln_Burst_beatLanes : (parseMethodDescriptor y_Burst_beatLanes.desc).map (fun q => q.parameters.length) = some 2 := by decide +kernel
def f_Burst_beatLanes (Γ : gm_T) (φ : ph_T) (p0 : Int64) (p1 : Int32) : Option (Int32 × ph_T) :=
  Option.bind (f_Burst_beatAddress Γ φ p0 p1) fun q2 =>
  Option.bind (f_Burst_bytesOf Γ q2.2 p0) fun q3 =>
  @ite _ (q3.1 = 0) _ none (
  some ((((2 : Int32) <<< (((((q2.1 - (q2.1 - q2.1 / q3.1 * q3.1)) + q3.1) - (1 : Int32)) &&& (7 : Int32)) &&& 31)) - ((1 : Int32) <<< ((q2.1 &&& (7 : Int32)) &&& 31))), q3.2)
  )
set_option maxRecDepth 100000 in
set_option maxHeartbeats 4000000 in
theorem p_Burst_beatLanes {w : jw_T} (hw : jok w) {Γ : gm_T} {n : Nat} (hG : gd w Γ n) {x : Bool} {φ : ph_T} {p0 : Int64} {p1 : Int32} {q : Int32 × ph_T} (H : f_Burst_beatLanes Γ φ p0 p1 = some q) : jc w M_Burst_beatLanes [.long p0, .int p1] (pic Γ φ) n x 0 0 (fq Γ n (.inl (some (.int q.1))) q.2) := by
  refine jc.of (by simp only [jent_r, jent_i, jent_l, jent_a, jent_0]; exact Nat.le_of_ble_eq_true rfl) ?_
  have hls : jents [.long p0, .int p1] (jm_nL M_Burst_beatLanes) = [some (.long p0), none, some (.int p1), none, none, none, none] := by simp only [jents, jent_r, jent_i, jent_l, jent_a, jent_0]; rfl
  rw [hls]
  clear hls
  unfold f_Burst_beatLanes at H
  refine J_lload_n d_Burst_beatLanes_0 rfl ?_
  refine J_iload_n d_Burst_beatLanes_1 rfl ?_
  obtain ⟨q2, hq2, H⟩ := Option.bind_eq_some_iff.mp H
  refine J_callS (kc := 0) (ks := 0) (kc' := 0) (ks' := 0) (as := [.long p0, .int p1]) (st := []) (mf_Burst_beatAddress hw) (ms_Burst_75 hw) d_Burst_beatLanes_2 ln_Burst_beatAddress (by decide) (by first | exact Nat.le_of_ble_eq_true rfl | (simp only [List.map_cons, List.map_nil, List.sum_cons, List.sum_nil, va_rf_cat]; exact Nat.le_of_ble_eq_true rfl)) rfl (p_Burst_beatAddress hw hG hq2) ?_ (fun E h' n' x' e1 => by cases e1.1)
  intro v9 h9 n9 x9 e9
  obtain ⟨e91, e92, e93⟩ := e9
  cases e91
  subst e92
  subst e93
  clear x
  rename Bool => x
  show J _ _ _ _ (_ :: _) _ _ _ _ _ _
  refine J_istore_n d_Burst_beatLanes_5 (Nat.le_of_ble_eq_true rfl) ?_
  refine J.ls (ls' := [some (.long p0), none, some (.int p1), some (.int q2.1), none, none, none]) rfl ?_
  refine J_lload_n d_Burst_beatLanes_6 rfl ?_
  obtain ⟨q3, hq3, H⟩ := Option.bind_eq_some_iff.mp H
  refine J_callS (kc := 0) (ks := 0) (kc' := 0) (ks' := 0) (as := [.long p0]) (st := []) (mf_Burst_bytesOf hw) (ms_Burst_66 hw) d_Burst_beatLanes_7 ln_Burst_bytesOf (by decide) (by first | exact Nat.le_of_ble_eq_true rfl | (simp only [List.map_cons, List.map_nil, List.sum_cons, List.sum_nil, va_rf_cat]; exact Nat.le_of_ble_eq_true rfl)) rfl (p_Burst_bytesOf hw hG hq3) ?_ (fun E h' n' x' e1 => by cases e1.1)
  intro v9 h9 n9 x9 e9
  obtain ⟨e91, e92, e93⟩ := e9
  cases e91
  subst e92
  subst e93
  clear x
  rename Bool => x
  show J _ _ _ _ (_ :: _) _ _ _ _ _ _
  refine J_istore d_Burst_beatLanes_10 (Nat.le_of_ble_eq_true rfl) ?_
  refine J.ls (ls' := [some (.long p0), none, some (.int p1), some (.int q2.1), some (.int q3.1), none, none]) rfl ?_
  refine J_iload_n d_Burst_beatLanes_12 rfl ?_
  refine J_bipush (v := 7) d_Burst_beatLanes_13 (by decide) ?_
  refine J_iand d_Burst_beatLanes_15 ?_
  refine J_istore d_Burst_beatLanes_16 (Nat.le_of_ble_eq_true rfl) ?_
  refine J.ls (ls' := [some (.long p0), none, some (.int p1), some (.int q2.1), some (.int q3.1), some (.int (q2.1 &&& (7 : Int32))), none]) rfl ?_
  refine J_iload_n d_Burst_beatLanes_18 rfl ?_
  refine J_iload_n d_Burst_beatLanes_19 rfl ?_
  refine J_iload d_Burst_beatLanes_20 rfl ?_
  have h4 : ¬ q3.1 = 0 := by
    intro q9
    rw [if_pos q9] at H
    cases H
  rw [if_neg h4] at H
  refine J_irem d_Burst_beatLanes_22 h4 ?_
  refine J_isub d_Burst_beatLanes_23 ?_
  refine J_iload d_Burst_beatLanes_24 rfl ?_
  refine J_iadd d_Burst_beatLanes_26 ?_
  refine J_iconst (v := 1) d_Burst_beatLanes_27 (by decide) ?_
  refine J_isub d_Burst_beatLanes_28 ?_
  refine J_bipush (v := 7) d_Burst_beatLanes_29 (by decide) ?_
  refine J_iand d_Burst_beatLanes_31 ?_
  refine J_istore d_Burst_beatLanes_32 (Nat.le_of_ble_eq_true rfl) ?_
  refine J.ls (ls' := [some (.long p0), none, some (.int p1), some (.int q2.1), some (.int q3.1), some (.int (q2.1 &&& (7 : Int32))), some (.int ((((q2.1 - (q2.1 - q2.1 / q3.1 * q3.1)) + q3.1) - (1 : Int32)) &&& (7 : Int32)))]) rfl ?_
  refine J_iconst (v := 2) d_Burst_beatLanes_34 (by decide) ?_
  refine J_iload d_Burst_beatLanes_35 rfl ?_
  refine J_ishl d_Burst_beatLanes_37 ?_
  refine J_iconst (v := 1) d_Burst_beatLanes_38 (by decide) ?_
  refine J_iload d_Burst_beatLanes_39 rfl ?_
  refine J_ishl d_Burst_beatLanes_41 ?_
  refine J_isub d_Burst_beatLanes_42 ?_
  have H := Option.some.inj H
  subst H
  exact J_iret (st := []) d_Burst_beatLanes_43 rfl rfl ⟨rfl, rfl, rfl⟩
theorem ln_Burst_fillWrite : (parseMethodDescriptor y_Burst_fillWrite.desc).map (fun q => q.parameters.length) = some 2 := by decide +kernel
def f_Burst_fillWrite_L104 (Γ : gm_T) (Kc15 : ph_T → Nat → Int32 → Int64 → Int32 → Int32 → Option (Unit × ph_T)) (φ : ph_T) (x0 : Nat) (x3 : Int32) (x4 : Int64) (x6 : Int32) (x7 : Int32) (y0 : Int32) (y1 : Int32) (y2 : Int32) (y3 : Option Nat) : Option (Unit × ph_T) :=
  Option.bind y3 fun a1 =>
  Option.bind (gA Γ a1 0) fun N2 =>
  Option.bind (ix y2 N2) fun k3 =>
  Kc15 (uI φ a1 k3 (y1 + y0)) x0 x3 x4 x6 (x7 + (1 : Int32))
set_option maxRecDepth 100000 in
set_option maxHeartbeats 4000000 in
theorem p_Burst_fillWrite_L104 {w : jw_T} (hw : jok w) {Γ : gm_T} {n : Nat} (hG : gd w Γ n) {Kc15 : ph_T → Nat → Int32 → Int64 → Int32 → Int32 → Option (Unit × ph_T)} (hKc15 : ∀ {x : Bool} {φ : ph_T} {x0 : Nat} {x3 : Int32} {x4 : Int64} {x6 : Int32} {x7 : Int32} {q : Unit × ph_T}, Kc15 φ x0 x3 x4 x6 x7 = some q → J w M_Burst_fillWrite 15 [some (.ref x0), none, none, some (.int x3), some (.long x4), none, some (.int x6), some (.int x7), none, none] [] (pic Γ φ) n x 0 0 (fq Γ n (.inl none) q.2)) {x : Bool} {φ : ph_T} {x0 : Nat} {x3 : Int32} {x4 : Int64} {x6 : Int32} {x7 : Int32} {y0 : Int32} {y1 : Int32} {y2 : Int32} {y3 : Option Nat} {q : Unit × ph_T} (H : f_Burst_fillWrite_L104 Γ Kc15 φ x0 x3 x4 x6 x7 y0 y1 y2 y3 = some q) : J w M_Burst_fillWrite 104 [some (.ref x0), none, none, some (.int x3), some (.long x4), none, some (.int x6), some (.int x7), none, none] [.int y0, .int y1, .int y2, va_rf y3] (pic Γ φ) n x 0 0 (fq Γ n (.inl none) q.2) := by
  unfold f_Burst_fillWrite_L104 at H
  refine J_iadd d_Burst_fillWrite_104 ?_
  obtain ⟨a1, ha1, H⟩ := Option.bind_eq_some_iff.mp H
  rw [j_rf ha1]
  obtain ⟨N2, hN2, H⟩ := Option.bind_eq_some_iff.mp H
  obtain ⟨k3, hk3, H⟩ := Option.bind_eq_some_iff.mp H
  refine F_iast k3 hw hG d_Burst_fillWrite_105 (gA_some hN2) (ix_some hk3) ?_
  refine J_iinc (v := x7 + 1) d_Burst_fillWrite_106 rfl (by rw [show Int32.ofInt 1 = (1 : Int32) from by decide]) ?_
  refine J.ls (ls' := [some (.ref x0), none, none, some (.int x3), some (.long x4), none, some (.int x6), some (.int (x7 + (1 : Int32))), none, none]) rfl ?_
  refine J_goto (tgt := 15) d_Burst_fillWrite_109 (by decide) ?_
  refine J.drop [true, false, false, true, true, false, true, true, false, false] rfl ?_
  exact hKc15 H
def f_Burst_fillWrite_L63 (Γ : gm_T) (Kc15 : ph_T → Nat → Int32 → Int64 → Int32 → Int32 → Option (Unit × ph_T)) (φ : ph_T) (x0 : Nat) (x3 : Int32) (x4 : Int64) (x6 : Int32) (x7 : Int32) (x8 : Int32) (y0 : Int32) : Option (Unit × ph_T) :=
  @ite _ (Γ x0 = .inr 0) _ (
  Option.bind (f_Bus_laneBits Γ φ x8) fun q5 =>
  Option.bind (φ.2.2 x0 6) fun a6 =>
  Option.bind (gA Γ a6 1) fun N7 =>
  Option.bind (ix x7 N7) fun k8 =>
  if x7 = (x6 - (1 : Int32)) then
    f_Burst_fillWrite_L104 Γ Kc15 (uL q5.2 a6 k8 (x4 &&& q5.1)) x0 x3 x4 x6 x7 (256 : Int32) y0 x7 (q5.2.2.2 x0 7)
  else
    f_Burst_fillWrite_L104 Γ Kc15 (uL q5.2 a6 k8 (x4 &&& q5.1)) x0 x3 x4 x6 x7 (0 : Int32) y0 x7 (q5.2.2.2 x0 7)
  ) none
set_option maxRecDepth 100000 in
set_option maxHeartbeats 4000000 in
theorem p_Burst_fillWrite_L63 {w : jw_T} (hw : jok w) {Γ : gm_T} {n : Nat} (hG : gd w Γ n) {Kc15 : ph_T → Nat → Int32 → Int64 → Int32 → Int32 → Option (Unit × ph_T)} (hKc15 : ∀ {x : Bool} {φ : ph_T} {x0 : Nat} {x3 : Int32} {x4 : Int64} {x6 : Int32} {x7 : Int32} {q : Unit × ph_T}, Kc15 φ x0 x3 x4 x6 x7 = some q → J w M_Burst_fillWrite 15 [some (.ref x0), none, none, some (.int x3), some (.long x4), none, some (.int x6), some (.int x7), none, none] [] (pic Γ φ) n x 0 0 (fq Γ n (.inl none) q.2)) {x : Bool} {φ : ph_T} {x0 : Nat} {x3 : Int32} {x4 : Int64} {x6 : Int32} {x7 : Int32} {x8 : Int32} {y0 : Int32} {q : Unit × ph_T} (H : f_Burst_fillWrite_L63 Γ Kc15 φ x0 x3 x4 x6 x7 x8 y0 = some q) : J w M_Burst_fillWrite 63 [some (.ref x0), none, none, some (.int x3), some (.long x4), none, some (.int x6), some (.int x7), some (.int x8), none] [.int y0] (pic Γ φ) n x 0 0 (fq Γ n (.inl none) q.2) := by
  unfold f_Burst_fillWrite_L63 at H
  refine J_istore d_Burst_fillWrite_63 (Nat.le_of_ble_eq_true rfl) ?_
  refine J.ls (ls' := [some (.ref x0), none, none, some (.int x3), some (.long x4), none, some (.int x6), some (.int x7), some (.int x8), some (.int y0)]) rfl ?_
  refine J_aload_n d_Burst_fillWrite_65 rfl ?_
  have g4 : Γ x0 = .inr 0 := by
    apply Classical.byContradiction
    intro q9
    rw [if_neg q9] at H
    cases H
  rw [if_pos g4] at H
  refine F_getR (ci := 0) (k := 6) hG (cf_Burst hw) (fl_Burst_9 hw) (by decide) (by decide) rfl d_Burst_fillWrite_66 g4 ?_
  refine J_iload d_Burst_fillWrite_69 rfl ?_
  refine J_lload d_Burst_fillWrite_71 rfl ?_
  refine J_iload d_Burst_fillWrite_73 rfl ?_
  obtain ⟨q5, hq5, H⟩ := Option.bind_eq_some_iff.mp H
  refine J_callS (kc := 0) (ks := 0) (kc' := 0) (ks' := 0) (as := [.int x8]) (st := [.long x4, .int x7, va_rf (φ.2.2 x0 6)]) (mf_Bus_laneBits hw) (ms_Burst_86 hw) d_Burst_fillWrite_75 ln_Bus_laneBits (by decide) (by first | exact Nat.le_of_ble_eq_true rfl | (simp only [List.map_cons, List.map_nil, List.sum_cons, List.sum_nil, va_rf_cat]; exact Nat.le_of_ble_eq_true rfl)) rfl (p_Bus_laneBits hw hG hq5) ?_ (fun E h' n' x' e1 => by cases e1.1)
  intro v9 h9 n9 x9 e9
  obtain ⟨e91, e92, e93⟩ := e9
  cases e91
  subst e92
  subst e93
  clear x
  rename Bool => x
  show J _ _ _ _ (_ :: _) _ _ _ _ _ _
  refine J_land d_Burst_fillWrite_78 ?_
  obtain ⟨a6, ha6, H⟩ := Option.bind_eq_some_iff.mp H
  rw [j_rf ha6]
  obtain ⟨N7, hN7, H⟩ := Option.bind_eq_some_iff.mp H
  obtain ⟨k8, hk8, H⟩ := Option.bind_eq_some_iff.mp H
  refine F_last k8 hw hG d_Burst_fillWrite_79 (gA_some hN7) (ix_some hk8) ?_
  refine J_aload_n d_Burst_fillWrite_80 rfl ?_
  refine F_getR (ci := 0) (k := 7) hG (cf_Burst hw) (fl_Burst_15 hw) (by decide) (by decide) rfl d_Burst_fillWrite_81 g4 ?_
  show J _ _ _ _ (va_rf (q5.2.2.2 x0 7) :: _) _ _ _ _ _ _
  refine J_iload d_Burst_fillWrite_84 rfl ?_
  refine J_iload d_Burst_fillWrite_86 rfl ?_
  refine J_iload d_Burst_fillWrite_88 rfl ?_
  refine J_iload d_Burst_fillWrite_90 rfl ?_
  refine J_iconst (v := 1) d_Burst_fillWrite_92 (by decide) ?_
  refine J_isub d_Burst_fillWrite_93 ?_
  refine J_icmp_ne (tgt := 103) d_Burst_fillWrite_94 (by decide) ?_ ?_
  · intro c9
    rw [if_neg c9] at H
    refine J_iconst (v := 0) d_Burst_fillWrite_103 (by decide) ?_
    refine J.drop [true, false, false, true, true, false, true, true, false, false] rfl ?_
    exact p_Burst_fillWrite_L104 hw hG hKc15 H
  · intro c9
    rw [if_pos c9] at H
    refine J_sipush (v := 256) d_Burst_fillWrite_97 (by decide) ?_
    refine J_goto (tgt := 104) d_Burst_fillWrite_100 (by decide) ?_
    refine J.drop [true, false, false, true, true, false, true, true, false, false] rfl ?_
    exact p_Burst_fillWrite_L104 hw hG hKc15 H
def f_Burst_fillWrite_L15 (Γ : gm_T)  : Nat → ph_T → Nat → Int32 → Int64 → Int32 → Int32 → Option (Unit × ph_T)
  | 0, _, _, _, _, _, _ => none
  | fu + 1, φ, x0, x3, x4, x6, x7 =>
    if x6 ≤ x7 then
      some ((), φ)
    else
      @ite _ (Γ x0 = .inr 0) _ (
      Option.bind (f_Burst_beatLanes Γ φ (φ.2.1 x0 0) x7) fun q11 =>
      if x3 = 0 then
        f_Burst_fillWrite_L63 Γ (f_Burst_fillWrite_L15 Γ  fu) q11.2 x0 x3 (((6364136223846793005 : Int64) * x4) + (1442695040888963407 : Int64)) x6 x7 q11.1 q11.1
      else
        f_Burst_fillWrite_L63 Γ (f_Burst_fillWrite_L15 Γ  fu) q11.2 x0 x3 (((6364136223846793005 : Int64) * x4) + (1442695040888963407 : Int64)) x6 x7 q11.1 (q11.1 &&& (Int64.toInt32 ((Int64.toUInt64 (((6364136223846793005 : Int64) * x4) + (1442695040888963407 : Int64)) >>> (Int64.toUInt64 (Int32.toInt64 (56 : Int32)) &&& Int64.toUInt64 63)).toInt64)))
      ) none
set_option maxRecDepth 100000 in
set_option maxHeartbeats 4000000 in
theorem p_Burst_fillWrite_L15 {w : jw_T} (hw : jok w) {Γ : gm_T} {n : Nat} (hG : gd w Γ n)  : ∀ (fu : Nat) {x : Bool} {φ : ph_T} {x0 : Nat} {x3 : Int32} {x4 : Int64} {x6 : Int32} {x7 : Int32} {q : Unit × ph_T}, f_Burst_fillWrite_L15 Γ  fu φ x0 x3 x4 x6 x7 = some q → J w M_Burst_fillWrite 15 [some (.ref x0), none, none, some (.int x3), some (.long x4), none, some (.int x6), some (.int x7), none, none] [] (pic Γ φ) n x 0 0 (fq Γ n (.inl none) q.2) := by
  intro fu
  induction fu with
  | zero =>
    intro x φ x0 x3 x4 x6 x7 q H
    cases H
  | succ fu ih =>
    intro x φ x0 x3 x4 x6 x7 q H
    unfold f_Burst_fillWrite_L15 at H
    refine J_iload d_Burst_fillWrite_15 rfl ?_
    refine J_iload d_Burst_fillWrite_17 rfl ?_
    refine J_icmp_ge (tgt := 112) d_Burst_fillWrite_19 (by decide) ?_ ?_
    · intro c13
      rw [if_pos c13] at H
      have H := Option.some.inj H
      subst H
      exact J_vret (st := []) d_Burst_fillWrite_112 rfl ⟨rfl, rfl, rfl⟩
    · intro c13
      rw [if_neg c13] at H
      refine J_ldc2 (v := 6364136223846793005) d_Burst_fillWrite_22 (kn_Burst_79 hw) ?_
      refine J_lload d_Burst_fillWrite_25 rfl ?_
      refine J_lmul d_Burst_fillWrite_27 ?_
      refine J_ldc2 (v := 1442695040888963407) d_Burst_fillWrite_28 (kn_Burst_81 hw) ?_
      refine J_ladd d_Burst_fillWrite_31 ?_
      refine J_lstore d_Burst_fillWrite_32 (Nat.le_of_ble_eq_true rfl) ?_
      refine J.ls (ls' := [some (.ref x0), none, none, some (.int x3), some (.long (((6364136223846793005 : Int64) * x4) + (1442695040888963407 : Int64))), none, some (.int x6), some (.int x7), none, none]) rfl ?_
      refine J_aload_n d_Burst_fillWrite_34 rfl ?_
      have g10 : Γ x0 = .inr 0 := by
        apply Classical.byContradiction
        intro q9
        rw [if_neg q9] at H
        cases H
      rw [if_pos g10] at H
      refine F_getL (ci := 0) (k := 0) hG (cf_Burst hw) (fl_Burst_19 hw) (by decide) (by decide) rfl d_Burst_fillWrite_35 g10 ?_
      refine J_iload d_Burst_fillWrite_38 rfl ?_
      obtain ⟨q11, hq11, H⟩ := Option.bind_eq_some_iff.mp H
      refine J_callS (kc := 0) (ks := 0) (kc' := 0) (ks' := 0) (as := [.long (φ.2.1 x0 0), .int x7]) (st := []) (mf_Burst_beatLanes hw) (ms_Burst_83 hw) d_Burst_fillWrite_40 ln_Burst_beatLanes (by decide) (by first | exact Nat.le_of_ble_eq_true rfl | (simp only [List.map_cons, List.map_nil, List.sum_cons, List.sum_nil, va_rf_cat]; exact Nat.le_of_ble_eq_true rfl)) rfl (p_Burst_beatLanes hw hG hq11) ?_ (fun E h' n' x' e1 => by cases e1.1)
      intro v9 h9 n9 x9 e9
      obtain ⟨e91, e92, e93⟩ := e9
      cases e91
      subst e92
      subst e93
      clear x
      rename Bool => x
      show J _ _ _ _ (_ :: _) _ _ _ _ _ _
      refine J_istore d_Burst_fillWrite_43 (Nat.le_of_ble_eq_true rfl) ?_
      refine J.ls (ls' := [some (.ref x0), none, none, some (.int x3), some (.long (((6364136223846793005 : Int64) * x4) + (1442695040888963407 : Int64))), none, some (.int x6), some (.int x7), some (.int q11.1), none]) rfl ?_
      refine J_iload_n d_Burst_fillWrite_45 rfl ?_
      refine J_if_eq (tgt := 61) d_Burst_fillWrite_46 (by decide) ?_ ?_
      · intro c12
        rw [if_pos c12] at H
        refine J_iload d_Burst_fillWrite_61 rfl ?_
        refine J.drop [true, false, false, true, true, false, true, true, true, false] rfl ?_
        exact p_Burst_fillWrite_L63 hw hG ih H
      · intro c12
        rw [if_neg c12] at H
        refine J_iload d_Burst_fillWrite_49 rfl ?_
        refine J_lload d_Burst_fillWrite_51 rfl ?_
        refine J_bipush (v := 56) d_Burst_fillWrite_53 (by decide) ?_
        refine J_lushr d_Burst_fillWrite_55 ?_
        refine J_l2i d_Burst_fillWrite_56 ?_
        refine J_iand d_Burst_fillWrite_57 ?_
        refine J_goto (tgt := 63) d_Burst_fillWrite_58 (by decide) ?_
        refine J.drop [true, false, false, true, true, false, true, true, true, false] rfl ?_
        exact p_Burst_fillWrite_L63 hw hG ih H
def f_Burst_fillWrite (Γ : gm_T) (φ : ph_T) (this : Nat) (p0 : Int64) (p1 : Int32) : Option (Unit × ph_T) :=
  @ite _ (Γ this = .inr 0) _ (
  Option.bind (f_Burst_lengthOf Γ φ (φ.2.1 this 0)) fun q15 =>
  f_Burst_fillWrite_L15 Γ  jF q15.2 this p1 p0 q15.1 (0 : Int32)
  ) none
set_option maxRecDepth 100000 in
set_option maxHeartbeats 4000000 in
theorem p_Burst_fillWrite {w : jw_T} (hw : jok w) {Γ : gm_T} {n : Nat} (hG : gd w Γ n) {x : Bool} {φ : ph_T} {this : Nat} {p0 : Int64} {p1 : Int32} {q : Unit × ph_T} (H : f_Burst_fillWrite Γ φ this p0 p1 = some q) : jc w M_Burst_fillWrite [.ref this, .long p0, .int p1] (pic Γ φ) n x 0 0 (fq Γ n (.inl none) q.2) := by
  refine jc.of (by simp only [jent_r, jent_i, jent_l, jent_a, jent_0]; exact Nat.le_of_ble_eq_true rfl) ?_
  have hls : jents [.ref this, .long p0, .int p1] (jm_nL M_Burst_fillWrite) = [some (.ref this), some (.long p0), none, some (.int p1), none, none, none, none, none, none] := by simp only [jents, jent_r, jent_i, jent_l, jent_a, jent_0]; rfl
  rw [hls]
  clear hls
  unfold f_Burst_fillWrite at H
  refine J_lload_n d_Burst_fillWrite_0 rfl ?_
  refine J_lstore d_Burst_fillWrite_1 (Nat.le_of_ble_eq_true rfl) ?_
  refine J.ls (ls' := [some (.ref this), some (.long p0), none, some (.int p1), some (.long p0), none, none, none, none, none]) rfl ?_
  refine J_aload_n d_Burst_fillWrite_3 rfl ?_
  have g14 : Γ this = .inr 0 := by
    apply Classical.byContradiction
    intro q9
    rw [if_neg q9] at H
    cases H
  rw [if_pos g14] at H
  refine F_getL (ci := 0) (k := 0) hG (cf_Burst hw) (fl_Burst_19 hw) (by decide) (by decide) rfl d_Burst_fillWrite_4 g14 ?_
  obtain ⟨q15, hq15, H⟩ := Option.bind_eq_some_iff.mp H
  refine J_callS (kc := 0) (ks := 0) (kc' := 0) (ks' := 0) (as := [.long (φ.2.1 this 0)]) (st := []) (mf_Burst_lengthOf hw) (ms_Burst_60 hw) d_Burst_fillWrite_7 ln_Burst_lengthOf (by decide) (by first | exact Nat.le_of_ble_eq_true rfl | (simp only [List.map_cons, List.map_nil, List.sum_cons, List.sum_nil, va_rf_cat]; exact Nat.le_of_ble_eq_true rfl)) rfl (p_Burst_lengthOf hw hG hq15) ?_ (fun E h' n' x' e1 => by cases e1.1)
  intro v9 h9 n9 x9 e9
  obtain ⟨e91, e92, e93⟩ := e9
  cases e91
  subst e92
  subst e93
  clear x
  rename Bool => x
  show J _ _ _ _ (_ :: _) _ _ _ _ _ _
  refine J_istore d_Burst_fillWrite_10 (Nat.le_of_ble_eq_true rfl) ?_
  refine J.ls (ls' := [some (.ref this), some (.long p0), none, some (.int p1), some (.long p0), none, some (.int q15.1), none, none, none]) rfl ?_
  refine J_iconst (v := 0) d_Burst_fillWrite_12 (by decide) ?_
  refine J_istore d_Burst_fillWrite_13 (Nat.le_of_ble_eq_true rfl) ?_
  refine J.ls (ls' := [some (.ref this), some (.long p0), none, some (.int p1), some (.long p0), none, some (.int q15.1), some (.int (0 : Int32)), none, none]) rfl ?_
  refine J.drop [true, false, false, true, true, false, true, true, false, false] rfl ?_
  exact p_Burst_fillWrite_L15 hw hG  _ H
theorem ln_Master_enqueue : (parseMethodDescriptor y_Master_enqueue.desc).map (fun q => q.parameters.length) = some 1 := by decide +kernel
def f_Master_enqueue_L62 (Γ : gm_T)  (φ : ph_T) (x0 : Nat) : Option (Unit × ph_T) :=
  @ite _ (Γ x0 = .inr 7) _ (
  some ((), (uI φ x0 9 ((φ.1 x0 9) + (1 : Int32))))
  ) none
set_option maxRecDepth 100000 in
set_option maxHeartbeats 4000000 in
theorem p_Master_enqueue_L62 {w : jw_T} (hw : jok w) {Γ : gm_T} {n : Nat} (hG : gd w Γ n)  {x : Bool} {φ : ph_T} {x0 : Nat} {q : Unit × ph_T} (H : f_Master_enqueue_L62 Γ  φ x0 = some q) : J w M_Master_enqueue 62 [some (.ref x0), none] [] (pic Γ φ) n x 0 0 (fq Γ n (.inl none) q.2) := by
  unfold f_Master_enqueue_L62 at H
  refine J_aload_n d_Master_enqueue_62 rfl ?_
  refine J_dup d_Master_enqueue_63 rfl ?_
  have g1 : Γ x0 = .inr 7 := by
    apply Classical.byContradiction
    intro q9
    rw [if_neg q9] at H
    cases H
  rw [if_pos g1] at H
  refine F_getI (ci := 7) (k := 9) hG (cf_Master hw) (fl_Master_51 hw) (by decide) (by decide) rfl d_Master_enqueue_64 g1 ?_
  refine J_iconst (v := 1) d_Master_enqueue_67 (by decide) ?_
  refine J_iadd d_Master_enqueue_68 ?_
  refine F_putI (ci := 7) (k := 9) hG (cf_Master hw) (fl_Master_51 hw) (by decide) (by decide) rfl d_Master_enqueue_69 rfl rfl rfl g1 ?_
  have H := Option.some.inj H
  subst H
  exact J_vret (st := []) d_Master_enqueue_72 rfl ⟨rfl, rfl, rfl⟩
def f_Master_enqueue (Γ : gm_T) (φ : ph_T) (this : Nat) (p0 : Option Nat) : Option (Unit × ph_T) :=
  Option.bind p0 fun a2 =>
  @ite _ (Γ a2 = .inr 6) _ (
  @ite _ (Γ this = .inr 7) _ (
  Option.bind (f_Master_hasRoom Γ φ this (φ.1 a2 1)) fun q5 =>
  if q5.1 = 0 then
    some ((), q5.2)
  else
    if (q5.2.1 a2 1) = 0 then
      Option.bind (q5.2.2.2 this 3) fun a6 =>
      Option.bind (gA Γ a6 6) fun N7 =>
      Option.bind (ix (q5.2.1 this 5) N7) fun k8 =>
      f_Master_enqueue_L62 Γ  (uI (uR q5.2 a6 k8 (some a2)) this 5 ((q5.2.1 this 5) + (1 : Int32))) this
    else
      Option.bind (q5.2.2.2 this 2) fun a9 =>
      Option.bind (gA Γ a9 6) fun N10 =>
      Option.bind (ix (q5.2.1 this 4) N10) fun k11 =>
      f_Master_enqueue_L62 Γ  (uI (uR q5.2 a9 k11 (some a2)) this 4 ((q5.2.1 this 4) + (1 : Int32))) this
  ) none
  ) none
set_option maxRecDepth 100000 in
set_option maxHeartbeats 4000000 in
theorem p_Master_enqueue {w : jw_T} (hw : jok w) {Γ : gm_T} {n : Nat} (hG : gd w Γ n) {x : Bool} {φ : ph_T} {this : Nat} {p0 : Option Nat} {q : Unit × ph_T} (H : f_Master_enqueue Γ φ this p0 = some q) : jc w M_Master_enqueue [.ref this, va_rf p0] (pic Γ φ) n x 0 0 (fq Γ n (.inl none) q.2) := by
  refine jc.of (by simp only [jent_r, jent_i, jent_l, jent_a, jent_0]; exact Nat.le_of_ble_eq_true rfl) ?_
  have hls : jents [.ref this, va_rf p0] (jm_nL M_Master_enqueue) = [some (.ref this), some (va_rf p0)] := by simp only [jents, jent_r, jent_i, jent_l, jent_a, jent_0]; rfl
  rw [hls]
  clear hls
  unfold f_Master_enqueue at H
  refine J_aload_n d_Master_enqueue_0 rfl ?_
  refine J_aload_nO d_Master_enqueue_1 rfl ?_
  obtain ⟨a2, ha2, H⟩ := Option.bind_eq_some_iff.mp H
  rw [j_rf ha2]
  have g3 : Γ a2 = .inr 6 := by
    apply Classical.byContradiction
    intro q9
    rw [if_neg q9] at H
    cases H
  rw [if_pos g3] at H
  refine F_getI (ci := 6) (k := 1) hG (cf_Request hw) (fl_Master_54 hw) (by decide) (by decide) rfl d_Master_enqueue_2 g3 ?_
  have g4 : Γ this = .inr 7 := by
    apply Classical.byContradiction
    intro q9
    rw [if_neg q9] at H
    cases H
  rw [if_pos g4] at H
  obtain ⟨q5, hq5, H⟩ := Option.bind_eq_some_iff.mp H
  refine J_callV (kc := 0) (ks := 0) (kc' := 0) (ks' := 0) (a := this) (ci := 7) (as := [.int (φ.1 a2 1)]) (st := []) (mf_Master_hasRoom hw) (mv_Master_57 hw) d_Master_enqueue_5 ln_Master_hasRoom (by decide) (by first | exact Nat.le_of_ble_eq_true rfl | (simp only [List.map_cons, List.map_nil, List.sum_cons, List.sum_nil, va_rf_cat]; exact Nat.le_of_ble_eq_true rfl)) rfl ((hG _).1 _ g4 (by decide)).1 ((hG _).1 _ g4 (by decide)).2 (by unfold pic; rw [g4]; rfl) (jcl_at hw rfl) rfl (p_Master_hasRoom hw hG hq5) ?_ (fun E h' n' x' e1 => by cases e1.1)
  intro v9 h9 n9 x9 e9
  obtain ⟨e91, e92, e93⟩ := e9
  cases e91
  subst e92
  subst e93
  clear x
  rename Bool => x
  show J _ _ _ _ (_ :: _) _ _ _ _ _ _
  refine J_if_ne (tgt := 12) d_Master_enqueue_8 (by decide) ?_ ?_
  · intro c13
    rw [if_neg c13] at H
    refine J_aload_n d_Master_enqueue_12 rfl ?_
    refine F_getI (ci := 6) (k := 1) hG (cf_Request hw) (fl_Master_54 hw) (by decide) (by decide) rfl d_Master_enqueue_13 g3 ?_
    refine J_if_eq (tgt := 42) d_Master_enqueue_16 (by decide) ?_ ?_
    · intro c12
      rw [if_pos c12] at H
      refine J_aload_n d_Master_enqueue_42 rfl ?_
      refine F_getR (ci := 7) (k := 3) hG (cf_Master hw) (fl_Master_21 hw) (by decide) (by decide) rfl d_Master_enqueue_43 g4 ?_
      refine J_aload_n d_Master_enqueue_46 rfl ?_
      refine F_getI (ci := 7) (k := 5) hG (cf_Master hw) (fl_Master_39 hw) (by decide) (by decide) rfl d_Master_enqueue_47 g4 ?_
      refine J_aload_n d_Master_enqueue_50 rfl ?_
      obtain ⟨a6, ha6, H⟩ := Option.bind_eq_some_iff.mp H
      rw [j_rf ha6]
      obtain ⟨N7, hN7, H⟩ := Option.bind_eq_some_iff.mp H
      obtain ⟨k8, hk8, H⟩ := Option.bind_eq_some_iff.mp H
      refine F_aast k8 hw hG (t := 6) (ci := 6) (r := ("BusCrossbar$Request", T_Request, 6)) rfl (by decide) rfl (by decide) d_Master_enqueue_51 (gA_some hN7) g3 (ix_some hk8) ?_
      refine J_aload_n d_Master_enqueue_52 rfl ?_
      refine J_dup d_Master_enqueue_53 rfl ?_
      refine F_getI (ci := 7) (k := 5) hG (cf_Master hw) (fl_Master_39 hw) (by decide) (by decide) rfl d_Master_enqueue_54 g4 ?_
      show J _ _ _ _ (.int (q5.2.1 this 5) :: _) _ _ _ _ _ _
      refine J_iconst (v := 1) d_Master_enqueue_57 (by decide) ?_
      refine J_iadd d_Master_enqueue_58 ?_
      refine F_putI (ci := 7) (k := 5) hG (cf_Master hw) (fl_Master_39 hw) (by decide) (by decide) rfl d_Master_enqueue_59 rfl rfl rfl g4 ?_
      refine J.drop [true, false] rfl ?_
      exact p_Master_enqueue_L62 hw hG  H
    · intro c12
      rw [if_neg c12] at H
      refine J_aload_n d_Master_enqueue_19 rfl ?_
      refine F_getR (ci := 7) (k := 2) hG (cf_Master hw) (fl_Master_17 hw) (by decide) (by decide) rfl d_Master_enqueue_20 g4 ?_
      refine J_aload_n d_Master_enqueue_23 rfl ?_
      refine F_getI (ci := 7) (k := 4) hG (cf_Master hw) (fl_Master_35 hw) (by decide) (by decide) rfl d_Master_enqueue_24 g4 ?_
      refine J_aload_n d_Master_enqueue_27 rfl ?_
      obtain ⟨a9, ha9, H⟩ := Option.bind_eq_some_iff.mp H
      rw [j_rf ha9]
      obtain ⟨N10, hN10, H⟩ := Option.bind_eq_some_iff.mp H
      obtain ⟨k11, hk11, H⟩ := Option.bind_eq_some_iff.mp H
      refine F_aast k11 hw hG (t := 6) (ci := 6) (r := ("BusCrossbar$Request", T_Request, 6)) rfl (by decide) rfl (by decide) d_Master_enqueue_28 (gA_some hN10) g3 (ix_some hk11) ?_
      refine J_aload_n d_Master_enqueue_29 rfl ?_
      refine J_dup d_Master_enqueue_30 rfl ?_
      refine F_getI (ci := 7) (k := 4) hG (cf_Master hw) (fl_Master_35 hw) (by decide) (by decide) rfl d_Master_enqueue_31 g4 ?_
      show J _ _ _ _ (.int (q5.2.1 this 4) :: _) _ _ _ _ _ _
      refine J_iconst (v := 1) d_Master_enqueue_34 (by decide) ?_
      refine J_iadd d_Master_enqueue_35 ?_
      refine F_putI (ci := 7) (k := 4) hG (cf_Master hw) (fl_Master_35 hw) (by decide) (by decide) rfl d_Master_enqueue_36 rfl rfl rfl g4 ?_
      refine J_goto (tgt := 62) d_Master_enqueue_39 (by decide) ?_
      refine J.drop [true, false] rfl ?_
      exact p_Master_enqueue_L62 hw hG  H
  · intro c13
    rw [if_pos c13] at H
    have H := Option.some.inj H
    subst H
    exact J_vret (st := []) d_Master_enqueue_11 rfl ⟨rfl, rfl, rfl⟩
theorem ln_Port_begin : (parseMethodDescriptor y_Port_begin.desc).map (fun q => q.parameters.length) = some 0 := by decide +kernel
def f_Port_begin_L50 (Γ : gm_T) (Kc2 : ph_T → Nat → Int32 → Option (Unit × ph_T)) (φ : ph_T) (x0 : Nat) (x1 : Int32) : Option (Unit × ph_T) :=
  Kc2 φ x0 (x1 + (1 : Int32))
set_option maxRecDepth 100000 in
set_option maxHeartbeats 4000000 in
theorem p_Port_begin_L50 {w : jw_T} (hw : jok w) {Γ : gm_T} {n : Nat} (hG : gd w Γ n) {Kc2 : ph_T → Nat → Int32 → Option (Unit × ph_T)} (hKc2 : ∀ {x : Bool} {φ : ph_T} {x0 : Nat} {x1 : Int32} {q : Unit × ph_T}, Kc2 φ x0 x1 = some q → J w M_Port_begin 2 [some (.ref x0), some (.int x1)] [] (pic Γ φ) n x 0 0 (fq Γ n (.inl none) q.2)) {x : Bool} {φ : ph_T} {x0 : Nat} {x1 : Int32} {q : Unit × ph_T} (H : f_Port_begin_L50 Γ Kc2 φ x0 x1 = some q) : J w M_Port_begin 50 [some (.ref x0), some (.int x1)] [] (pic Γ φ) n x 0 0 (fq Γ n (.inl none) q.2) := by
  unfold f_Port_begin_L50 at H
  refine J_iinc (v := x1 + 1) d_Port_begin_50 rfl (by rw [show Int32.ofInt 1 = (1 : Int32) from by decide]) ?_
  refine J.ls (ls' := [some (.ref x0), some (.int (x1 + (1 : Int32)))]) rfl ?_
  refine J_goto (tgt := 2) d_Port_begin_53 (by decide) ?_
  refine J.drop [true, true] rfl ?_
  exact hKc2 H
def f_Port_begin_L35 (Γ : gm_T) (Kc2 : ph_T → Nat → Int32 → Option (Unit × ph_T)) (φ : ph_T) (x0 : Nat) (x1 : Int32) (y0 : Int32) (y1 : Int32) (y2 : Option Nat) : Option (Unit × ph_T) :=
  Option.bind y2 fun a1 =>
  Option.bind (gA Γ a1 2) fun N2 =>
  Option.bind (ix y1 N2) fun k3 =>
  @ite _ (y0 = 0 ∨ y0 = 1) _ (
  @ite _ (Γ x0 = .inr 5) _ (
  Option.bind (φ.2.2 x0 2) fun a6 =>
  Option.bind (gA Γ a6 2) fun N7 =>
  Option.bind (ix x1 N7) fun k8 =>
  if ((uI φ a1 k3 y0).1 a6 k8) = 0 then
    Option.bind (f_Port_silence Γ (uI φ a1 k3 y0) x0 x1) fun q9 =>
    f_Port_begin_L50 Γ Kc2 q9.2 x0 x1
  else
    f_Port_begin_L50 Γ Kc2 (uI φ a1 k3 y0) x0 x1
  ) none
  ) none
set_option maxRecDepth 100000 in
set_option maxHeartbeats 4000000 in
theorem p_Port_begin_L35 {w : jw_T} (hw : jok w) {Γ : gm_T} {n : Nat} (hG : gd w Γ n) {Kc2 : ph_T → Nat → Int32 → Option (Unit × ph_T)} (hKc2 : ∀ {x : Bool} {φ : ph_T} {x0 : Nat} {x1 : Int32} {q : Unit × ph_T}, Kc2 φ x0 x1 = some q → J w M_Port_begin 2 [some (.ref x0), some (.int x1)] [] (pic Γ φ) n x 0 0 (fq Γ n (.inl none) q.2)) {x : Bool} {φ : ph_T} {x0 : Nat} {x1 : Int32} {y0 : Int32} {y1 : Int32} {y2 : Option Nat} {q : Unit × ph_T} (H : f_Port_begin_L35 Γ Kc2 φ x0 x1 y0 y1 y2 = some q) : J w M_Port_begin 35 [some (.ref x0), some (.int x1)] [.int y0, .int y1, va_rf y2] (pic Γ φ) n x 0 0 (fq Γ n (.inl none) q.2) := by
  unfold f_Port_begin_L35 at H
  obtain ⟨a1, ha1, H⟩ := Option.bind_eq_some_iff.mp H
  rw [j_rf ha1]
  obtain ⟨N2, hN2, H⟩ := Option.bind_eq_some_iff.mp H
  obtain ⟨k3, hk3, H⟩ := Option.bind_eq_some_iff.mp H
  have z4 : y0 = 0 ∨ y0 = 1 := by
    apply Classical.byContradiction
    intro q9
    rw [if_neg q9] at H
    cases H
  rw [if_pos z4] at H
  refine F_zast k3 hw hG d_Port_begin_35 (gA_some hN2) (ix_some hk3) z4 ?_
  refine J_aload_n d_Port_begin_36 rfl ?_
  have g5 : Γ x0 = .inr 5 := by
    apply Classical.byContradiction
    intro q9
    rw [if_neg q9] at H
    cases H
  rw [if_pos g5] at H
  refine F_getR (ci := 5) (k := 2) hG (cf_Port hw) (fl_Port_18 hw) (by decide) (by decide) rfl d_Port_begin_37 g5 ?_
  show J _ _ _ _ (va_rf (φ.2.2 x0 2) :: _) _ _ _ _ _ _
  refine J_iload_n d_Port_begin_40 rfl ?_
  obtain ⟨a6, ha6, H⟩ := Option.bind_eq_some_iff.mp H
  rw [j_rf ha6]
  obtain ⟨N7, hN7, H⟩ := Option.bind_eq_some_iff.mp H
  obtain ⟨k8, hk8, H⟩ := Option.bind_eq_some_iff.mp H
  refine F_zald k8 hw hG d_Port_begin_41 (gA_some hN7) (ix_some hk8) ?_
  refine J_if_ne (tgt := 50) d_Port_begin_42 (by decide) ?_ ?_
  · intro c10
    rw [if_neg c10] at H
    refine J.drop [true, true] rfl ?_
    exact p_Port_begin_L50 hw hG hKc2 H
  · intro c10
    rw [if_pos c10] at H
    refine J_aload_n d_Port_begin_45 rfl ?_
    refine J_iload_n d_Port_begin_46 rfl ?_
    obtain ⟨q9, hq9, H⟩ := Option.bind_eq_some_iff.mp H
    refine J_callV (kc := 0) (ks := 0) (kc' := 0) (ks' := 0) (a := x0) (ci := 5) (as := [.int x1]) (st := []) (mf_Port_silence hw) (mv_Port_45 hw) d_Port_begin_47 ln_Port_silence (by decide) (by first | exact Nat.le_of_ble_eq_true rfl | (simp only [List.map_cons, List.map_nil, List.sum_cons, List.sum_nil, va_rf_cat]; exact Nat.le_of_ble_eq_true rfl)) rfl ((hG _).1 _ g5 (by decide)).1 ((hG _).1 _ g5 (by decide)).2 (by unfold pic; rw [g5]; rfl) (jcl_at hw rfl) rfl (p_Port_silence hw hG hq9) ?_ (fun E h' n' x' e1 => by cases e1.1)
    intro v9 h9 n9 x9 e9
    obtain ⟨e91, e92, e93⟩ := e9
    cases e91
    subst e92
    subst e93
    clear x
    rename Bool => x
    show J _ _ _ _ [] _ _ _ _ _ _
    refine J.drop [true, true] rfl ?_
    exact p_Port_begin_L50 hw hG hKc2 H
def f_Port_begin_L34 (Γ : gm_T) (Kc2 : ph_T → Nat → Int32 → Option (Unit × ph_T)) (φ : ph_T) (x0 : Nat) (x1 : Int32) (y0 : Int32) (y1 : Option Nat) : Option (Unit × ph_T) :=
  f_Port_begin_L35 Γ Kc2 φ x0 x1 (0 : Int32) y0 y1
set_option maxRecDepth 100000 in
set_option maxHeartbeats 4000000 in
theorem p_Port_begin_L34 {w : jw_T} (hw : jok w) {Γ : gm_T} {n : Nat} (hG : gd w Γ n) {Kc2 : ph_T → Nat → Int32 → Option (Unit × ph_T)} (hKc2 : ∀ {x : Bool} {φ : ph_T} {x0 : Nat} {x1 : Int32} {q : Unit × ph_T}, Kc2 φ x0 x1 = some q → J w M_Port_begin 2 [some (.ref x0), some (.int x1)] [] (pic Γ φ) n x 0 0 (fq Γ n (.inl none) q.2)) {x : Bool} {φ : ph_T} {x0 : Nat} {x1 : Int32} {y0 : Int32} {y1 : Option Nat} {q : Unit × ph_T} (H : f_Port_begin_L34 Γ Kc2 φ x0 x1 y0 y1 = some q) : J w M_Port_begin 34 [some (.ref x0), some (.int x1)] [.int y0, va_rf y1] (pic Γ φ) n x 0 0 (fq Γ n (.inl none) q.2) := by
  unfold f_Port_begin_L34 at H
  refine J_iconst (v := 0) d_Port_begin_34 (by decide) ?_
  refine J.drop [true, true] rfl ?_
  exact p_Port_begin_L35 hw hG hKc2 H
def f_Port_begin_L2 (Γ : gm_T)  : Nat → ph_T → Nat → Int32 → Option (Unit × ph_T)
  | 0, _, _, _ => none
  | fu + 1, φ, x0, x1 =>
    if (5 : Int32) ≤ x1 then
      some ((), φ)
    else
      @ite _ (Γ x0 = .inr 5) _ (
      Option.bind (φ.2.2 x0 0) fun a12 =>
      Option.bind (gA Γ a12 2) fun N13 =>
      Option.bind (ix x1 N13) fun k14 =>
      if (φ.1 a12 k14) = 0 then
        f_Port_begin_L34 Γ (f_Port_begin_L2 Γ  fu) φ x0 x1 x1 (φ.2.2 x0 2)
      else
        Option.bind (φ.2.2 x0 1) fun a15 =>
        Option.bind (gA Γ a15 2) fun N16 =>
        Option.bind (ix x1 N16) fun k17 =>
        if (φ.1 a15 k17) = 0 then
          f_Port_begin_L35 Γ (f_Port_begin_L2 Γ  fu) φ x0 x1 (1 : Int32) x1 (φ.2.2 x0 2)
        else
          f_Port_begin_L34 Γ (f_Port_begin_L2 Γ  fu) φ x0 x1 x1 (φ.2.2 x0 2)
      ) none
set_option maxRecDepth 100000 in
set_option maxHeartbeats 4000000 in
theorem p_Port_begin_L2 {w : jw_T} (hw : jok w) {Γ : gm_T} {n : Nat} (hG : gd w Γ n)  : ∀ (fu : Nat) {x : Bool} {φ : ph_T} {x0 : Nat} {x1 : Int32} {q : Unit × ph_T}, f_Port_begin_L2 Γ  fu φ x0 x1 = some q → J w M_Port_begin 2 [some (.ref x0), some (.int x1)] [] (pic Γ φ) n x 0 0 (fq Γ n (.inl none) q.2) := by
  intro fu
  induction fu with
  | zero =>
    intro x φ x0 x1 q H
    cases H
  | succ fu ih =>
    intro x φ x0 x1 q H
    unfold f_Port_begin_L2 at H
    refine J_iload_n d_Port_begin_2 rfl ?_
    refine J_iconst (v := 5) d_Port_begin_3 (by decide) ?_
    refine J_icmp_ge (tgt := 56) d_Port_begin_4 (by decide) ?_ ?_
    · intro c20
      rw [if_pos c20] at H
      have H := Option.some.inj H
      subst H
      exact J_vret (st := []) d_Port_begin_56 rfl ⟨rfl, rfl, rfl⟩
    · intro c20
      rw [if_neg c20] at H
      refine J_aload_n d_Port_begin_7 rfl ?_
      have g11 : Γ x0 = .inr 5 := by
        apply Classical.byContradiction
        intro q9
        rw [if_neg q9] at H
        cases H
      rw [if_pos g11] at H
      refine F_getR (ci := 5) (k := 2) hG (cf_Port hw) (fl_Port_18 hw) (by decide) (by decide) rfl d_Port_begin_8 g11 ?_
      refine J_iload_n d_Port_begin_11 rfl ?_
      refine J_aload_n d_Port_begin_12 rfl ?_
      refine F_getR (ci := 5) (k := 0) hG (cf_Port hw) (fl_Port_9 hw) (by decide) (by decide) rfl d_Port_begin_13 g11 ?_
      refine J_iload_n d_Port_begin_16 rfl ?_
      obtain ⟨a12, ha12, H⟩ := Option.bind_eq_some_iff.mp H
      rw [j_rf ha12]
      obtain ⟨N13, hN13, H⟩ := Option.bind_eq_some_iff.mp H
      obtain ⟨k14, hk14, H⟩ := Option.bind_eq_some_iff.mp H
      refine F_zald k14 hw hG d_Port_begin_17 (gA_some hN13) (ix_some hk14) ?_
      refine J_if_eq (tgt := 34) d_Port_begin_18 (by decide) ?_ ?_
      · intro c19
        rw [if_pos c19] at H
        refine J.drop [true, true] rfl ?_
        exact p_Port_begin_L34 hw hG ih H
      · intro c19
        rw [if_neg c19] at H
        refine J_aload_n d_Port_begin_21 rfl ?_
        refine F_getR (ci := 5) (k := 1) hG (cf_Port hw) (fl_Port_15 hw) (by decide) (by decide) rfl d_Port_begin_22 g11 ?_
        refine J_iload_n d_Port_begin_25 rfl ?_
        obtain ⟨a15, ha15, H⟩ := Option.bind_eq_some_iff.mp H
        rw [j_rf ha15]
        obtain ⟨N16, hN16, H⟩ := Option.bind_eq_some_iff.mp H
        obtain ⟨k17, hk17, H⟩ := Option.bind_eq_some_iff.mp H
        refine F_zald k17 hw hG d_Port_begin_26 (gA_some hN16) (ix_some hk17) ?_
        refine J_if_ne (tgt := 34) d_Port_begin_27 (by decide) ?_ ?_
        · intro c18
          rw [if_neg c18] at H
          refine J.drop [true, true] rfl ?_
          exact p_Port_begin_L34 hw hG ih H
        · intro c18
          rw [if_pos c18] at H
          refine J_iconst (v := 1) d_Port_begin_30 (by decide) ?_
          refine J_goto (tgt := 35) d_Port_begin_31 (by decide) ?_
          refine J.drop [true, true] rfl ?_
          exact p_Port_begin_L35 hw hG ih H
def f_Port_begin (Γ : gm_T) (φ : ph_T) (this : Nat) : Option (Unit × ph_T) :=
  f_Port_begin_L2 Γ  jF φ this (0 : Int32)
set_option maxRecDepth 100000 in
set_option maxHeartbeats 4000000 in
theorem p_Port_begin {w : jw_T} (hw : jok w) {Γ : gm_T} {n : Nat} (hG : gd w Γ n) {x : Bool} {φ : ph_T} {this : Nat} {q : Unit × ph_T} (H : f_Port_begin Γ φ this = some q) : jc w M_Port_begin [.ref this] (pic Γ φ) n x 0 0 (fq Γ n (.inl none) q.2) := by
  refine jc.of (by simp only [jent_r, jent_i, jent_l, jent_a, jent_0]; exact Nat.le_of_ble_eq_true rfl) ?_
  have hls : jents [.ref this] (jm_nL M_Port_begin) = [some (.ref this), none] := by simp only [jents, jent_r, jent_i, jent_l, jent_a, jent_0]; rfl
  rw [hls]
  clear hls
  unfold f_Port_begin at H
  refine J_iconst (v := 0) d_Port_begin_0 (by decide) ?_
  refine J_istore_n d_Port_begin_1 (Nat.le_of_ble_eq_true rfl) ?_
  refine J.ls (ls' := [some (.ref this), some (.int (0 : Int32))]) rfl ?_
  refine J.drop [true, true] rfl ?_
  exact p_Port_begin_L2 hw hG  _ H
