theorem ln_Ref_beatCame : (parseMethodDescriptor y_Ref_beatCame.desc).map (fun q => q.parameters.length) = some 3 := by decide +kernel
def f_Ref_beatCame_L152 (Γ : gm_T)  (φ : ph_T) : Option (Unit × ph_T) :=
  some ((), φ)
set_option maxRecDepth 100000 in
set_option maxHeartbeats 4000000 in
theorem p_Ref_beatCame_L152 {w : jw_T} (hw : jok w) {Γ : gm_T} {n : Nat} (hG : gd w Γ n)  {x : Bool} {φ : ph_T} {q : Unit × ph_T} (H : f_Ref_beatCame_L152 Γ  φ  = some q) : J w M_Ref_beatCame 152 [none, none, none, none, none, none, none] [] (pic Γ φ) n x 0 0 (fq Γ n (.inl none) q.2) := by
  unfold f_Ref_beatCame_L152 at H
  have H := Option.some.inj H
  subst H
  exact J_vret (st := []) d_Ref_beatCame_152 rfl ⟨rfl, rfl, rfl⟩
def f_Ref_beatCame_L3 (Γ : gm_T)  : Nat → ph_T → Nat → Int32 → Int64 → Int32 → Int32 → Option (Unit × ph_T)
  | 0, _, _, _, _, _, _ => none
  | fu + 1, φ, x0, x1, x2, x4, x5 =>
    @ite _ (Γ x0 = .inr 12) _ (
    Option.bind (φ.2.2 x0 59) fun a2 =>
    Option.bind (gA Γ a2 0) fun N3 =>
    Option.bind (ix (((4 : Int32) * x1) + x5) N3) fun k4 =>
    Option.bind (φ.2.2 x0 62) fun a5 =>
    Option.bind (gA Γ a5 0) fun N6 =>
    Option.bind (ix (φ.1 a2 k4) N6) fun k7 =>
    Option.bind (gA Γ a2 0) fun N8 =>
    Option.bind (ix (((4 : Int32) * x1) + x5) N8) fun k9 =>
    Option.bind (φ.2.2 x0 61) fun a10 =>
    Option.bind (gA Γ a10 1) fun N11 =>
    Option.bind (ix (φ.1 a2 k9) N11) fun k12 =>
    Option.bind (f_Ref_lengthOf Γ φ (φ.2.1 a10 k12)) fun q13 =>
    if (φ.1 a5 k7) = q13.1 then
      (f_Ref_beatCame_L3 Γ  fu) q13.2 x0 x1 x2 x4 (x5 + (1 : Int32))
    else
      Option.bind (q13.2.2.2 x0 59) fun a14 =>
      Option.bind (gA Γ a14 0) fun N15 =>
      Option.bind (ix (((4 : Int32) * x1) + x5) N15) fun k16 =>
      Option.bind (q13.2.2.2 x0 62) fun a17 =>
      Option.bind (gA Γ a17 0) fun N18 =>
      Option.bind (ix (q13.2.1 a14 k16) N18) fun k19 =>
      Option.bind (q13.2.2.2 x0 65) fun a20 =>
      Option.bind (gA Γ a20 1) fun N21 =>
      Option.bind (ix (((16 : Int32) * (q13.2.1 a14 k16)) + (q13.2.1 a17 k19)) N21) fun k22 =>
      Option.bind (gA Γ a17 0) fun N23 =>
      Option.bind (ix (q13.2.1 a14 k16) N23) fun k24 =>
      Option.bind (q13.2.2.2 x0 66) fun a25 =>
      Option.bind (gA Γ a25 0) fun N26 =>
      Option.bind (ix (((16 : Int32) * (q13.2.1 a14 k16)) + (q13.2.1 a17 k24)) N26) fun k27 =>
      Option.bind (gA Γ a17 0) fun N28 =>
      Option.bind (ix (q13.2.1 a14 k16) N28) fun k29 =>
      Option.bind (gA Γ a17 0) fun N30 =>
      Option.bind (ix (q13.2.1 a14 k16) N30) fun k31 =>
      Option.bind (gA Γ a17 0) fun N32 =>
      Option.bind (ix (q13.2.1 a14 k16) N32) fun k33 =>
      Option.bind (q13.2.2.2 x0 61) fun a34 =>
      Option.bind (gA Γ a34 1) fun N35 =>
      Option.bind (ix (q13.2.1 a14 k16) N35) fun k36 =>
      Option.bind (f_Ref_lengthOf Γ (uI (uI (uL q13.2 a20 k22 x2) a25 k27 (x4 &&& (255 : Int32))) a17 k31 (((uI (uL q13.2 a20 k22 x2) a25 k27 (x4 &&& (255 : Int32))).1 a17 k29) + (1 : Int32))) ((uL q13.2 a20 k22 x2).2.1 a34 k36)) fun q37 =>
      if ((uI (uI (uL q13.2 a20 k22 x2) a25 k27 (x4 &&& (255 : Int32))) a17 k31 (((uI (uL q13.2 a20 k22 x2) a25 k27 (x4 &&& (255 : Int32))).1 a17 k29) + (1 : Int32))).1 a17 k33) = q37.1 then
        Option.bind (q37.2.2.2 x0 63) fun a38 =>
        Option.bind (gA Γ a38 0) fun N39 =>
        Option.bind (ix (q13.2.1 a14 k16) N39) fun k40 =>
        Option.bind (f_Ref_doWrite Γ (uI q37.2 a38 k40 (q37.2.1 x0 6)) x0 x1 (q13.2.1 a14 k16)) fun q41 =>
        f_Ref_beatCame_L152 Γ  q41.2 
      else
        f_Ref_beatCame_L152 Γ  q37.2 
    ) none
set_option maxRecDepth 100000 in
set_option maxHeartbeats 4000000 in
theorem p_Ref_beatCame_L3 {w : jw_T} (hw : jok w) {Γ : gm_T} {n : Nat} (hG : gd w Γ n)  : ∀ (fu : Nat) {x : Bool} {φ : ph_T} {x0 : Nat} {x1 : Int32} {x2 : Int64} {x4 : Int32} {x5 : Int32} {q : Unit × ph_T}, f_Ref_beatCame_L3 Γ  fu φ x0 x1 x2 x4 x5 = some q → J w M_Ref_beatCame 3 [some (.ref x0), some (.int x1), some (.long x2), none, some (.int x4), some (.int x5), none] [] (pic Γ φ) n x 0 0 (fq Γ n (.inl none) q.2) := by
  intro fu
  induction fu with
  | zero =>
    intro x φ x0 x1 x2 x4 x5 q H
    cases H
  | succ fu ih =>
    intro x φ x0 x1 x2 x4 x5 q H
    unfold f_Ref_beatCame_L3 at H
    refine J_aload_n d_Ref_beatCame_3 rfl ?_
    have g1 : Γ x0 = .inr 12 := by
      apply Classical.byContradiction
      intro q9
      rw [if_neg q9] at H
      cases H
    rw [if_pos g1] at H
    refine F_getR (ci := 12) (k := 62) hG (cf_Ref hw) (fl_Ref_166 hw) (by decide) (by decide) rfl d_Ref_beatCame_4 g1 ?_
    refine J_aload_n d_Ref_beatCame_7 rfl ?_
    refine F_getR (ci := 12) (k := 59) hG (cf_Ref hw) (fl_Ref_157 hw) (by decide) (by decide) rfl d_Ref_beatCame_8 g1 ?_
    refine J_iconst (v := 4) d_Ref_beatCame_11 (by decide) ?_
    refine J_iload_n d_Ref_beatCame_12 rfl ?_
    refine J_imul d_Ref_beatCame_13 ?_
    refine J_iload d_Ref_beatCame_14 rfl ?_
    refine J_iadd d_Ref_beatCame_16 ?_
    obtain ⟨a2, ha2, H⟩ := Option.bind_eq_some_iff.mp H
    rw [j_rf ha2]
    obtain ⟨N3, hN3, H⟩ := Option.bind_eq_some_iff.mp H
    obtain ⟨k4, hk4, H⟩ := Option.bind_eq_some_iff.mp H
    refine F_iald k4 hw hG d_Ref_beatCame_17 (gA_some hN3) (ix_some hk4) ?_
    obtain ⟨a5, ha5, H⟩ := Option.bind_eq_some_iff.mp H
    rw [j_rf ha5]
    obtain ⟨N6, hN6, H⟩ := Option.bind_eq_some_iff.mp H
    obtain ⟨k7, hk7, H⟩ := Option.bind_eq_some_iff.mp H
    refine F_iald k7 hw hG d_Ref_beatCame_18 (gA_some hN6) (ix_some hk7) ?_
    refine J_aload_n d_Ref_beatCame_19 rfl ?_
    refine F_getR (ci := 12) (k := 61) hG (cf_Ref hw) (fl_Ref_163 hw) (by decide) (by decide) rfl d_Ref_beatCame_20 g1 ?_
    refine J_aload_n d_Ref_beatCame_23 rfl ?_
    refine F_getR (ci := 12) (k := 59) hG (cf_Ref hw) (fl_Ref_157 hw) (by decide) (by decide) rfl d_Ref_beatCame_24 g1 ?_
    refine J_iconst (v := 4) d_Ref_beatCame_27 (by decide) ?_
    refine J_iload_n d_Ref_beatCame_28 rfl ?_
    refine J_imul d_Ref_beatCame_29 ?_
    refine J_iload d_Ref_beatCame_30 rfl ?_
    refine J_iadd d_Ref_beatCame_32 ?_
    try rw [j_rf ha2]
    obtain ⟨N8, hN8, H⟩ := Option.bind_eq_some_iff.mp H
    obtain ⟨k9, hk9, H⟩ := Option.bind_eq_some_iff.mp H
    refine F_iald k9 hw hG d_Ref_beatCame_33 (gA_some hN8) (ix_some hk9) ?_
    obtain ⟨a10, ha10, H⟩ := Option.bind_eq_some_iff.mp H
    rw [j_rf ha10]
    obtain ⟨N11, hN11, H⟩ := Option.bind_eq_some_iff.mp H
    obtain ⟨k12, hk12, H⟩ := Option.bind_eq_some_iff.mp H
    refine F_lald k12 hw hG d_Ref_beatCame_34 (gA_some hN11) (ix_some hk12) ?_
    obtain ⟨q13, hq13, H⟩ := Option.bind_eq_some_iff.mp H
    refine J_callS (kc := 0) (ks := 0) (kc' := 0) (ks' := 0) (as := [.long (φ.2.1 a10 k12)]) (st := [.int (φ.1 a5 k7)]) (mf_Ref_lengthOf hw) (ms_Ref_321 hw) d_Ref_beatCame_35 ln_Ref_lengthOf (by decide) (by first | exact Nat.le_of_ble_eq_true rfl | (simp only [List.map_cons, List.map_nil, List.sum_cons, List.sum_nil, va_rf_cat]; exact Nat.le_of_ble_eq_true rfl)) rfl (p_Ref_lengthOf hw hG hq13) ?_ (fun E h' n' x' e1 => by cases e1.1)
    intro v9 h9 n9 x9 e9
    obtain ⟨e91, e92, e93⟩ := e9
    cases e91
    subst e92
    subst e93
    clear x
    rename Bool => x
    show J _ _ _ _ (_ :: _) _ _ _ _ _ _
    refine J_icmp_ne (tgt := 47) d_Ref_beatCame_38 (by decide) ?_ ?_
    · intro c43
      rw [if_neg c43] at H
      refine J_aload_n d_Ref_beatCame_47 rfl ?_
      refine F_getR (ci := 12) (k := 59) hG (cf_Ref hw) (fl_Ref_157 hw) (by decide) (by decide) rfl d_Ref_beatCame_48 g1 ?_
      refine J_iconst (v := 4) d_Ref_beatCame_51 (by decide) ?_
      refine J_iload_n d_Ref_beatCame_52 rfl ?_
      refine J_imul d_Ref_beatCame_53 ?_
      refine J_iload d_Ref_beatCame_54 rfl ?_
      refine J_iadd d_Ref_beatCame_56 ?_
      obtain ⟨a14, ha14, H⟩ := Option.bind_eq_some_iff.mp H
      rw [j_rf ha14]
      obtain ⟨N15, hN15, H⟩ := Option.bind_eq_some_iff.mp H
      obtain ⟨k16, hk16, H⟩ := Option.bind_eq_some_iff.mp H
      refine F_iald k16 hw hG d_Ref_beatCame_57 (gA_some hN15) (ix_some hk16) ?_
      refine J_istore d_Ref_beatCame_58 (Nat.le_of_ble_eq_true rfl) ?_
      refine J.ls (ls' := [some (.ref x0), some (.int x1), some (.long x2), none, some (.int x4), some (.int x5), some (.int (q13.2.1 a14 k16))]) rfl ?_
      refine J_aload_n d_Ref_beatCame_60 rfl ?_
      refine F_getR (ci := 12) (k := 65) hG (cf_Ref hw) (fl_Ref_175 hw) (by decide) (by decide) rfl d_Ref_beatCame_61 g1 ?_
      refine J_bipush (v := 16) d_Ref_beatCame_64 (by decide) ?_
      refine J_iload d_Ref_beatCame_66 rfl ?_
      refine J_imul d_Ref_beatCame_68 ?_
      refine J_aload_n d_Ref_beatCame_69 rfl ?_
      refine F_getR (ci := 12) (k := 62) hG (cf_Ref hw) (fl_Ref_166 hw) (by decide) (by decide) rfl d_Ref_beatCame_70 g1 ?_
      refine J_iload d_Ref_beatCame_73 rfl ?_
      obtain ⟨a17, ha17, H⟩ := Option.bind_eq_some_iff.mp H
      rw [j_rf ha17]
      obtain ⟨N18, hN18, H⟩ := Option.bind_eq_some_iff.mp H
      obtain ⟨k19, hk19, H⟩ := Option.bind_eq_some_iff.mp H
      refine F_iald k19 hw hG d_Ref_beatCame_75 (gA_some hN18) (ix_some hk19) ?_
      refine J_iadd d_Ref_beatCame_76 ?_
      refine J_lload_n d_Ref_beatCame_77 rfl ?_
      obtain ⟨a20, ha20, H⟩ := Option.bind_eq_some_iff.mp H
      rw [j_rf ha20]
      obtain ⟨N21, hN21, H⟩ := Option.bind_eq_some_iff.mp H
      obtain ⟨k22, hk22, H⟩ := Option.bind_eq_some_iff.mp H
      refine F_last k22 hw hG d_Ref_beatCame_78 (gA_some hN21) (ix_some hk22) ?_
      refine J_aload_n d_Ref_beatCame_79 rfl ?_
      refine F_getR (ci := 12) (k := 66) hG (cf_Ref hw) (fl_Ref_178 hw) (by decide) (by decide) rfl d_Ref_beatCame_80 g1 ?_
      show J _ _ _ _ (va_rf (q13.2.2.2 x0 66) :: _) _ _ _ _ _ _
      refine J_bipush (v := 16) d_Ref_beatCame_83 (by decide) ?_
      refine J_iload d_Ref_beatCame_85 rfl ?_
      refine J_imul d_Ref_beatCame_87 ?_
      refine J_aload_n d_Ref_beatCame_88 rfl ?_
      refine F_getR (ci := 12) (k := 62) hG (cf_Ref hw) (fl_Ref_166 hw) (by decide) (by decide) rfl d_Ref_beatCame_89 g1 ?_
      show J _ _ _ _ (va_rf (q13.2.2.2 x0 62) :: _) _ _ _ _ _ _
      refine J_iload d_Ref_beatCame_92 rfl ?_
      try rw [j_rf ha17]
      obtain ⟨N23, hN23, H⟩ := Option.bind_eq_some_iff.mp H
      obtain ⟨k24, hk24, H⟩ := Option.bind_eq_some_iff.mp H
      refine F_iald k24 hw hG d_Ref_beatCame_94 (gA_some hN23) (ix_some hk24) ?_
      show J _ _ _ _ (.int (q13.2.1 a17 k24) :: _) _ _ _ _ _ _
      refine J_iadd d_Ref_beatCame_95 ?_
      refine J_iload d_Ref_beatCame_96 rfl ?_
      refine J_sipush (v := 255) d_Ref_beatCame_98 (by decide) ?_
      refine J_iand d_Ref_beatCame_101 ?_
      obtain ⟨a25, ha25, H⟩ := Option.bind_eq_some_iff.mp H
      rw [j_rf ha25]
      obtain ⟨N26, hN26, H⟩ := Option.bind_eq_some_iff.mp H
      obtain ⟨k27, hk27, H⟩ := Option.bind_eq_some_iff.mp H
      refine F_iast k27 hw hG d_Ref_beatCame_102 (gA_some hN26) (ix_some hk27) ?_
      refine J_aload_n d_Ref_beatCame_103 rfl ?_
      refine F_getR (ci := 12) (k := 62) hG (cf_Ref hw) (fl_Ref_166 hw) (by decide) (by decide) rfl d_Ref_beatCame_104 g1 ?_
      show J _ _ _ _ (va_rf (q13.2.2.2 x0 62) :: _) _ _ _ _ _ _
      refine J_iload d_Ref_beatCame_107 rfl ?_
      refine J_dup2 d_Ref_beatCame_109 rfl (va_rf_cat _) ?_
      try rw [j_rf ha17]
      obtain ⟨N28, hN28, H⟩ := Option.bind_eq_some_iff.mp H
      obtain ⟨k29, hk29, H⟩ := Option.bind_eq_some_iff.mp H
      refine F_iald k29 hw hG d_Ref_beatCame_110 (gA_some hN28) (ix_some hk29) ?_
      refine J_iconst (v := 1) d_Ref_beatCame_111 (by decide) ?_
      refine J_iadd d_Ref_beatCame_112 ?_
      obtain ⟨N30, hN30, H⟩ := Option.bind_eq_some_iff.mp H
      obtain ⟨k31, hk31, H⟩ := Option.bind_eq_some_iff.mp H
      refine F_iast k31 hw hG d_Ref_beatCame_113 (gA_some hN30) (ix_some hk31) ?_
      refine J_aload_n d_Ref_beatCame_114 rfl ?_
      refine F_getR (ci := 12) (k := 62) hG (cf_Ref hw) (fl_Ref_166 hw) (by decide) (by decide) rfl d_Ref_beatCame_115 g1 ?_
      show J _ _ _ _ (va_rf (q13.2.2.2 x0 62) :: _) _ _ _ _ _ _
      refine J_iload d_Ref_beatCame_118 rfl ?_
      try rw [j_rf ha17]
      obtain ⟨N32, hN32, H⟩ := Option.bind_eq_some_iff.mp H
      obtain ⟨k33, hk33, H⟩ := Option.bind_eq_some_iff.mp H
      refine F_iald k33 hw hG d_Ref_beatCame_120 (gA_some hN32) (ix_some hk33) ?_
      refine J_aload_n d_Ref_beatCame_121 rfl ?_
      refine F_getR (ci := 12) (k := 61) hG (cf_Ref hw) (fl_Ref_163 hw) (by decide) (by decide) rfl d_Ref_beatCame_122 g1 ?_
      show J _ _ _ _ (va_rf (q13.2.2.2 x0 61) :: _) _ _ _ _ _ _
      refine J_iload d_Ref_beatCame_125 rfl ?_
      obtain ⟨a34, ha34, H⟩ := Option.bind_eq_some_iff.mp H
      rw [j_rf ha34]
      obtain ⟨N35, hN35, H⟩ := Option.bind_eq_some_iff.mp H
      obtain ⟨k36, hk36, H⟩ := Option.bind_eq_some_iff.mp H
      refine F_lald k36 hw hG d_Ref_beatCame_127 (gA_some hN35) (ix_some hk36) ?_
      show J _ _ _ _ (.long ((uL q13.2 a20 k22 x2).2.1 a34 k36) :: _) _ _ _ _ _ _
      obtain ⟨q37, hq37, H⟩ := Option.bind_eq_some_iff.mp H
      refine J_callS (kc := 0) (ks := 0) (kc' := 0) (ks' := 0) (as := [.long ((uL q13.2 a20 k22 x2).2.1 a34 k36)]) (st := [.int ((uI (uI (uL q13.2 a20 k22 x2) a25 k27 (x4 &&& (255 : Int32))) a17 k31 (((uI (uL q13.2 a20 k22 x2) a25 k27 (x4 &&& (255 : Int32))).1 a17 k29) + (1 : Int32))).1 a17 k33)]) (mf_Ref_lengthOf hw) (ms_Ref_321 hw) d_Ref_beatCame_128 ln_Ref_lengthOf (by decide) (by first | exact Nat.le_of_ble_eq_true rfl | (simp only [List.map_cons, List.map_nil, List.sum_cons, List.sum_nil, va_rf_cat]; exact Nat.le_of_ble_eq_true rfl)) rfl (p_Ref_lengthOf hw hG hq37) ?_ (fun E h' n' x' e1 => by cases e1.1)
      intro v9 h9 n9 x9 e9
      obtain ⟨e91, e92, e93⟩ := e9
      cases e91
      subst e92
      subst e93
      clear x
      rename Bool => x
      show J _ _ _ _ (_ :: _) _ _ _ _ _ _
      refine J_icmp_ne (tgt := 152) d_Ref_beatCame_131 (by decide) ?_ ?_
      · intro c42
        rw [if_neg c42] at H
        refine J.drop [false, false, false, false, false, false, false] rfl ?_
        exact p_Ref_beatCame_L152 hw hG  H
      · intro c42
        rw [if_pos c42] at H
        refine J_aload_n d_Ref_beatCame_134 rfl ?_
        refine F_getR (ci := 12) (k := 63) hG (cf_Ref hw) (fl_Ref_169 hw) (by decide) (by decide) rfl d_Ref_beatCame_135 g1 ?_
        refine J_iload d_Ref_beatCame_138 rfl ?_
        refine J_aload_n d_Ref_beatCame_140 rfl ?_
        refine F_getI (ci := 12) (k := 6) hG (cf_Ref hw) (fl_Ref_348 hw) (by decide) (by decide) rfl d_Ref_beatCame_141 g1 ?_
        obtain ⟨a38, ha38, H⟩ := Option.bind_eq_some_iff.mp H
        rw [j_rf ha38]
        obtain ⟨N39, hN39, H⟩ := Option.bind_eq_some_iff.mp H
        obtain ⟨k40, hk40, H⟩ := Option.bind_eq_some_iff.mp H
        refine F_iast k40 hw hG d_Ref_beatCame_144 (gA_some hN39) (ix_some hk40) ?_
        refine J_aload_n d_Ref_beatCame_145 rfl ?_
        refine J_iload_n d_Ref_beatCame_146 rfl ?_
        refine J_iload d_Ref_beatCame_147 rfl ?_
        obtain ⟨q41, hq41, H⟩ := Option.bind_eq_some_iff.mp H
        refine J_callV (kc := 0) (ks := 0) (kc' := 0) (ks' := 0) (a := x0) (ci := 12) (as := [.int x1, .int (q13.2.1 a14 k16)]) (st := []) (mf_Ref_doWrite hw) (mv_Ref_484 hw) d_Ref_beatCame_149 ln_Ref_doWrite (by decide) (by first | exact Nat.le_of_ble_eq_true rfl | (simp only [List.map_cons, List.map_nil, List.sum_cons, List.sum_nil, va_rf_cat]; exact Nat.le_of_ble_eq_true rfl)) rfl ((hG _).1 _ g1 (by decide)).1 ((hG _).1 _ g1 (by decide)).2 (by unfold pic; rw [g1]; rfl) (jcl_at hw rfl) rfl (p_Ref_doWrite hw hG hq41) ?_ (fun E h' n' x' e1 => by cases e1.1)
        intro v9 h9 n9 x9 e9
        obtain ⟨e91, e92, e93⟩ := e9
        cases e91
        subst e92
        subst e93
        clear x
        rename Bool => x
        show J _ _ _ _ [] _ _ _ _ _ _
        refine J.drop [false, false, false, false, false, false, false] rfl ?_
        exact p_Ref_beatCame_L152 hw hG  H
    · intro c43
      rw [if_pos c43] at H
      refine J_iinc (v := x5 + 1) d_Ref_beatCame_41 rfl (by rw [show Int32.ofInt 1 = (1 : Int32) from by decide]) ?_
      refine J.ls (ls' := [some (.ref x0), some (.int x1), some (.long x2), none, some (.int x4), some (.int (x5 + (1 : Int32))), none]) rfl ?_
      refine J_goto (tgt := 3) d_Ref_beatCame_44 (by decide) ?_
      refine J.drop [true, true, true, false, true, true, false] rfl ?_
      exact ih H
def f_Ref_beatCame (Γ : gm_T) (φ : ph_T) (this : Nat) (p0 : Int32) (p1 : Int64) (p2 : Int32) : Option (Unit × ph_T) :=
  f_Ref_beatCame_L3 Γ  jF φ this p0 p1 p2 (0 : Int32)
set_option maxRecDepth 100000 in
set_option maxHeartbeats 4000000 in
theorem p_Ref_beatCame {w : jw_T} (hw : jok w) {Γ : gm_T} {n : Nat} (hG : gd w Γ n) {x : Bool} {φ : ph_T} {this : Nat} {p0 : Int32} {p1 : Int64} {p2 : Int32} {q : Unit × ph_T} (H : f_Ref_beatCame Γ φ this p0 p1 p2 = some q) : jc w M_Ref_beatCame [.ref this, .int p0, .long p1, .int p2] (pic Γ φ) n x 0 0 (fq Γ n (.inl none) q.2) := by
  refine jc.of (by simp only [jent_r, jent_i, jent_l, jent_a, jent_0]; exact Nat.le_of_ble_eq_true rfl) ?_
  have hls : jents [.ref this, .int p0, .long p1, .int p2] (jm_nL M_Ref_beatCame) = [some (.ref this), some (.int p0), some (.long p1), none, some (.int p2), none, none] := by simp only [jents, jent_r, jent_i, jent_l, jent_a, jent_0]; rfl
  rw [hls]
  clear hls
  unfold f_Ref_beatCame at H
  refine J_iconst (v := 0) d_Ref_beatCame_0 (by decide) ?_
  refine J_istore d_Ref_beatCame_1 (Nat.le_of_ble_eq_true rfl) ?_
  refine J.ls (ls' := [some (.ref this), some (.int p0), some (.long p1), none, some (.int p2), some (.int (0 : Int32)), none]) rfl ?_
  refine J.drop [true, true, true, false, true, true, false] rfl ?_
  exact p_Ref_beatCame_L3 hw hG  _ H
theorem ln_Ref_isSpoilt : (parseMethodDescriptor y_Ref_isSpoilt.desc).map (fun q => q.parameters.length) = some 2 := by decide +kernel
def f_Ref_isSpoilt_L56 (Γ : gm_T) (Kc20 : ph_T → Nat → Int32 → Int32 → Int32 → Int32 → Option (Int32 × ph_T)) (φ : ph_T) (x0 : Nat) (x4 : Int32) (x5 : Int32) (x7 : Int32) (y0 : Int32) : Option (Int32 × ph_T) :=
  Kc20 φ x0 x4 x5 y0 (x7 + (1 : Int32))
set_option maxRecDepth 100000 in
set_option maxHeartbeats 4000000 in
theorem p_Ref_isSpoilt_L56 {w : jw_T} (hw : jok w) {Γ : gm_T} {n : Nat} (hG : gd w Γ n) {Kc20 : ph_T → Nat → Int32 → Int32 → Int32 → Int32 → Option (Int32 × ph_T)} (hKc20 : ∀ {x : Bool} {φ : ph_T} {x0 : Nat} {x4 : Int32} {x5 : Int32} {x6 : Int32} {x7 : Int32} {q : Int32 × ph_T}, Kc20 φ x0 x4 x5 x6 x7 = some q → J w M_Ref_isSpoilt 20 [some (.ref x0), none, none, none, some (.int x4), some (.int x5), some (.int x6), some (.int x7)] [] (pic Γ φ) n x 0 0 (fq Γ n (.inl (some (.int q.1))) q.2)) {x : Bool} {φ : ph_T} {x0 : Nat} {x4 : Int32} {x5 : Int32} {x7 : Int32} {y0 : Int32} {q : Int32 × ph_T} (H : f_Ref_isSpoilt_L56 Γ Kc20 φ x0 x4 x5 x7 y0 = some q) : J w M_Ref_isSpoilt 56 [some (.ref x0), none, none, none, some (.int x4), some (.int x5), none, some (.int x7)] [.int y0] (pic Γ φ) n x 0 0 (fq Γ n (.inl (some (.int q.1))) q.2) := by
  unfold f_Ref_isSpoilt_L56 at H
  refine J_istore d_Ref_isSpoilt_56 (Nat.le_of_ble_eq_true rfl) ?_
  refine J.ls (ls' := [some (.ref x0), none, none, none, some (.int x4), some (.int x5), some (.int y0), some (.int x7)]) rfl ?_
  refine J_iinc (v := x7 + 1) d_Ref_isSpoilt_58 rfl (by rw [show Int32.ofInt 1 = (1 : Int32) from by decide]) ?_
  refine J.ls (ls' := [some (.ref x0), none, none, none, some (.int x4), some (.int x5), some (.int y0), some (.int (x7 + (1 : Int32)))]) rfl ?_
  refine J_goto (tgt := 20) d_Ref_isSpoilt_61 (by decide) ?_
  refine J.drop [true, false, false, false, true, true, true, true] rfl ?_
  exact hKc20 H
def f_Ref_isSpoilt_L51 (Γ : gm_T) (Kc20 : ph_T → Nat → Int32 → Int32 → Int32 → Int32 → Option (Int32 × ph_T)) (φ : ph_T) (x0 : Nat) (x4 : Int32) (x5 : Int32) (x7 : Int32) : Option (Int32 × ph_T) :=
  f_Ref_isSpoilt_L56 Γ Kc20 φ x0 x4 x5 x7 (1 : Int32)
set_option maxRecDepth 100000 in
set_option maxHeartbeats 4000000 in
theorem p_Ref_isSpoilt_L51 {w : jw_T} (hw : jok w) {Γ : gm_T} {n : Nat} (hG : gd w Γ n) {Kc20 : ph_T → Nat → Int32 → Int32 → Int32 → Int32 → Option (Int32 × ph_T)} (hKc20 : ∀ {x : Bool} {φ : ph_T} {x0 : Nat} {x4 : Int32} {x5 : Int32} {x6 : Int32} {x7 : Int32} {q : Int32 × ph_T}, Kc20 φ x0 x4 x5 x6 x7 = some q → J w M_Ref_isSpoilt 20 [some (.ref x0), none, none, none, some (.int x4), some (.int x5), some (.int x6), some (.int x7)] [] (pic Γ φ) n x 0 0 (fq Γ n (.inl (some (.int q.1))) q.2)) {x : Bool} {φ : ph_T} {x0 : Nat} {x4 : Int32} {x5 : Int32} {x7 : Int32} {q : Int32 × ph_T} (H : f_Ref_isSpoilt_L51 Γ Kc20 φ x0 x4 x5 x7 = some q) : J w M_Ref_isSpoilt 51 [some (.ref x0), none, none, none, some (.int x4), some (.int x5), none, some (.int x7)] [] (pic Γ φ) n x 0 0 (fq Γ n (.inl (some (.int q.1))) q.2) := by
  unfold f_Ref_isSpoilt_L51 at H
  refine J_iconst (v := 1) d_Ref_isSpoilt_51 (by decide) ?_
  refine J_goto (tgt := 56) d_Ref_isSpoilt_52 (by decide) ?_
  refine J.drop [true, false, false, false, true, true, false, true] rfl ?_
  exact p_Ref_isSpoilt_L56 hw hG hKc20 H
def f_Ref_isSpoilt_L20 (Γ : gm_T)  : Nat → ph_T → Nat → Int32 → Int32 → Int32 → Int32 → Option (Int32 × ph_T)
  | 0, _, _, _, _, _, _ => none
  | fu + 1, φ, x0, x4, x5, x6, x7 =>
    @ite _ (x5 = 0) _ none (
    if ((x4 - (x4 - x4 / x5 * x5)) + x5) ≤ x7 then
      @ite _ (x6 = 0 ∨ x6 = 1) _ (
      some (x6, φ)
      ) none
    else
      if x6 = 0 then
        @ite _ (Γ x0 = .inr 12) _ (
        Option.bind (φ.2.2 x0 14) fun a5 =>
        Option.bind (gA Γ a5 2) fun N6 =>
        Option.bind (ix x7 N6) fun k7 =>
        if (φ.1 a5 k7) = 0 then
          f_Ref_isSpoilt_L56 Γ (f_Ref_isSpoilt_L20 Γ  fu) φ x0 x4 x5 x7 (0 : Int32)
        else
          f_Ref_isSpoilt_L51 Γ (f_Ref_isSpoilt_L20 Γ  fu) φ x0 x4 x5 x7
        ) none
      else
        f_Ref_isSpoilt_L51 Γ (f_Ref_isSpoilt_L20 Γ  fu) φ x0 x4 x5 x7
    )
set_option maxRecDepth 100000 in
set_option maxHeartbeats 4000000 in
theorem p_Ref_isSpoilt_L20 {w : jw_T} (hw : jok w) {Γ : gm_T} {n : Nat} (hG : gd w Γ n)  : ∀ (fu : Nat) {x : Bool} {φ : ph_T} {x0 : Nat} {x4 : Int32} {x5 : Int32} {x6 : Int32} {x7 : Int32} {q : Int32 × ph_T}, f_Ref_isSpoilt_L20 Γ  fu φ x0 x4 x5 x6 x7 = some q → J w M_Ref_isSpoilt 20 [some (.ref x0), none, none, none, some (.int x4), some (.int x5), some (.int x6), some (.int x7)] [] (pic Γ φ) n x 0 0 (fq Γ n (.inl (some (.int q.1))) q.2) := by
  intro fu
  induction fu with
  | zero =>
    intro x φ x0 x4 x5 x6 x7 q H
    cases H
  | succ fu ih =>
    intro x φ x0 x4 x5 x6 x7 q H
    unfold f_Ref_isSpoilt_L20 at H
    refine J_iload d_Ref_isSpoilt_20 rfl ?_
    refine J_iload d_Ref_isSpoilt_22 rfl ?_
    refine J_iload d_Ref_isSpoilt_24 rfl ?_
    refine J_iload d_Ref_isSpoilt_26 rfl ?_
    have h2 : ¬ x5 = 0 := by
      intro q9
      rw [if_pos q9] at H
      cases H
    rw [if_neg h2] at H
    refine J_irem d_Ref_isSpoilt_28 h2 ?_
    refine J_isub d_Ref_isSpoilt_29 ?_
    refine J_iload d_Ref_isSpoilt_30 rfl ?_
    refine J_iadd d_Ref_isSpoilt_32 ?_
    refine J_icmp_ge (tgt := 64) d_Ref_isSpoilt_33 (by decide) ?_ ?_
    · intro c10
      rw [if_pos c10] at H
      refine J_iload d_Ref_isSpoilt_64 rfl ?_
      have z3 : x6 = 0 ∨ x6 = 1 := by
        apply Classical.byContradiction
        intro q9
        rw [if_neg q9] at H
        cases H
      rw [if_pos z3] at H
      have H := Option.some.inj H
      subst H
      exact J_iret (st := []) d_Ref_isSpoilt_66 rfl (narrow_z z3).1 ⟨rfl, rfl, rfl⟩
    · intro c10
      rw [if_neg c10] at H
      refine J_iload d_Ref_isSpoilt_36 rfl ?_
      refine J_if_ne (tgt := 51) d_Ref_isSpoilt_38 (by decide) ?_ ?_
      · intro c9
        rw [if_neg c9] at H
        refine J.drop [true, false, false, false, true, true, false, true] rfl ?_
        exact p_Ref_isSpoilt_L51 hw hG ih H
      · intro c9
        rw [if_pos c9] at H
        refine J_aload_n d_Ref_isSpoilt_41 rfl ?_
        have g4 : Γ x0 = .inr 12 := by
          apply Classical.byContradiction
          intro q9
          rw [if_neg q9] at H
          cases H
        rw [if_pos g4] at H
        refine F_getR (ci := 12) (k := 14) hG (cf_Ref hw) (fl_Ref_33 hw) (by decide) (by decide) rfl d_Ref_isSpoilt_42 g4 ?_
        refine J_iload d_Ref_isSpoilt_45 rfl ?_
        obtain ⟨a5, ha5, H⟩ := Option.bind_eq_some_iff.mp H
        rw [j_rf ha5]
        obtain ⟨N6, hN6, H⟩ := Option.bind_eq_some_iff.mp H
        obtain ⟨k7, hk7, H⟩ := Option.bind_eq_some_iff.mp H
        refine F_zald k7 hw hG d_Ref_isSpoilt_47 (gA_some hN6) (ix_some hk7) ?_
        refine J_if_eq (tgt := 55) d_Ref_isSpoilt_48 (by decide) ?_ ?_
        · intro c8
          rw [if_pos c8] at H
          refine J_iconst (v := 0) d_Ref_isSpoilt_55 (by decide) ?_
          refine J.drop [true, false, false, false, true, true, false, true] rfl ?_
          exact p_Ref_isSpoilt_L56 hw hG ih H
        · intro c8
          rw [if_neg c8] at H
          refine J.drop [true, false, false, false, true, true, false, true] rfl ?_
          exact p_Ref_isSpoilt_L51 hw hG ih H
def f_Ref_isSpoilt (Γ : gm_T) (φ : ph_T) (this : Nat) (p0 : Int64) (p1 : Int32) : Option (Int32 × ph_T) :=
  Option.bind (f_Ref_beatAt Γ φ p0 p1) fun q11 =>
  Option.bind (f_Ref_sizeOf Γ q11.2 p0) fun q12 =>
  f_Ref_isSpoilt_L20 Γ  jF q12.2 this q11.1 q12.1 (0 : Int32) q11.1
set_option maxRecDepth 100000 in
set_option maxHeartbeats 4000000 in
theorem p_Ref_isSpoilt {w : jw_T} (hw : jok w) {Γ : gm_T} {n : Nat} (hG : gd w Γ n) {x : Bool} {φ : ph_T} {this : Nat} {p0 : Int64} {p1 : Int32} {q : Int32 × ph_T} (H : f_Ref_isSpoilt Γ φ this p0 p1 = some q) : jc w M_Ref_isSpoilt [.ref this, .long p0, .int p1] (pic Γ φ) n x 0 0 (fq Γ n (.inl (some (.int q.1))) q.2) := by
  refine jc.of (by simp only [jent_r, jent_i, jent_l, jent_a, jent_0]; exact Nat.le_of_ble_eq_true rfl) ?_
  have hls : jents [.ref this, .long p0, .int p1] (jm_nL M_Ref_isSpoilt) = [some (.ref this), some (.long p0), none, some (.int p1), none, none, none, none] := by simp only [jents, jent_r, jent_i, jent_l, jent_a, jent_0]; rfl
  rw [hls]
  clear hls
  unfold f_Ref_isSpoilt at H
  refine J_lload_n d_Ref_isSpoilt_0 rfl ?_
  refine J_iload_n d_Ref_isSpoilt_1 rfl ?_
  obtain ⟨q11, hq11, H⟩ := Option.bind_eq_some_iff.mp H
  refine J_callS (kc := 0) (ks := 0) (kc' := 0) (ks' := 0) (as := [.long p0, .int p1]) (st := []) (mf_Ref_beatAt hw) (ms_Ref_366 hw) d_Ref_isSpoilt_2 ln_Ref_beatAt (by decide) (by first | exact Nat.le_of_ble_eq_true rfl | (simp only [List.map_cons, List.map_nil, List.sum_cons, List.sum_nil, va_rf_cat]; exact Nat.le_of_ble_eq_true rfl)) rfl (p_Ref_beatAt hw hG hq11) ?_ (fun E h' n' x' e1 => by cases e1.1)
  intro v9 h9 n9 x9 e9
  obtain ⟨e91, e92, e93⟩ := e9
  cases e91
  subst e92
  subst e93
  clear x
  rename Bool => x
  show J _ _ _ _ (_ :: _) _ _ _ _ _ _
  refine J_istore d_Ref_isSpoilt_5 (Nat.le_of_ble_eq_true rfl) ?_
  refine J.ls (ls' := [some (.ref this), some (.long p0), none, some (.int p1), some (.int q11.1), none, none, none]) rfl ?_
  refine J_lload_n d_Ref_isSpoilt_7 rfl ?_
  obtain ⟨q12, hq12, H⟩ := Option.bind_eq_some_iff.mp H
  refine J_callS (kc := 0) (ks := 0) (kc' := 0) (ks' := 0) (as := [.long p0]) (st := []) (mf_Ref_sizeOf hw) (ms_Ref_318 hw) d_Ref_isSpoilt_8 ln_Ref_sizeOf (by decide) (by first | exact Nat.le_of_ble_eq_true rfl | (simp only [List.map_cons, List.map_nil, List.sum_cons, List.sum_nil, va_rf_cat]; exact Nat.le_of_ble_eq_true rfl)) rfl (p_Ref_sizeOf hw hG hq12) ?_ (fun E h' n' x' e1 => by cases e1.1)
  intro v9 h9 n9 x9 e9
  obtain ⟨e91, e92, e93⟩ := e9
  cases e91
  subst e92
  subst e93
  clear x
  rename Bool => x
  show J _ _ _ _ (_ :: _) _ _ _ _ _ _
  refine J_istore d_Ref_isSpoilt_11 (Nat.le_of_ble_eq_true rfl) ?_
  refine J.ls (ls' := [some (.ref this), some (.long p0), none, some (.int p1), some (.int q11.1), some (.int q12.1), none, none]) rfl ?_
  refine J_iconst (v := 0) d_Ref_isSpoilt_13 (by decide) ?_
  refine J_istore d_Ref_isSpoilt_14 (Nat.le_of_ble_eq_true rfl) ?_
  refine J.ls (ls' := [some (.ref this), some (.long p0), none, some (.int p1), some (.int q11.1), some (.int q12.1), some (.int (0 : Int32)), none]) rfl ?_
  refine J_iload d_Ref_isSpoilt_16 rfl ?_
  refine J_istore d_Ref_isSpoilt_18 (Nat.le_of_ble_eq_true rfl) ?_
  refine J.ls (ls' := [some (.ref this), some (.long p0), none, some (.int p1), some (.int q11.1), some (.int q12.1), some (.int (0 : Int32)), some (.int q11.1)]) rfl ?_
  refine J.drop [true, false, false, false, true, true, true, true] rfl ?_
  exact p_Ref_isSpoilt_L20 hw hG  _ H
theorem ln_Ref_readComes : (parseMethodDescriptor y_Ref_readComes.desc).map (fun q => q.parameters.length) = some 2 := by decide +kernel
def f_Ref_readComes_L314 (Γ : gm_T)  (φ : ph_T) : Option (Unit × ph_T) :=
  some ((), φ)
set_option maxRecDepth 100000 in
set_option maxHeartbeats 4000000 in
theorem p_Ref_readComes_L314 {w : jw_T} (hw : jok w) {Γ : gm_T} {n : Nat} (hG : gd w Γ n)  {x : Bool} {φ : ph_T} {q : Unit × ph_T} (H : f_Ref_readComes_L314 Γ  φ  = some q) : J w M_Ref_readComes 314 [none, none, none, none, none, none, none, none, none, none, none, none, none] [] (pic Γ φ) n x 0 0 (fq Γ n (.inl none) q.2) := by
  unfold f_Ref_readComes_L314 at H
  have H := Option.some.inj H
  subst H
  exact J_vret (st := []) d_Ref_readComes_314 rfl ⟨rfl, rfl, rfl⟩
def f_Ref_readComes_L253 (Γ : gm_T) (Kc101 : ph_T → Nat → Int32 → Int64 → Int32 → Int32 → Int32 → Option (Unit × ph_T)) (φ : ph_T) (x0 : Nat) (x1 : Int32) (x2 : Int64) (x4 : Int32) (x6 : Int32) (y0 : Int32) : Option (Unit × ph_T) :=
  Kc101 φ x0 x1 x2 x4 y0 (x6 + (1 : Int32))
set_option maxRecDepth 100000 in
set_option maxHeartbeats 4000000 in
theorem p_Ref_readComes_L253 {w : jw_T} (hw : jok w) {Γ : gm_T} {n : Nat} (hG : gd w Γ n) {Kc101 : ph_T → Nat → Int32 → Int64 → Int32 → Int32 → Int32 → Option (Unit × ph_T)} (hKc101 : ∀ {x : Bool} {φ : ph_T} {x0 : Nat} {x1 : Int32} {x2 : Int64} {x4 : Int32} {x5 : Int32} {x6 : Int32} {q : Unit × ph_T}, Kc101 φ x0 x1 x2 x4 x5 x6 = some q → J w M_Ref_readComes 101 [some (.ref x0), some (.int x1), some (.long x2), none, some (.int x4), some (.int x5), some (.int x6), none, none, none, none, none, none] [] (pic Γ φ) n x 0 0 (fq Γ n (.inl none) q.2)) {x : Bool} {φ : ph_T} {x0 : Nat} {x1 : Int32} {x2 : Int64} {x4 : Int32} {x6 : Int32} {y0 : Int32} {q : Unit × ph_T} (H : f_Ref_readComes_L253 Γ Kc101 φ x0 x1 x2 x4 x6 y0 = some q) : J w M_Ref_readComes 253 [some (.ref x0), some (.int x1), some (.long x2), none, some (.int x4), none, some (.int x6), none, none, none, none, none, none] [.int y0] (pic Γ φ) n x 0 0 (fq Γ n (.inl none) q.2) := by
  unfold f_Ref_readComes_L253 at H
  refine J_istore d_Ref_readComes_253 (Nat.le_of_ble_eq_true rfl) ?_
  refine J.ls (ls' := [some (.ref x0), some (.int x1), some (.long x2), none, some (.int x4), some (.int y0), some (.int x6), none, none, none, none, none, none]) rfl ?_
  refine J_iinc (v := x6 + 1) d_Ref_readComes_255 rfl (by rw [show Int32.ofInt 1 = (1 : Int32) from by decide]) ?_
  refine J.ls (ls' := [some (.ref x0), some (.int x1), some (.long x2), none, some (.int x4), some (.int y0), some (.int (x6 + (1 : Int32))), none, none, none, none, none, none]) rfl ?_
  refine J_goto (tgt := 101) d_Ref_readComes_258 (by decide) ?_
  refine J.drop [true, true, true, false, true, true, true, false, false, false, false, false, false] rfl ?_
  exact hKc101 H
def f_Ref_readComes_L252 (Γ : gm_T) (Kc101 : ph_T → Nat → Int32 → Int64 → Int32 → Int32 → Int32 → Option (Unit × ph_T)) (φ : ph_T) (x0 : Nat) (x1 : Int32) (x2 : Int64) (x4 : Int32) (x6 : Int32) : Option (Unit × ph_T) :=
  f_Ref_readComes_L253 Γ Kc101 φ x0 x1 x2 x4 x6 (0 : Int32)
set_option maxRecDepth 100000 in
set_option maxHeartbeats 4000000 in
theorem p_Ref_readComes_L252 {w : jw_T} (hw : jok w) {Γ : gm_T} {n : Nat} (hG : gd w Γ n) {Kc101 : ph_T → Nat → Int32 → Int64 → Int32 → Int32 → Int32 → Option (Unit × ph_T)} (hKc101 : ∀ {x : Bool} {φ : ph_T} {x0 : Nat} {x1 : Int32} {x2 : Int64} {x4 : Int32} {x5 : Int32} {x6 : Int32} {q : Unit × ph_T}, Kc101 φ x0 x1 x2 x4 x5 x6 = some q → J w M_Ref_readComes 101 [some (.ref x0), some (.int x1), some (.long x2), none, some (.int x4), some (.int x5), some (.int x6), none, none, none, none, none, none] [] (pic Γ φ) n x 0 0 (fq Γ n (.inl none) q.2)) {x : Bool} {φ : ph_T} {x0 : Nat} {x1 : Int32} {x2 : Int64} {x4 : Int32} {x6 : Int32} {q : Unit × ph_T} (H : f_Ref_readComes_L252 Γ Kc101 φ x0 x1 x2 x4 x6 = some q) : J w M_Ref_readComes 252 [some (.ref x0), some (.int x1), some (.long x2), none, some (.int x4), none, some (.int x6), none, none, none, none, none, none] [] (pic Γ φ) n x 0 0 (fq Γ n (.inl none) q.2) := by
  unfold f_Ref_readComes_L252 at H
  refine J_iconst (v := 0) d_Ref_readComes_252 (by decide) ?_
  refine J.drop [true, true, true, false, true, false, true, false, false, false, false, false, false] rfl ?_
  exact p_Ref_readComes_L253 hw hG hKc101 H
def f_Ref_readComes_L237 (Γ : gm_T) (Kc101 : ph_T → Nat → Int32 → Int64 → Int32 → Int32 → Int32 → Option (Unit × ph_T)) (φ : ph_T) (x0 : Nat) (x1 : Int32) (x2 : Int64) (x4 : Int32) (x5 : Int32) (x6 : Int32) (x7 : Int32) (y0 : Int32) (y1 : Int32) (y2 : Option Nat) : Option (Unit × ph_T) :=
  Option.bind y2 fun a3 =>
  Option.bind (gA Γ a3 0) fun N4 =>
  Option.bind (ix y1 N4) fun k5 =>
  if x5 = 0 then
    f_Ref_readComes_L252 Γ Kc101 (uI φ a3 k5 y0) x0 x1 x2 x4 x6
  else
    if x7 = 0 then
      f_Ref_readComes_L253 Γ Kc101 (uI φ a3 k5 y0) x0 x1 x2 x4 x6 (1 : Int32)
    else
      f_Ref_readComes_L252 Γ Kc101 (uI φ a3 k5 y0) x0 x1 x2 x4 x6
set_option maxRecDepth 100000 in
set_option maxHeartbeats 4000000 in
theorem p_Ref_readComes_L237 {w : jw_T} (hw : jok w) {Γ : gm_T} {n : Nat} (hG : gd w Γ n) {Kc101 : ph_T → Nat → Int32 → Int64 → Int32 → Int32 → Int32 → Option (Unit × ph_T)} (hKc101 : ∀ {x : Bool} {φ : ph_T} {x0 : Nat} {x1 : Int32} {x2 : Int64} {x4 : Int32} {x5 : Int32} {x6 : Int32} {q : Unit × ph_T}, Kc101 φ x0 x1 x2 x4 x5 x6 = some q → J w M_Ref_readComes 101 [some (.ref x0), some (.int x1), some (.long x2), none, some (.int x4), some (.int x5), some (.int x6), none, none, none, none, none, none] [] (pic Γ φ) n x 0 0 (fq Γ n (.inl none) q.2)) {x : Bool} {φ : ph_T} {x0 : Nat} {x1 : Int32} {x2 : Int64} {x4 : Int32} {x5 : Int32} {x6 : Int32} {x7 : Int32} {y0 : Int32} {y1 : Int32} {y2 : Option Nat} {q : Unit × ph_T} (H : f_Ref_readComes_L237 Γ Kc101 φ x0 x1 x2 x4 x5 x6 x7 y0 y1 y2 = some q) : J w M_Ref_readComes 237 [some (.ref x0), some (.int x1), some (.long x2), none, some (.int x4), some (.int x5), some (.int x6), some (.int x7), none, none, none, none, none] [.int y0, .int y1, va_rf y2] (pic Γ φ) n x 0 0 (fq Γ n (.inl none) q.2) := by
  unfold f_Ref_readComes_L237 at H
  obtain ⟨a3, ha3, H⟩ := Option.bind_eq_some_iff.mp H
  rw [j_rf ha3]
  obtain ⟨N4, hN4, H⟩ := Option.bind_eq_some_iff.mp H
  obtain ⟨k5, hk5, H⟩ := Option.bind_eq_some_iff.mp H
  refine F_iast k5 hw hG d_Ref_readComes_237 (gA_some hN4) (ix_some hk5) ?_
  refine J_iload d_Ref_readComes_238 rfl ?_
  refine J_if_eq (tgt := 252) d_Ref_readComes_240 (by decide) ?_ ?_
  · intro c7
    rw [if_pos c7] at H
    refine J.drop [true, true, true, false, true, false, true, false, false, false, false, false, false] rfl ?_
    exact p_Ref_readComes_L252 hw hG hKc101 H
  · intro c7
    rw [if_neg c7] at H
    refine J_iload d_Ref_readComes_243 rfl ?_
    refine J_if_ne (tgt := 252) d_Ref_readComes_245 (by decide) ?_ ?_
    · intro c6
      rw [if_neg c6] at H
      refine J.drop [true, true, true, false, true, false, true, false, false, false, false, false, false] rfl ?_
      exact p_Ref_readComes_L252 hw hG hKc101 H
    · intro c6
      rw [if_pos c6] at H
      refine J_iconst (v := 1) d_Ref_readComes_248 (by decide) ?_
      refine J_goto (tgt := 253) d_Ref_readComes_249 (by decide) ?_
      refine J.drop [true, true, true, false, true, false, true, false, false, false, false, false, false] rfl ?_
      exact p_Ref_readComes_L253 hw hG hKc101 H
def f_Ref_readComes_L189 (Γ : gm_T) (Kc101 : ph_T → Nat → Int32 → Int64 → Int32 → Int32 → Int32 → Option (Unit × ph_T)) (φ : ph_T) (x0 : Nat) (x1 : Int32) (x2 : Int64) (x4 : Int32) (x5 : Int32) (x6 : Int32) (x7 : Int32) (x10 : Int64) : Option (Unit × ph_T) :=
  @ite _ (Γ x0 = .inr 12) _ (
  Option.bind (φ.2.2 x0 74) fun a9 =>
  Option.bind (gA Γ a9 1) fun N10 =>
  Option.bind (ix (((16 : Int32) * x4) + x6) N10) fun k11 =>
  if x7 = 0 then
    Option.bind (f_Ref_isAlone Γ (uL φ a9 k11 x10) x2) fun q12 =>
    if q12.1 = 0 then
      f_Ref_readComes_L237 Γ Kc101 q12.2 x0 x1 x2 x4 x5 x6 x7 (0 : Int32) (((16 : Int32) * x4) + x6) (φ.2.2 x0 75)
    else
      f_Ref_readComes_L237 Γ Kc101 q12.2 x0 x1 x2 x4 x5 x6 x7 (1 : Int32) (((16 : Int32) * x4) + x6) (φ.2.2 x0 75)
  else
    f_Ref_readComes_L237 Γ Kc101 (uL φ a9 k11 x10) x0 x1 x2 x4 x5 x6 x7 (2 : Int32) (((16 : Int32) * x4) + x6) (φ.2.2 x0 75)
  ) none
set_option maxRecDepth 100000 in
set_option maxHeartbeats 4000000 in
theorem p_Ref_readComes_L189 {w : jw_T} (hw : jok w) {Γ : gm_T} {n : Nat} (hG : gd w Γ n) {Kc101 : ph_T → Nat → Int32 → Int64 → Int32 → Int32 → Int32 → Option (Unit × ph_T)} (hKc101 : ∀ {x : Bool} {φ : ph_T} {x0 : Nat} {x1 : Int32} {x2 : Int64} {x4 : Int32} {x5 : Int32} {x6 : Int32} {q : Unit × ph_T}, Kc101 φ x0 x1 x2 x4 x5 x6 = some q → J w M_Ref_readComes 101 [some (.ref x0), some (.int x1), some (.long x2), none, some (.int x4), some (.int x5), some (.int x6), none, none, none, none, none, none] [] (pic Γ φ) n x 0 0 (fq Γ n (.inl none) q.2)) {x : Bool} {φ : ph_T} {x0 : Nat} {x1 : Int32} {x2 : Int64} {x4 : Int32} {x5 : Int32} {x6 : Int32} {x7 : Int32} {x10 : Int64} {q : Unit × ph_T} (H : f_Ref_readComes_L189 Γ Kc101 φ x0 x1 x2 x4 x5 x6 x7 x10 = some q) : J w M_Ref_readComes 189 [some (.ref x0), some (.int x1), some (.long x2), none, some (.int x4), some (.int x5), some (.int x6), some (.int x7), none, none, some (.long x10), none, none] [] (pic Γ φ) n x 0 0 (fq Γ n (.inl none) q.2) := by
  unfold f_Ref_readComes_L189 at H
  refine J_aload_n d_Ref_readComes_189 rfl ?_
  have g8 : Γ x0 = .inr 12 := by
    apply Classical.byContradiction
    intro q9
    rw [if_neg q9] at H
    cases H
  rw [if_pos g8] at H
  refine F_getR (ci := 12) (k := 74) hG (cf_Ref hw) (fl_Ref_202 hw) (by decide) (by decide) rfl d_Ref_readComes_190 g8 ?_
  refine J_bipush (v := 16) d_Ref_readComes_193 (by decide) ?_
  refine J_iload d_Ref_readComes_195 rfl ?_
  refine J_imul d_Ref_readComes_197 ?_
  refine J_iload d_Ref_readComes_198 rfl ?_
  refine J_iadd d_Ref_readComes_200 ?_
  refine J_lload d_Ref_readComes_201 rfl ?_
  obtain ⟨a9, ha9, H⟩ := Option.bind_eq_some_iff.mp H
  rw [j_rf ha9]
  obtain ⟨N10, hN10, H⟩ := Option.bind_eq_some_iff.mp H
  obtain ⟨k11, hk11, H⟩ := Option.bind_eq_some_iff.mp H
  refine F_last k11 hw hG d_Ref_readComes_203 (gA_some hN10) (ix_some hk11) ?_
  refine J_aload_n d_Ref_readComes_204 rfl ?_
  refine F_getR (ci := 12) (k := 75) hG (cf_Ref hw) (fl_Ref_205 hw) (by decide) (by decide) rfl d_Ref_readComes_205 g8 ?_
  show J _ _ _ _ (va_rf (φ.2.2 x0 75) :: _) _ _ _ _ _ _
  refine J_bipush (v := 16) d_Ref_readComes_208 (by decide) ?_
  refine J_iload d_Ref_readComes_210 rfl ?_
  refine J_imul d_Ref_readComes_212 ?_
  refine J_iload d_Ref_readComes_213 rfl ?_
  refine J_iadd d_Ref_readComes_215 ?_
  refine J_iload d_Ref_readComes_216 rfl ?_
  refine J_if_eq (tgt := 225) d_Ref_readComes_218 (by decide) ?_ ?_
  · intro c14
    rw [if_pos c14] at H
    refine J_lload_n d_Ref_readComes_225 rfl ?_
    obtain ⟨q12, hq12, H⟩ := Option.bind_eq_some_iff.mp H
    refine J_callS (kc := 0) (ks := 0) (kc' := 0) (ks' := 0) (as := [.long x2]) (st := [.int (((16 : Int32) * x4) + x6), va_rf (φ.2.2 x0 75)]) (mf_Ref_isAlone hw) (ms_Ref_329 hw) d_Ref_readComes_226 ln_Ref_isAlone (by decide) (by first | exact Nat.le_of_ble_eq_true rfl | (simp only [List.map_cons, List.map_nil, List.sum_cons, List.sum_nil, va_rf_cat]; exact Nat.le_of_ble_eq_true rfl)) rfl (p_Ref_isAlone hw hG hq12) ?_ (fun E h' n' x' e1 => by cases e1.1)
    intro v9 h9 n9 x9 e9
    obtain ⟨e91, e92, e93⟩ := e9
    cases e91
    subst e92
    subst e93
    clear x
    rename Bool => x
    show J _ _ _ _ (_ :: _) _ _ _ _ _ _
    refine J_if_eq (tgt := 236) d_Ref_readComes_229 (by decide) ?_ ?_
    · intro c13
      rw [if_pos c13] at H
      refine J_iconst (v := 0) d_Ref_readComes_236 (by decide) ?_
      refine J.drop [true, true, true, false, true, true, true, true, false, false, false, false, false] rfl ?_
      exact p_Ref_readComes_L237 hw hG hKc101 H
    · intro c13
      rw [if_neg c13] at H
      refine J_iconst (v := 1) d_Ref_readComes_232 (by decide) ?_
      refine J_goto (tgt := 237) d_Ref_readComes_233 (by decide) ?_
      refine J.drop [true, true, true, false, true, true, true, true, false, false, false, false, false] rfl ?_
      exact p_Ref_readComes_L237 hw hG hKc101 H
  · intro c14
    rw [if_neg c14] at H
    refine J_iconst (v := 2) d_Ref_readComes_221 (by decide) ?_
    refine J_goto (tgt := 237) d_Ref_readComes_222 (by decide) ?_
    refine J.drop [true, true, true, false, true, true, true, true, false, false, false, false, false] rfl ?_
    exact p_Ref_readComes_L237 hw hG hKc101 H
def f_Ref_readComes_L140 (Γ : gm_T) (Kc101 : ph_T → Nat → Int32 → Int64 → Int32 → Int32 → Int32 → Option (Unit × ph_T)) : Nat → ph_T → Nat → Int32 → Int64 → Int32 → Int32 → Int32 → Int32 → Int32 → Int32 → Int64 → Int32 → Option (Unit × ph_T)
  | 0, _, _, _, _, _, _, _, _, _, _, _, _ => none
  | fu + 1, φ, x0, x1, x2, x4, x5, x6, x7, x8, x9, x10, x12 =>
    @ite _ (x9 = 0) _ none (
    if ((x8 - (x8 - x8 / x9 * x9)) + x9) ≤ x12 then
      f_Ref_readComes_L189 Γ Kc101 φ x0 x1 x2 x4 x5 x6 x7 x10
    else
      if x7 = 0 then
        @ite _ (Γ x0 = .inr 12) _ (
        Option.bind (φ.2.2 x0 13) fun a17 =>
        Option.bind (gA Γ a17 0) fun N18 =>
        Option.bind (ix x12 N18) fun k19 =>
        @ite _ ((8 : Int32) = 0) _ none (
        (f_Ref_readComes_L140 Γ Kc101 fu) φ x0 x1 x2 x4 x5 x6 x7 x8 x9 (x10 ||| ((Int32.toInt64 (φ.1 a17 k19)) <<< (Int32.toInt64 ((8 : Int32) * (x12 - x12 / (8 : Int32) * (8 : Int32))) &&& 63))) (x12 + (1 : Int32))
        )
        ) none
      else
        f_Ref_readComes_L189 Γ Kc101 φ x0 x1 x2 x4 x5 x6 x7 x10
    )
set_option maxRecDepth 100000 in
set_option maxHeartbeats 4000000 in
theorem p_Ref_readComes_L140 {w : jw_T} (hw : jok w) {Γ : gm_T} {n : Nat} (hG : gd w Γ n) {Kc101 : ph_T → Nat → Int32 → Int64 → Int32 → Int32 → Int32 → Option (Unit × ph_T)} (hKc101 : ∀ {x : Bool} {φ : ph_T} {x0 : Nat} {x1 : Int32} {x2 : Int64} {x4 : Int32} {x5 : Int32} {x6 : Int32} {q : Unit × ph_T}, Kc101 φ x0 x1 x2 x4 x5 x6 = some q → J w M_Ref_readComes 101 [some (.ref x0), some (.int x1), some (.long x2), none, some (.int x4), some (.int x5), some (.int x6), none, none, none, none, none, none] [] (pic Γ φ) n x 0 0 (fq Γ n (.inl none) q.2)) : ∀ (fu : Nat) {x : Bool} {φ : ph_T} {x0 : Nat} {x1 : Int32} {x2 : Int64} {x4 : Int32} {x5 : Int32} {x6 : Int32} {x7 : Int32} {x8 : Int32} {x9 : Int32} {x10 : Int64} {x12 : Int32} {q : Unit × ph_T}, f_Ref_readComes_L140 Γ Kc101 fu φ x0 x1 x2 x4 x5 x6 x7 x8 x9 x10 x12 = some q → J w M_Ref_readComes 140 [some (.ref x0), some (.int x1), some (.long x2), none, some (.int x4), some (.int x5), some (.int x6), some (.int x7), some (.int x8), some (.int x9), some (.long x10), none, some (.int x12)] [] (pic Γ φ) n x 0 0 (fq Γ n (.inl none) q.2) := by
  intro fu
  induction fu with
  | zero =>
    intro x φ x0 x1 x2 x4 x5 x6 x7 x8 x9 x10 x12 q H
    cases H
  | succ fu ih =>
    intro x φ x0 x1 x2 x4 x5 x6 x7 x8 x9 x10 x12 q H
    unfold f_Ref_readComes_L140 at H
    refine J_iload d_Ref_readComes_140 rfl ?_
    refine J_iload d_Ref_readComes_142 rfl ?_
    refine J_iload d_Ref_readComes_144 rfl ?_
    refine J_iload d_Ref_readComes_146 rfl ?_
    have h15 : ¬ x9 = 0 := by
      intro q9
      rw [if_pos q9] at H
      cases H
    rw [if_neg h15] at H
    refine J_irem d_Ref_readComes_148 h15 ?_
    refine J_isub d_Ref_readComes_149 ?_
    refine J_iload d_Ref_readComes_150 rfl ?_
    refine J_iadd d_Ref_readComes_152 ?_
    refine J_icmp_ge (tgt := 189) d_Ref_readComes_153 (by decide) ?_ ?_
    · intro c22
      rw [if_pos c22] at H
      refine J.drop [true, true, true, false, true, true, true, true, false, false, true, false, false] rfl ?_
      exact p_Ref_readComes_L189 hw hG hKc101 H
    · intro c22
      rw [if_neg c22] at H
      refine J_iload d_Ref_readComes_156 rfl ?_
      refine J_if_ne (tgt := 189) d_Ref_readComes_158 (by decide) ?_ ?_
      · intro c21
        rw [if_neg c21] at H
        refine J.drop [true, true, true, false, true, true, true, true, false, false, true, false, false] rfl ?_
        exact p_Ref_readComes_L189 hw hG hKc101 H
      · intro c21
        rw [if_pos c21] at H
        refine J_lload d_Ref_readComes_161 rfl ?_
        refine J_aload_n d_Ref_readComes_163 rfl ?_
        have g16 : Γ x0 = .inr 12 := by
          apply Classical.byContradiction
          intro q9
          rw [if_neg q9] at H
          cases H
        rw [if_pos g16] at H
        refine F_getR (ci := 12) (k := 13) hG (cf_Ref hw) (fl_Ref_30 hw) (by decide) (by decide) rfl d_Ref_readComes_164 g16 ?_
        refine J_iload d_Ref_readComes_167 rfl ?_
        obtain ⟨a17, ha17, H⟩ := Option.bind_eq_some_iff.mp H
        rw [j_rf ha17]
        obtain ⟨N18, hN18, H⟩ := Option.bind_eq_some_iff.mp H
        obtain ⟨k19, hk19, H⟩ := Option.bind_eq_some_iff.mp H
        refine F_iald k19 hw hG d_Ref_readComes_169 (gA_some hN18) (ix_some hk19) ?_
        refine J_i2l d_Ref_readComes_170 ?_
        refine J_bipush (v := 8) d_Ref_readComes_171 (by decide) ?_
        refine J_iload d_Ref_readComes_173 rfl ?_
        refine J_bipush (v := 8) d_Ref_readComes_175 (by decide) ?_
        have h20 : ¬ (8 : Int32) = 0 := by
          intro q9
          rw [if_pos q9] at H
          cases H
        rw [if_neg h20] at H
        refine J_irem d_Ref_readComes_177 h20 ?_
        refine J_imul d_Ref_readComes_178 ?_
        refine J_lshl d_Ref_readComes_179 ?_
        refine J_lor d_Ref_readComes_180 ?_
        refine J_lstore d_Ref_readComes_181 (Nat.le_of_ble_eq_true rfl) ?_
        refine J.ls (ls' := [some (.ref x0), some (.int x1), some (.long x2), none, some (.int x4), some (.int x5), some (.int x6), some (.int x7), some (.int x8), some (.int x9), some (.long (x10 ||| ((Int32.toInt64 (φ.1 a17 k19)) <<< (Int32.toInt64 ((8 : Int32) * (x12 - x12 / (8 : Int32) * (8 : Int32))) &&& 63)))), none, some (.int x12)]) rfl ?_
        refine J_iinc (v := x12 + 1) d_Ref_readComes_183 rfl (by rw [show Int32.ofInt 1 = (1 : Int32) from by decide]) ?_
        refine J.ls (ls' := [some (.ref x0), some (.int x1), some (.long x2), none, some (.int x4), some (.int x5), some (.int x6), some (.int x7), some (.int x8), some (.int x9), some (.long (x10 ||| ((Int32.toInt64 (φ.1 a17 k19)) <<< (Int32.toInt64 ((8 : Int32) * (x12 - x12 / (8 : Int32) * (8 : Int32))) &&& 63)))), none, some (.int (x12 + (1 : Int32)))]) rfl ?_
        refine J_goto (tgt := 140) d_Ref_readComes_186 (by decide) ?_
        refine J.drop [true, true, true, false, true, true, true, true, true, true, true, false, true] rfl ?_
        exact ih H
def f_Ref_readComes_L101 (Γ : gm_T)  : Nat → ph_T → Nat → Int32 → Int64 → Int32 → Int32 → Int32 → Option (Unit × ph_T)
  | 0, _, _, _, _, _, _, _ => none
  | fu + 1, φ, x0, x1, x2, x4, x5, x6 =>
    Option.bind (f_Ref_lengthOf Γ φ x2) fun q23 =>
    if q23.1 ≤ x6 then
      Option.bind (f_Ref_isAlone Γ q23.2 x2) fun q24 =>
      if q24.1 = 0 then
        f_Ref_readComes_L314 Γ  q24.2 
      else
        if x5 = 0 then
          f_Ref_readComes_L314 Γ  q24.2 
        else
          @ite _ (Γ x0 = .inr 12) _ (
          Option.bind (f_Ref_idOf Γ q24.2 x2) fun q26 =>
          Option.bind (f_Ref_addressOf Γ q26.2 x2) fun q27 =>
          Option.bind (q24.2.2.2 x0 80) fun a28 =>
          Option.bind (gA Γ a28 0) fun N29 =>
          Option.bind (ix (((64 : Int32) * x1) + q26.1) N29) fun k30 =>
          Option.bind (f_Ref_idOf Γ (uI q27.2 a28 k30 q27.1) x2) fun q31 =>
          Option.bind (f_Ref_lengthOf Γ q31.2 x2) fun q32 =>
          Option.bind (f_Ref_sizeOf Γ q32.2 x2) fun q33 =>
          Option.bind (q27.2.2.2 x0 81) fun a34 =>
          Option.bind (gA Γ a34 0) fun N35 =>
          Option.bind (ix (((64 : Int32) * x1) + q31.1) N35) fun k36 =>
          f_Ref_readComes_L314 Γ  (uI q33.2 a34 k36 (q32.1 * q33.1)) 
          ) none
    else
      @ite _ (Γ x0 = .inr 12) _ (
      Option.bind (f_Ref_isSpoilt Γ q23.2 x0 x2 x6) fun q40 =>
      Option.bind (f_Ref_beatAt Γ q40.2 x2 x6) fun q41 =>
      Option.bind (f_Ref_sizeOf Γ q41.2 x2) fun q42 =>
      f_Ref_readComes_L140 Γ (f_Ref_readComes_L101 Γ  fu) jF q42.2 x0 x1 x2 x4 x5 x6 q40.1 q41.1 q42.1 (0 : Int64) q41.1
      ) none
set_option maxRecDepth 100000 in
set_option maxHeartbeats 4000000 in
theorem p_Ref_readComes_L101 {w : jw_T} (hw : jok w) {Γ : gm_T} {n : Nat} (hG : gd w Γ n)  : ∀ (fu : Nat) {x : Bool} {φ : ph_T} {x0 : Nat} {x1 : Int32} {x2 : Int64} {x4 : Int32} {x5 : Int32} {x6 : Int32} {q : Unit × ph_T}, f_Ref_readComes_L101 Γ  fu φ x0 x1 x2 x4 x5 x6 = some q → J w M_Ref_readComes 101 [some (.ref x0), some (.int x1), some (.long x2), none, some (.int x4), some (.int x5), some (.int x6), none, none, none, none, none, none] [] (pic Γ φ) n x 0 0 (fq Γ n (.inl none) q.2) := by
  intro fu
  induction fu with
  | zero =>
    intro x φ x0 x1 x2 x4 x5 x6 q H
    cases H
  | succ fu ih =>
    intro x φ x0 x1 x2 x4 x5 x6 q H
    unfold f_Ref_readComes_L101 at H
    refine J_iload d_Ref_readComes_101 rfl ?_
    refine J_lload_n d_Ref_readComes_103 rfl ?_
    obtain ⟨q23, hq23, H⟩ := Option.bind_eq_some_iff.mp H
    refine J_callS (kc := 0) (ks := 0) (kc' := 0) (ks' := 0) (as := [.long x2]) (st := [.int x6]) (mf_Ref_lengthOf hw) (ms_Ref_321 hw) d_Ref_readComes_104 ln_Ref_lengthOf (by decide) (by first | exact Nat.le_of_ble_eq_true rfl | (simp only [List.map_cons, List.map_nil, List.sum_cons, List.sum_nil, va_rf_cat]; exact Nat.le_of_ble_eq_true rfl)) rfl (p_Ref_lengthOf hw hG hq23) ?_ (fun E h' n' x' e1 => by cases e1.1)
    intro v9 h9 n9 x9 e9
    obtain ⟨e91, e92, e93⟩ := e9
    cases e91
    subst e92
    subst e93
    clear x
    rename Bool => x
    show J _ _ _ _ (_ :: _) _ _ _ _ _ _
    refine J_icmp_ge (tgt := 261) d_Ref_readComes_107 (by decide) ?_ ?_
    · intro c43
      rw [if_pos c43] at H
      refine J_lload_n d_Ref_readComes_261 rfl ?_
      obtain ⟨q24, hq24, H⟩ := Option.bind_eq_some_iff.mp H
      refine J_callS (kc := 0) (ks := 0) (kc' := 0) (ks' := 0) (as := [.long x2]) (st := []) (mf_Ref_isAlone hw) (ms_Ref_329 hw) d_Ref_readComes_262 ln_Ref_isAlone (by decide) (by first | exact Nat.le_of_ble_eq_true rfl | (simp only [List.map_cons, List.map_nil, List.sum_cons, List.sum_nil, va_rf_cat]; exact Nat.le_of_ble_eq_true rfl)) rfl (p_Ref_isAlone hw hG hq24) ?_ (fun E h' n' x' e1 => by cases e1.1)
      intro v9 h9 n9 x9 e9
      obtain ⟨e91, e92, e93⟩ := e9
      cases e91
      subst e92
      subst e93
      clear x
      rename Bool => x
      show J _ _ _ _ (_ :: _) _ _ _ _ _ _
      refine J_if_eq (tgt := 314) d_Ref_readComes_265 (by decide) ?_ ?_
      · intro c38
        rw [if_pos c38] at H
        refine J.drop [false, false, false, false, false, false, false, false, false, false, false, false, false] rfl ?_
        exact p_Ref_readComes_L314 hw hG  H
      · intro c38
        rw [if_neg c38] at H
        refine J_iload d_Ref_readComes_268 rfl ?_
        refine J_if_eq (tgt := 314) d_Ref_readComes_270 (by decide) ?_ ?_
        · intro c37
          rw [if_pos c37] at H
          refine J.drop [false, false, false, false, false, false, false, false, false, false, false, false, false] rfl ?_
          exact p_Ref_readComes_L314 hw hG  H
        · intro c37
          rw [if_neg c37] at H
          refine J_aload_n d_Ref_readComes_273 rfl ?_
          have g25 : Γ x0 = .inr 12 := by
            apply Classical.byContradiction
            intro q9
            rw [if_neg q9] at H
            cases H
          rw [if_pos g25] at H
          refine F_getR (ci := 12) (k := 80) hG (cf_Ref hw) (fl_Ref_220 hw) (by decide) (by decide) rfl d_Ref_readComes_274 g25 ?_
          refine J_bipush (v := 64) d_Ref_readComes_277 (by decide) ?_
          refine J_iload_n d_Ref_readComes_279 rfl ?_
          refine J_imul d_Ref_readComes_280 ?_
          refine J_lload_n d_Ref_readComes_281 rfl ?_
          obtain ⟨q26, hq26, H⟩ := Option.bind_eq_some_iff.mp H
          refine J_callS (kc := 0) (ks := 0) (kc' := 0) (ks' := 0) (as := [.long x2]) (st := [.int ((64 : Int32) * x1), va_rf (q24.2.2.2 x0 80)]) (mf_Ref_idOf hw) (ms_Ref_396 hw) d_Ref_readComes_282 ln_Ref_idOf (by decide) (by first | exact Nat.le_of_ble_eq_true rfl | (simp only [List.map_cons, List.map_nil, List.sum_cons, List.sum_nil, va_rf_cat]; exact Nat.le_of_ble_eq_true rfl)) rfl (p_Ref_idOf hw hG hq26) ?_ (fun E h' n' x' e1 => by cases e1.1)
          intro v9 h9 n9 x9 e9
          obtain ⟨e91, e92, e93⟩ := e9
          cases e91
          subst e92
          subst e93
          clear x
          rename Bool => x
          show J _ _ _ _ (_ :: _) _ _ _ _ _ _
          refine J_iadd d_Ref_readComes_285 ?_
          refine J_lload_n d_Ref_readComes_286 rfl ?_
          obtain ⟨q27, hq27, H⟩ := Option.bind_eq_some_iff.mp H
          refine J_callS (kc := 0) (ks := 0) (kc' := 0) (ks' := 0) (as := [.long x2]) (st := [.int (((64 : Int32) * x1) + q26.1), va_rf (q24.2.2.2 x0 80)]) (mf_Ref_addressOf hw) (ms_Ref_314 hw) d_Ref_readComes_287 ln_Ref_addressOf (by decide) (by first | exact Nat.le_of_ble_eq_true rfl | (simp only [List.map_cons, List.map_nil, List.sum_cons, List.sum_nil, va_rf_cat]; exact Nat.le_of_ble_eq_true rfl)) rfl (p_Ref_addressOf hw hG hq27) ?_ (fun E h' n' x' e1 => by cases e1.1)
          intro v9 h9 n9 x9 e9
          obtain ⟨e91, e92, e93⟩ := e9
          cases e91
          subst e92
          subst e93
          clear x
          rename Bool => x
          show J _ _ _ _ (_ :: _) _ _ _ _ _ _
          obtain ⟨a28, ha28, H⟩ := Option.bind_eq_some_iff.mp H
          rw [j_rf ha28]
          obtain ⟨N29, hN29, H⟩ := Option.bind_eq_some_iff.mp H
          obtain ⟨k30, hk30, H⟩ := Option.bind_eq_some_iff.mp H
          refine F_iast k30 hw hG d_Ref_readComes_290 (gA_some hN29) (ix_some hk30) ?_
          refine J_aload_n d_Ref_readComes_291 rfl ?_
          refine F_getR (ci := 12) (k := 81) hG (cf_Ref hw) (fl_Ref_223 hw) (by decide) (by decide) rfl d_Ref_readComes_292 g25 ?_
          show J _ _ _ _ (va_rf (q27.2.2.2 x0 81) :: _) _ _ _ _ _ _
          refine J_bipush (v := 64) d_Ref_readComes_295 (by decide) ?_
          refine J_iload_n d_Ref_readComes_297 rfl ?_
          refine J_imul d_Ref_readComes_298 ?_
          refine J_lload_n d_Ref_readComes_299 rfl ?_
          obtain ⟨q31, hq31, H⟩ := Option.bind_eq_some_iff.mp H
          refine J_callS (kc := 0) (ks := 0) (kc' := 0) (ks' := 0) (as := [.long x2]) (st := [.int ((64 : Int32) * x1), va_rf (q27.2.2.2 x0 81)]) (mf_Ref_idOf hw) (ms_Ref_396 hw) d_Ref_readComes_300 ln_Ref_idOf (by decide) (by first | exact Nat.le_of_ble_eq_true rfl | (simp only [List.map_cons, List.map_nil, List.sum_cons, List.sum_nil, va_rf_cat]; exact Nat.le_of_ble_eq_true rfl)) rfl (p_Ref_idOf hw hG hq31) ?_ (fun E h' n' x' e1 => by cases e1.1)
          intro v9 h9 n9 x9 e9
          obtain ⟨e91, e92, e93⟩ := e9
          cases e91
          subst e92
          subst e93
          clear x
          rename Bool => x
          show J _ _ _ _ (_ :: _) _ _ _ _ _ _
          refine J_iadd d_Ref_readComes_303 ?_
          refine J_lload_n d_Ref_readComes_304 rfl ?_
          obtain ⟨q32, hq32, H⟩ := Option.bind_eq_some_iff.mp H
          refine J_callS (kc := 0) (ks := 0) (kc' := 0) (ks' := 0) (as := [.long x2]) (st := [.int (((64 : Int32) * x1) + q31.1), va_rf (q27.2.2.2 x0 81)]) (mf_Ref_lengthOf hw) (ms_Ref_321 hw) d_Ref_readComes_305 ln_Ref_lengthOf (by decide) (by first | exact Nat.le_of_ble_eq_true rfl | (simp only [List.map_cons, List.map_nil, List.sum_cons, List.sum_nil, va_rf_cat]; exact Nat.le_of_ble_eq_true rfl)) rfl (p_Ref_lengthOf hw hG hq32) ?_ (fun E h' n' x' e1 => by cases e1.1)
          intro v9 h9 n9 x9 e9
          obtain ⟨e91, e92, e93⟩ := e9
          cases e91
          subst e92
          subst e93
          clear x
          rename Bool => x
          show J _ _ _ _ (_ :: _) _ _ _ _ _ _
          refine J_lload_n d_Ref_readComes_308 rfl ?_
          obtain ⟨q33, hq33, H⟩ := Option.bind_eq_some_iff.mp H
          refine J_callS (kc := 0) (ks := 0) (kc' := 0) (ks' := 0) (as := [.long x2]) (st := [.int q32.1, .int (((64 : Int32) * x1) + q31.1), va_rf (q27.2.2.2 x0 81)]) (mf_Ref_sizeOf hw) (ms_Ref_318 hw) d_Ref_readComes_309 ln_Ref_sizeOf (by decide) (by first | exact Nat.le_of_ble_eq_true rfl | (simp only [List.map_cons, List.map_nil, List.sum_cons, List.sum_nil, va_rf_cat]; exact Nat.le_of_ble_eq_true rfl)) rfl (p_Ref_sizeOf hw hG hq33) ?_ (fun E h' n' x' e1 => by cases e1.1)
          intro v9 h9 n9 x9 e9
          obtain ⟨e91, e92, e93⟩ := e9
          cases e91
          subst e92
          subst e93
          clear x
          rename Bool => x
          show J _ _ _ _ (_ :: _) _ _ _ _ _ _
          refine J_imul d_Ref_readComes_312 ?_
          obtain ⟨a34, ha34, H⟩ := Option.bind_eq_some_iff.mp H
          rw [j_rf ha34]
          obtain ⟨N35, hN35, H⟩ := Option.bind_eq_some_iff.mp H
          obtain ⟨k36, hk36, H⟩ := Option.bind_eq_some_iff.mp H
          refine F_iast k36 hw hG d_Ref_readComes_313 (gA_some hN35) (ix_some hk36) ?_
          refine J.drop [false, false, false, false, false, false, false, false, false, false, false, false, false] rfl ?_
          exact p_Ref_readComes_L314 hw hG  H
    · intro c43
      rw [if_neg c43] at H
      refine J_aload_n d_Ref_readComes_110 rfl ?_
      refine J_lload_n d_Ref_readComes_111 rfl ?_
      refine J_iload d_Ref_readComes_112 rfl ?_
      have g39 : Γ x0 = .inr 12 := by
        apply Classical.byContradiction
        intro q9
        rw [if_neg q9] at H
        cases H
      rw [if_pos g39] at H
      obtain ⟨q40, hq40, H⟩ := Option.bind_eq_some_iff.mp H
      refine J_callV (kc := 0) (ks := 0) (kc' := 0) (ks' := 0) (a := x0) (ci := 12) (as := [.long x2, .int x6]) (st := []) (mf_Ref_isSpoilt hw) (mv_Ref_494 hw) d_Ref_readComes_114 ln_Ref_isSpoilt (by decide) (by first | exact Nat.le_of_ble_eq_true rfl | (simp only [List.map_cons, List.map_nil, List.sum_cons, List.sum_nil, va_rf_cat]; exact Nat.le_of_ble_eq_true rfl)) rfl ((hG _).1 _ g39 (by decide)).1 ((hG _).1 _ g39 (by decide)).2 (by unfold pic; rw [g39]; rfl) (jcl_at hw rfl) rfl (p_Ref_isSpoilt hw hG hq40) ?_ (fun E h' n' x' e1 => by cases e1.1)
      intro v9 h9 n9 x9 e9
      obtain ⟨e91, e92, e93⟩ := e9
      cases e91
      subst e92
      subst e93
      clear x
      rename Bool => x
      show J _ _ _ _ (_ :: _) _ _ _ _ _ _
      refine J_istore d_Ref_readComes_117 (Nat.le_of_ble_eq_true rfl) ?_
      refine J.ls (ls' := [some (.ref x0), some (.int x1), some (.long x2), none, some (.int x4), some (.int x5), some (.int x6), some (.int q40.1), none, none, none, none, none]) rfl ?_
      refine J_lload_n d_Ref_readComes_119 rfl ?_
      refine J_iload d_Ref_readComes_120 rfl ?_
      obtain ⟨q41, hq41, H⟩ := Option.bind_eq_some_iff.mp H
      refine J_callS (kc := 0) (ks := 0) (kc' := 0) (ks' := 0) (as := [.long x2, .int x6]) (st := []) (mf_Ref_beatAt hw) (ms_Ref_366 hw) d_Ref_readComes_122 ln_Ref_beatAt (by decide) (by first | exact Nat.le_of_ble_eq_true rfl | (simp only [List.map_cons, List.map_nil, List.sum_cons, List.sum_nil, va_rf_cat]; exact Nat.le_of_ble_eq_true rfl)) rfl (p_Ref_beatAt hw hG hq41) ?_ (fun E h' n' x' e1 => by cases e1.1)
      intro v9 h9 n9 x9 e9
      obtain ⟨e91, e92, e93⟩ := e9
      cases e91
      subst e92
      subst e93
      clear x
      rename Bool => x
      show J _ _ _ _ (_ :: _) _ _ _ _ _ _
      refine J_istore d_Ref_readComes_125 (Nat.le_of_ble_eq_true rfl) ?_
      refine J.ls (ls' := [some (.ref x0), some (.int x1), some (.long x2), none, some (.int x4), some (.int x5), some (.int x6), some (.int q40.1), some (.int q41.1), none, none, none, none]) rfl ?_
      refine J_lload_n d_Ref_readComes_127 rfl ?_
      obtain ⟨q42, hq42, H⟩ := Option.bind_eq_some_iff.mp H
      refine J_callS (kc := 0) (ks := 0) (kc' := 0) (ks' := 0) (as := [.long x2]) (st := []) (mf_Ref_sizeOf hw) (ms_Ref_318 hw) d_Ref_readComes_128 ln_Ref_sizeOf (by decide) (by first | exact Nat.le_of_ble_eq_true rfl | (simp only [List.map_cons, List.map_nil, List.sum_cons, List.sum_nil, va_rf_cat]; exact Nat.le_of_ble_eq_true rfl)) rfl (p_Ref_sizeOf hw hG hq42) ?_ (fun E h' n' x' e1 => by cases e1.1)
      intro v9 h9 n9 x9 e9
      obtain ⟨e91, e92, e93⟩ := e9
      cases e91
      subst e92
      subst e93
      clear x
      rename Bool => x
      show J _ _ _ _ (_ :: _) _ _ _ _ _ _
      refine J_istore d_Ref_readComes_131 (Nat.le_of_ble_eq_true rfl) ?_
      refine J.ls (ls' := [some (.ref x0), some (.int x1), some (.long x2), none, some (.int x4), some (.int x5), some (.int x6), some (.int q40.1), some (.int q41.1), some (.int q42.1), none, none, none]) rfl ?_
      refine J_lconst (v := 0) d_Ref_readComes_133 (by decide) ?_
      refine J_lstore d_Ref_readComes_134 (Nat.le_of_ble_eq_true rfl) ?_
      refine J.ls (ls' := [some (.ref x0), some (.int x1), some (.long x2), none, some (.int x4), some (.int x5), some (.int x6), some (.int q40.1), some (.int q41.1), some (.int q42.1), some (.long (0 : Int64)), none, none]) rfl ?_
      refine J_iload d_Ref_readComes_136 rfl ?_
      refine J_istore d_Ref_readComes_138 (Nat.le_of_ble_eq_true rfl) ?_
      refine J.ls (ls' := [some (.ref x0), some (.int x1), some (.long x2), none, some (.int x4), some (.int x5), some (.int x6), some (.int q40.1), some (.int q41.1), some (.int q42.1), some (.long (0 : Int64)), none, some (.int q41.1)]) rfl ?_
      refine J.drop [true, true, true, false, true, true, true, true, true, true, true, false, true] rfl ?_
      exact p_Ref_readComes_L140 hw hG ih _ H
def f_Ref_readComes (Γ : gm_T) (φ : ph_T) (this : Nat) (p0 : Int32) (p1 : Int64) : Option (Unit × ph_T) :=
  @ite _ (Γ this = .inr 12) _ (
  Option.bind (f_Ref_freePlace Γ φ (φ.2.2 this 69) p0) fun q45 =>
  Option.bind (q45.2.2.2 this 69) fun a46 =>
  Option.bind (gA Γ a46 2) fun N47 =>
  Option.bind (ix q45.1 N47) fun k48 =>
  @ite _ ((1 : Int32) = 0 ∨ (1 : Int32) = 1) _ (
  Option.bind (q45.2.2.2 this 67) fun a50 =>
  Option.bind (gA Γ a50 0) fun N51 =>
  Option.bind (ix p0 N51) fun k52 =>
  Option.bind (q45.2.2.2 this 68) fun a53 =>
  Option.bind (gA Γ a53 0) fun N54 =>
  Option.bind (ix (((4 : Int32) * p0) + ((uI q45.2 a46 k48 (1 : Int32)).1 a50 k52)) N54) fun k55 =>
  Option.bind (gA Γ a50 0) fun N56 =>
  Option.bind (ix p0 N56) fun k57 =>
  Option.bind (gA Γ a50 0) fun N58 =>
  Option.bind (ix p0 N58) fun k59 =>
  Option.bind (q45.2.2.2 this 70) fun a60 =>
  Option.bind (gA Γ a60 1) fun N61 =>
  Option.bind (ix q45.1 N61) fun k62 =>
  Option.bind (q45.2.2.2 this 71) fun a63 =>
  Option.bind (gA Γ a63 0) fun N64 =>
  Option.bind (ix q45.1 N64) fun k65 =>
  Option.bind (q45.2.2.2 this 72) fun a66 =>
  Option.bind (gA Γ a66 0) fun N67 =>
  Option.bind (ix q45.1 N67) fun k68 =>
  Option.bind (q45.2.2.2 this 76) fun a69 =>
  Option.bind (gA Γ a69 0) fun N70 =>
  Option.bind (ix p0 N70) fun k71 =>
  Option.bind (q45.2.2.2 this 73) fun a72 =>
  Option.bind (gA Γ a72 0) fun N73 =>
  Option.bind (ix q45.1 N73) fun k74 =>
  Option.bind (gA Γ a69 0) fun N75 =>
  Option.bind (ix p0 N75) fun k76 =>
  Option.bind (gA Γ a69 0) fun N77 =>
  Option.bind (ix p0 N77) fun k78 =>
  f_Ref_readComes_L101 Γ  jF (uI (uI (uI (uI (uL (uI (uI (uI q45.2 a46 k48 (1 : Int32)) a53 k55 q45.1) a50 k59 (((uI (uI q45.2 a46 k48 (1 : Int32)) a53 k55 q45.1).1 a50 k57) + (1 : Int32))) a60 k62 p1) a63 k65 (0 : Int32)) a66 k68 ((uI (uL (uI (uI (uI q45.2 a46 k48 (1 : Int32)) a53 k55 q45.1) a50 k59 (((uI (uI q45.2 a46 k48 (1 : Int32)) a53 k55 q45.1).1 a50 k57) + (1 : Int32))) a60 k62 p1) a63 k65 (0 : Int32)).1 this 6)) a72 k74 ((uI (uI (uL (uI (uI (uI q45.2 a46 k48 (1 : Int32)) a53 k55 q45.1) a50 k59 (((uI (uI q45.2 a46 k48 (1 : Int32)) a53 k55 q45.1).1 a50 k57) + (1 : Int32))) a60 k62 p1) a63 k65 (0 : Int32)) a66 k68 ((uI (uL (uI (uI (uI q45.2 a46 k48 (1 : Int32)) a53 k55 q45.1) a50 k59 (((uI (uI q45.2 a46 k48 (1 : Int32)) a53 k55 q45.1).1 a50 k57) + (1 : Int32))) a60 k62 p1) a63 k65 (0 : Int32)).1 this 6)).1 a69 k71)) a69 k78 (((uI (uI (uI (uL (uI (uI (uI q45.2 a46 k48 (1 : Int32)) a53 k55 q45.1) a50 k59 (((uI (uI q45.2 a46 k48 (1 : Int32)) a53 k55 q45.1).1 a50 k57) + (1 : Int32))) a60 k62 p1) a63 k65 (0 : Int32)) a66 k68 ((uI (uL (uI (uI (uI q45.2 a46 k48 (1 : Int32)) a53 k55 q45.1) a50 k59 (((uI (uI q45.2 a46 k48 (1 : Int32)) a53 k55 q45.1).1 a50 k57) + (1 : Int32))) a60 k62 p1) a63 k65 (0 : Int32)).1 this 6)) a72 k74 ((uI (uI (uL (uI (uI (uI q45.2 a46 k48 (1 : Int32)) a53 k55 q45.1) a50 k59 (((uI (uI q45.2 a46 k48 (1 : Int32)) a53 k55 q45.1).1 a50 k57) + (1 : Int32))) a60 k62 p1) a63 k65 (0 : Int32)) a66 k68 ((uI (uL (uI (uI (uI q45.2 a46 k48 (1 : Int32)) a53 k55 q45.1) a50 k59 (((uI (uI q45.2 a46 k48 (1 : Int32)) a53 k55 q45.1).1 a50 k57) + (1 : Int32))) a60 k62 p1) a63 k65 (0 : Int32)).1 this 6)).1 a69 k71)).1 a69 k76) + (1 : Int32))) this p0 p1 q45.1 (1 : Int32) (0 : Int32)
  ) none
  ) none
set_option maxRecDepth 100000 in
set_option maxHeartbeats 4000000 in
theorem p_Ref_readComes {w : jw_T} (hw : jok w) {Γ : gm_T} {n : Nat} (hG : gd w Γ n) {x : Bool} {φ : ph_T} {this : Nat} {p0 : Int32} {p1 : Int64} {q : Unit × ph_T} (H : f_Ref_readComes Γ φ this p0 p1 = some q) : jc w M_Ref_readComes [.ref this, .int p0, .long p1] (pic Γ φ) n x 0 0 (fq Γ n (.inl none) q.2) := by
  refine jc.of (by simp only [jent_r, jent_i, jent_l, jent_a, jent_0]; exact Nat.le_of_ble_eq_true rfl) ?_
  have hls : jents [.ref this, .int p0, .long p1] (jm_nL M_Ref_readComes) = [some (.ref this), some (.int p0), some (.long p1), none, none, none, none, none, none, none, none, none, none] := by simp only [jents, jent_r, jent_i, jent_l, jent_a, jent_0]; rfl
  rw [hls]
  clear hls
  unfold f_Ref_readComes at H
  refine J_aload_n d_Ref_readComes_0 rfl ?_
  have g44 : Γ this = .inr 12 := by
    apply Classical.byContradiction
    intro q9
    rw [if_neg q9] at H
    cases H
  rw [if_pos g44] at H
  refine F_getR (ci := 12) (k := 69) hG (cf_Ref hw) (fl_Ref_187 hw) (by decide) (by decide) rfl d_Ref_readComes_1 g44 ?_
  refine J_iload_n d_Ref_readComes_4 rfl ?_
  obtain ⟨q45, hq45, H⟩ := Option.bind_eq_some_iff.mp H
  refine J_callS (kc := 0) (ks := 0) (kc' := 0) (ks' := 0) (as := [va_rf (φ.2.2 this 69), .int p0]) (st := []) (mf_Ref_freePlace hw) (ms_Ref_480 hw) d_Ref_readComes_5 ln_Ref_freePlace (by decide) (by first | exact Nat.le_of_ble_eq_true rfl | (simp only [List.map_cons, List.map_nil, List.sum_cons, List.sum_nil, va_rf_cat]; exact Nat.le_of_ble_eq_true rfl)) rfl (p_Ref_freePlace hw hG hq45) ?_ (fun E h' n' x' e1 => by cases e1.1)
  intro v9 h9 n9 x9 e9
  obtain ⟨e91, e92, e93⟩ := e9
  cases e91
  subst e92
  subst e93
  clear x
  rename Bool => x
  show J _ _ _ _ (_ :: _) _ _ _ _ _ _
  refine J_istore d_Ref_readComes_8 (Nat.le_of_ble_eq_true rfl) ?_
  refine J.ls (ls' := [some (.ref this), some (.int p0), some (.long p1), none, some (.int q45.1), none, none, none, none, none, none, none, none]) rfl ?_
  refine J_aload_n d_Ref_readComes_10 rfl ?_
  refine F_getR (ci := 12) (k := 69) hG (cf_Ref hw) (fl_Ref_187 hw) (by decide) (by decide) rfl d_Ref_readComes_11 g44 ?_
  refine J_iload d_Ref_readComes_14 rfl ?_
  refine J_iconst (v := 1) d_Ref_readComes_16 (by decide) ?_
  obtain ⟨a46, ha46, H⟩ := Option.bind_eq_some_iff.mp H
  rw [j_rf ha46]
  obtain ⟨N47, hN47, H⟩ := Option.bind_eq_some_iff.mp H
  obtain ⟨k48, hk48, H⟩ := Option.bind_eq_some_iff.mp H
  have z49 : (1 : Int32) = 0 ∨ (1 : Int32) = 1 := by
    apply Classical.byContradiction
    intro q9
    rw [if_neg q9] at H
    cases H
  rw [if_pos z49] at H
  refine F_zast k48 hw hG d_Ref_readComes_17 (gA_some hN47) (ix_some hk48) z49 ?_
  refine J_aload_n d_Ref_readComes_18 rfl ?_
  refine F_getR (ci := 12) (k := 68) hG (cf_Ref hw) (fl_Ref_184 hw) (by decide) (by decide) rfl d_Ref_readComes_19 g44 ?_
  show J _ _ _ _ (va_rf (q45.2.2.2 this 68) :: _) _ _ _ _ _ _
  refine J_iconst (v := 4) d_Ref_readComes_22 (by decide) ?_
  refine J_iload_n d_Ref_readComes_23 rfl ?_
  refine J_imul d_Ref_readComes_24 ?_
  refine J_aload_n d_Ref_readComes_25 rfl ?_
  refine F_getR (ci := 12) (k := 67) hG (cf_Ref hw) (fl_Ref_181 hw) (by decide) (by decide) rfl d_Ref_readComes_26 g44 ?_
  show J _ _ _ _ (va_rf (q45.2.2.2 this 67) :: _) _ _ _ _ _ _
  refine J_iload_n d_Ref_readComes_29 rfl ?_
  obtain ⟨a50, ha50, H⟩ := Option.bind_eq_some_iff.mp H
  rw [j_rf ha50]
  obtain ⟨N51, hN51, H⟩ := Option.bind_eq_some_iff.mp H
  obtain ⟨k52, hk52, H⟩ := Option.bind_eq_some_iff.mp H
  refine F_iald k52 hw hG d_Ref_readComes_30 (gA_some hN51) (ix_some hk52) ?_
  refine J_iadd d_Ref_readComes_31 ?_
  refine J_iload d_Ref_readComes_32 rfl ?_
  obtain ⟨a53, ha53, H⟩ := Option.bind_eq_some_iff.mp H
  rw [j_rf ha53]
  obtain ⟨N54, hN54, H⟩ := Option.bind_eq_some_iff.mp H
  obtain ⟨k55, hk55, H⟩ := Option.bind_eq_some_iff.mp H
  refine F_iast k55 hw hG d_Ref_readComes_34 (gA_some hN54) (ix_some hk55) ?_
  refine J_aload_n d_Ref_readComes_35 rfl ?_
  refine F_getR (ci := 12) (k := 67) hG (cf_Ref hw) (fl_Ref_181 hw) (by decide) (by decide) rfl d_Ref_readComes_36 g44 ?_
  show J _ _ _ _ (va_rf (q45.2.2.2 this 67) :: _) _ _ _ _ _ _
  refine J_iload_n d_Ref_readComes_39 rfl ?_
  refine J_dup2 d_Ref_readComes_40 rfl (va_rf_cat _) ?_
  try rw [j_rf ha50]
  obtain ⟨N56, hN56, H⟩ := Option.bind_eq_some_iff.mp H
  obtain ⟨k57, hk57, H⟩ := Option.bind_eq_some_iff.mp H
  refine F_iald k57 hw hG d_Ref_readComes_41 (gA_some hN56) (ix_some hk57) ?_
  refine J_iconst (v := 1) d_Ref_readComes_42 (by decide) ?_
  refine J_iadd d_Ref_readComes_43 ?_
  obtain ⟨N58, hN58, H⟩ := Option.bind_eq_some_iff.mp H
  obtain ⟨k59, hk59, H⟩ := Option.bind_eq_some_iff.mp H
  refine F_iast k59 hw hG d_Ref_readComes_44 (gA_some hN58) (ix_some hk59) ?_
  refine J_aload_n d_Ref_readComes_45 rfl ?_
  refine F_getR (ci := 12) (k := 70) hG (cf_Ref hw) (fl_Ref_190 hw) (by decide) (by decide) rfl d_Ref_readComes_46 g44 ?_
  show J _ _ _ _ (va_rf (q45.2.2.2 this 70) :: _) _ _ _ _ _ _
  refine J_iload d_Ref_readComes_49 rfl ?_
  refine J_lload_n d_Ref_readComes_51 rfl ?_
  obtain ⟨a60, ha60, H⟩ := Option.bind_eq_some_iff.mp H
  rw [j_rf ha60]
  obtain ⟨N61, hN61, H⟩ := Option.bind_eq_some_iff.mp H
  obtain ⟨k62, hk62, H⟩ := Option.bind_eq_some_iff.mp H
  refine F_last k62 hw hG d_Ref_readComes_52 (gA_some hN61) (ix_some hk62) ?_
  refine J_aload_n d_Ref_readComes_53 rfl ?_
  refine F_getR (ci := 12) (k := 71) hG (cf_Ref hw) (fl_Ref_193 hw) (by decide) (by decide) rfl d_Ref_readComes_54 g44 ?_
  show J _ _ _ _ (va_rf (q45.2.2.2 this 71) :: _) _ _ _ _ _ _
  refine J_iload d_Ref_readComes_57 rfl ?_
  refine J_iconst (v := 0) d_Ref_readComes_59 (by decide) ?_
  obtain ⟨a63, ha63, H⟩ := Option.bind_eq_some_iff.mp H
  rw [j_rf ha63]
  obtain ⟨N64, hN64, H⟩ := Option.bind_eq_some_iff.mp H
  obtain ⟨k65, hk65, H⟩ := Option.bind_eq_some_iff.mp H
  refine F_iast k65 hw hG d_Ref_readComes_60 (gA_some hN64) (ix_some hk65) ?_
  refine J_aload_n d_Ref_readComes_61 rfl ?_
  refine F_getR (ci := 12) (k := 72) hG (cf_Ref hw) (fl_Ref_196 hw) (by decide) (by decide) rfl d_Ref_readComes_62 g44 ?_
  show J _ _ _ _ (va_rf (q45.2.2.2 this 72) :: _) _ _ _ _ _ _
  refine J_iload d_Ref_readComes_65 rfl ?_
  refine J_aload_n d_Ref_readComes_67 rfl ?_
  refine F_getI (ci := 12) (k := 6) hG (cf_Ref hw) (fl_Ref_348 hw) (by decide) (by decide) rfl d_Ref_readComes_68 g44 ?_
  obtain ⟨a66, ha66, H⟩ := Option.bind_eq_some_iff.mp H
  rw [j_rf ha66]
  obtain ⟨N67, hN67, H⟩ := Option.bind_eq_some_iff.mp H
  obtain ⟨k68, hk68, H⟩ := Option.bind_eq_some_iff.mp H
  refine F_iast k68 hw hG d_Ref_readComes_71 (gA_some hN67) (ix_some hk68) ?_
  refine J_aload_n d_Ref_readComes_72 rfl ?_
  refine F_getR (ci := 12) (k := 73) hG (cf_Ref hw) (fl_Ref_199 hw) (by decide) (by decide) rfl d_Ref_readComes_73 g44 ?_
  show J _ _ _ _ (va_rf (q45.2.2.2 this 73) :: _) _ _ _ _ _ _
  refine J_iload d_Ref_readComes_76 rfl ?_
  refine J_aload_n d_Ref_readComes_78 rfl ?_
  refine F_getR (ci := 12) (k := 76) hG (cf_Ref hw) (fl_Ref_208 hw) (by decide) (by decide) rfl d_Ref_readComes_79 g44 ?_
  show J _ _ _ _ (va_rf (q45.2.2.2 this 76) :: _) _ _ _ _ _ _
  refine J_iload_n d_Ref_readComes_82 rfl ?_
  obtain ⟨a69, ha69, H⟩ := Option.bind_eq_some_iff.mp H
  rw [j_rf ha69]
  obtain ⟨N70, hN70, H⟩ := Option.bind_eq_some_iff.mp H
  obtain ⟨k71, hk71, H⟩ := Option.bind_eq_some_iff.mp H
  refine F_iald k71 hw hG d_Ref_readComes_83 (gA_some hN70) (ix_some hk71) ?_
  obtain ⟨a72, ha72, H⟩ := Option.bind_eq_some_iff.mp H
  rw [j_rf ha72]
  obtain ⟨N73, hN73, H⟩ := Option.bind_eq_some_iff.mp H
  obtain ⟨k74, hk74, H⟩ := Option.bind_eq_some_iff.mp H
  refine F_iast k74 hw hG d_Ref_readComes_84 (gA_some hN73) (ix_some hk74) ?_
  refine J_aload_n d_Ref_readComes_85 rfl ?_
  refine F_getR (ci := 12) (k := 76) hG (cf_Ref hw) (fl_Ref_208 hw) (by decide) (by decide) rfl d_Ref_readComes_86 g44 ?_
  show J _ _ _ _ (va_rf (q45.2.2.2 this 76) :: _) _ _ _ _ _ _
  refine J_iload_n d_Ref_readComes_89 rfl ?_
  refine J_dup2 d_Ref_readComes_90 rfl (va_rf_cat _) ?_
  try rw [j_rf ha69]
  obtain ⟨N75, hN75, H⟩ := Option.bind_eq_some_iff.mp H
  obtain ⟨k76, hk76, H⟩ := Option.bind_eq_some_iff.mp H
  refine F_iald k76 hw hG d_Ref_readComes_91 (gA_some hN75) (ix_some hk76) ?_
  refine J_iconst (v := 1) d_Ref_readComes_92 (by decide) ?_
  refine J_iadd d_Ref_readComes_93 ?_
  obtain ⟨N77, hN77, H⟩ := Option.bind_eq_some_iff.mp H
  obtain ⟨k78, hk78, H⟩ := Option.bind_eq_some_iff.mp H
  refine F_iast k78 hw hG d_Ref_readComes_94 (gA_some hN77) (ix_some hk78) ?_
  refine J_iconst (v := 1) d_Ref_readComes_95 (by decide) ?_
  refine J_istore d_Ref_readComes_96 (Nat.le_of_ble_eq_true rfl) ?_
  refine J.ls (ls' := [some (.ref this), some (.int p0), some (.long p1), none, some (.int q45.1), some (.int (1 : Int32)), none, none, none, none, none, none, none]) rfl ?_
  refine J_iconst (v := 0) d_Ref_readComes_98 (by decide) ?_
  refine J_istore d_Ref_readComes_99 (Nat.le_of_ble_eq_true rfl) ?_
  refine J.ls (ls' := [some (.ref this), some (.int p0), some (.long p1), none, some (.int q45.1), some (.int (1 : Int32)), some (.int (0 : Int32)), none, none, none, none, none, none]) rfl ?_
  refine J.drop [true, true, true, false, true, true, true, false, false, false, false, false, false] rfl ?_
  exact p_Ref_readComes_L101 hw hG  _ H
