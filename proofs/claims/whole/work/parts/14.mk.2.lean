theorem ln_Bus_init : (parseMethodDescriptor y_Bus_init.desc).map (fun q => q.parameters.length) = some 3 := by decide +kernel
def f_Bus_init_L229  : Nat → gm_T → ph_T → Nat → Nat → Int32 → Option (mq_T (Unit))
  | 0, _, _, _, _, _ => none
  | fu + 1, Γ, φ, n, x0, x7 =>
    if (64 : Int32) ≤ x7 then
      some ((), (Γ, φ, n), (0, 0))
    else
      @ite _ (Γ x0 = .inr 11) _ (
      mN Γ φ n 6 fun Γ2 φ3 n4 =>
      @ite _ (Γ2 n = .inr 6) _ (
      mB (f_Request_init Γ2 φ3 n4 n) fun v8 Γ9 φ10 n11 =>
      Option.bind (φ.2.2 x0 7) fun a16 =>
      Option.bind (gA Γ9 a16 6) fun N17 =>
      Option.bind (ix x7 N17) fun k18 =>
      @ite _ (Γ9 n = .inr 6) _ (
      (f_Bus_init_L229  fu) Γ9 (uR φ10 a16 k18 (some n)) n11 x0 (x7 + (1 : Int32))
      ) none
      ) none
      ) none
set_option maxRecDepth 100000 in
set_option maxHeartbeats 8000000 in
theorem p_Bus_init_L229 {w : jw_T} (hw : jok w)  : ∀ (fu : Nat) {Γ : gm_T} {φ : ph_T} {n : Nat} {x0 : Nat} {x7 : Int32} {q : mq_T (Unit)}, gz w Γ n → f_Bus_init_L229  fu Γ φ n x0 x7 = some q → J w M_Bus_init 229 [some (.ref x0), none, none, none, none, none, none, some (.int x7)] [] (pic Γ φ) n true q.2.2.1 q.2.2.2 (mqQ w (.inl none) q.2.1) := by
  intro fu
  induction fu with
  | zero =>
    intro Γ φ n x0 x7 q hZ H
    cases H
  | succ fu ih =>
    intro Γ φ n x0 x7 q hZ H
    unfold f_Bus_init_L229 at H
    refine J_iload d_Bus_init_229 rfl ?_
    refine J_bipush (v := 64) d_Bus_init_231 (by decide) ?_
    refine J_icmp_ge (tgt := 256) d_Bus_init_233 (by decide) ?_ ?_
    · intro c20
      rw [if_pos c20] at H
      have H := Option.some.inj H
      subst H
      exact J_vret (st := []) d_Bus_init_256 rfl ⟨rfl, rfl, rfl, rfl, hZ⟩
    · intro c20
      rw [if_neg c20] at H
      refine J_aload_n d_Bus_init_236 rfl ?_
      have g1 : Γ x0 = .inr 11 := by
        apply Classical.byContradiction
        intro q9
        rw [if_neg q9] at H
        cases H
      rw [if_pos g1] at H
      refine F_getR (ci := 11) (k := 7) hZ.1 (cf_Bus hw) (fl_Bus_60 hw) (by decide) (by decide) rfl d_Bus_init_237 g1 ?_
      refine J_iload d_Bus_init_240 rfl ?_
      refine F_new (r := (fun _ => .inl none)) hZ (by decide) (cf_Request hw) (tb2 hw (i := 193) (by decide +kernel)) (tb2 hw (i := 194) (by decide +kernel)) (tb1 hw (i := 14) (by decide +kernel)) d_Bus_init_242 dv_Request H ?_
      clear H
      intro Γ2 φ3 n4 q hZ5 H
      refine J_dup d_Bus_init_245 rfl ?_
      have g6 : Γ2 n = .inr 6 := by
        apply Classical.byContradiction
        intro q9
        rw [if_neg q9] at H
        cases H
      rw [if_pos g6] at H
      obtain ⟨v8, Γ9, φ10, n11, c12, s13, q14, hq7, H1, hq9⟩ := mB_some H
      clear H
      subst hq9
      show J _ _ _ _ _ _ _ _ (c12 + q14.2.2.1) (s13 + q14.2.2.2) _
      refine J_callI (kc := q14.2.2.1) (ks := q14.2.2.2) (kc' := c12) (ks' := s13) (a := n) (as := []) (st := [.ref n, .int x7, va_rf (φ.2.2 x0 7)]) (mf_Request_init hw) rfl rfl (mi_Bus_64 hw) rfl (tb2 hw (i := 197) rfl) d_Bus_init_246 ln_Request_init (by decide) (by first | exact Nat.le_of_ble_eq_true rfl | (simp only [List.map_cons, List.map_nil, List.sum_cons, List.sum_nil, va_rf_cat]; exact Nat.le_of_ble_eq_true rfl)) rfl (p_Request_init hw hZ5 hq7) ?_ (fun E9 h9 n9 x9 e9 => by cases e9.1)
      clear hq7
      intro v9 h9 n9 x9 e9
      obtain ⟨e91, e92, e93, e94, hZ15⟩ := e9
      cases e91
      subst e92
      have e95 : n11 = n9 := e93.symm
      subst e95
      subst e94
      show J _ _ _ _ [.ref n, .int x7, va_rf (φ.2.2 x0 7)] (pic Γ9 φ10) n11 true q14.2.2.1 q14.2.2.2 (mqQ w (.inl none) q14.2.1)
      revert H1
      generalize q14 = q
      intro H
      obtain ⟨a16, ha16, H⟩ := Option.bind_eq_some_iff.mp H
      rw [j_rf ha16]
      obtain ⟨N17, hN17, H⟩ := Option.bind_eq_some_iff.mp H
      obtain ⟨k18, hk18, H⟩ := Option.bind_eq_some_iff.mp H
      have g19 : Γ9 n = .inr 6 := by
        apply Classical.byContradiction
        intro q9
        rw [if_neg q9] at H
        cases H
      rw [if_pos g19] at H
      refine F_aast k18 hw hZ15.1 (t := 6) (ci := 6) (r := ("BusCrossbar$Request", T_Request, 6)) rfl (by decide) rfl (by decide) d_Bus_init_249 (gA_some hN17) g19 (ix_some hk18) ?_
      refine J_iinc (v := x7 + 1) d_Bus_init_250 rfl (by rw [show Int32.ofInt 1 = (1 : Int32) from by decide]) ?_
      refine J.ls (ls' := [some (.ref x0), none, none, none, none, none, none, some (.int (x7 + (1 : Int32)))]) rfl ?_
      refine J_goto (tgt := 229) d_Bus_init_253 (by decide) ?_
      refine J.drop [true, false, false, false, false, false, false, true] rfl ?_
      exact ih hZ15 H
def f_Bus_init_L191  : Nat → gm_T → ph_T → Nat → Nat → Int32 → Option (mq_T (Unit))
  | 0, _, _, _, _, _ => none
  | fu + 1, Γ, φ, n, x0, x7 =>
    if (2 : Int32) ≤ x7 then
      mR Γ φ n 6 (64 : Int32) fun Γ21 φ22 n23 =>
      @ite _ (Γ21 x0 = .inr 11) _ (
      f_Bus_init_L229  jF Γ21 (uR φ22 x0 7 (some n)) n23 x0 (0 : Int32)
      ) none
    else
      @ite _ (Γ x0 = .inr 11) _ (
      mN Γ φ n 5 fun Γ27 φ28 n29 =>
      @ite _ (Γ27 n = .inr 5) _ (
      mB (f_Port_init Γ27 φ28 n29 n) fun v33 Γ34 φ35 n36 =>
      Option.bind (φ.2.2 x0 6) fun a41 =>
      Option.bind (gA Γ34 a41 7) fun N42 =>
      Option.bind (ix x7 N42) fun k43 =>
      @ite _ (Γ34 n = .inr 5) _ (
      (f_Bus_init_L191  fu) Γ34 (uR φ35 a41 k43 (some n)) n36 x0 (x7 + (1 : Int32))
      ) none
      ) none
      ) none
set_option maxRecDepth 100000 in
set_option maxHeartbeats 8000000 in
theorem p_Bus_init_L191 {w : jw_T} (hw : jok w)  : ∀ (fu : Nat) {Γ : gm_T} {φ : ph_T} {n : Nat} {x0 : Nat} {x7 : Int32} {q : mq_T (Unit)}, gz w Γ n → f_Bus_init_L191  fu Γ φ n x0 x7 = some q → J w M_Bus_init 191 [some (.ref x0), none, none, none, none, none, none, some (.int x7)] [] (pic Γ φ) n true q.2.2.1 q.2.2.2 (mqQ w (.inl none) q.2.1) := by
  intro fu
  induction fu with
  | zero =>
    intro Γ φ n x0 x7 q hZ H
    cases H
  | succ fu ih =>
    intro Γ φ n x0 x7 q hZ H
    unfold f_Bus_init_L191 at H
    refine J_iload d_Bus_init_191 rfl ?_
    refine J_iconst (v := 2) d_Bus_init_193 (by decide) ?_
    refine J_icmp_ge (tgt := 217) d_Bus_init_194 (by decide) ?_ ?_
    · intro c45
      rw [if_pos c45] at H
      refine J_aload_n d_Bus_init_217 rfl ?_
      refine J_bipush (v := 64) d_Bus_init_218 (by decide) ?_
      refine F_anew (r := (fun _ => .inl none)) (C := "BusCrossbar$Request") hZ (jty_at hw rfl) (by decide) (tb2 hw (i := 193) (by decide +kernel)) (tb1 hw (i := 188) (by decide +kernel)) d_Bus_init_220 H ?_
      clear H
      intro Γ21 φ22 n23 q hZ24 H
      have g25 : Γ21 x0 = .inr 11 := by
        apply Classical.byContradiction
        intro q9
        rw [if_neg q9] at H
        cases H
      rw [if_pos g25] at H
      refine F_putRF (ci := 11) (k := 7) (v := (some n)) hZ24.1 (cf_Bus hw) (tb2 hw (i := 237) (by decide +kernel)) (by decide) (by decide) rfl d_Bus_init_223 rfl rfl rfl rfl rfl g25 ?_
      refine J_iconst (v := 0) d_Bus_init_226 (by decide) ?_
      refine J_istore d_Bus_init_227 (Nat.le_of_ble_eq_true rfl) ?_
      refine J.ls (ls' := [some (.ref x0), none, none, none, none, none, none, some (.int (0 : Int32))]) rfl ?_
      refine J.drop [true, false, false, false, false, false, false, true] rfl ?_
      exact p_Bus_init_L229 hw  _ hZ24 H
    · intro c45
      rw [if_neg c45] at H
      refine J_aload_n d_Bus_init_197 rfl ?_
      have g26 : Γ x0 = .inr 11 := by
        apply Classical.byContradiction
        intro q9
        rw [if_neg q9] at H
        cases H
      rw [if_pos g26] at H
      refine F_getR (ci := 11) (k := 6) hZ.1 (cf_Bus hw) (fl_Bus_55 hw) (by decide) (by decide) rfl d_Bus_init_198 g26 ?_
      refine J_iload d_Bus_init_201 rfl ?_
      refine F_new (r := (fun _ => .inl none)) hZ (by decide) (cf_Port hw) (tb1 hw (i := 180) (by decide +kernel)) (tb1 hw (i := 225) (by decide +kernel)) (tb1 hw (i := 9) (by decide +kernel)) d_Bus_init_203 dv_Port H ?_
      clear H
      intro Γ27 φ28 n29 q hZ30 H
      refine J_dup d_Bus_init_206 rfl ?_
      have g31 : Γ27 n = .inr 5 := by
        apply Classical.byContradiction
        intro q9
        rw [if_neg q9] at H
        cases H
      rw [if_pos g31] at H
      obtain ⟨v33, Γ34, φ35, n36, c37, s38, q39, hq32, H1, hq9⟩ := mB_some H
      clear H
      subst hq9
      show J _ _ _ _ _ _ _ _ (c37 + q39.2.2.1) (s38 + q39.2.2.2) _
      refine J_callI (kc := q39.2.2.1) (ks := q39.2.2.2) (kc' := c37) (ks' := s38) (a := n) (as := []) (st := [.ref n, .int x7, va_rf (φ.2.2 x0 6)]) (mf_Port_init hw) rfl rfl (mi_Bus_42 hw) rfl (tb1 hw (i := 228) rfl) d_Bus_init_207 ln_Port_init (by decide) (by first | exact Nat.le_of_ble_eq_true rfl | (simp only [List.map_cons, List.map_nil, List.sum_cons, List.sum_nil, va_rf_cat]; exact Nat.le_of_ble_eq_true rfl)) rfl (p_Port_init hw hZ30 hq32) ?_ (fun E9 h9 n9 x9 e9 => by cases e9.1)
      clear hq32
      intro v9 h9 n9 x9 e9
      obtain ⟨e91, e92, e93, e94, hZ40⟩ := e9
      cases e91
      subst e92
      have e95 : n36 = n9 := e93.symm
      subst e95
      subst e94
      show J _ _ _ _ [.ref n, .int x7, va_rf (φ.2.2 x0 6)] (pic Γ34 φ35) n36 true q39.2.2.1 q39.2.2.2 (mqQ w (.inl none) q39.2.1)
      revert H1
      generalize q39 = q
      intro H
      obtain ⟨a41, ha41, H⟩ := Option.bind_eq_some_iff.mp H
      rw [j_rf ha41]
      obtain ⟨N42, hN42, H⟩ := Option.bind_eq_some_iff.mp H
      obtain ⟨k43, hk43, H⟩ := Option.bind_eq_some_iff.mp H
      have g44 : Γ34 n = .inr 5 := by
        apply Classical.byContradiction
        intro q9
        rw [if_neg q9] at H
        cases H
      rw [if_pos g44] at H
      refine F_aast k43 hw hZ40.1 (t := 7) (ci := 5) (r := ("BusCrossbar$Port", T_Port, 7)) rfl (by decide) rfl (by decide) d_Bus_init_210 (gA_some hN42) g44 (ix_some hk43) ?_
      refine J_iinc (v := x7 + 1) d_Bus_init_211 rfl (by rw [show Int32.ofInt 1 = (1 : Int32) from by decide]) ?_
      refine J.ls (ls' := [some (.ref x0), none, none, none, none, none, none, some (.int (x7 + (1 : Int32)))]) rfl ?_
      refine J_goto (tgt := 191) d_Bus_init_214 (by decide) ?_
      refine J.drop [true, false, false, false, false, false, false, true] rfl ?_
      exact ih hZ40 H
def f_Bus_init_L137  : Nat → gm_T → ph_T → Nat → Nat → Int32 → Nat → Int32 → Option (mq_T (Unit))
  | 0, _, _, _, _, _, _, _ => none
  | fu + 1, Γ, φ, n, x0, x5, x6, x7 =>
    if x5 ≤ x7 then
      mR Γ φ n 7 (2 : Int32) fun Γ46 φ47 n48 =>
      @ite _ (Γ46 x0 = .inr 11) _ (
      f_Bus_init_L191  jF Γ46 (uR φ47 x0 6 (some n)) n48 x0 (0 : Int32)
      ) none
    else
      @ite _ (Γ x0 = .inr 11) _ (
      mN Γ φ n 8 fun Γ52 φ53 n54 =>
      @ite _ (Γ52 n = .inr 8) _ (
      mB (f_Slave_init Γ52 φ53 n54 n (some x6)) fun v58 Γ59 φ60 n61 =>
      Option.bind (φ.2.2 x0 3) fun a66 =>
      Option.bind (gA Γ59 a66 9) fun N67 =>
      Option.bind (ix x7 N67) fun k68 =>
      @ite _ (Γ59 n = .inr 8) _ (
      @ite _ (Γ59 x0 = .inr 11) _ (
      mN Γ59 (uR φ60 a66 k68 (some n)) n61 5 fun Γ71 φ72 n73 =>
      @ite _ (Γ71 n61 = .inr 5) _ (
      mB (f_Port_init Γ71 φ72 n73 n61) fun v77 Γ78 φ79 n80 =>
      Option.bind ((uR φ60 a66 k68 (some n)).2.2 x0 5) fun a85 =>
      Option.bind (gA Γ78 a85 7) fun N86 =>
      Option.bind (ix x7 N86) fun k87 =>
      @ite _ (Γ78 n61 = .inr 5) _ (
      (f_Bus_init_L137  fu) Γ78 (uR φ79 a85 k87 (some n61)) n80 x0 x5 x6 (x7 + (1 : Int32))
      ) none
      ) none
      ) none
      ) none
      ) none
      ) none
set_option maxRecDepth 100000 in
set_option maxHeartbeats 8000000 in
theorem p_Bus_init_L137 {w : jw_T} (hw : jok w)  : ∀ (fu : Nat) {Γ : gm_T} {φ : ph_T} {n : Nat} {x0 : Nat} {x5 : Int32} {x6 : Nat} {x7 : Int32} {q : mq_T (Unit)}, gz w Γ n → f_Bus_init_L137  fu Γ φ n x0 x5 x6 x7 = some q → J w M_Bus_init 137 [some (.ref x0), none, none, none, none, some (.int x5), some (.ref x6), some (.int x7)] [] (pic Γ φ) n true q.2.2.1 q.2.2.2 (mqQ w (.inl none) q.2.1) := by
  intro fu
  induction fu with
  | zero =>
    intro Γ φ n x0 x5 x6 x7 q hZ H
    cases H
  | succ fu ih =>
    intro Γ φ n x0 x5 x6 x7 q hZ H
    unfold f_Bus_init_L137 at H
    refine J_iload d_Bus_init_137 rfl ?_
    refine J_iload d_Bus_init_139 rfl ?_
    refine J_icmp_ge (tgt := 180) d_Bus_init_141 (by decide) ?_ ?_
    · intro c89
      rw [if_pos c89] at H
      refine J_aload_n d_Bus_init_180 rfl ?_
      refine J_iconst (v := 2) d_Bus_init_181 (by decide) ?_
      refine F_anew (r := (fun _ => .inl none)) (C := "BusCrossbar$Port") hZ (jty_at hw rfl) (by decide) (tb1 hw (i := 180) (by decide +kernel)) (tb1 hw (i := 181) (by decide +kernel)) d_Bus_init_182 H ?_
      clear H
      intro Γ46 φ47 n48 q hZ49 H
      have g50 : Γ46 x0 = .inr 11 := by
        apply Classical.byContradiction
        intro q9
        rw [if_neg q9] at H
        cases H
      rw [if_pos g50] at H
      refine F_putRF (ci := 11) (k := 6) (v := (some n)) hZ49.1 (cf_Bus hw) (tb2 hw (i := 236) (by decide +kernel)) (by decide) (by decide) rfl d_Bus_init_185 rfl rfl rfl rfl rfl g50 ?_
      refine J_iconst (v := 0) d_Bus_init_188 (by decide) ?_
      refine J_istore d_Bus_init_189 (Nat.le_of_ble_eq_true rfl) ?_
      refine J.ls (ls' := [some (.ref x0), none, none, none, none, some (.int x5), some (.ref x6), some (.int (0 : Int32))]) rfl ?_
      refine J.drop [true, false, false, false, false, false, false, true] rfl ?_
      exact p_Bus_init_L191 hw  _ hZ49 H
    · intro c89
      rw [if_neg c89] at H
      refine J_aload_n d_Bus_init_144 rfl ?_
      have g51 : Γ x0 = .inr 11 := by
        apply Classical.byContradiction
        intro q9
        rw [if_neg q9] at H
        cases H
      rw [if_pos g51] at H
      refine F_getR (ci := 11) (k := 3) hZ.1 (cf_Bus hw) (fl_Bus_45 hw) (by decide) (by decide) rfl d_Bus_init_145 g51 ?_
      refine J_iload d_Bus_init_148 rfl ?_
      refine F_new (r := (fun _ => .inl none)) hZ (by decide) (cf_Slave hw) (tb2 hw (i := 142) (by decide +kernel)) (tb2 hw (i := 144) (by decide +kernel)) (tb1 hw (i := 13) (by decide +kernel)) d_Bus_init_150 dv_Slave H ?_
      clear H
      intro Γ52 φ53 n54 q hZ55 H
      refine J_dup d_Bus_init_153 rfl ?_
      refine J_aload d_Bus_init_154 rfl ?_
      have g56 : Γ52 n = .inr 8 := by
        apply Classical.byContradiction
        intro q9
        rw [if_neg q9] at H
        cases H
      rw [if_pos g56] at H
      obtain ⟨v58, Γ59, φ60, n61, c62, s63, q64, hq57, H1, hq9⟩ := mB_some H
      clear H
      subst hq9
      show J _ _ _ _ _ _ _ _ (c62 + q64.2.2.1) (s63 + q64.2.2.2) _
      refine J_callI (kc := q64.2.2.1) (ks := q64.2.2.2) (kc' := c62) (ks' := s63) (a := n) (as := [.ref x6]) (st := [.ref n, .int x7, va_rf (φ.2.2 x0 3)]) (mf_Slave_init hw) rfl rfl (mi_Bus_52 hw) rfl (tb2 hw (i := 147) rfl) d_Bus_init_156 ln_Slave_init (by decide) (by first | exact Nat.le_of_ble_eq_true rfl | (simp only [List.map_cons, List.map_nil, List.sum_cons, List.sum_nil, va_rf_cat]; exact Nat.le_of_ble_eq_true rfl)) rfl (p_Slave_init hw hZ55 hq57) ?_ (fun E9 h9 n9 x9 e9 => by cases e9.1)
      clear hq57
      intro v9 h9 n9 x9 e9
      obtain ⟨e91, e92, e93, e94, hZ65⟩ := e9
      cases e91
      subst e92
      have e95 : n61 = n9 := e93.symm
      subst e95
      subst e94
      show J _ _ _ _ [.ref n, .int x7, va_rf (φ.2.2 x0 3)] (pic Γ59 φ60) n61 true q64.2.2.1 q64.2.2.2 (mqQ w (.inl none) q64.2.1)
      revert H1
      generalize q64 = q
      intro H
      obtain ⟨a66, ha66, H⟩ := Option.bind_eq_some_iff.mp H
      rw [j_rf ha66]
      obtain ⟨N67, hN67, H⟩ := Option.bind_eq_some_iff.mp H
      obtain ⟨k68, hk68, H⟩ := Option.bind_eq_some_iff.mp H
      have g69 : Γ59 n = .inr 8 := by
        apply Classical.byContradiction
        intro q9
        rw [if_neg q9] at H
        cases H
      rw [if_pos g69] at H
      refine F_aast k68 hw hZ65.1 (t := 9) (ci := 8) (r := ("BusCrossbar$Slave", T_Slave, 11)) rfl (by decide) rfl (by decide) d_Bus_init_159 (gA_some hN67) g69 (ix_some hk68) ?_
      refine J_aload_n d_Bus_init_160 rfl ?_
      have g70 : Γ59 x0 = .inr 11 := by
        apply Classical.byContradiction
        intro q9
        rw [if_neg q9] at H
        cases H
      rw [if_pos g70] at H
      refine F_getR (ci := 11) (k := 5) hZ65.1 (cf_Bus hw) (fl_Bus_49 hw) (by decide) (by decide) rfl d_Bus_init_161 g70 ?_
      refine J_iload d_Bus_init_164 rfl ?_
      refine F_new (r := (fun _ => .inl none)) hZ65 (by decide) (cf_Port hw) (tb1 hw (i := 180) (by decide +kernel)) (tb1 hw (i := 225) (by decide +kernel)) (tb1 hw (i := 9) (by decide +kernel)) d_Bus_init_166 dv_Port H ?_
      clear H
      intro Γ71 φ72 n73 q hZ74 H
      refine J_dup d_Bus_init_169 rfl ?_
      have g75 : Γ71 n61 = .inr 5 := by
        apply Classical.byContradiction
        intro q9
        rw [if_neg q9] at H
        cases H
      rw [if_pos g75] at H
      obtain ⟨v77, Γ78, φ79, n80, c81, s82, q83, hq76, H1, hq9⟩ := mB_some H
      clear H
      subst hq9
      show J _ _ _ _ _ _ _ _ (c81 + q83.2.2.1) (s82 + q83.2.2.2) _
      refine J_callI (kc := q83.2.2.1) (ks := q83.2.2.2) (kc' := c81) (ks' := s82) (a := n61) (as := []) (st := [.ref n61, .int x7, va_rf ((uR φ60 a66 k68 (some n)).2.2 x0 5)]) (mf_Port_init hw) rfl rfl (mi_Bus_42 hw) rfl (tb1 hw (i := 228) rfl) d_Bus_init_170 ln_Port_init (by decide) (by first | exact Nat.le_of_ble_eq_true rfl | (simp only [List.map_cons, List.map_nil, List.sum_cons, List.sum_nil, va_rf_cat]; exact Nat.le_of_ble_eq_true rfl)) rfl (p_Port_init hw hZ74 hq76) ?_ (fun E9 h9 n9 x9 e9 => by cases e9.1)
      clear hq76
      intro v9 h9 n9 x9 e9
      obtain ⟨e91, e92, e93, e94, hZ84⟩ := e9
      cases e91
      subst e92
      have e95 : n80 = n9 := e93.symm
      subst e95
      subst e94
      show J _ _ _ _ [.ref n61, .int x7, va_rf ((uR φ60 a66 k68 (some n)).2.2 x0 5)] (pic Γ78 φ79) n80 true q83.2.2.1 q83.2.2.2 (mqQ w (.inl none) q83.2.1)
      revert H1
      generalize q83 = q
      intro H
      obtain ⟨a85, ha85, H⟩ := Option.bind_eq_some_iff.mp H
      rw [j_rf ha85]
      obtain ⟨N86, hN86, H⟩ := Option.bind_eq_some_iff.mp H
      obtain ⟨k87, hk87, H⟩ := Option.bind_eq_some_iff.mp H
      have g88 : Γ78 n61 = .inr 5 := by
        apply Classical.byContradiction
        intro q9
        rw [if_neg q9] at H
        cases H
      rw [if_pos g88] at H
      refine F_aast k87 hw hZ84.1 (t := 7) (ci := 5) (r := ("BusCrossbar$Port", T_Port, 7)) rfl (by decide) rfl (by decide) d_Bus_init_173 (gA_some hN86) g88 (ix_some hk87) ?_
      refine J_iinc (v := x7 + 1) d_Bus_init_174 rfl (by rw [show Int32.ofInt 1 = (1 : Int32) from by decide]) ?_
      refine J.ls (ls' := [some (.ref x0), none, none, none, none, some (.int x5), some (.ref x6), some (.int (x7 + (1 : Int32)))]) rfl ?_
      refine J_goto (tgt := 137) d_Bus_init_177 (by decide) ?_
      refine J.drop [true, false, false, false, false, true, true, true] rfl ?_
      exact ih hZ84 H
def f_Bus_init_L75  : Nat → gm_T → ph_T → Nat → Nat → Int32 → Int32 → Nat → Int32 → Option (mq_T (Unit))
  | 0, _, _, _, _, _, _, _, _ => none
  | fu + 1, Γ, φ, n, x0, x4, x5, x6, x7 =>
    if x4 ≤ x7 then
      mR Γ φ n 9 x5 fun Γ90 φ91 n92 =>
      @ite _ (Γ90 x0 = .inr 11) _ (
      mR Γ90 (uR φ91 x0 3 (some n)) n92 7 x5 fun Γ95 φ96 n97 =>
      @ite _ (Γ95 x0 = .inr 11) _ (
      f_Bus_init_L137  jF Γ95 (uR φ96 x0 5 (some n92)) n97 x0 x5 x6 (0 : Int32)
      ) none
      ) none
    else
      @ite _ (Γ x0 = .inr 11) _ (
      mN Γ φ n 7 fun Γ101 φ102 n103 =>
      @ite _ (Γ101 n = .inr 7) _ (
      mB (f_Master_init Γ101 φ102 n103 n) fun v107 Γ108 φ109 n110 =>
      Option.bind (φ.2.2 x0 2) fun a115 =>
      Option.bind (gA Γ108 a115 8) fun N116 =>
      Option.bind (ix x7 N116) fun k117 =>
      @ite _ (Γ108 n = .inr 7) _ (
      @ite _ (Γ108 x0 = .inr 11) _ (
      mN Γ108 (uR φ109 a115 k117 (some n)) n110 5 fun Γ120 φ121 n122 =>
      @ite _ (Γ120 n110 = .inr 5) _ (
      mB (f_Port_init Γ120 φ121 n122 n110) fun v126 Γ127 φ128 n129 =>
      Option.bind ((uR φ109 a115 k117 (some n)).2.2 x0 4) fun a134 =>
      Option.bind (gA Γ127 a134 7) fun N135 =>
      Option.bind (ix x7 N135) fun k136 =>
      @ite _ (Γ127 n110 = .inr 5) _ (
      (f_Bus_init_L75  fu) Γ127 (uR φ128 a134 k136 (some n110)) n129 x0 x4 x5 x6 (x7 + (1 : Int32))
      ) none
      ) none
      ) none
      ) none
      ) none
      ) none
set_option maxRecDepth 100000 in
set_option maxHeartbeats 8000000 in
theorem p_Bus_init_L75 {w : jw_T} (hw : jok w)  : ∀ (fu : Nat) {Γ : gm_T} {φ : ph_T} {n : Nat} {x0 : Nat} {x4 : Int32} {x5 : Int32} {x6 : Nat} {x7 : Int32} {q : mq_T (Unit)}, gz w Γ n → f_Bus_init_L75  fu Γ φ n x0 x4 x5 x6 x7 = some q → J w M_Bus_init 75 [some (.ref x0), none, none, none, some (.int x4), some (.int x5), some (.ref x6), some (.int x7)] [] (pic Γ φ) n true q.2.2.1 q.2.2.2 (mqQ w (.inl none) q.2.1) := by
  intro fu
  induction fu with
  | zero =>
    intro Γ φ n x0 x4 x5 x6 x7 q hZ H
    cases H
  | succ fu ih =>
    intro Γ φ n x0 x4 x5 x6 x7 q hZ H
    unfold f_Bus_init_L75 at H
    refine J_iload d_Bus_init_75 rfl ?_
    refine J_iload d_Bus_init_77 rfl ?_
    refine J_icmp_ge (tgt := 116) d_Bus_init_79 (by decide) ?_ ?_
    · intro c138
      rw [if_pos c138] at H
      refine J_aload_n d_Bus_init_116 rfl ?_
      refine J_iload d_Bus_init_117 rfl ?_
      refine F_anew (r := (fun _ => .inl none)) (C := "BusCrossbar$Slave") hZ (jty_at hw rfl) (by decide) (tb2 hw (i := 142) (by decide +kernel)) (tb2 hw (i := 143) (by decide +kernel)) d_Bus_init_119 H ?_
      clear H
      intro Γ90 φ91 n92 q hZ93 H
      have g94 : Γ90 x0 = .inr 11 := by
        apply Classical.byContradiction
        intro q9
        rw [if_neg q9] at H
        cases H
      rw [if_pos g94] at H
      refine F_putRF (ci := 11) (k := 3) (v := (some n)) hZ93.1 (cf_Bus hw) (tb2 hw (i := 233) (by decide +kernel)) (by decide) (by decide) rfl d_Bus_init_122 rfl rfl rfl rfl rfl g94 ?_
      refine J_aload_n d_Bus_init_125 rfl ?_
      refine J_iload d_Bus_init_126 rfl ?_
      refine F_anew (r := (fun _ => .inl none)) (C := "BusCrossbar$Port") hZ93 (jty_at hw rfl) (by decide) (tb1 hw (i := 180) (by decide +kernel)) (tb1 hw (i := 181) (by decide +kernel)) d_Bus_init_128 H ?_
      clear H
      intro Γ95 φ96 n97 q hZ98 H
      have g99 : Γ95 x0 = .inr 11 := by
        apply Classical.byContradiction
        intro q9
        rw [if_neg q9] at H
        cases H
      rw [if_pos g99] at H
      refine F_putRF (ci := 11) (k := 5) (v := (some n92)) hZ98.1 (cf_Bus hw) (tb2 hw (i := 235) (by decide +kernel)) (by decide) (by decide) rfl d_Bus_init_131 rfl rfl rfl rfl rfl g99 ?_
      refine J_iconst (v := 0) d_Bus_init_134 (by decide) ?_
      refine J_istore d_Bus_init_135 (Nat.le_of_ble_eq_true rfl) ?_
      refine J.ls (ls' := [some (.ref x0), none, none, none, some (.int x4), some (.int x5), some (.ref x6), some (.int (0 : Int32))]) rfl ?_
      refine J.drop [true, false, false, false, false, true, true, true] rfl ?_
      exact p_Bus_init_L137 hw  _ hZ98 H
    · intro c138
      rw [if_neg c138] at H
      refine J_aload_n d_Bus_init_82 rfl ?_
      have g100 : Γ x0 = .inr 11 := by
        apply Classical.byContradiction
        intro q9
        rw [if_neg q9] at H
        cases H
      rw [if_pos g100] at H
      refine F_getR (ci := 11) (k := 2) hZ.1 (cf_Bus hw) (fl_Bus_31 hw) (by decide) (by decide) rfl d_Bus_init_83 g100 ?_
      refine J_iload d_Bus_init_86 rfl ?_
      refine F_new (r := (fun _ => .inl none)) hZ (by decide) (cf_Master hw) (tb1 hw (i := 178) (by decide +kernel)) (tb1 hw (i := 182) (by decide +kernel)) (tb1 hw (i := 8) (by decide +kernel)) d_Bus_init_88 dv_Master H ?_
      clear H
      intro Γ101 φ102 n103 q hZ104 H
      refine J_dup d_Bus_init_91 rfl ?_
      have g105 : Γ101 n = .inr 7 := by
        apply Classical.byContradiction
        intro q9
        rw [if_neg q9] at H
        cases H
      rw [if_pos g105] at H
      obtain ⟨v107, Γ108, φ109, n110, c111, s112, q113, hq106, H1, hq9⟩ := mB_some H
      clear H
      subst hq9
      show J _ _ _ _ _ _ _ _ (c111 + q113.2.2.1) (s112 + q113.2.2.2) _
      refine J_callI (kc := q113.2.2.1) (ks := q113.2.2.2) (kc' := c111) (ks' := s112) (a := n) (as := []) (st := [.ref n, .int x7, va_rf (φ.2.2 x0 2)]) (mf_Master_init hw) rfl rfl (mi_Bus_41 hw) rfl (tb1 hw (i := 185) rfl) d_Bus_init_92 ln_Master_init (by decide) (by first | exact Nat.le_of_ble_eq_true rfl | (simp only [List.map_cons, List.map_nil, List.sum_cons, List.sum_nil, va_rf_cat]; exact Nat.le_of_ble_eq_true rfl)) rfl (p_Master_init hw hZ104 hq106) ?_ (fun E9 h9 n9 x9 e9 => by cases e9.1)
      clear hq106
      intro v9 h9 n9 x9 e9
      obtain ⟨e91, e92, e93, e94, hZ114⟩ := e9
      cases e91
      subst e92
      have e95 : n110 = n9 := e93.symm
      subst e95
      subst e94
      show J _ _ _ _ [.ref n, .int x7, va_rf (φ.2.2 x0 2)] (pic Γ108 φ109) n110 true q113.2.2.1 q113.2.2.2 (mqQ w (.inl none) q113.2.1)
      revert H1
      generalize q113 = q
      intro H
      obtain ⟨a115, ha115, H⟩ := Option.bind_eq_some_iff.mp H
      rw [j_rf ha115]
      obtain ⟨N116, hN116, H⟩ := Option.bind_eq_some_iff.mp H
      obtain ⟨k117, hk117, H⟩ := Option.bind_eq_some_iff.mp H
      have g118 : Γ108 n = .inr 7 := by
        apply Classical.byContradiction
        intro q9
        rw [if_neg q9] at H
        cases H
      rw [if_pos g118] at H
      refine F_aast k117 hw hZ114.1 (t := 8) (ci := 7) (r := ("BusCrossbar$Master", T_Master, 10)) rfl (by decide) rfl (by decide) d_Bus_init_95 (gA_some hN116) g118 (ix_some hk117) ?_
      refine J_aload_n d_Bus_init_96 rfl ?_
      have g119 : Γ108 x0 = .inr 11 := by
        apply Classical.byContradiction
        intro q9
        rw [if_neg q9] at H
        cases H
      rw [if_pos g119] at H
      refine F_getR (ci := 11) (k := 4) hZ114.1 (cf_Bus hw) (fl_Bus_37 hw) (by decide) (by decide) rfl d_Bus_init_97 g119 ?_
      refine J_iload d_Bus_init_100 rfl ?_
      refine F_new (r := (fun _ => .inl none)) hZ114 (by decide) (cf_Port hw) (tb1 hw (i := 180) (by decide +kernel)) (tb1 hw (i := 225) (by decide +kernel)) (tb1 hw (i := 9) (by decide +kernel)) d_Bus_init_102 dv_Port H ?_
      clear H
      intro Γ120 φ121 n122 q hZ123 H
      refine J_dup d_Bus_init_105 rfl ?_
      have g124 : Γ120 n110 = .inr 5 := by
        apply Classical.byContradiction
        intro q9
        rw [if_neg q9] at H
        cases H
      rw [if_pos g124] at H
      obtain ⟨v126, Γ127, φ128, n129, c130, s131, q132, hq125, H1, hq9⟩ := mB_some H
      clear H
      subst hq9
      show J _ _ _ _ _ _ _ _ (c130 + q132.2.2.1) (s131 + q132.2.2.2) _
      refine J_callI (kc := q132.2.2.1) (ks := q132.2.2.2) (kc' := c130) (ks' := s131) (a := n110) (as := []) (st := [.ref n110, .int x7, va_rf ((uR φ109 a115 k117 (some n)).2.2 x0 4)]) (mf_Port_init hw) rfl rfl (mi_Bus_42 hw) rfl (tb1 hw (i := 228) rfl) d_Bus_init_106 ln_Port_init (by decide) (by first | exact Nat.le_of_ble_eq_true rfl | (simp only [List.map_cons, List.map_nil, List.sum_cons, List.sum_nil, va_rf_cat]; exact Nat.le_of_ble_eq_true rfl)) rfl (p_Port_init hw hZ123 hq125) ?_ (fun E9 h9 n9 x9 e9 => by cases e9.1)
      clear hq125
      intro v9 h9 n9 x9 e9
      obtain ⟨e91, e92, e93, e94, hZ133⟩ := e9
      cases e91
      subst e92
      have e95 : n129 = n9 := e93.symm
      subst e95
      subst e94
      show J _ _ _ _ [.ref n110, .int x7, va_rf ((uR φ109 a115 k117 (some n)).2.2 x0 4)] (pic Γ127 φ128) n129 true q132.2.2.1 q132.2.2.2 (mqQ w (.inl none) q132.2.1)
      revert H1
      generalize q132 = q
      intro H
      obtain ⟨a134, ha134, H⟩ := Option.bind_eq_some_iff.mp H
      rw [j_rf ha134]
      obtain ⟨N135, hN135, H⟩ := Option.bind_eq_some_iff.mp H
      obtain ⟨k136, hk136, H⟩ := Option.bind_eq_some_iff.mp H
      have g137 : Γ127 n110 = .inr 5 := by
        apply Classical.byContradiction
        intro q9
        rw [if_neg q9] at H
        cases H
      rw [if_pos g137] at H
      refine F_aast k136 hw hZ133.1 (t := 7) (ci := 5) (r := ("BusCrossbar$Port", T_Port, 7)) rfl (by decide) rfl (by decide) d_Bus_init_109 (gA_some hN135) g137 (ix_some hk136) ?_
      refine J_iinc (v := x7 + 1) d_Bus_init_110 rfl (by rw [show Int32.ofInt 1 = (1 : Int32) from by decide]) ?_
      refine J.ls (ls' := [some (.ref x0), none, none, none, some (.int x4), some (.int x5), some (.ref x6), some (.int (x7 + (1 : Int32)))]) rfl ?_
      refine J_goto (tgt := 75) d_Bus_init_113 (by decide) ?_
      refine J.drop [true, false, false, false, true, true, true, true] rfl ?_
      exact ih hZ133 H
def f_Bus_init (Γ : gm_T) (φ : ph_T) (n : Nat) (this : Nat) (p0 : Int32) (p1 : Int32) (p2 : Int32) : Option (mq_T (Unit)) :=
  Option.bind (f_Bus_nearest Γ φ p0 (4 : Int32)) fun q139 =>
  Option.bind (f_Bus_nearest Γ q139.2 p1 (4 : Int32)) fun q140 =>
  mN Γ q140.2 n 2 fun Γ141 φ142 n143 =>
  @ite _ (Γ141 n = .inr 2) _ (
  mB (f_Memory_init Γ141 φ142 n143 n) fun v147 Γ148 φ149 n150 =>
  @ite _ (Γ148 this = .inr 11) _ (
  mN Γ148 (uR φ149 this 0 (some n)) n150 10 fun Γ156 φ157 n158 =>
  Option.bind (f_Bus_nearest Γ156 φ157 p2 (8 : Int32)) fun q160 =>
  @ite _ (Γ156 n150 = .inr 10) _ (
  mB (f_Switch_init Γ156 q160.2 n158 n150 q139.1 q140.1 q160.1) fun v163 Γ164 φ165 n166 =>
  @ite _ (Γ164 this = .inr 11) _ (
  mR Γ164 (uR φ165 this 1 (some n150)) n166 8 q139.1 fun Γ172 φ173 n174 =>
  @ite _ (Γ172 this = .inr 11) _ (
  mR Γ172 (uR φ173 this 2 (some n166)) n174 7 q139.1 fun Γ177 φ178 n179 =>
  @ite _ (Γ177 this = .inr 11) _ (
  f_Bus_init_L75  jF Γ177 (uR φ178 this 4 (some n174)) n179 this q139.1 q140.1 n (0 : Int32)
  ) none
  ) none
  ) none
  ) none
  ) none
  ) none
set_option maxRecDepth 100000 in
set_option maxHeartbeats 8000000 in
theorem p_Bus_init {w : jw_T} (hw : jok w) {Γ : gm_T} {φ : ph_T} {n : Nat} {this : Nat} {p0 : Int32} {p1 : Int32} {p2 : Int32} {q : mq_T (Unit)} (hZ : gz w Γ n) (H : f_Bus_init Γ φ n this p0 p1 p2 = some q) : jc w M_Bus_init [.ref this, .int p0, .int p1, .int p2] (pic Γ φ) n true q.2.2.1 q.2.2.2 (mqQ w (.inl none) q.2.1) := by
  refine jc.of (by simp only [jent_r, jent_i, jent_l, jent_a, jent_0]; exact Nat.le_of_ble_eq_true rfl) ?_
  have hls : jents [.ref this, .int p0, .int p1, .int p2] (jm_nL M_Bus_init) = [some (.ref this), some (.int p0), some (.int p1), some (.int p2), none, none, none, none] := by simp only [jents, jent_r, jent_i, jent_l, jent_a, jent_0]; rfl
  rw [hls]
  clear hls
  unfold f_Bus_init at H
  refine J_aload_n d_Bus_init_0 rfl ?_
  refine J_objInit (st := []) (tb1 hw (i := 30) (by decide +kernel)) (tb1 hw (i := 31) (by decide +kernel)) (objInit_code hw) d_Bus_init_1 rfl (by decide) (by decide) ?_
  refine J_iload_n d_Bus_init_4 rfl ?_
  refine J_iconst (v := 4) d_Bus_init_5 (by decide) ?_
  obtain ⟨q139, hq139, H⟩ := Option.bind_eq_some_iff.mp H
  refine J.kk (Nat.zero_add _) (Nat.zero_add _) ?_
  refine J_callS (kc := q.2.2.1) (ks := q.2.2.2) (kc' := 0) (ks' := 0) (as := [.int p0, .int (4 : Int32)]) (st := []) (mf_Bus_nearest hw) (ms_Bus_9 hw) d_Bus_init_6 ln_Bus_nearest (by decide) (by first | exact Nat.le_of_ble_eq_true rfl | (simp only [List.map_cons, List.map_nil, List.sum_cons, List.sum_nil, va_rf_cat]; exact Nat.le_of_ble_eq_true rfl)) rfl (jc.exact (p_Bus_nearest hw hZ.1 hq139)) ?_ (fun E9 h9 n9 x9 e9 => by cases e9.1)
  intro v9 h9 n9 x9 e9
  obtain ⟨e91, e92, e93, e94⟩ := e9
  cases e91
  subst e92
  have e95 : n = n9 := e93.symm
  subst e95
  subst e94
  show J _ _ _ _ (_ :: _) _ _ _ _ _ _
  refine J_istore d_Bus_init_9 (Nat.le_of_ble_eq_true rfl) ?_
  refine J.ls (ls' := [some (.ref this), some (.int p0), some (.int p1), some (.int p2), some (.int q139.1), none, none, none]) rfl ?_
  refine J_iload_n d_Bus_init_11 rfl ?_
  refine J_iconst (v := 4) d_Bus_init_12 (by decide) ?_
  obtain ⟨q140, hq140, H⟩ := Option.bind_eq_some_iff.mp H
  refine J.kk (Nat.zero_add _) (Nat.zero_add _) ?_
  refine J_callS (kc := q.2.2.1) (ks := q.2.2.2) (kc' := 0) (ks' := 0) (as := [.int p1, .int (4 : Int32)]) (st := []) (mf_Bus_nearest hw) (ms_Bus_9 hw) d_Bus_init_13 ln_Bus_nearest (by decide) (by first | exact Nat.le_of_ble_eq_true rfl | (simp only [List.map_cons, List.map_nil, List.sum_cons, List.sum_nil, va_rf_cat]; exact Nat.le_of_ble_eq_true rfl)) rfl (jc.exact (p_Bus_nearest hw hZ.1 hq140)) ?_ (fun E9 h9 n9 x9 e9 => by cases e9.1)
  intro v9 h9 n9 x9 e9
  obtain ⟨e91, e92, e93, e94⟩ := e9
  cases e91
  subst e92
  have e95 : n = n9 := e93.symm
  subst e95
  subst e94
  show J _ _ _ _ (_ :: _) _ _ _ _ _ _
  refine J_istore d_Bus_init_16 (Nat.le_of_ble_eq_true rfl) ?_
  refine J.ls (ls' := [some (.ref this), some (.int p0), some (.int p1), some (.int p2), some (.int q139.1), some (.int q140.1), none, none]) rfl ?_
  refine F_new (r := (fun _ => .inl none)) hZ (by decide) (cf_Memory hw) (tb1 hw (i := 42) (by decide +kernel)) (tb1 hw (i := 43) (by decide +kernel)) (tb1 hw (i := 3) (by decide +kernel)) d_Bus_init_18 dv_Memory H ?_
  clear H
  intro Γ141 φ142 n143 q hZ144 H
  refine J_dup d_Bus_init_21 rfl ?_
  have g145 : Γ141 n = .inr 2 := by
    apply Classical.byContradiction
    intro q9
    rw [if_neg q9] at H
    cases H
  rw [if_pos g145] at H
  obtain ⟨v147, Γ148, φ149, n150, c151, s152, q153, hq146, H1, hq9⟩ := mB_some H
  clear H
  subst hq9
  show J _ _ _ _ _ _ _ _ (c151 + q153.2.2.1) (s152 + q153.2.2.2) _
  refine J_callI (kc := q153.2.2.1) (ks := q153.2.2.2) (kc' := c151) (ks' := s152) (a := n) (as := []) (st := [.ref n]) (mf_Memory_init hw) rfl rfl (mi_Bus_15 hw) rfl (tb1 hw (i := 46) rfl) d_Bus_init_22 ln_Memory_init (by decide) (by first | exact Nat.le_of_ble_eq_true rfl | (simp only [List.map_cons, List.map_nil, List.sum_cons, List.sum_nil, va_rf_cat]; exact Nat.le_of_ble_eq_true rfl)) rfl (p_Memory_init hw hZ144 hq146) ?_ (fun E9 h9 n9 x9 e9 => by cases e9.1)
  clear hq146
  intro v9 h9 n9 x9 e9
  obtain ⟨e91, e92, e93, e94, hZ154⟩ := e9
  cases e91
  subst e92
  have e95 : n150 = n9 := e93.symm
  subst e95
  subst e94
  show J _ _ _ _ [.ref n] (pic Γ148 φ149) n150 true q153.2.2.1 q153.2.2.2 (mqQ w (.inl none) q153.2.1)
  revert H1
  generalize q153 = q
  intro H
  refine J_astore d_Bus_init_25 (Nat.le_of_ble_eq_true rfl) ?_
  refine J.ls (ls' := [some (.ref this), some (.int p0), some (.int p1), some (.int p2), some (.int q139.1), some (.int q140.1), some (.ref n), none]) rfl ?_
  refine J_aload_n d_Bus_init_27 rfl ?_
  refine J_aload d_Bus_init_28 rfl ?_
  have g155 : Γ148 this = .inr 11 := by
    apply Classical.byContradiction
    intro q9
    rw [if_neg q9] at H
    cases H
  rw [if_pos g155] at H
  refine F_putRF (ci := 11) (k := 0) (v := (some n)) hZ154.1 (cf_Bus hw) (tb2 hw (i := 230) (by decide +kernel)) (by decide) (by decide) rfl d_Bus_init_30 rfl rfl rfl rfl rfl g155 ?_
  refine J_aload_n d_Bus_init_33 rfl ?_
  refine F_new (r := (fun _ => .inl none)) hZ154 (by decide) (cf_Switch hw) (tb1 hw (i := 56) (by decide +kernel)) (tb1 hw (i := 57) (by decide +kernel)) (tb1 hw (i := 4) (by decide +kernel)) d_Bus_init_34 dv_Switch H ?_
  clear H
  intro Γ156 φ157 n158 q hZ159 H
  refine J_dup d_Bus_init_37 rfl ?_
  refine J_iload d_Bus_init_38 rfl ?_
  refine J_iload d_Bus_init_40 rfl ?_
  refine J_iload_n d_Bus_init_42 rfl ?_
  refine J_bipush (v := 8) d_Bus_init_43 (by decide) ?_
  obtain ⟨q160, hq160, H⟩ := Option.bind_eq_some_iff.mp H
  refine J.kk (Nat.zero_add _) (Nat.zero_add _) ?_
  refine J_callS (kc := q.2.2.1) (ks := q.2.2.2) (kc' := 0) (ks' := 0) (as := [.int p2, .int (8 : Int32)]) (st := [.int q140.1, .int q139.1, .ref n150, .ref n150, .ref this]) (mf_Bus_nearest hw) (ms_Bus_9 hw) d_Bus_init_45 ln_Bus_nearest (by decide) (by first | exact Nat.le_of_ble_eq_true rfl | (simp only [List.map_cons, List.map_nil, List.sum_cons, List.sum_nil, va_rf_cat]; exact Nat.le_of_ble_eq_true rfl)) rfl (jc.exact (p_Bus_nearest hw hZ159.1 hq160)) ?_ (fun E9 h9 n9 x9 e9 => by cases e9.1)
  intro v9 h9 n9 x9 e9
  obtain ⟨e91, e92, e93, e94⟩ := e9
  cases e91
  subst e92
  have e95 : n158 = n9 := e93.symm
  subst e95
  subst e94
  show J _ _ _ _ (_ :: _) _ _ _ _ _ _
  have g161 : Γ156 n150 = .inr 10 := by
    apply Classical.byContradiction
    intro q9
    rw [if_neg q9] at H
    cases H
  rw [if_pos g161] at H
  obtain ⟨v163, Γ164, φ165, n166, c167, s168, q169, hq162, H1, hq9⟩ := mB_some H
  clear H
  subst hq9
  show J _ _ _ _ _ _ _ _ (c167 + q169.2.2.1) (s168 + q169.2.2.2) _
  refine J_callI (kc := q169.2.2.1) (ks := q169.2.2.2) (kc' := c167) (ks' := s168) (a := n150) (as := [.int q139.1, .int q140.1, .int q160.1]) (st := [.ref n150, .ref this]) (mf_Switch_init hw) rfl rfl (mi_Bus_22 hw) rfl (tb1 hw (i := 60) rfl) d_Bus_init_48 ln_Switch_init (by decide) (by first | exact Nat.le_of_ble_eq_true rfl | (simp only [List.map_cons, List.map_nil, List.sum_cons, List.sum_nil, va_rf_cat]; exact Nat.le_of_ble_eq_true rfl)) rfl (p_Switch_init hw hZ159 hq162) ?_ (fun E9 h9 n9 x9 e9 => by cases e9.1)
  clear hq162
  intro v9 h9 n9 x9 e9
  obtain ⟨e91, e92, e93, e94, hZ170⟩ := e9
  cases e91
  subst e92
  have e95 : n166 = n9 := e93.symm
  subst e95
  subst e94
  show J _ _ _ _ [.ref n150, .ref this] (pic Γ164 φ165) n166 true q169.2.2.1 q169.2.2.2 (mqQ w (.inl none) q169.2.1)
  revert H1
  generalize q169 = q
  intro H
  have g171 : Γ164 this = .inr 11 := by
    apply Classical.byContradiction
    intro q9
    rw [if_neg q9] at H
    cases H
  rw [if_pos g171] at H
  refine F_putRF (ci := 11) (k := 1) (v := (some n150)) hZ170.1 (cf_Bus hw) (tb2 hw (i := 231) (by decide +kernel)) (by decide) (by decide) rfl d_Bus_init_51 rfl rfl rfl rfl rfl g171 ?_
  refine J_aload_n d_Bus_init_54 rfl ?_
  refine J_iload d_Bus_init_55 rfl ?_
  refine F_anew (r := (fun _ => .inl none)) (C := "BusCrossbar$Master") hZ170 (jty_at hw rfl) (by decide) (tb1 hw (i := 178) (by decide +kernel)) (tb1 hw (i := 179) (by decide +kernel)) d_Bus_init_57 H ?_
  clear H
  intro Γ172 φ173 n174 q hZ175 H
  have g176 : Γ172 this = .inr 11 := by
    apply Classical.byContradiction
    intro q9
    rw [if_neg q9] at H
    cases H
  rw [if_pos g176] at H
  refine F_putRF (ci := 11) (k := 2) (v := (some n166)) hZ175.1 (cf_Bus hw) (tb2 hw (i := 232) (by decide +kernel)) (by decide) (by decide) rfl d_Bus_init_60 rfl rfl rfl rfl rfl g176 ?_
  refine J_aload_n d_Bus_init_63 rfl ?_
  refine J_iload d_Bus_init_64 rfl ?_
  refine F_anew (r := (fun _ => .inl none)) (C := "BusCrossbar$Port") hZ175 (jty_at hw rfl) (by decide) (tb1 hw (i := 180) (by decide +kernel)) (tb1 hw (i := 181) (by decide +kernel)) d_Bus_init_66 H ?_
  clear H
  intro Γ177 φ178 n179 q hZ180 H
  have g181 : Γ177 this = .inr 11 := by
    apply Classical.byContradiction
    intro q9
    rw [if_neg q9] at H
    cases H
  rw [if_pos g181] at H
  refine F_putRF (ci := 11) (k := 4) (v := (some n174)) hZ180.1 (cf_Bus hw) (tb2 hw (i := 234) (by decide +kernel)) (by decide) (by decide) rfl d_Bus_init_69 rfl rfl rfl rfl rfl g181 ?_
  refine J_iconst (v := 0) d_Bus_init_72 (by decide) ?_
  refine J_istore d_Bus_init_73 (Nat.le_of_ble_eq_true rfl) ?_
  refine J.ls (ls' := [some (.ref this), some (.int p0), some (.int p1), some (.int p2), some (.int q139.1), some (.int q140.1), some (.ref n), some (.int (0 : Int32))]) rfl ?_
  refine J.drop [true, false, false, false, true, true, true, true] rfl ?_
  exact p_Bus_init_L75 hw  _ hZ180 H
