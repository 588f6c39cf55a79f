/-! THE LAW's LOOP as a function. -/
theorem J_sldx {w : jw_T} {M : jm_T} {pc : Nat} {ls : jl_T} {st : List Value} {h : jh_T} {n : Nat} {xx : Bool} {kc ks : Nat} {Q : jr_T → jh_T → Nat → Bool → Prop} {i : Int32} {L : Nat} {xs : Nat → Int32} (hL : jw_L w = L) (hxs : jw_xs w = xs) (k : Nat) (d : decode (jm_cod M) pc = .ok (.iaload, 1)) (hi : vp_in i L ∧ i.toNatClampNeg = k)
    (kk : J w M (pc + 1) ls (.int (xs k) :: st) h n xx kc ks Q) : J w M pc ls (.int i :: .ref (jw_b w) :: st) h n xx kc ks Q := by
  subst hL
  subst hxs
  exact J_sld k d hi.1 hi.2 kk
def f_Law_law_L2021 (Γ : gm_T) (L : Nat) (xs : Nat → Int32) (Kc53 : ph_T → Nat → Nat → Nat → Int32 → Option (Int32 × ph_T)) (φ : ph_T) (x1 : Nat) (x2 : Nat) (x3 : Nat) (x4 : Int32) : Option (Int32 × ph_T) :=
  Kc53 φ x1 x2 x3 (x4 + (7 : Int32))
set_option maxRecDepth 100000 in
set_option maxHeartbeats 8000000 in
theorem p_Law_law_L2021 {w : jw_T} (hw : jok w) {Γ : gm_T} {n : Nat} (hG : gd w Γ n) {L : Nat} {xs : Nat → Int32} (hL : jw_L w = L) (hxs : jw_xs w = xs) {Kc53 : ph_T → Nat → Nat → Nat → Int32 → Option (Int32 × ph_T)} {kc ks : Nat} (hKc53 : ∀ {x : Bool} {φ : ph_T} {x1 : Nat} {x2 : Nat} {x3 : Nat} {x4 : Int32} {q : Int32 × ph_T}, Kc53 φ x1 x2 x3 x4 = some q → J w M_Law_law 53 [some (.ref (jw_b w)), some (.ref x1), some (.ref x2), some (.ref x3), some (.int x4), none, none, none] [] (pic Γ φ) n x kc ks (fq Γ n (.inl (some (.int q.1))) q.2)) {x : Bool} {φ : ph_T} {x1 : Nat} {x2 : Nat} {x3 : Nat} {x4 : Int32} {q : Int32 × ph_T} (H : f_Law_law_L2021 Γ L xs Kc53 φ x1 x2 x3 x4 = some q) : J w M_Law_law 2021 [some (.ref (jw_b w)), some (.ref x1), some (.ref x2), some (.ref x3), some (.int x4), none, none, none] [] (pic Γ φ) n x kc ks (fq Γ n (.inl (some (.int q.1))) q.2) := by
  unfold f_Law_law_L2021 at H
  refine J_iinc (v := x4 + 7) d_Law_law_2021 rfl (by rw [show Int32.ofInt 7 = (7 : Int32) from by decide]) ?_
  refine J.ls (ls' := [some (.ref (jw_b w)), some (.ref x1), some (.ref x2), some (.ref x3), some (.int (x4 + (7 : Int32))), none, none, none]) rfl ?_
  refine J_goto (tgt := 53) d_Law_law_2024 (by decide) ?_
  refine J.drop [true, true, true, true, true, false, false, false] rfl ?_
  exact hKc53 H
def f_Law_law_L2010 (Γ : gm_T) (L : Nat) (xs : Nat → Int32) (Kc53 : ph_T → Nat → Nat → Nat → Int32 → Option (Int32 × ph_T)) (φ : ph_T) (x1 : Nat) (x2 : Nat) (x3 : Nat) (x4 : Int32) : Option (Int32 × ph_T) :=
  @ite _ (Γ x1 = .inr 11) _ (
  Option.bind (f_Bus_clear Γ φ x1) fun q2 =>
  @ite _ (Γ x2 = .inr 12) _ (
  Option.bind (f_Ref_clear Γ q2.2 x2) fun q4 =>
  f_Law_law_L2021 Γ L xs Kc53 q4.2 x1 x2 x3 x4
  ) none
  ) none
set_option maxRecDepth 100000 in
set_option maxHeartbeats 8000000 in
theorem p_Law_law_L2010 {w : jw_T} (hw : jok w) {Γ : gm_T} {n : Nat} (hG : gd w Γ n) {L : Nat} {xs : Nat → Int32} (hL : jw_L w = L) (hxs : jw_xs w = xs) {Kc53 : ph_T → Nat → Nat → Nat → Int32 → Option (Int32 × ph_T)} {kc ks : Nat} (hKc53 : ∀ {x : Bool} {φ : ph_T} {x1 : Nat} {x2 : Nat} {x3 : Nat} {x4 : Int32} {q : Int32 × ph_T}, Kc53 φ x1 x2 x3 x4 = some q → J w M_Law_law 53 [some (.ref (jw_b w)), some (.ref x1), some (.ref x2), some (.ref x3), some (.int x4), none, none, none] [] (pic Γ φ) n x kc ks (fq Γ n (.inl (some (.int q.1))) q.2)) {x : Bool} {φ : ph_T} {x1 : Nat} {x2 : Nat} {x3 : Nat} {x4 : Int32} {q : Int32 × ph_T} (H : f_Law_law_L2010 Γ L xs Kc53 φ x1 x2 x3 x4 = some q) : J w M_Law_law 2010 [some (.ref (jw_b w)), some (.ref x1), some (.ref x2), some (.ref x3), some (.int x4), none, none, none] [] (pic Γ φ) n x (kc + 1) (ks + 6) (fq Γ n (.inl (some (.int q.1))) q.2) := by
  unfold f_Law_law_L2010 at H
  refine J_aload_n d_Law_law_2010 rfl ?_
  have g1 : Γ x1 = .inr 11 := by
    apply Classical.byContradiction
    intro q9
    rw [if_neg q9] at H
    cases H
  rw [if_pos g1] at H
  obtain ⟨q2, hq2, H⟩ := Option.bind_eq_some_iff.mp H
  refine J.kk (Nat.zero_add _) (Nat.zero_add _) ?_
  refine J_callV (kc := kc + 1) (ks := ks + 6) (kc' := 0) (ks' := 0) (a := x1) (ci := 11) (as := []) (st := []) (mf_Bus_clear hw) (mv_Law_205 hw) d_Law_law_2011 ln_Bus_clear (by decide) (by first | exact Nat.le_of_ble_eq_true rfl | (simp only [List.map_cons, List.map_nil, List.sum_cons, List.sum_nil, va_rf_cat]; exact Nat.le_of_ble_eq_true rfl)) rfl ((hG _).1 _ g1 (by decide)).1 ((hG _).1 _ g1 (by decide)).2 (by unfold pic; rw [g1]; rfl) (jcl_at hw rfl) rfl (p_Bus_clear hw hG hq2) ?_ (fun E h' n' x' e1 => by cases e1.1)
  intro v9 h9 n9 x9 e9
  obtain ⟨e91, e92, e93⟩ := e9
  cases e91
  subst e92
  subst e93
  clear x
  rename Bool => x
  show J _ _ _ _ [] _ _ _ _ _ _
  refine J_aload_n d_Law_law_2014 rfl ?_
  have g3 : Γ x2 = .inr 12 := by
    apply Classical.byContradiction
    intro q9
    rw [if_neg q9] at H
    cases H
  rw [if_pos g3] at H
  obtain ⟨q4, hq4, H⟩ := Option.bind_eq_some_iff.mp H
  refine J.kk (Nat.zero_add _) (Nat.zero_add _) ?_
  refine J_callV (kc := kc + 1) (ks := ks + 6) (kc' := 0) (ks' := 0) (a := x2) (ci := 12) (as := []) (st := []) (mf_Ref_clear hw) (mv_Law_208 hw) d_Law_law_2015 ln_Ref_clear (by decide) (by first | exact Nat.le_of_ble_eq_true rfl | (simp only [List.map_cons, List.map_nil, List.sum_cons, List.sum_nil, va_rf_cat]; exact Nat.le_of_ble_eq_true rfl)) rfl ((hG _).1 _ g3 (by decide)).1 ((hG _).1 _ g3 (by decide)).2 (by unfold pic; rw [g3]; rfl) (jcl_at hw rfl) rfl (p_Ref_clear hw hG hq4) ?_ (fun E h' n' x' e1 => by cases e1.1)
  intro v9 h9 n9 x9 e9
  obtain ⟨e91, e92, e93⟩ := e9
  cases e91
  subst e92
  subst e93
  clear x
  rename Bool => x
  show J _ _ _ _ [] _ _ _ _ _ _
  refine J_goto (tgt := 2021) d_Law_law_2018 (by decide) ?_
  refine J.more (kc := kc) (ks := ks) (by omega) (by omega) ?_
  refine J.drop [true, true, true, true, true, false, false, false] rfl ?_
  exact p_Law_law_L2021 hw hG hL hxs (kc := kc) (ks := ks) hKc53 H
def f_Law_law_L1974 (Γ : gm_T) (L : Nat) (xs : Nat → Int32) (Kc53 : ph_T → Nat → Nat → Nat → Int32 → Option (Int32 × ph_T)) (φ : ph_T) (x1 : Nat) (x2 : Nat) (x3 : Nat) (x4 : Int32) : Option (Int32 × ph_T) :=
  Option.bind (ix (x4 + (1 : Int32)) L) fun k5 =>
  Option.bind (f_Law_again Γ φ (some x1) (xs k5)) fun q6 =>
  Option.bind (ix (x4 + (1 : Int32)) L) fun k7 =>
  @ite _ (Γ x2 = .inr 12) _ (
  Option.bind (f_Ref_again Γ q6.2 x2 (xs k7)) fun q9 =>
  Option.bind (f_Ref_thrown Γ q9.2 x2) fun q10 =>
  if q10.1 = q6.1 then
    f_Law_law_L2021 Γ L xs Kc53 q10.2 x1 x2 x3 x4
  else
    @ite _ ((0 : Int32) = 0 ∨ (0 : Int32) = 1) _ (
    some ((0 : Int32), q10.2)
    ) none
  ) none
set_option maxRecDepth 100000 in
set_option maxHeartbeats 8000000 in
theorem p_Law_law_L1974 {w : jw_T} (hw : jok w) {Γ : gm_T} {n : Nat} (hG : gd w Γ n) {L : Nat} {xs : Nat → Int32} (hL : jw_L w = L) (hxs : jw_xs w = xs) {Kc53 : ph_T → Nat → Nat → Nat → Int32 → Option (Int32 × ph_T)} {kc ks : Nat} (hKc53 : ∀ {x : Bool} {φ : ph_T} {x1 : Nat} {x2 : Nat} {x3 : Nat} {x4 : Int32} {q : Int32 × ph_T}, Kc53 φ x1 x2 x3 x4 = some q → J w M_Law_law 53 [some (.ref (jw_b w)), some (.ref x1), some (.ref x2), some (.ref x3), some (.int x4), none, none, none] [] (pic Γ φ) n x kc ks (fq Γ n (.inl (some (.int q.1))) q.2)) {x : Bool} {φ : ph_T} {x1 : Nat} {x2 : Nat} {x3 : Nat} {x4 : Int32} {q : Int32 × ph_T} (H : f_Law_law_L1974 Γ L xs Kc53 φ x1 x2 x3 x4 = some q) : J w M_Law_law 1974 [some (.ref (jw_b w)), some (.ref x1), some (.ref x2), some (.ref x3), some (.int x4), none, none, none] [] (pic Γ φ) n x (kc + 1) (ks + 6) (fq Γ n (.inl (some (.int q.1))) q.2) := by
  unfold f_Law_law_L1974 at H
  refine J_aload_n d_Law_law_1974 rfl ?_
  refine J_aload_n d_Law_law_1975 rfl ?_
  refine J_iload d_Law_law_1976 rfl ?_
  refine J_iconst (v := 1) d_Law_law_1978 (by decide) ?_
  refine J_iadd d_Law_law_1979 ?_
  obtain ⟨k5, hk5, H⟩ := Option.bind_eq_some_iff.mp H
  refine J_sldx hL hxs k5 d_Law_law_1980 (ix_some hk5) ?_
  obtain ⟨q6, hq6, H⟩ := Option.bind_eq_some_iff.mp H
  refine J.kk (Nat.add_comm _ _) (Nat.add_comm _ _) ?_
  refine J_callS (kc := kc) (ks := ks) (kc' := 1) (ks' := 6) (as := [.ref x1, .int (xs k5)]) (st := []) (mf_Law_again hw) (ms_Law_201 hw) d_Law_law_1981 ln_Law_again (by decide) (by first | exact Nat.le_of_ble_eq_true rfl | (simp only [List.map_cons, List.map_nil, List.sum_cons, List.sum_nil, va_rf_cat]; exact Nat.le_of_ble_eq_true rfl)) rfl (p_Law_again hw hG hq6) ?_ (fun E h' n' x' e1 => by cases e1.1)
  intro v9 h9 n9 x9 e9
  obtain ⟨e91, e92, e93⟩ := e9
  cases e91
  subst e92
  subst e93
  clear x
  rename Bool => x
  show J _ _ _ _ (_ :: _) _ _ _ _ _ _
  refine J_istore d_Law_law_1984 (Nat.le_of_ble_eq_true rfl) ?_
  refine J.ls (ls' := [some (.ref (jw_b w)), some (.ref x1), some (.ref x2), some (.ref x3), some (.int x4), some (.int q6.1), none, none]) rfl ?_
  refine J_aload_n d_Law_law_1986 rfl ?_
  refine J_aload_n d_Law_law_1987 rfl ?_
  refine J_iload d_Law_law_1988 rfl ?_
  refine J_iconst (v := 1) d_Law_law_1990 (by decide) ?_
  refine J_iadd d_Law_law_1991 ?_
  obtain ⟨k7, hk7, H⟩ := Option.bind_eq_some_iff.mp H
  refine J_sldx hL hxs k7 d_Law_law_1992 (ix_some hk7) ?_
  have g8 : Γ x2 = .inr 12 := by
    apply Classical.byContradiction
    intro q9
    rw [if_neg q9] at H
    cases H
  rw [if_pos g8] at H
  obtain ⟨q9, hq9, H⟩ := Option.bind_eq_some_iff.mp H
  refine J.kk (Nat.zero_add _) (Nat.zero_add _) ?_
  refine J_callV (kc := kc) (ks := ks) (kc' := 0) (ks' := 0) (a := x2) (ci := 12) (as := [.int (xs k7)]) (st := []) (mf_Ref_again hw) (mv_Law_204 hw) d_Law_law_1993 ln_Ref_again (by decide) (by first | exact Nat.le_of_ble_eq_true rfl | (simp only [List.map_cons, List.map_nil, List.sum_cons, List.sum_nil, va_rf_cat]; exact Nat.le_of_ble_eq_true rfl)) rfl ((hG _).1 _ g8 (by decide)).1 ((hG _).1 _ g8 (by decide)).2 (by unfold pic; rw [g8]; rfl) (jcl_at hw rfl) rfl (p_Ref_again hw hG hq9) ?_ (fun E h' n' x' e1 => by cases e1.1)
  intro v9 h9 n9 x9 e9
  obtain ⟨e91, e92, e93⟩ := e9
  cases e91
  subst e92
  subst e93
  clear x
  rename Bool => x
  show J _ _ _ _ [] _ _ _ _ _ _
  refine J_aload_n d_Law_law_1996 rfl ?_
  obtain ⟨q10, hq10, H⟩ := Option.bind_eq_some_iff.mp H
  refine J.kk (Nat.zero_add _) (Nat.zero_add _) ?_
  refine J_callV (kc := kc) (ks := ks) (kc' := 0) (ks' := 0) (a := x2) (ci := 12) (as := []) (st := []) (mf_Ref_thrown hw) (mv_Law_118 hw) d_Law_law_1997 ln_Ref_thrown (by decide) (by first | exact Nat.le_of_ble_eq_true rfl | (simp only [List.map_cons, List.map_nil, List.sum_cons, List.sum_nil, va_rf_cat]; exact Nat.le_of_ble_eq_true rfl)) rfl ((hG _).1 _ g8 (by decide)).1 ((hG _).1 _ g8 (by decide)).2 (by unfold pic; rw [g8]; rfl) (jcl_at hw rfl) rfl (p_Ref_thrown hw hG hq10) ?_ (fun E h' n' x' e1 => by cases e1.1)
  intro v9 h9 n9 x9 e9
  obtain ⟨e91, e92, e93⟩ := e9
  cases e91
  subst e92
  subst e93
  clear x
  rename Bool => x
  show J _ _ _ _ (_ :: _) _ _ _ _ _ _
  refine J_iload d_Law_law_2000 rfl ?_
  refine J_icmp_eq (tgt := 2007) d_Law_law_2002 (by decide) ?_ ?_
  · intro c12
    rw [if_pos c12] at H
    refine J_goto (tgt := 2021) d_Law_law_2007 (by decide) ?_
    refine J.drop [true, true, true, true, true, false, false, false] rfl ?_
    exact p_Law_law_L2021 hw hG hL hxs (kc := kc) (ks := ks) hKc53 H
  · intro c12
    rw [if_neg c12] at H
    refine J_iconst (v := 0) d_Law_law_2005 (by decide) ?_
    have z11 : (0 : Int32) = 0 ∨ (0 : Int32) = 1 := by
      apply Classical.byContradiction
      intro q9
      rw [if_neg q9] at H
      cases H
    rw [if_pos z11] at H
    have H := Option.some.inj H
    subst H
    exact J_iret (st := []) d_Law_law_2006 rfl (narrow_z z11).1 ⟨rfl, rfl, rfl⟩
def f_Law_law_L1971 (Γ : gm_T) (L : Nat) (xs : Nat → Int32) (Kc53 : ph_T → Nat → Nat → Nat → Int32 → Option (Int32 × ph_T)) (φ : ph_T) (x1 : Nat) (x2 : Nat) (x3 : Nat) (x4 : Int32) : Option (Int32 × ph_T) :=
  f_Law_law_L2021 Γ L xs Kc53 φ x1 x2 x3 x4
set_option maxRecDepth 100000 in
set_option maxHeartbeats 8000000 in
theorem p_Law_law_L1971 {w : jw_T} (hw : jok w) {Γ : gm_T} {n : Nat} (hG : gd w Γ n) {L : Nat} {xs : Nat → Int32} (hL : jw_L w = L) (hxs : jw_xs w = xs) {Kc53 : ph_T → Nat → Nat → Nat → Int32 → Option (Int32 × ph_T)} {kc ks : Nat} (hKc53 : ∀ {x : Bool} {φ : ph_T} {x1 : Nat} {x2 : Nat} {x3 : Nat} {x4 : Int32} {q : Int32 × ph_T}, Kc53 φ x1 x2 x3 x4 = some q → J w M_Law_law 53 [some (.ref (jw_b w)), some (.ref x1), some (.ref x2), some (.ref x3), some (.int x4), none, none, none] [] (pic Γ φ) n x kc ks (fq Γ n (.inl (some (.int q.1))) q.2)) {x : Bool} {φ : ph_T} {x1 : Nat} {x2 : Nat} {x3 : Nat} {x4 : Int32} {q : Int32 × ph_T} (H : f_Law_law_L1971 Γ L xs Kc53 φ x1 x2 x3 x4 = some q) : J w M_Law_law 1971 [some (.ref (jw_b w)), some (.ref x1), some (.ref x2), some (.ref x3), some (.int x4), none, none, none] [] (pic Γ φ) n x kc ks (fq Γ n (.inl (some (.int q.1))) q.2) := by
  unfold f_Law_law_L1971 at H
  refine J_goto (tgt := 2021) d_Law_law_1971 (by decide) ?_
  refine J.drop [true, true, true, true, true, false, false, false] rfl ?_
  exact p_Law_law_L2021 hw hG hL hxs (kc := kc) (ks := ks) hKc53 H
def f_Law_law_L1906 (Γ : gm_T) (L : Nat) (xs : Nat → Int32) (Kc53 : ph_T → Nat → Nat → Nat → Int32 → Option (Int32 × ph_T)) (φ : ph_T) (x1 : Nat) (x2 : Nat) (x3 : Nat) (x4 : Int32) : Option (Int32 × ph_T) :=
  Option.bind (ix (x4 + (1 : Int32)) L) fun k13 =>
  Option.bind (ix (x4 + (2 : Int32)) L) fun k14 =>
  Option.bind (f_Law_watched Γ φ (some x1) (xs k13) (xs k14) (some x3)) fun q15 =>
  Option.bind (ix (x4 + (1 : Int32)) L) fun k16 =>
  Option.bind (ix (x4 + (2 : Int32)) L) fun k17 =>
  @ite _ (Γ x2 = .inr 12) _ (
  Option.bind (f_Ref_watched Γ q15.2 x2 (xs k16) (xs k17)) fun q19 =>
  Option.bind (f_Ref_thrown Γ q19.2 x2) fun q20 =>
  if q20.1 = q15.1 then
    if q15.1 = 0 then
      Option.bind (gA Γ x3 1) fun N21 =>
      Option.bind (ix (0 : Int32) N21) fun k22 =>
      if (lg_cmp (q20.2.2.1 x3 k22) (Int32.toInt64 q19.1)) = 0 then
        f_Law_law_L1971 Γ L xs Kc53 q20.2 x1 x2 x3 x4
      else
        @ite _ ((0 : Int32) = 0 ∨ (0 : Int32) = 1) _ (
        some ((0 : Int32), q20.2)
        ) none
    else
      f_Law_law_L1971 Γ L xs Kc53 q20.2 x1 x2 x3 x4
  else
    @ite _ ((0 : Int32) = 0 ∨ (0 : Int32) = 1) _ (
    some ((0 : Int32), q20.2)
    ) none
  ) none
set_option maxRecDepth 100000 in
set_option maxHeartbeats 8000000 in
theorem p_Law_law_L1906 {w : jw_T} (hw : jok w) {Γ : gm_T} {n : Nat} (hG : gd w Γ n) {L : Nat} {xs : Nat → Int32} (hL : jw_L w = L) (hxs : jw_xs w = xs) {Kc53 : ph_T → Nat → Nat → Nat → Int32 → Option (Int32 × ph_T)} {kc ks : Nat} (hKc53 : ∀ {x : Bool} {φ : ph_T} {x1 : Nat} {x2 : Nat} {x3 : Nat} {x4 : Int32} {q : Int32 × ph_T}, Kc53 φ x1 x2 x3 x4 = some q → J w M_Law_law 53 [some (.ref (jw_b w)), some (.ref x1), some (.ref x2), some (.ref x3), some (.int x4), none, none, none] [] (pic Γ φ) n x kc ks (fq Γ n (.inl (some (.int q.1))) q.2)) {x : Bool} {φ : ph_T} {x1 : Nat} {x2 : Nat} {x3 : Nat} {x4 : Int32} {q : Int32 × ph_T} (H : f_Law_law_L1906 Γ L xs Kc53 φ x1 x2 x3 x4 = some q) : J w M_Law_law 1906 [some (.ref (jw_b w)), some (.ref x1), some (.ref x2), some (.ref x3), some (.int x4), none, none, none] [] (pic Γ φ) n x (kc + 1) (ks + 6) (fq Γ n (.inl (some (.int q.1))) q.2) := by
  unfold f_Law_law_L1906 at H
  refine J_aload_n d_Law_law_1906 rfl ?_
  refine J_aload_n d_Law_law_1907 rfl ?_
  refine J_iload d_Law_law_1908 rfl ?_
  refine J_iconst (v := 1) d_Law_law_1910 (by decide) ?_
  refine J_iadd d_Law_law_1911 ?_
  obtain ⟨k13, hk13, H⟩ := Option.bind_eq_some_iff.mp H
  refine J_sldx hL hxs k13 d_Law_law_1912 (ix_some hk13) ?_
  refine J_aload_n d_Law_law_1913 rfl ?_
  refine J_iload d_Law_law_1914 rfl ?_
  refine J_iconst (v := 2) d_Law_law_1916 (by decide) ?_
  refine J_iadd d_Law_law_1917 ?_
  obtain ⟨k14, hk14, H⟩ := Option.bind_eq_some_iff.mp H
  refine J_sldx hL hxs k14 d_Law_law_1918 (ix_some hk14) ?_
  refine J_aload_n d_Law_law_1919 rfl ?_
  obtain ⟨q15, hq15, H⟩ := Option.bind_eq_some_iff.mp H
  refine J.kk (Nat.add_comm _ _) (Nat.add_comm _ _) ?_
  refine J_callS (kc := kc) (ks := ks) (kc' := 1) (ks' := 6) (as := [.ref x1, .int (xs k13), .int (xs k14), .ref x3]) (st := []) (mf_Law_watched hw) (ms_Law_198 hw) d_Law_law_1920 ln_Law_watched (by decide) (by first | exact Nat.le_of_ble_eq_true rfl | (simp only [List.map_cons, List.map_nil, List.sum_cons, List.sum_nil, va_rf_cat]; exact Nat.le_of_ble_eq_true rfl)) rfl (p_Law_watched hw hG hq15) ?_ (fun E h' n' x' e1 => by cases e1.1)
  intro v9 h9 n9 x9 e9
  obtain ⟨e91, e92, e93⟩ := e9
  cases e91
  subst e92
  subst e93
  clear x
  rename Bool => x
  show J _ _ _ _ (_ :: _) _ _ _ _ _ _
  refine J_istore d_Law_law_1923 (Nat.le_of_ble_eq_true rfl) ?_
  refine J.ls (ls' := [some (.ref (jw_b w)), some (.ref x1), some (.ref x2), some (.ref x3), some (.int x4), some (.int q15.1), none, none]) rfl ?_
  refine J_aload_n d_Law_law_1925 rfl ?_
  refine J_aload_n d_Law_law_1926 rfl ?_
  refine J_iload d_Law_law_1927 rfl ?_
  refine J_iconst (v := 1) d_Law_law_1929 (by decide) ?_
  refine J_iadd d_Law_law_1930 ?_
  obtain ⟨k16, hk16, H⟩ := Option.bind_eq_some_iff.mp H
  refine J_sldx hL hxs k16 d_Law_law_1931 (ix_some hk16) ?_
  refine J_aload_n d_Law_law_1932 rfl ?_
  refine J_iload d_Law_law_1933 rfl ?_
  refine J_iconst (v := 2) d_Law_law_1935 (by decide) ?_
  refine J_iadd d_Law_law_1936 ?_
  obtain ⟨k17, hk17, H⟩ := Option.bind_eq_some_iff.mp H
  refine J_sldx hL hxs k17 d_Law_law_1937 (ix_some hk17) ?_
  have g18 : Γ x2 = .inr 12 := by
    apply Classical.byContradiction
    intro q9
    rw [if_neg q9] at H
    cases H
  rw [if_pos g18] at H
  obtain ⟨q19, hq19, H⟩ := Option.bind_eq_some_iff.mp H
  refine J.kk (Nat.zero_add _) (Nat.zero_add _) ?_
  refine J_callV (kc := kc) (ks := ks) (kc' := 0) (ks' := 0) (a := x2) (ci := 12) (as := [.int (xs k16), .int (xs k17)]) (st := []) (mf_Ref_watched hw) (mv_Law_200 hw) d_Law_law_1938 ln_Ref_watched (by decide) (by first | exact Nat.le_of_ble_eq_true rfl | (simp only [List.map_cons, List.map_nil, List.sum_cons, List.sum_nil, va_rf_cat]; exact Nat.le_of_ble_eq_true rfl)) rfl ((hG _).1 _ g18 (by decide)).1 ((hG _).1 _ g18 (by decide)).2 (by unfold pic; rw [g18]; rfl) (jcl_at hw rfl) rfl (p_Ref_watched hw hG hq19) ?_ (fun E h' n' x' e1 => by cases e1.1)
  intro v9 h9 n9 x9 e9
  obtain ⟨e91, e92, e93⟩ := e9
  cases e91
  subst e92
  subst e93
  clear x
  rename Bool => x
  show J _ _ _ _ (_ :: _) _ _ _ _ _ _
  refine J_istore d_Law_law_1941 (Nat.le_of_ble_eq_true rfl) ?_
  refine J.ls (ls' := [some (.ref (jw_b w)), some (.ref x1), some (.ref x2), some (.ref x3), some (.int x4), some (.int q15.1), some (.int q19.1), none]) rfl ?_
  refine J_aload_n d_Law_law_1943 rfl ?_
  obtain ⟨q20, hq20, H⟩ := Option.bind_eq_some_iff.mp H
  refine J.kk (Nat.zero_add _) (Nat.zero_add _) ?_
  refine J_callV (kc := kc) (ks := ks) (kc' := 0) (ks' := 0) (a := x2) (ci := 12) (as := []) (st := []) (mf_Ref_thrown hw) (mv_Law_118 hw) d_Law_law_1944 ln_Ref_thrown (by decide) (by first | exact Nat.le_of_ble_eq_true rfl | (simp only [List.map_cons, List.map_nil, List.sum_cons, List.sum_nil, va_rf_cat]; exact Nat.le_of_ble_eq_true rfl)) rfl ((hG _).1 _ g18 (by decide)).1 ((hG _).1 _ g18 (by decide)).2 (by unfold pic; rw [g18]; rfl) (jcl_at hw rfl) rfl (p_Ref_thrown hw hG hq20) ?_ (fun E h' n' x' e1 => by cases e1.1)
  intro v9 h9 n9 x9 e9
  obtain ⟨e91, e92, e93⟩ := e9
  cases e91
  subst e92
  subst e93
  clear x
  rename Bool => x
  show J _ _ _ _ (_ :: _) _ _ _ _ _ _
  refine J_iload d_Law_law_1947 rfl ?_
  refine J_icmp_eq (tgt := 1954) d_Law_law_1949 (by decide) ?_ ?_
  · intro c27
    rw [if_pos c27] at H
    refine J_iload d_Law_law_1954 rfl ?_
    refine J_if_ne (tgt := 1971) d_Law_law_1956 (by decide) ?_ ?_
    · intro c25
      rw [if_neg c25] at H
      refine J.drop [true, true, true, true, true, false, false, false] rfl ?_
      exact p_Law_law_L1971 hw hG hL hxs (kc := kc) (ks := ks) hKc53 H
    · intro c25
      rw [if_pos c25] at H
      refine J_aload_n d_Law_law_1959 rfl ?_
      refine J_iconst (v := 0) d_Law_law_1960 (by decide) ?_
      obtain ⟨N21, hN21, H⟩ := Option.bind_eq_some_iff.mp H
      obtain ⟨k22, hk22, H⟩ := Option.bind_eq_some_iff.mp H
      refine F_lald k22 hw hG d_Law_law_1961 (gA_some hN21) (ix_some hk22) ?_
      refine J_iload d_Law_law_1962 rfl ?_
      refine J_i2l d_Law_law_1964 ?_
      refine J_lcmp d_Law_law_1965 ?_
      refine J_if_eq (tgt := 1971) d_Law_law_1966 (by decide) ?_ ?_
      · intro c24
        rw [if_pos c24] at H
        refine J.drop [true, true, true, true, true, false, false, false] rfl ?_
        exact p_Law_law_L1971 hw hG hL hxs (kc := kc) (ks := ks) hKc53 H
      · intro c24
        rw [if_neg c24] at H
        refine J_iconst (v := 0) d_Law_law_1969 (by decide) ?_
        have z23 : (0 : Int32) = 0 ∨ (0 : Int32) = 1 := by
          apply Classical.byContradiction
          intro q9
          rw [if_neg q9] at H
          cases H
        rw [if_pos z23] at H
        have H := Option.some.inj H
        subst H
        exact J_iret (st := []) d_Law_law_1970 rfl (narrow_z z23).1 ⟨rfl, rfl, rfl⟩
  · intro c27
    rw [if_neg c27] at H
    refine J_iconst (v := 0) d_Law_law_1952 (by decide) ?_
    have z26 : (0 : Int32) = 0 ∨ (0 : Int32) = 1 := by
      apply Classical.byContradiction
      intro q9
      rw [if_neg q9] at H
      cases H
    rw [if_pos z26] at H
    have H := Option.some.inj H
    subst H
    exact J_iret (st := []) d_Law_law_1953 rfl (narrow_z z26).1 ⟨rfl, rfl, rfl⟩
def f_Law_law_L1903 (Γ : gm_T) (L : Nat) (xs : Nat → Int32) (Kc53 : ph_T → Nat → Nat → Nat → Int32 → Option (Int32 × ph_T)) (φ : ph_T) (x1 : Nat) (x2 : Nat) (x3 : Nat) (x4 : Int32) : Option (Int32 × ph_T) :=
  f_Law_law_L2021 Γ L xs Kc53 φ x1 x2 x3 x4
set_option maxRecDepth 100000 in
set_option maxHeartbeats 8000000 in
theorem p_Law_law_L1903 {w : jw_T} (hw : jok w) {Γ : gm_T} {n : Nat} (hG : gd w Γ n) {L : Nat} {xs : Nat → Int32} (hL : jw_L w = L) (hxs : jw_xs w = xs) {Kc53 : ph_T → Nat → Nat → Nat → Int32 → Option (Int32 × ph_T)} {kc ks : Nat} (hKc53 : ∀ {x : Bool} {φ : ph_T} {x1 : Nat} {x2 : Nat} {x3 : Nat} {x4 : Int32} {q : Int32 × ph_T}, Kc53 φ x1 x2 x3 x4 = some q → J w M_Law_law 53 [some (.ref (jw_b w)), some (.ref x1), some (.ref x2), some (.ref x3), some (.int x4), none, none, none] [] (pic Γ φ) n x kc ks (fq Γ n (.inl (some (.int q.1))) q.2)) {x : Bool} {φ : ph_T} {x1 : Nat} {x2 : Nat} {x3 : Nat} {x4 : Int32} {q : Int32 × ph_T} (H : f_Law_law_L1903 Γ L xs Kc53 φ x1 x2 x3 x4 = some q) : J w M_Law_law 1903 [some (.ref (jw_b w)), some (.ref x1), some (.ref x2), some (.ref x3), some (.int x4), none, none, none] [] (pic Γ φ) n x kc ks (fq Γ n (.inl (some (.int q.1))) q.2) := by
  unfold f_Law_law_L1903 at H
  refine J_goto (tgt := 2021) d_Law_law_1903 (by decide) ?_
  refine J.drop [true, true, true, true, true, false, false, false] rfl ?_
  exact p_Law_law_L2021 hw hG hL hxs (kc := kc) (ks := ks) hKc53 H
def f_Law_law_L1850 (Γ : gm_T) (L : Nat) (xs : Nat → Int32) (Kc53 : ph_T → Nat → Nat → Nat → Int32 → Option (Int32 × ph_T)) (φ : ph_T) (x1 : Nat) (x2 : Nat) (x3 : Nat) (x4 : Int32) : Option (Int32 × ph_T) :=
  Option.bind (ix (x4 + (1 : Int32)) L) fun k28 =>
  Option.bind (f_Law_judge Γ φ (some x1) (xs k28) (some x3)) fun q29 =>
  Option.bind (ix (x4 + (1 : Int32)) L) fun k30 =>
  @ite _ (Γ x2 = .inr 12) _ (
  Option.bind (f_Ref_judge Γ q29.2 x2 (xs k30)) fun q32 =>
  Option.bind (f_Ref_thrown Γ q32.2 x2) fun q33 =>
  if q33.1 = q29.1 then
    if q29.1 = 0 then
      Option.bind (gA Γ x3 1) fun N34 =>
      Option.bind (ix (0 : Int32) N34) fun k35 =>
      if (lg_cmp (q33.2.2.1 x3 k35) (Int32.toInt64 q32.1)) = 0 then
        f_Law_law_L1903 Γ L xs Kc53 q33.2 x1 x2 x3 x4
      else
        @ite _ ((0 : Int32) = 0 ∨ (0 : Int32) = 1) _ (
        some ((0 : Int32), q33.2)
        ) none
    else
      f_Law_law_L1903 Γ L xs Kc53 q33.2 x1 x2 x3 x4
  else
    @ite _ ((0 : Int32) = 0 ∨ (0 : Int32) = 1) _ (
    some ((0 : Int32), q33.2)
    ) none
  ) none
set_option maxRecDepth 100000 in
set_option maxHeartbeats 8000000 in
theorem p_Law_law_L1850 {w : jw_T} (hw : jok w) {Γ : gm_T} {n : Nat} (hG : gd w Γ n) {L : Nat} {xs : Nat → Int32} (hL : jw_L w = L) (hxs : jw_xs w = xs) {Kc53 : ph_T → Nat → Nat → Nat → Int32 → Option (Int32 × ph_T)} {kc ks : Nat} (hKc53 : ∀ {x : Bool} {φ : ph_T} {x1 : Nat} {x2 : Nat} {x3 : Nat} {x4 : Int32} {q : Int32 × ph_T}, Kc53 φ x1 x2 x3 x4 = some q → J w M_Law_law 53 [some (.ref (jw_b w)), some (.ref x1), some (.ref x2), some (.ref x3), some (.int x4), none, none, none] [] (pic Γ φ) n x kc ks (fq Γ n (.inl (some (.int q.1))) q.2)) {x : Bool} {φ : ph_T} {x1 : Nat} {x2 : Nat} {x3 : Nat} {x4 : Int32} {q : Int32 × ph_T} (H : f_Law_law_L1850 Γ L xs Kc53 φ x1 x2 x3 x4 = some q) : J w M_Law_law 1850 [some (.ref (jw_b w)), some (.ref x1), some (.ref x2), some (.ref x3), some (.int x4), none, none, none] [] (pic Γ φ) n x (kc + 1) (ks + 6) (fq Γ n (.inl (some (.int q.1))) q.2) := by
  unfold f_Law_law_L1850 at H
  refine J_aload_n d_Law_law_1850 rfl ?_
  refine J_aload_n d_Law_law_1851 rfl ?_
  refine J_iload d_Law_law_1852 rfl ?_
  refine J_iconst (v := 1) d_Law_law_1854 (by decide) ?_
  refine J_iadd d_Law_law_1855 ?_
  obtain ⟨k28, hk28, H⟩ := Option.bind_eq_some_iff.mp H
  refine J_sldx hL hxs k28 d_Law_law_1856 (ix_some hk28) ?_
  refine J_aload_n d_Law_law_1857 rfl ?_
  obtain ⟨q29, hq29, H⟩ := Option.bind_eq_some_iff.mp H
  refine J.kk (Nat.add_comm _ _) (Nat.add_comm _ _) ?_
  refine J_callS (kc := kc) (ks := ks) (kc' := 1) (ks' := 6) (as := [.ref x1, .int (xs k28), .ref x3]) (st := []) (mf_Law_judge hw) (ms_Law_195 hw) d_Law_law_1858 ln_Law_judge (by decide) (by first | exact Nat.le_of_ble_eq_true rfl | (simp only [List.map_cons, List.map_nil, List.sum_cons, List.sum_nil, va_rf_cat]; exact Nat.le_of_ble_eq_true rfl)) rfl (p_Law_judge hw hG hq29) ?_ (fun E h' n' x' e1 => by cases e1.1)
  intro v9 h9 n9 x9 e9
  obtain ⟨e91, e92, e93⟩ := e9
  cases e91
  subst e92
  subst e93
  clear x
  rename Bool => x
  show J _ _ _ _ (_ :: _) _ _ _ _ _ _
  refine J_istore d_Law_law_1861 (Nat.le_of_ble_eq_true rfl) ?_
  refine J.ls (ls' := [some (.ref (jw_b w)), some (.ref x1), some (.ref x2), some (.ref x3), some (.int x4), some (.int q29.1), none, none]) rfl ?_
  refine J_aload_n d_Law_law_1863 rfl ?_
  refine J_aload_n d_Law_law_1864 rfl ?_
  refine J_iload d_Law_law_1865 rfl ?_
  refine J_iconst (v := 1) d_Law_law_1867 (by decide) ?_
  refine J_iadd d_Law_law_1868 ?_
  obtain ⟨k30, hk30, H⟩ := Option.bind_eq_some_iff.mp H
  refine J_sldx hL hxs k30 d_Law_law_1869 (ix_some hk30) ?_
  have g31 : Γ x2 = .inr 12 := by
    apply Classical.byContradiction
    intro q9
    rw [if_neg q9] at H
    cases H
  rw [if_pos g31] at H
  obtain ⟨q32, hq32, H⟩ := Option.bind_eq_some_iff.mp H
  refine J.kk (Nat.zero_add _) (Nat.zero_add _) ?_
  refine J_callV (kc := kc) (ks := ks) (kc' := 0) (ks' := 0) (a := x2) (ci := 12) (as := [.int (xs k30)]) (st := []) (mf_Ref_judge hw) (mv_Law_197 hw) d_Law_law_1870 ln_Ref_judge (by decide) (by first | exact Nat.le_of_ble_eq_true rfl | (simp only [List.map_cons, List.map_nil, List.sum_cons, List.sum_nil, va_rf_cat]; exact Nat.le_of_ble_eq_true rfl)) rfl ((hG _).1 _ g31 (by decide)).1 ((hG _).1 _ g31 (by decide)).2 (by unfold pic; rw [g31]; rfl) (jcl_at hw rfl) rfl (p_Ref_judge hw hG hq32) ?_ (fun E h' n' x' e1 => by cases e1.1)
  intro v9 h9 n9 x9 e9
  obtain ⟨e91, e92, e93⟩ := e9
  cases e91
  subst e92
  subst e93
  clear x
  rename Bool => x
  show J _ _ _ _ (_ :: _) _ _ _ _ _ _
  refine J_istore d_Law_law_1873 (Nat.le_of_ble_eq_true rfl) ?_
  refine J.ls (ls' := [some (.ref (jw_b w)), some (.ref x1), some (.ref x2), some (.ref x3), some (.int x4), some (.int q29.1), some (.int q32.1), none]) rfl ?_
  refine J_aload_n d_Law_law_1875 rfl ?_
  obtain ⟨q33, hq33, H⟩ := Option.bind_eq_some_iff.mp H
  refine J.kk (Nat.zero_add _) (Nat.zero_add _) ?_
  refine J_callV (kc := kc) (ks := ks) (kc' := 0) (ks' := 0) (a := x2) (ci := 12) (as := []) (st := []) (mf_Ref_thrown hw) (mv_Law_118 hw) d_Law_law_1876 ln_Ref_thrown (by decide) (by first | exact Nat.le_of_ble_eq_true rfl | (simp only [List.map_cons, List.map_nil, List.sum_cons, List.sum_nil, va_rf_cat]; exact Nat.le_of_ble_eq_true rfl)) rfl ((hG _).1 _ g31 (by decide)).1 ((hG _).1 _ g31 (by decide)).2 (by unfold pic; rw [g31]; rfl) (jcl_at hw rfl) rfl (p_Ref_thrown hw hG hq33) ?_ (fun E h' n' x' e1 => by cases e1.1)
  intro v9 h9 n9 x9 e9
  obtain ⟨e91, e92, e93⟩ := e9
  cases e91
  subst e92
  subst e93
  clear x
  rename Bool => x
  show J _ _ _ _ (_ :: _) _ _ _ _ _ _
  refine J_iload d_Law_law_1879 rfl ?_
  refine J_icmp_eq (tgt := 1886) d_Law_law_1881 (by decide) ?_ ?_
  · intro c40
    rw [if_pos c40] at H
    refine J_iload d_Law_law_1886 rfl ?_
    refine J_if_ne (tgt := 1903) d_Law_law_1888 (by decide) ?_ ?_
    · intro c38
      rw [if_neg c38] at H
      refine J.drop [true, true, true, true, true, false, false, false] rfl ?_
      exact p_Law_law_L1903 hw hG hL hxs (kc := kc) (ks := ks) hKc53 H
    · intro c38
      rw [if_pos c38] at H
      refine J_aload_n d_Law_law_1891 rfl ?_
      refine J_iconst (v := 0) d_Law_law_1892 (by decide) ?_
      obtain ⟨N34, hN34, H⟩ := Option.bind_eq_some_iff.mp H
      obtain ⟨k35, hk35, H⟩ := Option.bind_eq_some_iff.mp H
      refine F_lald k35 hw hG d_Law_law_1893 (gA_some hN34) (ix_some hk35) ?_
      refine J_iload d_Law_law_1894 rfl ?_
      refine J_i2l d_Law_law_1896 ?_
      refine J_lcmp d_Law_law_1897 ?_
      refine J_if_eq (tgt := 1903) d_Law_law_1898 (by decide) ?_ ?_
      · intro c37
        rw [if_pos c37] at H
        refine J.drop [true, true, true, true, true, false, false, false] rfl ?_
        exact p_Law_law_L1903 hw hG hL hxs (kc := kc) (ks := ks) hKc53 H
      · intro c37
        rw [if_neg c37] at H
        refine J_iconst (v := 0) d_Law_law_1901 (by decide) ?_
        have z36 : (0 : Int32) = 0 ∨ (0 : Int32) = 1 := by
          apply Classical.byContradiction
          intro q9
          rw [if_neg q9] at H
          cases H
        rw [if_pos z36] at H
        have H := Option.some.inj H
        subst H
        exact J_iret (st := []) d_Law_law_1902 rfl (narrow_z z36).1 ⟨rfl, rfl, rfl⟩
  · intro c40
    rw [if_neg c40] at H
    refine J_iconst (v := 0) d_Law_law_1884 (by decide) ?_
    have z39 : (0 : Int32) = 0 ∨ (0 : Int32) = 1 := by
      apply Classical.byContradiction
      intro q9
      rw [if_neg q9] at H
      cases H
    rw [if_pos z39] at H
    have H := Option.some.inj H
    subst H
    exact J_iret (st := []) d_Law_law_1885 rfl (narrow_z z39).1 ⟨rfl, rfl, rfl⟩
def f_Law_law_L1732 (Γ : gm_T) (L : Nat) (xs : Nat → Int32) (Kc53 : ph_T → Nat → Nat → Nat → Int32 → Option (Int32 × ph_T)) (φ : ph_T) (x1 : Nat) (x2 : Nat) (x3 : Nat) (x4 : Int32) : Option (Int32 × ph_T) :=
  Option.bind (ix (x4 + (1 : Int32)) L) fun k41 =>
  Option.bind (ix (x4 + (2 : Int32)) L) fun k42 =>
  Option.bind (ix (x4 + (3 : Int32)) L) fun k43 =>
  Option.bind (ix (x4 + (4 : Int32)) L) fun k44 =>
  Option.bind (ix (x4 + (5 : Int32)) L) fun k45 =>
  Option.bind (ix (x4 + (6 : Int32)) L) fun k46 =>
  Option.bind (f_Law_see Γ φ (some x1) (xs k41) (xs k42) (xs k43) (((Int32.toInt64 (xs k44)) <<< (Int32.toInt64 (32 : Int32) &&& 63)) ||| ((Int32.toInt64 (xs k45)) &&& (4294967295 : Int64))) (xs k46)) fun q47 =>
  Option.bind (ix (x4 + (1 : Int32)) L) fun k48 =>
  Option.bind (ix (x4 + (2 : Int32)) L) fun k49 =>
  Option.bind (ix (x4 + (3 : Int32)) L) fun k50 =>
  Option.bind (ix (x4 + (4 : Int32)) L) fun k51 =>
  Option.bind (ix (x4 + (5 : Int32)) L) fun k52 =>
  Option.bind (ix (x4 + (6 : Int32)) L) fun k53 =>
  @ite _ (Γ x2 = .inr 12) _ (
  Option.bind (f_Ref_see Γ q47.2 x2 (xs k48) (xs k49) (xs k50) (((Int32.toInt64 (xs k51)) <<< (Int32.toInt64 (32 : Int32) &&& 63)) ||| ((Int32.toInt64 (xs k52)) &&& (4294967295 : Int64))) (xs k53)) fun q55 =>
  Option.bind (f_Ref_thrown Γ q55.2 x2) fun q56 =>
  if q56.1 = q47.1 then
    f_Law_law_L2021 Γ L xs Kc53 q56.2 x1 x2 x3 x4
  else
    @ite _ ((0 : Int32) = 0 ∨ (0 : Int32) = 1) _ (
    some ((0 : Int32), q56.2)
    ) none
  ) none
set_option maxRecDepth 100000 in
set_option maxHeartbeats 8000000 in
theorem p_Law_law_L1732 {w : jw_T} (hw : jok w) {Γ : gm_T} {n : Nat} (hG : gd w Γ n) {L : Nat} {xs : Nat → Int32} (hL : jw_L w = L) (hxs : jw_xs w = xs) {Kc53 : ph_T → Nat → Nat → Nat → Int32 → Option (Int32 × ph_T)} {kc ks : Nat} (hKc53 : ∀ {x : Bool} {φ : ph_T} {x1 : Nat} {x2 : Nat} {x3 : Nat} {x4 : Int32} {q : Int32 × ph_T}, Kc53 φ x1 x2 x3 x4 = some q → J w M_Law_law 53 [some (.ref (jw_b w)), some (.ref x1), some (.ref x2), some (.ref x3), some (.int x4), none, none, none] [] (pic Γ φ) n x kc ks (fq Γ n (.inl (some (.int q.1))) q.2)) {x : Bool} {φ : ph_T} {x1 : Nat} {x2 : Nat} {x3 : Nat} {x4 : Int32} {q : Int32 × ph_T} (H : f_Law_law_L1732 Γ L xs Kc53 φ x1 x2 x3 x4 = some q) : J w M_Law_law 1732 [some (.ref (jw_b w)), some (.ref x1), some (.ref x2), some (.ref x3), some (.int x4), none, none, none] [] (pic Γ φ) n x (kc + 1) (ks + 6) (fq Γ n (.inl (some (.int q.1))) q.2) := by
  unfold f_Law_law_L1732 at H
  refine J_aload_n d_Law_law_1732 rfl ?_
  refine J_aload_n d_Law_law_1733 rfl ?_
  refine J_iload d_Law_law_1734 rfl ?_
  refine J_iconst (v := 1) d_Law_law_1736 (by decide) ?_
  refine J_iadd d_Law_law_1737 ?_
  obtain ⟨k41, hk41, H⟩ := Option.bind_eq_some_iff.mp H
  refine J_sldx hL hxs k41 d_Law_law_1738 (ix_some hk41) ?_
  refine J_aload_n d_Law_law_1739 rfl ?_
  refine J_iload d_Law_law_1740 rfl ?_
  refine J_iconst (v := 2) d_Law_law_1742 (by decide) ?_
  refine J_iadd d_Law_law_1743 ?_
  obtain ⟨k42, hk42, H⟩ := Option.bind_eq_some_iff.mp H
  refine J_sldx hL hxs k42 d_Law_law_1744 (ix_some hk42) ?_
  refine J_aload_n d_Law_law_1745 rfl ?_
  refine J_iload d_Law_law_1746 rfl ?_
  refine J_iconst (v := 3) d_Law_law_1748 (by decide) ?_
  refine J_iadd d_Law_law_1749 ?_
  obtain ⟨k43, hk43, H⟩ := Option.bind_eq_some_iff.mp H
  refine J_sldx hL hxs k43 d_Law_law_1750 (ix_some hk43) ?_
  refine J_aload_n d_Law_law_1751 rfl ?_
  refine J_iload d_Law_law_1752 rfl ?_
  refine J_iconst (v := 4) d_Law_law_1754 (by decide) ?_
  refine J_iadd d_Law_law_1755 ?_
  obtain ⟨k44, hk44, H⟩ := Option.bind_eq_some_iff.mp H
  refine J_sldx hL hxs k44 d_Law_law_1756 (ix_some hk44) ?_
  refine J_i2l d_Law_law_1757 ?_
  refine J_bipush (v := 32) d_Law_law_1758 (by decide) ?_
  refine J_lshl d_Law_law_1760 ?_
  refine J_aload_n d_Law_law_1761 rfl ?_
  refine J_iload d_Law_law_1762 rfl ?_
  refine J_iconst (v := 5) d_Law_law_1764 (by decide) ?_
  refine J_iadd d_Law_law_1765 ?_
  obtain ⟨k45, hk45, H⟩ := Option.bind_eq_some_iff.mp H
  refine J_sldx hL hxs k45 d_Law_law_1766 (ix_some hk45) ?_
  refine J_i2l d_Law_law_1767 ?_
  refine J_ldc2 (v := 4294967295) d_Law_law_1768 (kn_Law_149 hw) ?_
  refine J_land d_Law_law_1771 ?_
  refine J_lor d_Law_law_1772 ?_
  refine J_aload_n d_Law_law_1773 rfl ?_
  refine J_iload d_Law_law_1774 rfl ?_
  refine J_bipush (v := 6) d_Law_law_1776 (by decide) ?_
  refine J_iadd d_Law_law_1778 ?_
  obtain ⟨k46, hk46, H⟩ := Option.bind_eq_some_iff.mp H
  refine J_sldx hL hxs k46 d_Law_law_1779 (ix_some hk46) ?_
  obtain ⟨q47, hq47, H⟩ := Option.bind_eq_some_iff.mp H
  refine J.kk (Nat.add_comm _ _) (Nat.add_comm _ _) ?_
  refine J_callS (kc := kc) (ks := ks) (kc' := 1) (ks' := 6) (as := [.ref x1, .int (xs k41), .int (xs k42), .int (xs k43), .long (((Int32.toInt64 (xs k44)) <<< (Int32.toInt64 (32 : Int32) &&& 63)) ||| ((Int32.toInt64 (xs k45)) &&& (4294967295 : Int64))), .int (xs k46)]) (st := []) (mf_Law_see hw) (ms_Law_191 hw) d_Law_law_1780 ln_Law_see (by decide) (by first | exact Nat.le_of_ble_eq_true rfl | (simp only [List.map_cons, List.map_nil, List.sum_cons, List.sum_nil, va_rf_cat]; exact Nat.le_of_ble_eq_true rfl)) rfl (p_Law_see hw hG hq47) ?_ (fun E h' n' x' e1 => by cases e1.1)
  intro v9 h9 n9 x9 e9
  obtain ⟨e91, e92, e93⟩ := e9
  cases e91
  subst e92
  subst e93
  clear x
  rename Bool => x
  show J _ _ _ _ (_ :: _) _ _ _ _ _ _
  refine J_istore d_Law_law_1783 (Nat.le_of_ble_eq_true rfl) ?_
  refine J.ls (ls' := [some (.ref (jw_b w)), some (.ref x1), some (.ref x2), some (.ref x3), some (.int x4), some (.int q47.1), none, none]) rfl ?_
  refine J_aload_n d_Law_law_1785 rfl ?_
  refine J_aload_n d_Law_law_1786 rfl ?_
  refine J_iload d_Law_law_1787 rfl ?_
  refine J_iconst (v := 1) d_Law_law_1789 (by decide) ?_
  refine J_iadd d_Law_law_1790 ?_
  obtain ⟨k48, hk48, H⟩ := Option.bind_eq_some_iff.mp H
  refine J_sldx hL hxs k48 d_Law_law_1791 (ix_some hk48) ?_
  refine J_aload_n d_Law_law_1792 rfl ?_
  refine J_iload d_Law_law_1793 rfl ?_
  refine J_iconst (v := 2) d_Law_law_1795 (by decide) ?_
  refine J_iadd d_Law_law_1796 ?_
  obtain ⟨k49, hk49, H⟩ := Option.bind_eq_some_iff.mp H
  refine J_sldx hL hxs k49 d_Law_law_1797 (ix_some hk49) ?_
  refine J_aload_n d_Law_law_1798 rfl ?_
  refine J_iload d_Law_law_1799 rfl ?_
  refine J_iconst (v := 3) d_Law_law_1801 (by decide) ?_
  refine J_iadd d_Law_law_1802 ?_
  obtain ⟨k50, hk50, H⟩ := Option.bind_eq_some_iff.mp H
  refine J_sldx hL hxs k50 d_Law_law_1803 (ix_some hk50) ?_
  refine J_aload_n d_Law_law_1804 rfl ?_
  refine J_iload d_Law_law_1805 rfl ?_
  refine J_iconst (v := 4) d_Law_law_1807 (by decide) ?_
  refine J_iadd d_Law_law_1808 ?_
  obtain ⟨k51, hk51, H⟩ := Option.bind_eq_some_iff.mp H
  refine J_sldx hL hxs k51 d_Law_law_1809 (ix_some hk51) ?_
  refine J_i2l d_Law_law_1810 ?_
  refine J_bipush (v := 32) d_Law_law_1811 (by decide) ?_
  refine J_lshl d_Law_law_1813 ?_
  refine J_aload_n d_Law_law_1814 rfl ?_
  refine J_iload d_Law_law_1815 rfl ?_
  refine J_iconst (v := 5) d_Law_law_1817 (by decide) ?_
  refine J_iadd d_Law_law_1818 ?_
  obtain ⟨k52, hk52, H⟩ := Option.bind_eq_some_iff.mp H
  refine J_sldx hL hxs k52 d_Law_law_1819 (ix_some hk52) ?_
  refine J_i2l d_Law_law_1820 ?_
  refine J_ldc2 (v := 4294967295) d_Law_law_1821 (kn_Law_149 hw) ?_
  refine J_land d_Law_law_1824 ?_
  refine J_lor d_Law_law_1825 ?_
  refine J_aload_n d_Law_law_1826 rfl ?_
  refine J_iload d_Law_law_1827 rfl ?_
  refine J_bipush (v := 6) d_Law_law_1829 (by decide) ?_
  refine J_iadd d_Law_law_1831 ?_
  obtain ⟨k53, hk53, H⟩ := Option.bind_eq_some_iff.mp H
  refine J_sldx hL hxs k53 d_Law_law_1832 (ix_some hk53) ?_
  have g54 : Γ x2 = .inr 12 := by
    apply Classical.byContradiction
    intro q9
    rw [if_neg q9] at H
    cases H
  rw [if_pos g54] at H
  obtain ⟨q55, hq55, H⟩ := Option.bind_eq_some_iff.mp H
  refine J.kk (Nat.zero_add _) (Nat.zero_add _) ?_
  refine J_callV (kc := kc) (ks := ks) (kc' := 0) (ks' := 0) (a := x2) (ci := 12) (as := [.int (xs k48), .int (xs k49), .int (xs k50), .long (((Int32.toInt64 (xs k51)) <<< (Int32.toInt64 (32 : Int32) &&& 63)) ||| ((Int32.toInt64 (xs k52)) &&& (4294967295 : Int64))), .int (xs k53)]) (st := []) (mf_Ref_see hw) (mv_Law_194 hw) d_Law_law_1833 ln_Ref_see (by decide) (by first | exact Nat.le_of_ble_eq_true rfl | (simp only [List.map_cons, List.map_nil, List.sum_cons, List.sum_nil, va_rf_cat]; exact Nat.le_of_ble_eq_true rfl)) rfl ((hG _).1 _ g54 (by decide)).1 ((hG _).1 _ g54 (by decide)).2 (by unfold pic; rw [g54]; rfl) (jcl_at hw rfl) rfl (p_Ref_see hw hG hq55) ?_ (fun E h' n' x' e1 => by cases e1.1)
  intro v9 h9 n9 x9 e9
  obtain ⟨e91, e92, e93⟩ := e9
  cases e91
  subst e92
  subst e93
  clear x
  rename Bool => x
  show J _ _ _ _ [] _ _ _ _ _ _
  refine J_aload_n d_Law_law_1836 rfl ?_
  obtain ⟨q56, hq56, H⟩ := Option.bind_eq_some_iff.mp H
  refine J.kk (Nat.zero_add _) (Nat.zero_add _) ?_
  refine J_callV (kc := kc) (ks := ks) (kc' := 0) (ks' := 0) (a := x2) (ci := 12) (as := []) (st := []) (mf_Ref_thrown hw) (mv_Law_118 hw) d_Law_law_1837 ln_Ref_thrown (by decide) (by first | exact Nat.le_of_ble_eq_true rfl | (simp only [List.map_cons, List.map_nil, List.sum_cons, List.sum_nil, va_rf_cat]; exact Nat.le_of_ble_eq_true rfl)) rfl ((hG _).1 _ g54 (by decide)).1 ((hG _).1 _ g54 (by decide)).2 (by unfold pic; rw [g54]; rfl) (jcl_at hw rfl) rfl (p_Ref_thrown hw hG hq56) ?_ (fun E h' n' x' e1 => by cases e1.1)
  intro v9 h9 n9 x9 e9
  obtain ⟨e91, e92, e93⟩ := e9
  cases e91
  subst e92
  subst e93
  clear x
  rename Bool => x
  show J _ _ _ _ (_ :: _) _ _ _ _ _ _
  refine J_iload d_Law_law_1840 rfl ?_
  refine J_icmp_eq (tgt := 1847) d_Law_law_1842 (by decide) ?_ ?_
  · intro c58
    rw [if_pos c58] at H
    refine J_goto (tgt := 2021) d_Law_law_1847 (by decide) ?_
    refine J.drop [true, true, true, true, true, false, false, false] rfl ?_
    exact p_Law_law_L2021 hw hG hL hxs (kc := kc) (ks := ks) hKc53 H
  · intro c58
    rw [if_neg c58] at H
    refine J_iconst (v := 0) d_Law_law_1845 (by decide) ?_
    have z57 : (0 : Int32) = 0 ∨ (0 : Int32) = 1 := by
      apply Classical.byContradiction
      intro q9
      rw [if_neg q9] at H
      cases H
    rw [if_pos z57] at H
    have H := Option.some.inj H
    subst H
    exact J_iret (st := []) d_Law_law_1846 rfl (narrow_z z57).1 ⟨rfl, rfl, rfl⟩
def f_Law_law_L1707 (Γ : gm_T) (L : Nat) (xs : Nat → Int32) (Kc53 : ph_T → Nat → Nat → Nat → Int32 → Option (Int32 × ph_T)) (φ : ph_T) (x1 : Nat) (x2 : Nat) (x3 : Nat) (x4 : Int32) : Option (Int32 × ph_T) :=
  Option.bind (ix (x4 + (1 : Int32)) L) fun k59 =>
  @ite _ (Γ x1 = .inr 11) _ (
  Option.bind (f_Bus_told Γ φ x1 (xs k59)) fun q61 =>
  Option.bind (ix (x4 + (1 : Int32)) L) fun k62 =>
  @ite _ (Γ x2 = .inr 12) _ (
  Option.bind (f_Ref_told Γ q61.2 x2 (xs k62)) fun q64 =>
  if q61.1 = q64.1 then
    f_Law_law_L2021 Γ L xs Kc53 q64.2 x1 x2 x3 x4
  else
    @ite _ ((0 : Int32) = 0 ∨ (0 : Int32) = 1) _ (
    some ((0 : Int32), q64.2)
    ) none
  ) none
  ) none
set_option maxRecDepth 100000 in
set_option maxHeartbeats 8000000 in
theorem p_Law_law_L1707 {w : jw_T} (hw : jok w) {Γ : gm_T} {n : Nat} (hG : gd w Γ n) {L : Nat} {xs : Nat → Int32} (hL : jw_L w = L) (hxs : jw_xs w = xs) {Kc53 : ph_T → Nat → Nat → Nat → Int32 → Option (Int32 × ph_T)} {kc ks : Nat} (hKc53 : ∀ {x : Bool} {φ : ph_T} {x1 : Nat} {x2 : Nat} {x3 : Nat} {x4 : Int32} {q : Int32 × ph_T}, Kc53 φ x1 x2 x3 x4 = some q → J w M_Law_law 53 [some (.ref (jw_b w)), some (.ref x1), some (.ref x2), some (.ref x3), some (.int x4), none, none, none] [] (pic Γ φ) n x kc ks (fq Γ n (.inl (some (.int q.1))) q.2)) {x : Bool} {φ : ph_T} {x1 : Nat} {x2 : Nat} {x3 : Nat} {x4 : Int32} {q : Int32 × ph_T} (H : f_Law_law_L1707 Γ L xs Kc53 φ x1 x2 x3 x4 = some q) : J w M_Law_law 1707 [some (.ref (jw_b w)), some (.ref x1), some (.ref x2), some (.ref x3), some (.int x4), none, none, none] [] (pic Γ φ) n x (kc + 1) (ks + 6) (fq Γ n (.inl (some (.int q.1))) q.2) := by
  unfold f_Law_law_L1707 at H
  refine J_aload_n d_Law_law_1707 rfl ?_
  refine J_aload_n d_Law_law_1708 rfl ?_
  refine J_iload d_Law_law_1709 rfl ?_
  refine J_iconst (v := 1) d_Law_law_1711 (by decide) ?_
  refine J_iadd d_Law_law_1712 ?_
  obtain ⟨k59, hk59, H⟩ := Option.bind_eq_some_iff.mp H
  refine J_sldx hL hxs k59 d_Law_law_1713 (ix_some hk59) ?_
  have g60 : Γ x1 = .inr 11 := by
    apply Classical.byContradiction
    intro q9
    rw [if_neg q9] at H
    cases H
  rw [if_pos g60] at H
  obtain ⟨q61, hq61, H⟩ := Option.bind_eq_some_iff.mp H
  refine J.kk (Nat.zero_add _) (Nat.zero_add _) ?_
  refine J_callV (kc := kc + 1) (ks := ks + 6) (kc' := 0) (ks' := 0) (a := x1) (ci := 11) (as := [.int (xs k59)]) (st := []) (mf_Bus_told hw) (mv_Law_187 hw) d_Law_law_1714 ln_Bus_told (by decide) (by first | exact Nat.le_of_ble_eq_true rfl | (simp only [List.map_cons, List.map_nil, List.sum_cons, List.sum_nil, va_rf_cat]; exact Nat.le_of_ble_eq_true rfl)) rfl ((hG _).1 _ g60 (by decide)).1 ((hG _).1 _ g60 (by decide)).2 (by unfold pic; rw [g60]; rfl) (jcl_at hw rfl) rfl (p_Bus_told hw hG hq61) ?_ (fun E h' n' x' e1 => by cases e1.1)
  intro v9 h9 n9 x9 e9
  obtain ⟨e91, e92, e93⟩ := e9
  cases e91
  subst e92
  subst e93
  clear x
  rename Bool => x
  show J _ _ _ _ (_ :: _) _ _ _ _ _ _
  refine J_aload_n d_Law_law_1717 rfl ?_
  refine J_aload_n d_Law_law_1718 rfl ?_
  refine J_iload d_Law_law_1719 rfl ?_
  refine J_iconst (v := 1) d_Law_law_1721 (by decide) ?_
  refine J_iadd d_Law_law_1722 ?_
  obtain ⟨k62, hk62, H⟩ := Option.bind_eq_some_iff.mp H
  refine J_sldx hL hxs k62 d_Law_law_1723 (ix_some hk62) ?_
  have g63 : Γ x2 = .inr 12 := by
    apply Classical.byContradiction
    intro q9
    rw [if_neg q9] at H
    cases H
  rw [if_pos g63] at H
  obtain ⟨q64, hq64, H⟩ := Option.bind_eq_some_iff.mp H
  refine J.kk (Nat.zero_add _) (Nat.zero_add _) ?_
  refine J_callV (kc := kc + 1) (ks := ks + 6) (kc' := 0) (ks' := 0) (a := x2) (ci := 12) (as := [.int (xs k62)]) (st := [.int q61.1]) (mf_Ref_told hw) (mv_Law_190 hw) d_Law_law_1724 ln_Ref_told (by decide) (by first | exact Nat.le_of_ble_eq_true rfl | (simp only [List.map_cons, List.map_nil, List.sum_cons, List.sum_nil, va_rf_cat]; exact Nat.le_of_ble_eq_true rfl)) rfl ((hG _).1 _ g63 (by decide)).1 ((hG _).1 _ g63 (by decide)).2 (by unfold pic; rw [g63]; rfl) (jcl_at hw rfl) rfl (p_Ref_told hw hG hq64) ?_ (fun E h' n' x' e1 => by cases e1.1)
  intro v9 h9 n9 x9 e9
  obtain ⟨e91, e92, e93⟩ := e9
  cases e91
  subst e92
  subst e93
  clear x
  rename Bool => x
  show J _ _ _ _ (_ :: _) _ _ _ _ _ _
  refine J_icmp_eq (tgt := 2021) d_Law_law_1727 (by decide) ?_ ?_
  · intro c66
    rw [if_pos c66] at H
    refine J.more (kc := kc) (ks := ks) (by omega) (by omega) ?_
    refine J.drop [true, true, true, true, true, false, false, false] rfl ?_
    exact p_Law_law_L2021 hw hG hL hxs (kc := kc) (ks := ks) hKc53 H
  · intro c66
    rw [if_neg c66] at H
    refine J_iconst (v := 0) d_Law_law_1730 (by decide) ?_
    have z65 : (0 : Int32) = 0 ∨ (0 : Int32) = 1 := by
      apply Classical.byContradiction
      intro q9
      rw [if_neg q9] at H
      cases H
    rw [if_pos z65] at H
    have H := Option.some.inj H
    subst H
    exact J_iret (st := []) d_Law_law_1731 rfl (narrow_z z65).1 ⟨rfl, rfl, rfl⟩
def f_Law_law_L1704 (Γ : gm_T) (L : Nat) (xs : Nat → Int32) (Kc53 : ph_T → Nat → Nat → Nat → Int32 → Option (Int32 × ph_T)) (φ : ph_T) (x1 : Nat) (x2 : Nat) (x3 : Nat) (x4 : Int32) : Option (Int32 × ph_T) :=
  f_Law_law_L2021 Γ L xs Kc53 φ x1 x2 x3 x4
set_option maxRecDepth 100000 in
set_option maxHeartbeats 8000000 in
theorem p_Law_law_L1704 {w : jw_T} (hw : jok w) {Γ : gm_T} {n : Nat} (hG : gd w Γ n) {L : Nat} {xs : Nat → Int32} (hL : jw_L w = L) (hxs : jw_xs w = xs) {Kc53 : ph_T → Nat → Nat → Nat → Int32 → Option (Int32 × ph_T)} {kc ks : Nat} (hKc53 : ∀ {x : Bool} {φ : ph_T} {x1 : Nat} {x2 : Nat} {x3 : Nat} {x4 : Int32} {q : Int32 × ph_T}, Kc53 φ x1 x2 x3 x4 = some q → J w M_Law_law 53 [some (.ref (jw_b w)), some (.ref x1), some (.ref x2), some (.ref x3), some (.int x4), none, none, none] [] (pic Γ φ) n x kc ks (fq Γ n (.inl (some (.int q.1))) q.2)) {x : Bool} {φ : ph_T} {x1 : Nat} {x2 : Nat} {x3 : Nat} {x4 : Int32} {q : Int32 × ph_T} (H : f_Law_law_L1704 Γ L xs Kc53 φ x1 x2 x3 x4 = some q) : J w M_Law_law 1704 [some (.ref (jw_b w)), some (.ref x1), some (.ref x2), some (.ref x3), some (.int x4), none, none, none] [] (pic Γ φ) n x kc ks (fq Γ n (.inl (some (.int q.1))) q.2) := by
  unfold f_Law_law_L1704 at H
  refine J_goto (tgt := 2021) d_Law_law_1704 (by decide) ?_
  refine J.drop [true, true, true, true, true, false, false, false] rfl ?_
  exact p_Law_law_L2021 hw hG hL hxs (kc := kc) (ks := ks) hKc53 H
def f_Law_law_L1639 (Γ : gm_T) (L : Nat) (xs : Nat → Int32) (Kc53 : ph_T → Nat → Nat → Nat → Int32 → Option (Int32 × ph_T)) (φ : ph_T) (x1 : Nat) (x2 : Nat) (x3 : Nat) (x4 : Int32) : Option (Int32 × ph_T) :=
  Option.bind (ix (x4 + (1 : Int32)) L) fun k67 =>
  Option.bind (ix (x4 + (2 : Int32)) L) fun k68 =>
  Option.bind (f_Law_right Γ φ (some x1) (xs k67) (xs k68) (some x3)) fun q69 =>
  Option.bind (ix (x4 + (1 : Int32)) L) fun k70 =>
  Option.bind (ix (x4 + (2 : Int32)) L) fun k71 =>
  @ite _ (Γ x2 = .inr 12) _ (
  Option.bind (f_Ref_right Γ q69.2 x2 (xs k70) (xs k71)) fun q73 =>
  Option.bind (f_Ref_thrown Γ q73.2 x2) fun q74 =>
  if q74.1 = q69.1 then
    if q69.1 = 0 then
      Option.bind (gA Γ x3 1) fun N75 =>
      Option.bind (ix (0 : Int32) N75) fun k76 =>
      if (lg_cmp (q74.2.2.1 x3 k76) (Int32.toInt64 q73.1)) = 0 then
        f_Law_law_L1704 Γ L xs Kc53 q74.2 x1 x2 x3 x4
      else
        @ite _ ((0 : Int32) = 0 ∨ (0 : Int32) = 1) _ (
        some ((0 : Int32), q74.2)
        ) none
    else
      f_Law_law_L1704 Γ L xs Kc53 q74.2 x1 x2 x3 x4
  else
    @ite _ ((0 : Int32) = 0 ∨ (0 : Int32) = 1) _ (
    some ((0 : Int32), q74.2)
    ) none
  ) none
set_option maxRecDepth 100000 in
set_option maxHeartbeats 8000000 in
theorem p_Law_law_L1639 {w : jw_T} (hw : jok w) {Γ : gm_T} {n : Nat} (hG : gd w Γ n) {L : Nat} {xs : Nat → Int32} (hL : jw_L w = L) (hxs : jw_xs w = xs) {Kc53 : ph_T → Nat → Nat → Nat → Int32 → Option (Int32 × ph_T)} {kc ks : Nat} (hKc53 : ∀ {x : Bool} {φ : ph_T} {x1 : Nat} {x2 : Nat} {x3 : Nat} {x4 : Int32} {q : Int32 × ph_T}, Kc53 φ x1 x2 x3 x4 = some q → J w M_Law_law 53 [some (.ref (jw_b w)), some (.ref x1), some (.ref x2), some (.ref x3), some (.int x4), none, none, none] [] (pic Γ φ) n x kc ks (fq Γ n (.inl (some (.int q.1))) q.2)) {x : Bool} {φ : ph_T} {x1 : Nat} {x2 : Nat} {x3 : Nat} {x4 : Int32} {q : Int32 × ph_T} (H : f_Law_law_L1639 Γ L xs Kc53 φ x1 x2 x3 x4 = some q) : J w M_Law_law 1639 [some (.ref (jw_b w)), some (.ref x1), some (.ref x2), some (.ref x3), some (.int x4), none, none, none] [] (pic Γ φ) n x (kc + 1) (ks + 6) (fq Γ n (.inl (some (.int q.1))) q.2) := by
  unfold f_Law_law_L1639 at H
  refine J_aload_n d_Law_law_1639 rfl ?_
  refine J_aload_n d_Law_law_1640 rfl ?_
  refine J_iload d_Law_law_1641 rfl ?_
  refine J_iconst (v := 1) d_Law_law_1643 (by decide) ?_
  refine J_iadd d_Law_law_1644 ?_
  obtain ⟨k67, hk67, H⟩ := Option.bind_eq_some_iff.mp H
  refine J_sldx hL hxs k67 d_Law_law_1645 (ix_some hk67) ?_
  refine J_aload_n d_Law_law_1646 rfl ?_
  refine J_iload d_Law_law_1647 rfl ?_
  refine J_iconst (v := 2) d_Law_law_1649 (by decide) ?_
  refine J_iadd d_Law_law_1650 ?_
  obtain ⟨k68, hk68, H⟩ := Option.bind_eq_some_iff.mp H
  refine J_sldx hL hxs k68 d_Law_law_1651 (ix_some hk68) ?_
  refine J_aload_n d_Law_law_1652 rfl ?_
  obtain ⟨q69, hq69, H⟩ := Option.bind_eq_some_iff.mp H
  refine J.kk (Nat.add_comm _ _) (Nat.add_comm _ _) ?_
  refine J_callS (kc := kc) (ks := ks) (kc' := 1) (ks' := 6) (as := [.ref x1, .int (xs k67), .int (xs k68), .ref x3]) (st := []) (mf_Law_right hw) (ms_Law_184 hw) d_Law_law_1653 ln_Law_right (by decide) (by first | exact Nat.le_of_ble_eq_true rfl | (simp only [List.map_cons, List.map_nil, List.sum_cons, List.sum_nil, va_rf_cat]; exact Nat.le_of_ble_eq_true rfl)) rfl (p_Law_right hw hG hq69) ?_ (fun E h' n' x' e1 => by cases e1.1)
  intro v9 h9 n9 x9 e9
  obtain ⟨e91, e92, e93⟩ := e9
  cases e91
  subst e92
  subst e93
  clear x
  rename Bool => x
  show J _ _ _ _ (_ :: _) _ _ _ _ _ _
  refine J_istore d_Law_law_1656 (Nat.le_of_ble_eq_true rfl) ?_
  refine J.ls (ls' := [some (.ref (jw_b w)), some (.ref x1), some (.ref x2), some (.ref x3), some (.int x4), some (.int q69.1), none, none]) rfl ?_
  refine J_aload_n d_Law_law_1658 rfl ?_
  refine J_aload_n d_Law_law_1659 rfl ?_
  refine J_iload d_Law_law_1660 rfl ?_
  refine J_iconst (v := 1) d_Law_law_1662 (by decide) ?_
  refine J_iadd d_Law_law_1663 ?_
  obtain ⟨k70, hk70, H⟩ := Option.bind_eq_some_iff.mp H
  refine J_sldx hL hxs k70 d_Law_law_1664 (ix_some hk70) ?_
  refine J_aload_n d_Law_law_1665 rfl ?_
  refine J_iload d_Law_law_1666 rfl ?_
  refine J_iconst (v := 2) d_Law_law_1668 (by decide) ?_
  refine J_iadd d_Law_law_1669 ?_
  obtain ⟨k71, hk71, H⟩ := Option.bind_eq_some_iff.mp H
  refine J_sldx hL hxs k71 d_Law_law_1670 (ix_some hk71) ?_
  have g72 : Γ x2 = .inr 12 := by
    apply Classical.byContradiction
    intro q9
    rw [if_neg q9] at H
    cases H
  rw [if_pos g72] at H
  obtain ⟨q73, hq73, H⟩ := Option.bind_eq_some_iff.mp H
  refine J.kk (Nat.zero_add _) (Nat.zero_add _) ?_
  refine J_callV (kc := kc) (ks := ks) (kc' := 0) (ks' := 0) (a := x2) (ci := 12) (as := [.int (xs k70), .int (xs k71)]) (st := []) (mf_Ref_right hw) (mv_Law_186 hw) d_Law_law_1671 ln_Ref_right (by decide) (by first | exact Nat.le_of_ble_eq_true rfl | (simp only [List.map_cons, List.map_nil, List.sum_cons, List.sum_nil, va_rf_cat]; exact Nat.le_of_ble_eq_true rfl)) rfl ((hG _).1 _ g72 (by decide)).1 ((hG _).1 _ g72 (by decide)).2 (by unfold pic; rw [g72]; rfl) (jcl_at hw rfl) rfl (p_Ref_right hw hG hq73) ?_ (fun E h' n' x' e1 => by cases e1.1)
  intro v9 h9 n9 x9 e9
  obtain ⟨e91, e92, e93⟩ := e9
  cases e91
  subst e92
  subst e93
  clear x
  rename Bool => x
  show J _ _ _ _ (_ :: _) _ _ _ _ _ _
  refine J_istore d_Law_law_1674 (Nat.le_of_ble_eq_true rfl) ?_
  refine J.ls (ls' := [some (.ref (jw_b w)), some (.ref x1), some (.ref x2), some (.ref x3), some (.int x4), some (.int q69.1), some (.int q73.1), none]) rfl ?_
  refine J_aload_n d_Law_law_1676 rfl ?_
  obtain ⟨q74, hq74, H⟩ := Option.bind_eq_some_iff.mp H
  refine J.kk (Nat.zero_add _) (Nat.zero_add _) ?_
  refine J_callV (kc := kc) (ks := ks) (kc' := 0) (ks' := 0) (a := x2) (ci := 12) (as := []) (st := []) (mf_Ref_thrown hw) (mv_Law_118 hw) d_Law_law_1677 ln_Ref_thrown (by decide) (by first | exact Nat.le_of_ble_eq_true rfl | (simp only [List.map_cons, List.map_nil, List.sum_cons, List.sum_nil, va_rf_cat]; exact Nat.le_of_ble_eq_true rfl)) rfl ((hG _).1 _ g72 (by decide)).1 ((hG _).1 _ g72 (by decide)).2 (by unfold pic; rw [g72]; rfl) (jcl_at hw rfl) rfl (p_Ref_thrown hw hG hq74) ?_ (fun E h' n' x' e1 => by cases e1.1)
  intro v9 h9 n9 x9 e9
  obtain ⟨e91, e92, e93⟩ := e9
  cases e91
  subst e92
  subst e93
  clear x
  rename Bool => x
  show J _ _ _ _ (_ :: _) _ _ _ _ _ _
  refine J_iload d_Law_law_1680 rfl ?_
  refine J_icmp_eq (tgt := 1687) d_Law_law_1682 (by decide) ?_ ?_
  · intro c81
    rw [if_pos c81] at H
    refine J_iload d_Law_law_1687 rfl ?_
    refine J_if_ne (tgt := 1704) d_Law_law_1689 (by decide) ?_ ?_
    · intro c79
      rw [if_neg c79] at H
      refine J.drop [true, true, true, true, true, false, false, false] rfl ?_
      exact p_Law_law_L1704 hw hG hL hxs (kc := kc) (ks := ks) hKc53 H
    · intro c79
      rw [if_pos c79] at H
      refine J_aload_n d_Law_law_1692 rfl ?_
      refine J_iconst (v := 0) d_Law_law_1693 (by decide) ?_
      obtain ⟨N75, hN75, H⟩ := Option.bind_eq_some_iff.mp H
      obtain ⟨k76, hk76, H⟩ := Option.bind_eq_some_iff.mp H
      refine F_lald k76 hw hG d_Law_law_1694 (gA_some hN75) (ix_some hk76) ?_
      refine J_iload d_Law_law_1695 rfl ?_
      refine J_i2l d_Law_law_1697 ?_
      refine J_lcmp d_Law_law_1698 ?_
      refine J_if_eq (tgt := 1704) d_Law_law_1699 (by decide) ?_ ?_
      · intro c78
        rw [if_pos c78] at H
        refine J.drop [true, true, true, true, true, false, false, false] rfl ?_
        exact p_Law_law_L1704 hw hG hL hxs (kc := kc) (ks := ks) hKc53 H
      · intro c78
        rw [if_neg c78] at H
        refine J_iconst (v := 0) d_Law_law_1702 (by decide) ?_
        have z77 : (0 : Int32) = 0 ∨ (0 : Int32) = 1 := by
          apply Classical.byContradiction
          intro q9
          rw [if_neg q9] at H
          cases H
        rw [if_pos z77] at H
        have H := Option.some.inj H
        subst H
        exact J_iret (st := []) d_Law_law_1703 rfl (narrow_z z77).1 ⟨rfl, rfl, rfl⟩
  · intro c81
    rw [if_neg c81] at H
    refine J_iconst (v := 0) d_Law_law_1685 (by decide) ?_
    have z80 : (0 : Int32) = 0 ∨ (0 : Int32) = 1 := by
      apply Classical.byContradiction
      intro q9
      rw [if_neg q9] at H
      cases H
    rw [if_pos z80] at H
    have H := Option.some.inj H
    subst H
    exact J_iret (st := []) d_Law_law_1686 rfl (narrow_z z80).1 ⟨rfl, rfl, rfl⟩
def f_Law_law_L1636 (Γ : gm_T) (L : Nat) (xs : Nat → Int32) (Kc53 : ph_T → Nat → Nat → Nat → Int32 → Option (Int32 × ph_T)) (φ : ph_T) (x1 : Nat) (x2 : Nat) (x3 : Nat) (x4 : Int32) : Option (Int32 × ph_T) :=
  f_Law_law_L2021 Γ L xs Kc53 φ x1 x2 x3 x4
set_option maxRecDepth 100000 in
set_option maxHeartbeats 8000000 in
theorem p_Law_law_L1636 {w : jw_T} (hw : jok w) {Γ : gm_T} {n : Nat} (hG : gd w Γ n) {L : Nat} {xs : Nat → Int32} (hL : jw_L w = L) (hxs : jw_xs w = xs) {Kc53 : ph_T → Nat → Nat → Nat → Int32 → Option (Int32 × ph_T)} {kc ks : Nat} (hKc53 : ∀ {x : Bool} {φ : ph_T} {x1 : Nat} {x2 : Nat} {x3 : Nat} {x4 : Int32} {q : Int32 × ph_T}, Kc53 φ x1 x2 x3 x4 = some q → J w M_Law_law 53 [some (.ref (jw_b w)), some (.ref x1), some (.ref x2), some (.ref x3), some (.int x4), none, none, none] [] (pic Γ φ) n x kc ks (fq Γ n (.inl (some (.int q.1))) q.2)) {x : Bool} {φ : ph_T} {x1 : Nat} {x2 : Nat} {x3 : Nat} {x4 : Int32} {q : Int32 × ph_T} (H : f_Law_law_L1636 Γ L xs Kc53 φ x1 x2 x3 x4 = some q) : J w M_Law_law 1636 [some (.ref (jw_b w)), some (.ref x1), some (.ref x2), some (.ref x3), some (.int x4), none, none, none] [] (pic Γ φ) n x kc ks (fq Γ n (.inl (some (.int q.1))) q.2) := by
  unfold f_Law_law_L1636 at H
  refine J_goto (tgt := 2021) d_Law_law_1636 (by decide) ?_
  refine J.drop [true, true, true, true, true, false, false, false] rfl ?_
  exact p_Law_law_L2021 hw hG hL hxs (kc := kc) (ks := ks) hKc53 H
def f_Law_law_L1571 (Γ : gm_T) (L : Nat) (xs : Nat → Int32) (Kc53 : ph_T → Nat → Nat → Nat → Int32 → Option (Int32 × ph_T)) (φ : ph_T) (x1 : Nat) (x2 : Nat) (x3 : Nat) (x4 : Int32) : Option (Int32 × ph_T) :=
  Option.bind (ix (x4 + (1 : Int32)) L) fun k82 =>
  Option.bind (ix (x4 + (2 : Int32)) L) fun k83 =>
  Option.bind (f_Law_target Γ φ (some x1) (xs k82) (xs k83) (some x3)) fun q84 =>
  Option.bind (ix (x4 + (1 : Int32)) L) fun k85 =>
  Option.bind (ix (x4 + (2 : Int32)) L) fun k86 =>
  @ite _ (Γ x2 = .inr 12) _ (
  Option.bind (f_Ref_target Γ q84.2 x2 (xs k85) (xs k86)) fun q88 =>
  Option.bind (f_Ref_thrown Γ q88.2 x2) fun q89 =>
  if q89.1 = q84.1 then
    if q84.1 = 0 then
      Option.bind (gA Γ x3 1) fun N90 =>
      Option.bind (ix (0 : Int32) N90) fun k91 =>
      if (lg_cmp (q89.2.2.1 x3 k91) (Int32.toInt64 q88.1)) = 0 then
        f_Law_law_L1636 Γ L xs Kc53 q89.2 x1 x2 x3 x4
      else
        @ite _ ((0 : Int32) = 0 ∨ (0 : Int32) = 1) _ (
        some ((0 : Int32), q89.2)
        ) none
    else
      f_Law_law_L1636 Γ L xs Kc53 q89.2 x1 x2 x3 x4
  else
    @ite _ ((0 : Int32) = 0 ∨ (0 : Int32) = 1) _ (
    some ((0 : Int32), q89.2)
    ) none
  ) none
set_option maxRecDepth 100000 in
set_option maxHeartbeats 8000000 in
theorem p_Law_law_L1571 {w : jw_T} (hw : jok w) {Γ : gm_T} {n : Nat} (hG : gd w Γ n) {L : Nat} {xs : Nat → Int32} (hL : jw_L w = L) (hxs : jw_xs w = xs) {Kc53 : ph_T → Nat → Nat → Nat → Int32 → Option (Int32 × ph_T)} {kc ks : Nat} (hKc53 : ∀ {x : Bool} {φ : ph_T} {x1 : Nat} {x2 : Nat} {x3 : Nat} {x4 : Int32} {q : Int32 × ph_T}, Kc53 φ x1 x2 x3 x4 = some q → J w M_Law_law 53 [some (.ref (jw_b w)), some (.ref x1), some (.ref x2), some (.ref x3), some (.int x4), none, none, none] [] (pic Γ φ) n x kc ks (fq Γ n (.inl (some (.int q.1))) q.2)) {x : Bool} {φ : ph_T} {x1 : Nat} {x2 : Nat} {x3 : Nat} {x4 : Int32} {q : Int32 × ph_T} (H : f_Law_law_L1571 Γ L xs Kc53 φ x1 x2 x3 x4 = some q) : J w M_Law_law 1571 [some (.ref (jw_b w)), some (.ref x1), some (.ref x2), some (.ref x3), some (.int x4), none, none, none] [] (pic Γ φ) n x (kc + 1) (ks + 6) (fq Γ n (.inl (some (.int q.1))) q.2) := by
  unfold f_Law_law_L1571 at H
  refine J_aload_n d_Law_law_1571 rfl ?_
  refine J_aload_n d_Law_law_1572 rfl ?_
  refine J_iload d_Law_law_1573 rfl ?_
  refine J_iconst (v := 1) d_Law_law_1575 (by decide) ?_
  refine J_iadd d_Law_law_1576 ?_
  obtain ⟨k82, hk82, H⟩ := Option.bind_eq_some_iff.mp H
  refine J_sldx hL hxs k82 d_Law_law_1577 (ix_some hk82) ?_
  refine J_aload_n d_Law_law_1578 rfl ?_
  refine J_iload d_Law_law_1579 rfl ?_
  refine J_iconst (v := 2) d_Law_law_1581 (by decide) ?_
  refine J_iadd d_Law_law_1582 ?_
  obtain ⟨k83, hk83, H⟩ := Option.bind_eq_some_iff.mp H
  refine J_sldx hL hxs k83 d_Law_law_1583 (ix_some hk83) ?_
  refine J_aload_n d_Law_law_1584 rfl ?_
  obtain ⟨q84, hq84, H⟩ := Option.bind_eq_some_iff.mp H
  refine J.kk (Nat.add_comm _ _) (Nat.add_comm _ _) ?_
  refine J_callS (kc := kc) (ks := ks) (kc' := 1) (ks' := 6) (as := [.ref x1, .int (xs k82), .int (xs k83), .ref x3]) (st := []) (mf_Law_target hw) (ms_Law_181 hw) d_Law_law_1585 ln_Law_target (by decide) (by first | exact Nat.le_of_ble_eq_true rfl | (simp only [List.map_cons, List.map_nil, List.sum_cons, List.sum_nil, va_rf_cat]; exact Nat.le_of_ble_eq_true rfl)) rfl (p_Law_target hw hG hq84) ?_ (fun E h' n' x' e1 => by cases e1.1)
  intro v9 h9 n9 x9 e9
  obtain ⟨e91, e92, e93⟩ := e9
  cases e91
  subst e92
  subst e93
  clear x
  rename Bool => x
  show J _ _ _ _ (_ :: _) _ _ _ _ _ _
  refine J_istore d_Law_law_1588 (Nat.le_of_ble_eq_true rfl) ?_
  refine J.ls (ls' := [some (.ref (jw_b w)), some (.ref x1), some (.ref x2), some (.ref x3), some (.int x4), some (.int q84.1), none, none]) rfl ?_
  refine J_aload_n d_Law_law_1590 rfl ?_
  refine J_aload_n d_Law_law_1591 rfl ?_
  refine J_iload d_Law_law_1592 rfl ?_
  refine J_iconst (v := 1) d_Law_law_1594 (by decide) ?_
  refine J_iadd d_Law_law_1595 ?_
  obtain ⟨k85, hk85, H⟩ := Option.bind_eq_some_iff.mp H
  refine J_sldx hL hxs k85 d_Law_law_1596 (ix_some hk85) ?_
  refine J_aload_n d_Law_law_1597 rfl ?_
  refine J_iload d_Law_law_1598 rfl ?_
  refine J_iconst (v := 2) d_Law_law_1600 (by decide) ?_
  refine J_iadd d_Law_law_1601 ?_
  obtain ⟨k86, hk86, H⟩ := Option.bind_eq_some_iff.mp H
  refine J_sldx hL hxs k86 d_Law_law_1602 (ix_some hk86) ?_
  have g87 : Γ x2 = .inr 12 := by
    apply Classical.byContradiction
    intro q9
    rw [if_neg q9] at H
    cases H
  rw [if_pos g87] at H
  obtain ⟨q88, hq88, H⟩ := Option.bind_eq_some_iff.mp H
  refine J.kk (Nat.zero_add _) (Nat.zero_add _) ?_
  refine J_callV (kc := kc) (ks := ks) (kc' := 0) (ks' := 0) (a := x2) (ci := 12) (as := [.int (xs k85), .int (xs k86)]) (st := []) (mf_Ref_target hw) (mv_Law_183 hw) d_Law_law_1603 ln_Ref_target (by decide) (by first | exact Nat.le_of_ble_eq_true rfl | (simp only [List.map_cons, List.map_nil, List.sum_cons, List.sum_nil, va_rf_cat]; exact Nat.le_of_ble_eq_true rfl)) rfl ((hG _).1 _ g87 (by decide)).1 ((hG _).1 _ g87 (by decide)).2 (by unfold pic; rw [g87]; rfl) (jcl_at hw rfl) rfl (p_Ref_target hw hG hq88) ?_ (fun E h' n' x' e1 => by cases e1.1)
  intro v9 h9 n9 x9 e9
  obtain ⟨e91, e92, e93⟩ := e9
  cases e91
  subst e92
  subst e93
  clear x
  rename Bool => x
  show J _ _ _ _ (_ :: _) _ _ _ _ _ _
  refine J_istore d_Law_law_1606 (Nat.le_of_ble_eq_true rfl) ?_
  refine J.ls (ls' := [some (.ref (jw_b w)), some (.ref x1), some (.ref x2), some (.ref x3), some (.int x4), some (.int q84.1), some (.int q88.1), none]) rfl ?_
  refine J_aload_n d_Law_law_1608 rfl ?_
  obtain ⟨q89, hq89, H⟩ := Option.bind_eq_some_iff.mp H
  refine J.kk (Nat.zero_add _) (Nat.zero_add _) ?_
  refine J_callV (kc := kc) (ks := ks) (kc' := 0) (ks' := 0) (a := x2) (ci := 12) (as := []) (st := []) (mf_Ref_thrown hw) (mv_Law_118 hw) d_Law_law_1609 ln_Ref_thrown (by decide) (by first | exact Nat.le_of_ble_eq_true rfl | (simp only [List.map_cons, List.map_nil, List.sum_cons, List.sum_nil, va_rf_cat]; exact Nat.le_of_ble_eq_true rfl)) rfl ((hG _).1 _ g87 (by decide)).1 ((hG _).1 _ g87 (by decide)).2 (by unfold pic; rw [g87]; rfl) (jcl_at hw rfl) rfl (p_Ref_thrown hw hG hq89) ?_ (fun E h' n' x' e1 => by cases e1.1)
  intro v9 h9 n9 x9 e9
  obtain ⟨e91, e92, e93⟩ := e9
  cases e91
  subst e92
  subst e93
  clear x
  rename Bool => x
  show J _ _ _ _ (_ :: _) _ _ _ _ _ _
  refine J_iload d_Law_law_1612 rfl ?_
  refine J_icmp_eq (tgt := 1619) d_Law_law_1614 (by decide) ?_ ?_
  · intro c96
    rw [if_pos c96] at H
    refine J_iload d_Law_law_1619 rfl ?_
    refine J_if_ne (tgt := 1636) d_Law_law_1621 (by decide) ?_ ?_
    · intro c94
      rw [if_neg c94] at H
      refine J.drop [true, true, true, true, true, false, false, false] rfl ?_
      exact p_Law_law_L1636 hw hG hL hxs (kc := kc) (ks := ks) hKc53 H
    · intro c94
      rw [if_pos c94] at H
      refine J_aload_n d_Law_law_1624 rfl ?_
      refine J_iconst (v := 0) d_Law_law_1625 (by decide) ?_
      obtain ⟨N90, hN90, H⟩ := Option.bind_eq_some_iff.mp H
      obtain ⟨k91, hk91, H⟩ := Option.bind_eq_some_iff.mp H
      refine F_lald k91 hw hG d_Law_law_1626 (gA_some hN90) (ix_some hk91) ?_
      refine J_iload d_Law_law_1627 rfl ?_
      refine J_i2l d_Law_law_1629 ?_
      refine J_lcmp d_Law_law_1630 ?_
      refine J_if_eq (tgt := 1636) d_Law_law_1631 (by decide) ?_ ?_
      · intro c93
        rw [if_pos c93] at H
        refine J.drop [true, true, true, true, true, false, false, false] rfl ?_
        exact p_Law_law_L1636 hw hG hL hxs (kc := kc) (ks := ks) hKc53 H
      · intro c93
        rw [if_neg c93] at H
        refine J_iconst (v := 0) d_Law_law_1634 (by decide) ?_
        have z92 : (0 : Int32) = 0 ∨ (0 : Int32) = 1 := by
          apply Classical.byContradiction
          intro q9
          rw [if_neg q9] at H
          cases H
        rw [if_pos z92] at H
        have H := Option.some.inj H
        subst H
        exact J_iret (st := []) d_Law_law_1635 rfl (narrow_z z92).1 ⟨rfl, rfl, rfl⟩
  · intro c96
    rw [if_neg c96] at H
    refine J_iconst (v := 0) d_Law_law_1617 (by decide) ?_
    have z95 : (0 : Int32) = 0 ∨ (0 : Int32) = 1 := by
      apply Classical.byContradiction
      intro q9
      rw [if_neg q9] at H
      cases H
    rw [if_pos z95] at H
    have H := Option.some.inj H
    subst H
    exact J_iret (st := []) d_Law_law_1618 rfl (narrow_z z95).1 ⟨rfl, rfl, rfl⟩
def f_Law_law_L1568 (Γ : gm_T) (L : Nat) (xs : Nat → Int32) (Kc53 : ph_T → Nat → Nat → Nat → Int32 → Option (Int32 × ph_T)) (φ : ph_T) (x1 : Nat) (x2 : Nat) (x3 : Nat) (x4 : Int32) : Option (Int32 × ph_T) :=
  f_Law_law_L2021 Γ L xs Kc53 φ x1 x2 x3 x4
set_option maxRecDepth 100000 in
set_option maxHeartbeats 8000000 in
theorem p_Law_law_L1568 {w : jw_T} (hw : jok w) {Γ : gm_T} {n : Nat} (hG : gd w Γ n) {L : Nat} {xs : Nat → Int32} (hL : jw_L w = L) (hxs : jw_xs w = xs) {Kc53 : ph_T → Nat → Nat → Nat → Int32 → Option (Int32 × ph_T)} {kc ks : Nat} (hKc53 : ∀ {x : Bool} {φ : ph_T} {x1 : Nat} {x2 : Nat} {x3 : Nat} {x4 : Int32} {q : Int32 × ph_T}, Kc53 φ x1 x2 x3 x4 = some q → J w M_Law_law 53 [some (.ref (jw_b w)), some (.ref x1), some (.ref x2), some (.ref x3), some (.int x4), none, none, none] [] (pic Γ φ) n x kc ks (fq Γ n (.inl (some (.int q.1))) q.2)) {x : Bool} {φ : ph_T} {x1 : Nat} {x2 : Nat} {x3 : Nat} {x4 : Int32} {q : Int32 × ph_T} (H : f_Law_law_L1568 Γ L xs Kc53 φ x1 x2 x3 x4 = some q) : J w M_Law_law 1568 [some (.ref (jw_b w)), some (.ref x1), some (.ref x2), some (.ref x3), some (.int x4), none, none, none] [] (pic Γ φ) n x kc ks (fq Γ n (.inl (some (.int q.1))) q.2) := by
  unfold f_Law_law_L1568 at H
  refine J_goto (tgt := 2021) d_Law_law_1568 (by decide) ?_
  refine J.drop [true, true, true, true, true, false, false, false] rfl ?_
  exact p_Law_law_L2021 hw hG hL hxs (kc := kc) (ks := ks) hKc53 H
def f_Law_law_L1491 (Γ : gm_T) (L : Nat) (xs : Nat → Int32) (Kc53 : ph_T → Nat → Nat → Nat → Int32 → Option (Int32 × ph_T)) (φ : ph_T) (x1 : Nat) (x2 : Nat) (x3 : Nat) (x4 : Int32) : Option (Int32 × ph_T) :=
  Option.bind (ix (x4 + (1 : Int32)) L) fun k97 =>
  Option.bind (ix (x4 + (2 : Int32)) L) fun k98 =>
  Option.bind (ix (x4 + (3 : Int32)) L) fun k99 =>
  Option.bind (f_Law_port Γ φ (some x1) (xs k97) (xs k98) (xs k99) (some x3)) fun q100 =>
  Option.bind (ix (x4 + (1 : Int32)) L) fun k101 =>
  Option.bind (ix (x4 + (2 : Int32)) L) fun k102 =>
  Option.bind (ix (x4 + (3 : Int32)) L) fun k103 =>
  @ite _ (Γ x2 = .inr 12) _ (
  Option.bind (f_Ref_port Γ q100.2 x2 (xs k101) (xs k102) (xs k103)) fun q105 =>
  Option.bind (f_Ref_thrown Γ q105.2 x2) fun q106 =>
  if q106.1 = q100.1 then
    if q100.1 = 0 then
      Option.bind (gA Γ x3 1) fun N107 =>
      Option.bind (ix (0 : Int32) N107) fun k108 =>
      if (lg_cmp (q106.2.2.1 x3 k108) (Int32.toInt64 q105.1)) = 0 then
        f_Law_law_L1568 Γ L xs Kc53 q106.2 x1 x2 x3 x4
      else
        @ite _ ((0 : Int32) = 0 ∨ (0 : Int32) = 1) _ (
        some ((0 : Int32), q106.2)
        ) none
    else
      f_Law_law_L1568 Γ L xs Kc53 q106.2 x1 x2 x3 x4
  else
    @ite _ ((0 : Int32) = 0 ∨ (0 : Int32) = 1) _ (
    some ((0 : Int32), q106.2)
    ) none
  ) none
set_option maxRecDepth 100000 in
set_option maxHeartbeats 8000000 in
theorem p_Law_law_L1491 {w : jw_T} (hw : jok w) {Γ : gm_T} {n : Nat} (hG : gd w Γ n) {L : Nat} {xs : Nat → Int32} (hL : jw_L w = L) (hxs : jw_xs w = xs) {Kc53 : ph_T → Nat → Nat → Nat → Int32 → Option (Int32 × ph_T)} {kc ks : Nat} (hKc53 : ∀ {x : Bool} {φ : ph_T} {x1 : Nat} {x2 : Nat} {x3 : Nat} {x4 : Int32} {q : Int32 × ph_T}, Kc53 φ x1 x2 x3 x4 = some q → J w M_Law_law 53 [some (.ref (jw_b w)), some (.ref x1), some (.ref x2), some (.ref x3), some (.int x4), none, none, none] [] (pic Γ φ) n x kc ks (fq Γ n (.inl (some (.int q.1))) q.2)) {x : Bool} {φ : ph_T} {x1 : Nat} {x2 : Nat} {x3 : Nat} {x4 : Int32} {q : Int32 × ph_T} (H : f_Law_law_L1491 Γ L xs Kc53 φ x1 x2 x3 x4 = some q) : J w M_Law_law 1491 [some (.ref (jw_b w)), some (.ref x1), some (.ref x2), some (.ref x3), some (.int x4), none, none, none] [] (pic Γ φ) n x (kc + 1) (ks + 6) (fq Γ n (.inl (some (.int q.1))) q.2) := by
  unfold f_Law_law_L1491 at H
  refine J_aload_n d_Law_law_1491 rfl ?_
  refine J_aload_n d_Law_law_1492 rfl ?_
  refine J_iload d_Law_law_1493 rfl ?_
  refine J_iconst (v := 1) d_Law_law_1495 (by decide) ?_
  refine J_iadd d_Law_law_1496 ?_
  obtain ⟨k97, hk97, H⟩ := Option.bind_eq_some_iff.mp H
  refine J_sldx hL hxs k97 d_Law_law_1497 (ix_some hk97) ?_
  refine J_aload_n d_Law_law_1498 rfl ?_
  refine J_iload d_Law_law_1499 rfl ?_
  refine J_iconst (v := 2) d_Law_law_1501 (by decide) ?_
  refine J_iadd d_Law_law_1502 ?_
  obtain ⟨k98, hk98, H⟩ := Option.bind_eq_some_iff.mp H
  refine J_sldx hL hxs k98 d_Law_law_1503 (ix_some hk98) ?_
  refine J_aload_n d_Law_law_1504 rfl ?_
  refine J_iload d_Law_law_1505 rfl ?_
  refine J_iconst (v := 3) d_Law_law_1507 (by decide) ?_
  refine J_iadd d_Law_law_1508 ?_
  obtain ⟨k99, hk99, H⟩ := Option.bind_eq_some_iff.mp H
  refine J_sldx hL hxs k99 d_Law_law_1509 (ix_some hk99) ?_
  refine J_aload_n d_Law_law_1510 rfl ?_
  obtain ⟨q100, hq100, H⟩ := Option.bind_eq_some_iff.mp H
  refine J.kk (Nat.add_comm _ _) (Nat.add_comm _ _) ?_
  refine J_callS (kc := kc) (ks := ks) (kc' := 1) (ks' := 6) (as := [.ref x1, .int (xs k97), .int (xs k98), .int (xs k99), .ref x3]) (st := []) (mf_Law_port hw) (ms_Law_178 hw) d_Law_law_1511 ln_Law_port (by decide) (by first | exact Nat.le_of_ble_eq_true rfl | (simp only [List.map_cons, List.map_nil, List.sum_cons, List.sum_nil, va_rf_cat]; exact Nat.le_of_ble_eq_true rfl)) rfl (p_Law_port hw hG hq100) ?_ (fun E h' n' x' e1 => by cases e1.1)
  intro v9 h9 n9 x9 e9
  obtain ⟨e91, e92, e93⟩ := e9
  cases e91
  subst e92
  subst e93
  clear x
  rename Bool => x
  show J _ _ _ _ (_ :: _) _ _ _ _ _ _
  refine J_istore d_Law_law_1514 (Nat.le_of_ble_eq_true rfl) ?_
  refine J.ls (ls' := [some (.ref (jw_b w)), some (.ref x1), some (.ref x2), some (.ref x3), some (.int x4), some (.int q100.1), none, none]) rfl ?_
  refine J_aload_n d_Law_law_1516 rfl ?_
  refine J_aload_n d_Law_law_1517 rfl ?_
  refine J_iload d_Law_law_1518 rfl ?_
  refine J_iconst (v := 1) d_Law_law_1520 (by decide) ?_
  refine J_iadd d_Law_law_1521 ?_
  obtain ⟨k101, hk101, H⟩ := Option.bind_eq_some_iff.mp H
  refine J_sldx hL hxs k101 d_Law_law_1522 (ix_some hk101) ?_
  refine J_aload_n d_Law_law_1523 rfl ?_
  refine J_iload d_Law_law_1524 rfl ?_
  refine J_iconst (v := 2) d_Law_law_1526 (by decide) ?_
  refine J_iadd d_Law_law_1527 ?_
  obtain ⟨k102, hk102, H⟩ := Option.bind_eq_some_iff.mp H
  refine J_sldx hL hxs k102 d_Law_law_1528 (ix_some hk102) ?_
  refine J_aload_n d_Law_law_1529 rfl ?_
  refine J_iload d_Law_law_1530 rfl ?_
  refine J_iconst (v := 3) d_Law_law_1532 (by decide) ?_
  refine J_iadd d_Law_law_1533 ?_
  obtain ⟨k103, hk103, H⟩ := Option.bind_eq_some_iff.mp H
  refine J_sldx hL hxs k103 d_Law_law_1534 (ix_some hk103) ?_
  have g104 : Γ x2 = .inr 12 := by
    apply Classical.byContradiction
    intro q9
    rw [if_neg q9] at H
    cases H
  rw [if_pos g104] at H
  obtain ⟨q105, hq105, H⟩ := Option.bind_eq_some_iff.mp H
  refine J.kk (Nat.zero_add _) (Nat.zero_add _) ?_
  refine J_callV (kc := kc) (ks := ks) (kc' := 0) (ks' := 0) (a := x2) (ci := 12) (as := [.int (xs k101), .int (xs k102), .int (xs k103)]) (st := []) (mf_Ref_port hw) (mv_Law_180 hw) d_Law_law_1535 ln_Ref_port (by decide) (by first | exact Nat.le_of_ble_eq_true rfl | (simp only [List.map_cons, List.map_nil, List.sum_cons, List.sum_nil, va_rf_cat]; exact Nat.le_of_ble_eq_true rfl)) rfl ((hG _).1 _ g104 (by decide)).1 ((hG _).1 _ g104 (by decide)).2 (by unfold pic; rw [g104]; rfl) (jcl_at hw rfl) rfl (p_Ref_port hw hG hq105) ?_ (fun E h' n' x' e1 => by cases e1.1)
  intro v9 h9 n9 x9 e9
  obtain ⟨e91, e92, e93⟩ := e9
  cases e91
  subst e92
  subst e93
  clear x
  rename Bool => x
  show J _ _ _ _ (_ :: _) _ _ _ _ _ _
  refine J_istore d_Law_law_1538 (Nat.le_of_ble_eq_true rfl) ?_
  refine J.ls (ls' := [some (.ref (jw_b w)), some (.ref x1), some (.ref x2), some (.ref x3), some (.int x4), some (.int q100.1), some (.int q105.1), none]) rfl ?_
  refine J_aload_n d_Law_law_1540 rfl ?_
  obtain ⟨q106, hq106, H⟩ := Option.bind_eq_some_iff.mp H
  refine J.kk (Nat.zero_add _) (Nat.zero_add _) ?_
  refine J_callV (kc := kc) (ks := ks) (kc' := 0) (ks' := 0) (a := x2) (ci := 12) (as := []) (st := []) (mf_Ref_thrown hw) (mv_Law_118 hw) d_Law_law_1541 ln_Ref_thrown (by decide) (by first | exact Nat.le_of_ble_eq_true rfl | (simp only [List.map_cons, List.map_nil, List.sum_cons, List.sum_nil, va_rf_cat]; exact Nat.le_of_ble_eq_true rfl)) rfl ((hG _).1 _ g104 (by decide)).1 ((hG _).1 _ g104 (by decide)).2 (by unfold pic; rw [g104]; rfl) (jcl_at hw rfl) rfl (p_Ref_thrown hw hG hq106) ?_ (fun E h' n' x' e1 => by cases e1.1)
  intro v9 h9 n9 x9 e9
  obtain ⟨e91, e92, e93⟩ := e9
  cases e91
  subst e92
  subst e93
  clear x
  rename Bool => x
  show J _ _ _ _ (_ :: _) _ _ _ _ _ _
  refine J_iload d_Law_law_1544 rfl ?_
  refine J_icmp_eq (tgt := 1551) d_Law_law_1546 (by decide) ?_ ?_
  · intro c113
    rw [if_pos c113] at H
    refine J_iload d_Law_law_1551 rfl ?_
    refine J_if_ne (tgt := 1568) d_Law_law_1553 (by decide) ?_ ?_
    · intro c111
      rw [if_neg c111] at H
      refine J.drop [true, true, true, true, true, false, false, false] rfl ?_
      exact p_Law_law_L1568 hw hG hL hxs (kc := kc) (ks := ks) hKc53 H
    · intro c111
      rw [if_pos c111] at H
      refine J_aload_n d_Law_law_1556 rfl ?_
      refine J_iconst (v := 0) d_Law_law_1557 (by decide) ?_
      obtain ⟨N107, hN107, H⟩ := Option.bind_eq_some_iff.mp H
      obtain ⟨k108, hk108, H⟩ := Option.bind_eq_some_iff.mp H
      refine F_lald k108 hw hG d_Law_law_1558 (gA_some hN107) (ix_some hk108) ?_
      refine J_iload d_Law_law_1559 rfl ?_
      refine J_i2l d_Law_law_1561 ?_
      refine J_lcmp d_Law_law_1562 ?_
      refine J_if_eq (tgt := 1568) d_Law_law_1563 (by decide) ?_ ?_
      · intro c110
        rw [if_pos c110] at H
        refine J.drop [true, true, true, true, true, false, false, false] rfl ?_
        exact p_Law_law_L1568 hw hG hL hxs (kc := kc) (ks := ks) hKc53 H
      · intro c110
        rw [if_neg c110] at H
        refine J_iconst (v := 0) d_Law_law_1566 (by decide) ?_
        have z109 : (0 : Int32) = 0 ∨ (0 : Int32) = 1 := by
          apply Classical.byContradiction
          intro q9
          rw [if_neg q9] at H
          cases H
        rw [if_pos z109] at H
        have H := Option.some.inj H
        subst H
        exact J_iret (st := []) d_Law_law_1567 rfl (narrow_z z109).1 ⟨rfl, rfl, rfl⟩
  · intro c113
    rw [if_neg c113] at H
    refine J_iconst (v := 0) d_Law_law_1549 (by decide) ?_
    have z112 : (0 : Int32) = 0 ∨ (0 : Int32) = 1 := by
      apply Classical.byContradiction
      intro q9
      rw [if_neg q9] at H
      cases H
    rw [if_pos z112] at H
    have H := Option.some.inj H
    subst H
    exact J_iret (st := []) d_Law_law_1550 rfl (narrow_z z112).1 ⟨rfl, rfl, rfl⟩
def f_Law_law_L1488 (Γ : gm_T) (L : Nat) (xs : Nat → Int32) (Kc53 : ph_T → Nat → Nat → Nat → Int32 → Option (Int32 × ph_T)) (φ : ph_T) (x1 : Nat) (x2 : Nat) (x3 : Nat) (x4 : Int32) : Option (Int32 × ph_T) :=
  f_Law_law_L2021 Γ L xs Kc53 φ x1 x2 x3 x4
set_option maxRecDepth 100000 in
set_option maxHeartbeats 8000000 in
theorem p_Law_law_L1488 {w : jw_T} (hw : jok w) {Γ : gm_T} {n : Nat} (hG : gd w Γ n) {L : Nat} {xs : Nat → Int32} (hL : jw_L w = L) (hxs : jw_xs w = xs) {Kc53 : ph_T → Nat → Nat → Nat → Int32 → Option (Int32 × ph_T)} {kc ks : Nat} (hKc53 : ∀ {x : Bool} {φ : ph_T} {x1 : Nat} {x2 : Nat} {x3 : Nat} {x4 : Int32} {q : Int32 × ph_T}, Kc53 φ x1 x2 x3 x4 = some q → J w M_Law_law 53 [some (.ref (jw_b w)), some (.ref x1), some (.ref x2), some (.ref x3), some (.int x4), none, none, none] [] (pic Γ φ) n x kc ks (fq Γ n (.inl (some (.int q.1))) q.2)) {x : Bool} {φ : ph_T} {x1 : Nat} {x2 : Nat} {x3 : Nat} {x4 : Int32} {q : Int32 × ph_T} (H : f_Law_law_L1488 Γ L xs Kc53 φ x1 x2 x3 x4 = some q) : J w M_Law_law 1488 [some (.ref (jw_b w)), some (.ref x1), some (.ref x2), some (.ref x3), some (.int x4), none, none, none] [] (pic Γ φ) n x kc ks (fq Γ n (.inl (some (.int q.1))) q.2) := by
  unfold f_Law_law_L1488 at H
  refine J_goto (tgt := 2021) d_Law_law_1488 (by decide) ?_
  refine J.drop [true, true, true, true, true, false, false, false] rfl ?_
  exact p_Law_law_L2021 hw hG hL hxs (kc := kc) (ks := ks) hKc53 H
def f_Law_law_L1412 (Γ : gm_T) (L : Nat) (xs : Nat → Int32) (Kc53 : ph_T → Nat → Nat → Nat → Int32 → Option (Int32 × ph_T)) (φ : ph_T) (x1 : Nat) (x2 : Nat) (x3 : Nat) (x4 : Int32) : Option (Int32 × ph_T) :=
  Option.bind (ix (x4 + (1 : Int32)) L) fun k114 =>
  Option.bind (ix (x4 + (2 : Int32)) L) fun k115 =>
  Option.bind (ix (x4 + (3 : Int32)) L) fun k116 =>
  Option.bind (f_Law_content Γ φ (some x1) (xs k114) (xs k115) (xs k116) (some x3)) fun q117 =>
  Option.bind (ix (x4 + (1 : Int32)) L) fun k118 =>
  Option.bind (ix (x4 + (2 : Int32)) L) fun k119 =>
  Option.bind (ix (x4 + (3 : Int32)) L) fun k120 =>
  @ite _ (Γ x2 = .inr 12) _ (
  Option.bind (f_Ref_content Γ q117.2 x2 (xs k118) (xs k119) (xs k120)) fun q122 =>
  Option.bind (f_Ref_thrown Γ q122.2 x2) fun q123 =>
  if q123.1 = q117.1 then
    if q117.1 = 0 then
      Option.bind (gA Γ x3 1) fun N124 =>
      Option.bind (ix (0 : Int32) N124) fun k125 =>
      if (lg_cmp (q123.2.2.1 x3 k125) q122.1) = 0 then
        f_Law_law_L1488 Γ L xs Kc53 q123.2 x1 x2 x3 x4
      else
        @ite _ ((0 : Int32) = 0 ∨ (0 : Int32) = 1) _ (
        some ((0 : Int32), q123.2)
        ) none
    else
      f_Law_law_L1488 Γ L xs Kc53 q123.2 x1 x2 x3 x4
  else
    @ite _ ((0 : Int32) = 0 ∨ (0 : Int32) = 1) _ (
    some ((0 : Int32), q123.2)
    ) none
  ) none
set_option maxRecDepth 100000 in
set_option maxHeartbeats 8000000 in
theorem p_Law_law_L1412 {w : jw_T} (hw : jok w) {Γ : gm_T} {n : Nat} (hG : gd w Γ n) {L : Nat} {xs : Nat → Int32} (hL : jw_L w = L) (hxs : jw_xs w = xs) {Kc53 : ph_T → Nat → Nat → Nat → Int32 → Option (Int32 × ph_T)} {kc ks : Nat} (hKc53 : ∀ {x : Bool} {φ : ph_T} {x1 : Nat} {x2 : Nat} {x3 : Nat} {x4 : Int32} {q : Int32 × ph_T}, Kc53 φ x1 x2 x3 x4 = some q → J w M_Law_law 53 [some (.ref (jw_b w)), some (.ref x1), some (.ref x2), some (.ref x3), some (.int x4), none, none, none] [] (pic Γ φ) n x kc ks (fq Γ n (.inl (some (.int q.1))) q.2)) {x : Bool} {φ : ph_T} {x1 : Nat} {x2 : Nat} {x3 : Nat} {x4 : Int32} {q : Int32 × ph_T} (H : f_Law_law_L1412 Γ L xs Kc53 φ x1 x2 x3 x4 = some q) : J w M_Law_law 1412 [some (.ref (jw_b w)), some (.ref x1), some (.ref x2), some (.ref x3), some (.int x4), none, none, none] [] (pic Γ φ) n x (kc + 1) (ks + 6) (fq Γ n (.inl (some (.int q.1))) q.2) := by
  unfold f_Law_law_L1412 at H
  refine J_aload_n d_Law_law_1412 rfl ?_
  refine J_aload_n d_Law_law_1413 rfl ?_
  refine J_iload d_Law_law_1414 rfl ?_
  refine J_iconst (v := 1) d_Law_law_1416 (by decide) ?_
  refine J_iadd d_Law_law_1417 ?_
  obtain ⟨k114, hk114, H⟩ := Option.bind_eq_some_iff.mp H
  refine J_sldx hL hxs k114 d_Law_law_1418 (ix_some hk114) ?_
  refine J_aload_n d_Law_law_1419 rfl ?_
  refine J_iload d_Law_law_1420 rfl ?_
  refine J_iconst (v := 2) d_Law_law_1422 (by decide) ?_
  refine J_iadd d_Law_law_1423 ?_
  obtain ⟨k115, hk115, H⟩ := Option.bind_eq_some_iff.mp H
  refine J_sldx hL hxs k115 d_Law_law_1424 (ix_some hk115) ?_
  refine J_aload_n d_Law_law_1425 rfl ?_
  refine J_iload d_Law_law_1426 rfl ?_
  refine J_iconst (v := 3) d_Law_law_1428 (by decide) ?_
  refine J_iadd d_Law_law_1429 ?_
  obtain ⟨k116, hk116, H⟩ := Option.bind_eq_some_iff.mp H
  refine J_sldx hL hxs k116 d_Law_law_1430 (ix_some hk116) ?_
  refine J_aload_n d_Law_law_1431 rfl ?_
  obtain ⟨q117, hq117, H⟩ := Option.bind_eq_some_iff.mp H
  refine J.kk (Nat.add_comm _ _) (Nat.add_comm _ _) ?_
  refine J_callS (kc := kc) (ks := ks) (kc' := 1) (ks' := 6) (as := [.ref x1, .int (xs k114), .int (xs k115), .int (xs k116), .ref x3]) (st := []) (mf_Law_content hw) (ms_Law_175 hw) d_Law_law_1432 ln_Law_content (by decide) (by first | exact Nat.le_of_ble_eq_true rfl | (simp only [List.map_cons, List.map_nil, List.sum_cons, List.sum_nil, va_rf_cat]; exact Nat.le_of_ble_eq_true rfl)) rfl (p_Law_content hw hG hq117) ?_ (fun E h' n' x' e1 => by cases e1.1)
  intro v9 h9 n9 x9 e9
  obtain ⟨e91, e92, e93⟩ := e9
  cases e91
  subst e92
  subst e93
  clear x
  rename Bool => x
  show J _ _ _ _ (_ :: _) _ _ _ _ _ _
  refine J_istore d_Law_law_1435 (Nat.le_of_ble_eq_true rfl) ?_
  refine J.ls (ls' := [some (.ref (jw_b w)), some (.ref x1), some (.ref x2), some (.ref x3), some (.int x4), some (.int q117.1), none, none]) rfl ?_
  refine J_aload_n d_Law_law_1437 rfl ?_
  refine J_aload_n d_Law_law_1438 rfl ?_
  refine J_iload d_Law_law_1439 rfl ?_
  refine J_iconst (v := 1) d_Law_law_1441 (by decide) ?_
  refine J_iadd d_Law_law_1442 ?_
  obtain ⟨k118, hk118, H⟩ := Option.bind_eq_some_iff.mp H
  refine J_sldx hL hxs k118 d_Law_law_1443 (ix_some hk118) ?_
  refine J_aload_n d_Law_law_1444 rfl ?_
  refine J_iload d_Law_law_1445 rfl ?_
  refine J_iconst (v := 2) d_Law_law_1447 (by decide) ?_
  refine J_iadd d_Law_law_1448 ?_
  obtain ⟨k119, hk119, H⟩ := Option.bind_eq_some_iff.mp H
  refine J_sldx hL hxs k119 d_Law_law_1449 (ix_some hk119) ?_
  refine J_aload_n d_Law_law_1450 rfl ?_
  refine J_iload d_Law_law_1451 rfl ?_
  refine J_iconst (v := 3) d_Law_law_1453 (by decide) ?_
  refine J_iadd d_Law_law_1454 ?_
  obtain ⟨k120, hk120, H⟩ := Option.bind_eq_some_iff.mp H
  refine J_sldx hL hxs k120 d_Law_law_1455 (ix_some hk120) ?_
  have g121 : Γ x2 = .inr 12 := by
    apply Classical.byContradiction
    intro q9
    rw [if_neg q9] at H
    cases H
  rw [if_pos g121] at H
  obtain ⟨q122, hq122, H⟩ := Option.bind_eq_some_iff.mp H
  refine J.kk (Nat.zero_add _) (Nat.zero_add _) ?_
  refine J_callV (kc := kc) (ks := ks) (kc' := 0) (ks' := 0) (a := x2) (ci := 12) (as := [.int (xs k118), .int (xs k119), .int (xs k120)]) (st := []) (mf_Ref_content hw) (mv_Law_177 hw) d_Law_law_1456 ln_Ref_content (by decide) (by first | exact Nat.le_of_ble_eq_true rfl | (simp only [List.map_cons, List.map_nil, List.sum_cons, List.sum_nil, va_rf_cat]; exact Nat.le_of_ble_eq_true rfl)) rfl ((hG _).1 _ g121 (by decide)).1 ((hG _).1 _ g121 (by decide)).2 (by unfold pic; rw [g121]; rfl) (jcl_at hw rfl) rfl (p_Ref_content hw hG hq122) ?_ (fun E h' n' x' e1 => by cases e1.1)
  intro v9 h9 n9 x9 e9
  obtain ⟨e91, e92, e93⟩ := e9
  cases e91
  subst e92
  subst e93
  clear x
  rename Bool => x
  show J _ _ _ _ (_ :: _) _ _ _ _ _ _
  refine J_lstore d_Law_law_1459 (Nat.le_of_ble_eq_true rfl) ?_
  refine J.ls (ls' := [some (.ref (jw_b w)), some (.ref x1), some (.ref x2), some (.ref x3), some (.int x4), some (.int q117.1), some (.long q122.1), none]) rfl ?_
  refine J_aload_n d_Law_law_1461 rfl ?_
  obtain ⟨q123, hq123, H⟩ := Option.bind_eq_some_iff.mp H
  refine J.kk (Nat.zero_add _) (Nat.zero_add _) ?_
  refine J_callV (kc := kc) (ks := ks) (kc' := 0) (ks' := 0) (a := x2) (ci := 12) (as := []) (st := []) (mf_Ref_thrown hw) (mv_Law_118 hw) d_Law_law_1462 ln_Ref_thrown (by decide) (by first | exact Nat.le_of_ble_eq_true rfl | (simp only [List.map_cons, List.map_nil, List.sum_cons, List.sum_nil, va_rf_cat]; exact Nat.le_of_ble_eq_true rfl)) rfl ((hG _).1 _ g121 (by decide)).1 ((hG _).1 _ g121 (by decide)).2 (by unfold pic; rw [g121]; rfl) (jcl_at hw rfl) rfl (p_Ref_thrown hw hG hq123) ?_ (fun E h' n' x' e1 => by cases e1.1)
  intro v9 h9 n9 x9 e9
  obtain ⟨e91, e92, e93⟩ := e9
  cases e91
  subst e92
  subst e93
  clear x
  rename Bool => x
  show J _ _ _ _ (_ :: _) _ _ _ _ _ _
  refine J_iload d_Law_law_1465 rfl ?_
  refine J_icmp_eq (tgt := 1472) d_Law_law_1467 (by decide) ?_ ?_
  · intro c130
    rw [if_pos c130] at H
    refine J_iload d_Law_law_1472 rfl ?_
    refine J_if_ne (tgt := 1488) d_Law_law_1474 (by decide) ?_ ?_
    · intro c128
      rw [if_neg c128] at H
      refine J.drop [true, true, true, true, true, false, false, false] rfl ?_
      exact p_Law_law_L1488 hw hG hL hxs (kc := kc) (ks := ks) hKc53 H
    · intro c128
      rw [if_pos c128] at H
      refine J_aload_n d_Law_law_1477 rfl ?_
      refine J_iconst (v := 0) d_Law_law_1478 (by decide) ?_
      obtain ⟨N124, hN124, H⟩ := Option.bind_eq_some_iff.mp H
      obtain ⟨k125, hk125, H⟩ := Option.bind_eq_some_iff.mp H
      refine F_lald k125 hw hG d_Law_law_1479 (gA_some hN124) (ix_some hk125) ?_
      refine J_lload d_Law_law_1480 rfl ?_
      refine J_lcmp d_Law_law_1482 ?_
      refine J_if_eq (tgt := 1488) d_Law_law_1483 (by decide) ?_ ?_
      · intro c127
        rw [if_pos c127] at H
        refine J.drop [true, true, true, true, true, false, false, false] rfl ?_
        exact p_Law_law_L1488 hw hG hL hxs (kc := kc) (ks := ks) hKc53 H
      · intro c127
        rw [if_neg c127] at H
        refine J_iconst (v := 0) d_Law_law_1486 (by decide) ?_
        have z126 : (0 : Int32) = 0 ∨ (0 : Int32) = 1 := by
          apply Classical.byContradiction
          intro q9
          rw [if_neg q9] at H
          cases H
        rw [if_pos z126] at H
        have H := Option.some.inj H
        subst H
        exact J_iret (st := []) d_Law_law_1487 rfl (narrow_z z126).1 ⟨rfl, rfl, rfl⟩
  · intro c130
    rw [if_neg c130] at H
    refine J_iconst (v := 0) d_Law_law_1470 (by decide) ?_
    have z129 : (0 : Int32) = 0 ∨ (0 : Int32) = 1 := by
      apply Classical.byContradiction
      intro q9
      rw [if_neg q9] at H
      cases H
    rw [if_pos z129] at H
    have H := Option.some.inj H
    subst H
    exact J_iret (st := []) d_Law_law_1471 rfl (narrow_z z129).1 ⟨rfl, rfl, rfl⟩
def f_Law_law_L1409 (Γ : gm_T) (L : Nat) (xs : Nat → Int32) (Kc53 : ph_T → Nat → Nat → Nat → Int32 → Option (Int32 × ph_T)) (φ : ph_T) (x1 : Nat) (x2 : Nat) (x3 : Nat) (x4 : Int32) : Option (Int32 × ph_T) :=
  f_Law_law_L2021 Γ L xs Kc53 φ x1 x2 x3 x4
set_option maxRecDepth 100000 in
set_option maxHeartbeats 8000000 in
theorem p_Law_law_L1409 {w : jw_T} (hw : jok w) {Γ : gm_T} {n : Nat} (hG : gd w Γ n) {L : Nat} {xs : Nat → Int32} (hL : jw_L w = L) (hxs : jw_xs w = xs) {Kc53 : ph_T → Nat → Nat → Nat → Int32 → Option (Int32 × ph_T)} {kc ks : Nat} (hKc53 : ∀ {x : Bool} {φ : ph_T} {x1 : Nat} {x2 : Nat} {x3 : Nat} {x4 : Int32} {q : Int32 × ph_T}, Kc53 φ x1 x2 x3 x4 = some q → J w M_Law_law 53 [some (.ref (jw_b w)), some (.ref x1), some (.ref x2), some (.ref x3), some (.int x4), none, none, none] [] (pic Γ φ) n x kc ks (fq Γ n (.inl (some (.int q.1))) q.2)) {x : Bool} {φ : ph_T} {x1 : Nat} {x2 : Nat} {x3 : Nat} {x4 : Int32} {q : Int32 × ph_T} (H : f_Law_law_L1409 Γ L xs Kc53 φ x1 x2 x3 x4 = some q) : J w M_Law_law 1409 [some (.ref (jw_b w)), some (.ref x1), some (.ref x2), some (.ref x3), some (.int x4), none, none, none] [] (pic Γ φ) n x kc ks (fq Γ n (.inl (some (.int q.1))) q.2) := by
  unfold f_Law_law_L1409 at H
  refine J_goto (tgt := 2021) d_Law_law_1409 (by decide) ?_
  refine J.drop [true, true, true, true, true, false, false, false] rfl ?_
  exact p_Law_law_L2021 hw hG hL hxs (kc := kc) (ks := ks) hKc53 H
def f_Law_law_L1320 (Γ : gm_T) (L : Nat) (xs : Nat → Int32) (Kc53 : ph_T → Nat → Nat → Nat → Int32 → Option (Int32 × ph_T)) (φ : ph_T) (x1 : Nat) (x2 : Nat) (x3 : Nat) (x4 : Int32) : Option (Int32 × ph_T) :=
  Option.bind (ix (x4 + (1 : Int32)) L) fun k131 =>
  Option.bind (ix (x4 + (2 : Int32)) L) fun k132 =>
  Option.bind (ix (x4 + (3 : Int32)) L) fun k133 =>
  Option.bind (ix (x4 + (4 : Int32)) L) fun k134 =>
  Option.bind (f_Law_wire Γ φ (some x1) (xs k131) (xs k132) (xs k133) (xs k134) (some x3)) fun q135 =>
  Option.bind (ix (x4 + (1 : Int32)) L) fun k136 =>
  Option.bind (ix (x4 + (2 : Int32)) L) fun k137 =>
  Option.bind (ix (x4 + (3 : Int32)) L) fun k138 =>
  Option.bind (ix (x4 + (4 : Int32)) L) fun k139 =>
  @ite _ (Γ x2 = .inr 12) _ (
  Option.bind (f_Ref_wire Γ q135.2 x2 (xs k136) (xs k137) (xs k138) (xs k139)) fun q141 =>
  Option.bind (f_Ref_thrown Γ q141.2 x2) fun q142 =>
  if q142.1 = q135.1 then
    if q135.1 = 0 then
      Option.bind (gA Γ x3 1) fun N143 =>
      Option.bind (ix (0 : Int32) N143) fun k144 =>
      if (lg_cmp (q142.2.2.1 x3 k144) (Int32.toInt64 q141.1)) = 0 then
        f_Law_law_L1409 Γ L xs Kc53 q142.2 x1 x2 x3 x4
      else
        @ite _ ((0 : Int32) = 0 ∨ (0 : Int32) = 1) _ (
        some ((0 : Int32), q142.2)
        ) none
    else
      f_Law_law_L1409 Γ L xs Kc53 q142.2 x1 x2 x3 x4
  else
    @ite _ ((0 : Int32) = 0 ∨ (0 : Int32) = 1) _ (
    some ((0 : Int32), q142.2)
    ) none
  ) none
set_option maxRecDepth 100000 in
set_option maxHeartbeats 8000000 in
theorem p_Law_law_L1320 {w : jw_T} (hw : jok w) {Γ : gm_T} {n : Nat} (hG : gd w Γ n) {L : Nat} {xs : Nat → Int32} (hL : jw_L w = L) (hxs : jw_xs w = xs) {Kc53 : ph_T → Nat → Nat → Nat → Int32 → Option (Int32 × ph_T)} {kc ks : Nat} (hKc53 : ∀ {x : Bool} {φ : ph_T} {x1 : Nat} {x2 : Nat} {x3 : Nat} {x4 : Int32} {q : Int32 × ph_T}, Kc53 φ x1 x2 x3 x4 = some q → J w M_Law_law 53 [some (.ref (jw_b w)), some (.ref x1), some (.ref x2), some (.ref x3), some (.int x4), none, none, none] [] (pic Γ φ) n x kc ks (fq Γ n (.inl (some (.int q.1))) q.2)) {x : Bool} {φ : ph_T} {x1 : Nat} {x2 : Nat} {x3 : Nat} {x4 : Int32} {q : Int32 × ph_T} (H : f_Law_law_L1320 Γ L xs Kc53 φ x1 x2 x3 x4 = some q) : J w M_Law_law 1320 [some (.ref (jw_b w)), some (.ref x1), some (.ref x2), some (.ref x3), some (.int x4), none, none, none] [] (pic Γ φ) n x (kc + 1) (ks + 6) (fq Γ n (.inl (some (.int q.1))) q.2) := by
  unfold f_Law_law_L1320 at H
  refine J_aload_n d_Law_law_1320 rfl ?_
  refine J_aload_n d_Law_law_1321 rfl ?_
  refine J_iload d_Law_law_1322 rfl ?_
  refine J_iconst (v := 1) d_Law_law_1324 (by decide) ?_
  refine J_iadd d_Law_law_1325 ?_
  obtain ⟨k131, hk131, H⟩ := Option.bind_eq_some_iff.mp H
  refine J_sldx hL hxs k131 d_Law_law_1326 (ix_some hk131) ?_
  refine J_aload_n d_Law_law_1327 rfl ?_
  refine J_iload d_Law_law_1328 rfl ?_
  refine J_iconst (v := 2) d_Law_law_1330 (by decide) ?_
  refine J_iadd d_Law_law_1331 ?_
  obtain ⟨k132, hk132, H⟩ := Option.bind_eq_some_iff.mp H
  refine J_sldx hL hxs k132 d_Law_law_1332 (ix_some hk132) ?_
  refine J_aload_n d_Law_law_1333 rfl ?_
  refine J_iload d_Law_law_1334 rfl ?_
  refine J_iconst (v := 3) d_Law_law_1336 (by decide) ?_
  refine J_iadd d_Law_law_1337 ?_
  obtain ⟨k133, hk133, H⟩ := Option.bind_eq_some_iff.mp H
  refine J_sldx hL hxs k133 d_Law_law_1338 (ix_some hk133) ?_
  refine J_aload_n d_Law_law_1339 rfl ?_
  refine J_iload d_Law_law_1340 rfl ?_
  refine J_iconst (v := 4) d_Law_law_1342 (by decide) ?_
  refine J_iadd d_Law_law_1343 ?_
  obtain ⟨k134, hk134, H⟩ := Option.bind_eq_some_iff.mp H
  refine J_sldx hL hxs k134 d_Law_law_1344 (ix_some hk134) ?_
  refine J_aload_n d_Law_law_1345 rfl ?_
  obtain ⟨q135, hq135, H⟩ := Option.bind_eq_some_iff.mp H
  refine J.kk (Nat.add_comm _ _) (Nat.add_comm _ _) ?_
  refine J_callS (kc := kc) (ks := ks) (kc' := 1) (ks' := 6) (as := [.ref x1, .int (xs k131), .int (xs k132), .int (xs k133), .int (xs k134), .ref x3]) (st := []) (mf_Law_wire hw) (ms_Law_171 hw) d_Law_law_1346 ln_Law_wire (by decide) (by first | exact Nat.le_of_ble_eq_true rfl | (simp only [List.map_cons, List.map_nil, List.sum_cons, List.sum_nil, va_rf_cat]; exact Nat.le_of_ble_eq_true rfl)) rfl (p_Law_wire hw hG hq135) ?_ (fun E h' n' x' e1 => by cases e1.1)
  intro v9 h9 n9 x9 e9
  obtain ⟨e91, e92, e93⟩ := e9
  cases e91
  subst e92
  subst e93
  clear x
  rename Bool => x
  show J _ _ _ _ (_ :: _) _ _ _ _ _ _
  refine J_istore d_Law_law_1349 (Nat.le_of_ble_eq_true rfl) ?_
  refine J.ls (ls' := [some (.ref (jw_b w)), some (.ref x1), some (.ref x2), some (.ref x3), some (.int x4), some (.int q135.1), none, none]) rfl ?_
  refine J_aload_n d_Law_law_1351 rfl ?_
  refine J_aload_n d_Law_law_1352 rfl ?_
  refine J_iload d_Law_law_1353 rfl ?_
  refine J_iconst (v := 1) d_Law_law_1355 (by decide) ?_
  refine J_iadd d_Law_law_1356 ?_
  obtain ⟨k136, hk136, H⟩ := Option.bind_eq_some_iff.mp H
  refine J_sldx hL hxs k136 d_Law_law_1357 (ix_some hk136) ?_
  refine J_aload_n d_Law_law_1358 rfl ?_
  refine J_iload d_Law_law_1359 rfl ?_
  refine J_iconst (v := 2) d_Law_law_1361 (by decide) ?_
  refine J_iadd d_Law_law_1362 ?_
  obtain ⟨k137, hk137, H⟩ := Option.bind_eq_some_iff.mp H
  refine J_sldx hL hxs k137 d_Law_law_1363 (ix_some hk137) ?_
  refine J_aload_n d_Law_law_1364 rfl ?_
  refine J_iload d_Law_law_1365 rfl ?_
  refine J_iconst (v := 3) d_Law_law_1367 (by decide) ?_
  refine J_iadd d_Law_law_1368 ?_
  obtain ⟨k138, hk138, H⟩ := Option.bind_eq_some_iff.mp H
  refine J_sldx hL hxs k138 d_Law_law_1369 (ix_some hk138) ?_
  refine J_aload_n d_Law_law_1370 rfl ?_
  refine J_iload d_Law_law_1371 rfl ?_
  refine J_iconst (v := 4) d_Law_law_1373 (by decide) ?_
  refine J_iadd d_Law_law_1374 ?_
  obtain ⟨k139, hk139, H⟩ := Option.bind_eq_some_iff.mp H
  refine J_sldx hL hxs k139 d_Law_law_1375 (ix_some hk139) ?_
  have g140 : Γ x2 = .inr 12 := by
    apply Classical.byContradiction
    intro q9
    rw [if_neg q9] at H
    cases H
  rw [if_pos g140] at H
  obtain ⟨q141, hq141, H⟩ := Option.bind_eq_some_iff.mp H
  refine J.kk (Nat.zero_add _) (Nat.zero_add _) ?_
  refine J_callV (kc := kc) (ks := ks) (kc' := 0) (ks' := 0) (a := x2) (ci := 12) (as := [.int (xs k136), .int (xs k137), .int (xs k138), .int (xs k139)]) (st := []) (mf_Ref_wire hw) (mv_Law_174 hw) d_Law_law_1376 ln_Ref_wire (by decide) (by first | exact Nat.le_of_ble_eq_true rfl | (simp only [List.map_cons, List.map_nil, List.sum_cons, List.sum_nil, va_rf_cat]; exact Nat.le_of_ble_eq_true rfl)) rfl ((hG _).1 _ g140 (by decide)).1 ((hG _).1 _ g140 (by decide)).2 (by unfold pic; rw [g140]; rfl) (jcl_at hw rfl) rfl (p_Ref_wire hw hG hq141) ?_ (fun E h' n' x' e1 => by cases e1.1)
  intro v9 h9 n9 x9 e9
  obtain ⟨e91, e92, e93⟩ := e9
  cases e91
  subst e92
  subst e93
  clear x
  rename Bool => x
  show J _ _ _ _ (_ :: _) _ _ _ _ _ _
  refine J_istore d_Law_law_1379 (Nat.le_of_ble_eq_true rfl) ?_
  refine J.ls (ls' := [some (.ref (jw_b w)), some (.ref x1), some (.ref x2), some (.ref x3), some (.int x4), some (.int q135.1), some (.int q141.1), none]) rfl ?_
  refine J_aload_n d_Law_law_1381 rfl ?_
  obtain ⟨q142, hq142, H⟩ := Option.bind_eq_some_iff.mp H
  refine J.kk (Nat.zero_add _) (Nat.zero_add _) ?_
  refine J_callV (kc := kc) (ks := ks) (kc' := 0) (ks' := 0) (a := x2) (ci := 12) (as := []) (st := []) (mf_Ref_thrown hw) (mv_Law_118 hw) d_Law_law_1382 ln_Ref_thrown (by decide) (by first | exact Nat.le_of_ble_eq_true rfl | (simp only [List.map_cons, List.map_nil, List.sum_cons, List.sum_nil, va_rf_cat]; exact Nat.le_of_ble_eq_true rfl)) rfl ((hG _).1 _ g140 (by decide)).1 ((hG _).1 _ g140 (by decide)).2 (by unfold pic; rw [g140]; rfl) (jcl_at hw rfl) rfl (p_Ref_thrown hw hG hq142) ?_ (fun E h' n' x' e1 => by cases e1.1)
  intro v9 h9 n9 x9 e9
  obtain ⟨e91, e92, e93⟩ := e9
  cases e91
  subst e92
  subst e93
  clear x
  rename Bool => x
  show J _ _ _ _ (_ :: _) _ _ _ _ _ _
  refine J_iload d_Law_law_1385 rfl ?_
  refine J_icmp_eq (tgt := 1392) d_Law_law_1387 (by decide) ?_ ?_
  · intro c149
    rw [if_pos c149] at H
    refine J_iload d_Law_law_1392 rfl ?_
    refine J_if_ne (tgt := 1409) d_Law_law_1394 (by decide) ?_ ?_
    · intro c147
      rw [if_neg c147] at H
      refine J.drop [true, true, true, true, true, false, false, false] rfl ?_
      exact p_Law_law_L1409 hw hG hL hxs (kc := kc) (ks := ks) hKc53 H
    · intro c147
      rw [if_pos c147] at H
      refine J_aload_n d_Law_law_1397 rfl ?_
      refine J_iconst (v := 0) d_Law_law_1398 (by decide) ?_
      obtain ⟨N143, hN143, H⟩ := Option.bind_eq_some_iff.mp H
      obtain ⟨k144, hk144, H⟩ := Option.bind_eq_some_iff.mp H
      refine F_lald k144 hw hG d_Law_law_1399 (gA_some hN143) (ix_some hk144) ?_
      refine J_iload d_Law_law_1400 rfl ?_
      refine J_i2l d_Law_law_1402 ?_
      refine J_lcmp d_Law_law_1403 ?_
      refine J_if_eq (tgt := 1409) d_Law_law_1404 (by decide) ?_ ?_
      · intro c146
        rw [if_pos c146] at H
        refine J.drop [true, true, true, true, true, false, false, false] rfl ?_
        exact p_Law_law_L1409 hw hG hL hxs (kc := kc) (ks := ks) hKc53 H
      · intro c146
        rw [if_neg c146] at H
        refine J_iconst (v := 0) d_Law_law_1407 (by decide) ?_
        have z145 : (0 : Int32) = 0 ∨ (0 : Int32) = 1 := by
          apply Classical.byContradiction
          intro q9
          rw [if_neg q9] at H
          cases H
        rw [if_pos z145] at H
        have H := Option.some.inj H
        subst H
        exact J_iret (st := []) d_Law_law_1408 rfl (narrow_z z145).1 ⟨rfl, rfl, rfl⟩
  · intro c149
    rw [if_neg c149] at H
    refine J_iconst (v := 0) d_Law_law_1390 (by decide) ?_
    have z148 : (0 : Int32) = 0 ∨ (0 : Int32) = 1 := by
      apply Classical.byContradiction
      intro q9
      rw [if_neg q9] at H
      cases H
    rw [if_pos z148] at H
    have H := Option.some.inj H
    subst H
    exact J_iret (st := []) d_Law_law_1391 rfl (narrow_z z148).1 ⟨rfl, rfl, rfl⟩
def f_Law_law_L1317 (Γ : gm_T) (L : Nat) (xs : Nat → Int32) (Kc53 : ph_T → Nat → Nat → Nat → Int32 → Option (Int32 × ph_T)) (φ : ph_T) (x1 : Nat) (x2 : Nat) (x3 : Nat) (x4 : Int32) : Option (Int32 × ph_T) :=
  f_Law_law_L2021 Γ L xs Kc53 φ x1 x2 x3 x4
set_option maxRecDepth 100000 in
set_option maxHeartbeats 8000000 in
theorem p_Law_law_L1317 {w : jw_T} (hw : jok w) {Γ : gm_T} {n : Nat} (hG : gd w Γ n) {L : Nat} {xs : Nat → Int32} (hL : jw_L w = L) (hxs : jw_xs w = xs) {Kc53 : ph_T → Nat → Nat → Nat → Int32 → Option (Int32 × ph_T)} {kc ks : Nat} (hKc53 : ∀ {x : Bool} {φ : ph_T} {x1 : Nat} {x2 : Nat} {x3 : Nat} {x4 : Int32} {q : Int32 × ph_T}, Kc53 φ x1 x2 x3 x4 = some q → J w M_Law_law 53 [some (.ref (jw_b w)), some (.ref x1), some (.ref x2), some (.ref x3), some (.int x4), none, none, none] [] (pic Γ φ) n x kc ks (fq Γ n (.inl (some (.int q.1))) q.2)) {x : Bool} {φ : ph_T} {x1 : Nat} {x2 : Nat} {x3 : Nat} {x4 : Int32} {q : Int32 × ph_T} (H : f_Law_law_L1317 Γ L xs Kc53 φ x1 x2 x3 x4 = some q) : J w M_Law_law 1317 [some (.ref (jw_b w)), some (.ref x1), some (.ref x2), some (.ref x3), some (.int x4), none, none, none] [] (pic Γ φ) n x kc ks (fq Γ n (.inl (some (.int q.1))) q.2) := by
  unfold f_Law_law_L1317 at H
  refine J_goto (tgt := 2021) d_Law_law_1317 (by decide) ?_
  refine J.drop [true, true, true, true, true, false, false, false] rfl ?_
  exact p_Law_law_L2021 hw hG hL hxs (kc := kc) (ks := ks) hKc53 H
def f_Law_law_L1276 (Γ : gm_T) (L : Nat) (xs : Nat → Int32) (Kc53 : ph_T → Nat → Nat → Nat → Int32 → Option (Int32 × ph_T)) (φ : ph_T) (x1 : Nat) (x2 : Nat) (x3 : Nat) (x4 : Int32) : Option (Int32 × ph_T) :=
  Option.bind (f_Law_forget Γ φ (some x1) (some x3)) fun q150 =>
  @ite _ (Γ x2 = .inr 12) _ (
  Option.bind (f_Ref_forget Γ q150.2 x2) fun q152 =>
  Option.bind (f_Ref_thrown Γ q152.2 x2) fun q153 =>
  if q153.1 = q150.1 then
    if q150.1 = 0 then
      Option.bind (gA Γ x3 1) fun N154 =>
      Option.bind (ix (0 : Int32) N154) fun k155 =>
      if (lg_cmp (q153.2.2.1 x3 k155) (Int32.toInt64 q152.1)) = 0 then
        f_Law_law_L1317 Γ L xs Kc53 q153.2 x1 x2 x3 x4
      else
        @ite _ ((0 : Int32) = 0 ∨ (0 : Int32) = 1) _ (
        some ((0 : Int32), q153.2)
        ) none
    else
      f_Law_law_L1317 Γ L xs Kc53 q153.2 x1 x2 x3 x4
  else
    @ite _ ((0 : Int32) = 0 ∨ (0 : Int32) = 1) _ (
    some ((0 : Int32), q153.2)
    ) none
  ) none
set_option maxRecDepth 100000 in
set_option maxHeartbeats 8000000 in
theorem p_Law_law_L1276 {w : jw_T} (hw : jok w) {Γ : gm_T} {n : Nat} (hG : gd w Γ n) {L : Nat} {xs : Nat → Int32} (hL : jw_L w = L) (hxs : jw_xs w = xs) {Kc53 : ph_T → Nat → Nat → Nat → Int32 → Option (Int32 × ph_T)} {kc ks : Nat} (hKc53 : ∀ {x : Bool} {φ : ph_T} {x1 : Nat} {x2 : Nat} {x3 : Nat} {x4 : Int32} {q : Int32 × ph_T}, Kc53 φ x1 x2 x3 x4 = some q → J w M_Law_law 53 [some (.ref (jw_b w)), some (.ref x1), some (.ref x2), some (.ref x3), some (.int x4), none, none, none] [] (pic Γ φ) n x kc ks (fq Γ n (.inl (some (.int q.1))) q.2)) {x : Bool} {φ : ph_T} {x1 : Nat} {x2 : Nat} {x3 : Nat} {x4 : Int32} {q : Int32 × ph_T} (H : f_Law_law_L1276 Γ L xs Kc53 φ x1 x2 x3 x4 = some q) : J w M_Law_law 1276 [some (.ref (jw_b w)), some (.ref x1), some (.ref x2), some (.ref x3), some (.int x4), none, none, none] [] (pic Γ φ) n x (kc + 1) (ks + 6) (fq Γ n (.inl (some (.int q.1))) q.2) := by
  unfold f_Law_law_L1276 at H
  refine J_aload_n d_Law_law_1276 rfl ?_
  refine J_aload_n d_Law_law_1277 rfl ?_
  obtain ⟨q150, hq150, H⟩ := Option.bind_eq_some_iff.mp H
  refine J.kk (Nat.add_comm _ _) (Nat.add_comm _ _) ?_
  refine J_callS (kc := kc) (ks := ks) (kc' := 1) (ks' := 6) (as := [.ref x1, .ref x3]) (st := []) (mf_Law_forget hw) (ms_Law_167 hw) d_Law_law_1278 ln_Law_forget (by decide) (by first | exact Nat.le_of_ble_eq_true rfl | (simp only [List.map_cons, List.map_nil, List.sum_cons, List.sum_nil, va_rf_cat]; exact Nat.le_of_ble_eq_true rfl)) rfl (p_Law_forget hw hG hq150) ?_ (fun E h' n' x' e1 => by cases e1.1)
  intro v9 h9 n9 x9 e9
  obtain ⟨e91, e92, e93⟩ := e9
  cases e91
  subst e92
  subst e93
  clear x
  rename Bool => x
  show J _ _ _ _ (_ :: _) _ _ _ _ _ _
  refine J_istore d_Law_law_1281 (Nat.le_of_ble_eq_true rfl) ?_
  refine J.ls (ls' := [some (.ref (jw_b w)), some (.ref x1), some (.ref x2), some (.ref x3), some (.int x4), some (.int q150.1), none, none]) rfl ?_
  refine J_aload_n d_Law_law_1283 rfl ?_
  have g151 : Γ x2 = .inr 12 := by
    apply Classical.byContradiction
    intro q9
    rw [if_neg q9] at H
    cases H
  rw [if_pos g151] at H
  obtain ⟨q152, hq152, H⟩ := Option.bind_eq_some_iff.mp H
  refine J.kk (Nat.zero_add _) (Nat.zero_add _) ?_
  refine J_callV (kc := kc) (ks := ks) (kc' := 0) (ks' := 0) (a := x2) (ci := 12) (as := []) (st := []) (mf_Ref_forget hw) (mv_Law_170 hw) d_Law_law_1284 ln_Ref_forget (by decide) (by first | exact Nat.le_of_ble_eq_true rfl | (simp only [List.map_cons, List.map_nil, List.sum_cons, List.sum_nil, va_rf_cat]; exact Nat.le_of_ble_eq_true rfl)) rfl ((hG _).1 _ g151 (by decide)).1 ((hG _).1 _ g151 (by decide)).2 (by unfold pic; rw [g151]; rfl) (jcl_at hw rfl) rfl (p_Ref_forget hw hG hq152) ?_ (fun E h' n' x' e1 => by cases e1.1)
  intro v9 h9 n9 x9 e9
  obtain ⟨e91, e92, e93⟩ := e9
  cases e91
  subst e92
  subst e93
  clear x
  rename Bool => x
  show J _ _ _ _ (_ :: _) _ _ _ _ _ _
  refine J_istore d_Law_law_1287 (Nat.le_of_ble_eq_true rfl) ?_
  refine J.ls (ls' := [some (.ref (jw_b w)), some (.ref x1), some (.ref x2), some (.ref x3), some (.int x4), some (.int q150.1), some (.int q152.1), none]) rfl ?_
  refine J_aload_n d_Law_law_1289 rfl ?_
  obtain ⟨q153, hq153, H⟩ := Option.bind_eq_some_iff.mp H
  refine J.kk (Nat.zero_add _) (Nat.zero_add _) ?_
  refine J_callV (kc := kc) (ks := ks) (kc' := 0) (ks' := 0) (a := x2) (ci := 12) (as := []) (st := []) (mf_Ref_thrown hw) (mv_Law_118 hw) d_Law_law_1290 ln_Ref_thrown (by decide) (by first | exact Nat.le_of_ble_eq_true rfl | (simp only [List.map_cons, List.map_nil, List.sum_cons, List.sum_nil, va_rf_cat]; exact Nat.le_of_ble_eq_true rfl)) rfl ((hG _).1 _ g151 (by decide)).1 ((hG _).1 _ g151 (by decide)).2 (by unfold pic; rw [g151]; rfl) (jcl_at hw rfl) rfl (p_Ref_thrown hw hG hq153) ?_ (fun E h' n' x' e1 => by cases e1.1)
  intro v9 h9 n9 x9 e9
  obtain ⟨e91, e92, e93⟩ := e9
  cases e91
  subst e92
  subst e93
  clear x
  rename Bool => x
  show J _ _ _ _ (_ :: _) _ _ _ _ _ _
  refine J_iload d_Law_law_1293 rfl ?_
  refine J_icmp_eq (tgt := 1300) d_Law_law_1295 (by decide) ?_ ?_
  · intro c160
    rw [if_pos c160] at H
    refine J_iload d_Law_law_1300 rfl ?_
    refine J_if_ne (tgt := 1317) d_Law_law_1302 (by decide) ?_ ?_
    · intro c158
      rw [if_neg c158] at H
      refine J.drop [true, true, true, true, true, false, false, false] rfl ?_
      exact p_Law_law_L1317 hw hG hL hxs (kc := kc) (ks := ks) hKc53 H
    · intro c158
      rw [if_pos c158] at H
      refine J_aload_n d_Law_law_1305 rfl ?_
      refine J_iconst (v := 0) d_Law_law_1306 (by decide) ?_
      obtain ⟨N154, hN154, H⟩ := Option.bind_eq_some_iff.mp H
      obtain ⟨k155, hk155, H⟩ := Option.bind_eq_some_iff.mp H
      refine F_lald k155 hw hG d_Law_law_1307 (gA_some hN154) (ix_some hk155) ?_
      refine J_iload d_Law_law_1308 rfl ?_
      refine J_i2l d_Law_law_1310 ?_
      refine J_lcmp d_Law_law_1311 ?_
      refine J_if_eq (tgt := 1317) d_Law_law_1312 (by decide) ?_ ?_
      · intro c157
        rw [if_pos c157] at H
        refine J.drop [true, true, true, true, true, false, false, false] rfl ?_
        exact p_Law_law_L1317 hw hG hL hxs (kc := kc) (ks := ks) hKc53 H
      · intro c157
        rw [if_neg c157] at H
        refine J_iconst (v := 0) d_Law_law_1315 (by decide) ?_
        have z156 : (0 : Int32) = 0 ∨ (0 : Int32) = 1 := by
          apply Classical.byContradiction
          intro q9
          rw [if_neg q9] at H
          cases H
        rw [if_pos z156] at H
        have H := Option.some.inj H
        subst H
        exact J_iret (st := []) d_Law_law_1316 rfl (narrow_z z156).1 ⟨rfl, rfl, rfl⟩
  · intro c160
    rw [if_neg c160] at H
    refine J_iconst (v := 0) d_Law_law_1298 (by decide) ?_
    have z159 : (0 : Int32) = 0 ∨ (0 : Int32) = 1 := by
      apply Classical.byContradiction
      intro q9
      rw [if_neg q9] at H
      cases H
    rw [if_pos z159] at H
    have H := Option.some.inj H
    subst H
    exact J_iret (st := []) d_Law_law_1299 rfl (narrow_z z159).1 ⟨rfl, rfl, rfl⟩
def f_Law_law_L1273 (Γ : gm_T) (L : Nat) (xs : Nat → Int32) (Kc53 : ph_T → Nat → Nat → Nat → Int32 → Option (Int32 × ph_T)) (φ : ph_T) (x1 : Nat) (x2 : Nat) (x3 : Nat) (x4 : Int32) : Option (Int32 × ph_T) :=
  f_Law_law_L2021 Γ L xs Kc53 φ x1 x2 x3 x4
set_option maxRecDepth 100000 in
set_option maxHeartbeats 8000000 in
theorem p_Law_law_L1273 {w : jw_T} (hw : jok w) {Γ : gm_T} {n : Nat} (hG : gd w Γ n) {L : Nat} {xs : Nat → Int32} (hL : jw_L w = L) (hxs : jw_xs w = xs) {Kc53 : ph_T → Nat → Nat → Nat → Int32 → Option (Int32 × ph_T)} {kc ks : Nat} (hKc53 : ∀ {x : Bool} {φ : ph_T} {x1 : Nat} {x2 : Nat} {x3 : Nat} {x4 : Int32} {q : Int32 × ph_T}, Kc53 φ x1 x2 x3 x4 = some q → J w M_Law_law 53 [some (.ref (jw_b w)), some (.ref x1), some (.ref x2), some (.ref x3), some (.int x4), none, none, none] [] (pic Γ φ) n x kc ks (fq Γ n (.inl (some (.int q.1))) q.2)) {x : Bool} {φ : ph_T} {x1 : Nat} {x2 : Nat} {x3 : Nat} {x4 : Int32} {q : Int32 × ph_T} (H : f_Law_law_L1273 Γ L xs Kc53 φ x1 x2 x3 x4 = some q) : J w M_Law_law 1273 [some (.ref (jw_b w)), some (.ref x1), some (.ref x2), some (.ref x3), some (.int x4), none, none, none] [] (pic Γ φ) n x kc ks (fq Γ n (.inl (some (.int q.1))) q.2) := by
  unfold f_Law_law_L1273 at H
  refine J_goto (tgt := 2021) d_Law_law_1273 (by decide) ?_
  refine J.drop [true, true, true, true, true, false, false, false] rfl ?_
  exact p_Law_law_L2021 hw hG hL hxs (kc := kc) (ks := ks) hKc53 H
def f_Law_law_L1209 (Γ : gm_T) (L : Nat) (xs : Nat → Int32) (Kc53 : ph_T → Nat → Nat → Nat → Int32 → Option (Int32 × ph_T)) (φ : ph_T) (x1 : Nat) (x2 : Nat) (x3 : Nat) (x4 : Int32) : Option (Int32 × ph_T) :=
  Option.bind (ix (x4 + (1 : Int32)) L) fun k161 =>
  Option.bind (ix (x4 + (2 : Int32)) L) fun k162 =>
  Option.bind (f_Law_data Γ φ (some x1) (xs k161) (xs k162) (some x3)) fun q163 =>
  Option.bind (ix (x4 + (1 : Int32)) L) fun k164 =>
  Option.bind (ix (x4 + (2 : Int32)) L) fun k165 =>
  @ite _ (Γ x2 = .inr 12) _ (
  Option.bind (f_Ref_data Γ q163.2 x2 (xs k164) (xs k165)) fun q167 =>
  Option.bind (f_Ref_thrown Γ q167.2 x2) fun q168 =>
  if q168.1 = q163.1 then
    if q163.1 = 0 then
      Option.bind (gA Γ x3 1) fun N169 =>
      Option.bind (ix (0 : Int32) N169) fun k170 =>
      if (lg_cmp (q168.2.2.1 x3 k170) q167.1) = 0 then
        f_Law_law_L1273 Γ L xs Kc53 q168.2 x1 x2 x3 x4
      else
        @ite _ ((0 : Int32) = 0 ∨ (0 : Int32) = 1) _ (
        some ((0 : Int32), q168.2)
        ) none
    else
      f_Law_law_L1273 Γ L xs Kc53 q168.2 x1 x2 x3 x4
  else
    @ite _ ((0 : Int32) = 0 ∨ (0 : Int32) = 1) _ (
    some ((0 : Int32), q168.2)
    ) none
  ) none
set_option maxRecDepth 100000 in
set_option maxHeartbeats 8000000 in
theorem p_Law_law_L1209 {w : jw_T} (hw : jok w) {Γ : gm_T} {n : Nat} (hG : gd w Γ n) {L : Nat} {xs : Nat → Int32} (hL : jw_L w = L) (hxs : jw_xs w = xs) {Kc53 : ph_T → Nat → Nat → Nat → Int32 → Option (Int32 × ph_T)} {kc ks : Nat} (hKc53 : ∀ {x : Bool} {φ : ph_T} {x1 : Nat} {x2 : Nat} {x3 : Nat} {x4 : Int32} {q : Int32 × ph_T}, Kc53 φ x1 x2 x3 x4 = some q → J w M_Law_law 53 [some (.ref (jw_b w)), some (.ref x1), some (.ref x2), some (.ref x3), some (.int x4), none, none, none] [] (pic Γ φ) n x kc ks (fq Γ n (.inl (some (.int q.1))) q.2)) {x : Bool} {φ : ph_T} {x1 : Nat} {x2 : Nat} {x3 : Nat} {x4 : Int32} {q : Int32 × ph_T} (H : f_Law_law_L1209 Γ L xs Kc53 φ x1 x2 x3 x4 = some q) : J w M_Law_law 1209 [some (.ref (jw_b w)), some (.ref x1), some (.ref x2), some (.ref x3), some (.int x4), none, none, none] [] (pic Γ φ) n x (kc + 1) (ks + 6) (fq Γ n (.inl (some (.int q.1))) q.2) := by
  unfold f_Law_law_L1209 at H
  refine J_aload_n d_Law_law_1209 rfl ?_
  refine J_aload_n d_Law_law_1210 rfl ?_
  refine J_iload d_Law_law_1211 rfl ?_
  refine J_iconst (v := 1) d_Law_law_1213 (by decide) ?_
  refine J_iadd d_Law_law_1214 ?_
  obtain ⟨k161, hk161, H⟩ := Option.bind_eq_some_iff.mp H
  refine J_sldx hL hxs k161 d_Law_law_1215 (ix_some hk161) ?_
  refine J_aload_n d_Law_law_1216 rfl ?_
  refine J_iload d_Law_law_1217 rfl ?_
  refine J_iconst (v := 2) d_Law_law_1219 (by decide) ?_
  refine J_iadd d_Law_law_1220 ?_
  obtain ⟨k162, hk162, H⟩ := Option.bind_eq_some_iff.mp H
  refine J_sldx hL hxs k162 d_Law_law_1221 (ix_some hk162) ?_
  refine J_aload_n d_Law_law_1222 rfl ?_
  obtain ⟨q163, hq163, H⟩ := Option.bind_eq_some_iff.mp H
  refine J.kk (Nat.add_comm _ _) (Nat.add_comm _ _) ?_
  refine J_callS (kc := kc) (ks := ks) (kc' := 1) (ks' := 6) (as := [.ref x1, .int (xs k161), .int (xs k162), .ref x3]) (st := []) (mf_Law_data hw) (ms_Law_164 hw) d_Law_law_1223 ln_Law_data (by decide) (by first | exact Nat.le_of_ble_eq_true rfl | (simp only [List.map_cons, List.map_nil, List.sum_cons, List.sum_nil, va_rf_cat]; exact Nat.le_of_ble_eq_true rfl)) rfl (p_Law_data hw hG hq163) ?_ (fun E h' n' x' e1 => by cases e1.1)
  intro v9 h9 n9 x9 e9
  obtain ⟨e91, e92, e93⟩ := e9
  cases e91
  subst e92
  subst e93
  clear x
  rename Bool => x
  show J _ _ _ _ (_ :: _) _ _ _ _ _ _
  refine J_istore d_Law_law_1226 (Nat.le_of_ble_eq_true rfl) ?_
  refine J.ls (ls' := [some (.ref (jw_b w)), some (.ref x1), some (.ref x2), some (.ref x3), some (.int x4), some (.int q163.1), none, none]) rfl ?_
  refine J_aload_n d_Law_law_1228 rfl ?_
  refine J_aload_n d_Law_law_1229 rfl ?_
  refine J_iload d_Law_law_1230 rfl ?_
  refine J_iconst (v := 1) d_Law_law_1232 (by decide) ?_
  refine J_iadd d_Law_law_1233 ?_
  obtain ⟨k164, hk164, H⟩ := Option.bind_eq_some_iff.mp H
  refine J_sldx hL hxs k164 d_Law_law_1234 (ix_some hk164) ?_
  refine J_aload_n d_Law_law_1235 rfl ?_
  refine J_iload d_Law_law_1236 rfl ?_
  refine J_iconst (v := 2) d_Law_law_1238 (by decide) ?_
  refine J_iadd d_Law_law_1239 ?_
  obtain ⟨k165, hk165, H⟩ := Option.bind_eq_some_iff.mp H
  refine J_sldx hL hxs k165 d_Law_law_1240 (ix_some hk165) ?_
  have g166 : Γ x2 = .inr 12 := by
    apply Classical.byContradiction
    intro q9
    rw [if_neg q9] at H
    cases H
  rw [if_pos g166] at H
  obtain ⟨q167, hq167, H⟩ := Option.bind_eq_some_iff.mp H
  refine J.kk (Nat.zero_add _) (Nat.zero_add _) ?_
  refine J_callV (kc := kc) (ks := ks) (kc' := 0) (ks' := 0) (a := x2) (ci := 12) (as := [.int (xs k164), .int (xs k165)]) (st := []) (mf_Ref_data hw) (mv_Law_166 hw) d_Law_law_1241 ln_Ref_data (by decide) (by first | exact Nat.le_of_ble_eq_true rfl | (simp only [List.map_cons, List.map_nil, List.sum_cons, List.sum_nil, va_rf_cat]; exact Nat.le_of_ble_eq_true rfl)) rfl ((hG _).1 _ g166 (by decide)).1 ((hG _).1 _ g166 (by decide)).2 (by unfold pic; rw [g166]; rfl) (jcl_at hw rfl) rfl (p_Ref_data hw hG hq167) ?_ (fun E h' n' x' e1 => by cases e1.1)
  intro v9 h9 n9 x9 e9
  obtain ⟨e91, e92, e93⟩ := e9
  cases e91
  subst e92
  subst e93
  clear x
  rename Bool => x
  show J _ _ _ _ (_ :: _) _ _ _ _ _ _
  refine J_lstore d_Law_law_1244 (Nat.le_of_ble_eq_true rfl) ?_
  refine J.ls (ls' := [some (.ref (jw_b w)), some (.ref x1), some (.ref x2), some (.ref x3), some (.int x4), some (.int q163.1), some (.long q167.1), none]) rfl ?_
  refine J_aload_n d_Law_law_1246 rfl ?_
  obtain ⟨q168, hq168, H⟩ := Option.bind_eq_some_iff.mp H
  refine J.kk (Nat.zero_add _) (Nat.zero_add _) ?_
  refine J_callV (kc := kc) (ks := ks) (kc' := 0) (ks' := 0) (a := x2) (ci := 12) (as := []) (st := []) (mf_Ref_thrown hw) (mv_Law_118 hw) d_Law_law_1247 ln_Ref_thrown (by decide) (by first | exact Nat.le_of_ble_eq_true rfl | (simp only [List.map_cons, List.map_nil, List.sum_cons, List.sum_nil, va_rf_cat]; exact Nat.le_of_ble_eq_true rfl)) rfl ((hG _).1 _ g166 (by decide)).1 ((hG _).1 _ g166 (by decide)).2 (by unfold pic; rw [g166]; rfl) (jcl_at hw rfl) rfl (p_Ref_thrown hw hG hq168) ?_ (fun E h' n' x' e1 => by cases e1.1)
  intro v9 h9 n9 x9 e9
  obtain ⟨e91, e92, e93⟩ := e9
  cases e91
  subst e92
  subst e93
  clear x
  rename Bool => x
  show J _ _ _ _ (_ :: _) _ _ _ _ _ _
  refine J_iload d_Law_law_1250 rfl ?_
  refine J_icmp_eq (tgt := 1257) d_Law_law_1252 (by decide) ?_ ?_
  · intro c175
    rw [if_pos c175] at H
    refine J_iload d_Law_law_1257 rfl ?_
    refine J_if_ne (tgt := 1273) d_Law_law_1259 (by decide) ?_ ?_
    · intro c173
      rw [if_neg c173] at H
      refine J.drop [true, true, true, true, true, false, false, false] rfl ?_
      exact p_Law_law_L1273 hw hG hL hxs (kc := kc) (ks := ks) hKc53 H
    · intro c173
      rw [if_pos c173] at H
      refine J_aload_n d_Law_law_1262 rfl ?_
      refine J_iconst (v := 0) d_Law_law_1263 (by decide) ?_
      obtain ⟨N169, hN169, H⟩ := Option.bind_eq_some_iff.mp H
      obtain ⟨k170, hk170, H⟩ := Option.bind_eq_some_iff.mp H
      refine F_lald k170 hw hG d_Law_law_1264 (gA_some hN169) (ix_some hk170) ?_
      refine J_lload d_Law_law_1265 rfl ?_
      refine J_lcmp d_Law_law_1267 ?_
      refine J_if_eq (tgt := 1273) d_Law_law_1268 (by decide) ?_ ?_
      · intro c172
        rw [if_pos c172] at H
        refine J.drop [true, true, true, true, true, false, false, false] rfl ?_
        exact p_Law_law_L1273 hw hG hL hxs (kc := kc) (ks := ks) hKc53 H
      · intro c172
        rw [if_neg c172] at H
        refine J_iconst (v := 0) d_Law_law_1271 (by decide) ?_
        have z171 : (0 : Int32) = 0 ∨ (0 : Int32) = 1 := by
          apply Classical.byContradiction
          intro q9
          rw [if_neg q9] at H
          cases H
        rw [if_pos z171] at H
        have H := Option.some.inj H
        subst H
        exact J_iret (st := []) d_Law_law_1272 rfl (narrow_z z171).1 ⟨rfl, rfl, rfl⟩
  · intro c175
    rw [if_neg c175] at H
    refine J_iconst (v := 0) d_Law_law_1255 (by decide) ?_
    have z174 : (0 : Int32) = 0 ∨ (0 : Int32) = 1 := by
      apply Classical.byContradiction
      intro q9
      rw [if_neg q9] at H
      cases H
    rw [if_pos z174] at H
    have H := Option.some.inj H
    subst H
    exact J_iret (st := []) d_Law_law_1256 rfl (narrow_z z174).1 ⟨rfl, rfl, rfl⟩
def f_Law_law_L1206 (Γ : gm_T) (L : Nat) (xs : Nat → Int32) (Kc53 : ph_T → Nat → Nat → Nat → Int32 → Option (Int32 × ph_T)) (φ : ph_T) (x1 : Nat) (x2 : Nat) (x3 : Nat) (x4 : Int32) : Option (Int32 × ph_T) :=
  f_Law_law_L2021 Γ L xs Kc53 φ x1 x2 x3 x4
set_option maxRecDepth 100000 in
set_option maxHeartbeats 8000000 in
theorem p_Law_law_L1206 {w : jw_T} (hw : jok w) {Γ : gm_T} {n : Nat} (hG : gd w Γ n) {L : Nat} {xs : Nat → Int32} (hL : jw_L w = L) (hxs : jw_xs w = xs) {Kc53 : ph_T → Nat → Nat → Nat → Int32 → Option (Int32 × ph_T)} {kc ks : Nat} (hKc53 : ∀ {x : Bool} {φ : ph_T} {x1 : Nat} {x2 : Nat} {x3 : Nat} {x4 : Int32} {q : Int32 × ph_T}, Kc53 φ x1 x2 x3 x4 = some q → J w M_Law_law 53 [some (.ref (jw_b w)), some (.ref x1), some (.ref x2), some (.ref x3), some (.int x4), none, none, none] [] (pic Γ φ) n x kc ks (fq Γ n (.inl (some (.int q.1))) q.2)) {x : Bool} {φ : ph_T} {x1 : Nat} {x2 : Nat} {x3 : Nat} {x4 : Int32} {q : Int32 × ph_T} (H : f_Law_law_L1206 Γ L xs Kc53 φ x1 x2 x3 x4 = some q) : J w M_Law_law 1206 [some (.ref (jw_b w)), some (.ref x1), some (.ref x2), some (.ref x3), some (.int x4), none, none, none] [] (pic Γ φ) n x kc ks (fq Γ n (.inl (some (.int q.1))) q.2) := by
  unfold f_Law_law_L1206 at H
  refine J_goto (tgt := 2021) d_Law_law_1206 (by decide) ?_
  refine J.drop [true, true, true, true, true, false, false, false] rfl ?_
  exact p_Law_law_L2021 hw hG hL hxs (kc := kc) (ks := ks) hKc53 H
def f_Law_law_L1141 (Γ : gm_T) (L : Nat) (xs : Nat → Int32) (Kc53 : ph_T → Nat → Nat → Nat → Int32 → Option (Int32 × ph_T)) (φ : ph_T) (x1 : Nat) (x2 : Nat) (x3 : Nat) (x4 : Int32) : Option (Int32 × ph_T) :=
  Option.bind (ix (x4 + (1 : Int32)) L) fun k176 =>
  Option.bind (ix (x4 + (2 : Int32)) L) fun k177 =>
  Option.bind (f_Law_ticket Γ φ (some x1) (xs k176) (xs k177) (some x3)) fun q178 =>
  Option.bind (ix (x4 + (1 : Int32)) L) fun k179 =>
  Option.bind (ix (x4 + (2 : Int32)) L) fun k180 =>
  @ite _ (Γ x2 = .inr 12) _ (
  Option.bind (f_Ref_ticket Γ q178.2 x2 (xs k179) (xs k180)) fun q182 =>
  Option.bind (f_Ref_thrown Γ q182.2 x2) fun q183 =>
  if q183.1 = q178.1 then
    if q178.1 = 0 then
      Option.bind (gA Γ x3 1) fun N184 =>
      Option.bind (ix (0 : Int32) N184) fun k185 =>
      if (lg_cmp (q183.2.2.1 x3 k185) (Int32.toInt64 q182.1)) = 0 then
        f_Law_law_L1206 Γ L xs Kc53 q183.2 x1 x2 x3 x4
      else
        @ite _ ((0 : Int32) = 0 ∨ (0 : Int32) = 1) _ (
        some ((0 : Int32), q183.2)
        ) none
    else
      f_Law_law_L1206 Γ L xs Kc53 q183.2 x1 x2 x3 x4
  else
    @ite _ ((0 : Int32) = 0 ∨ (0 : Int32) = 1) _ (
    some ((0 : Int32), q183.2)
    ) none
  ) none
set_option maxRecDepth 100000 in
set_option maxHeartbeats 8000000 in
theorem p_Law_law_L1141 {w : jw_T} (hw : jok w) {Γ : gm_T} {n : Nat} (hG : gd w Γ n) {L : Nat} {xs : Nat → Int32} (hL : jw_L w = L) (hxs : jw_xs w = xs) {Kc53 : ph_T → Nat → Nat → Nat → Int32 → Option (Int32 × ph_T)} {kc ks : Nat} (hKc53 : ∀ {x : Bool} {φ : ph_T} {x1 : Nat} {x2 : Nat} {x3 : Nat} {x4 : Int32} {q : Int32 × ph_T}, Kc53 φ x1 x2 x3 x4 = some q → J w M_Law_law 53 [some (.ref (jw_b w)), some (.ref x1), some (.ref x2), some (.ref x3), some (.int x4), none, none, none] [] (pic Γ φ) n x kc ks (fq Γ n (.inl (some (.int q.1))) q.2)) {x : Bool} {φ : ph_T} {x1 : Nat} {x2 : Nat} {x3 : Nat} {x4 : Int32} {q : Int32 × ph_T} (H : f_Law_law_L1141 Γ L xs Kc53 φ x1 x2 x3 x4 = some q) : J w M_Law_law 1141 [some (.ref (jw_b w)), some (.ref x1), some (.ref x2), some (.ref x3), some (.int x4), none, none, none] [] (pic Γ φ) n x (kc + 1) (ks + 6) (fq Γ n (.inl (some (.int q.1))) q.2) := by
  unfold f_Law_law_L1141 at H
  refine J_aload_n d_Law_law_1141 rfl ?_
  refine J_aload_n d_Law_law_1142 rfl ?_
  refine J_iload d_Law_law_1143 rfl ?_
  refine J_iconst (v := 1) d_Law_law_1145 (by decide) ?_
  refine J_iadd d_Law_law_1146 ?_
  obtain ⟨k176, hk176, H⟩ := Option.bind_eq_some_iff.mp H
  refine J_sldx hL hxs k176 d_Law_law_1147 (ix_some hk176) ?_
  refine J_aload_n d_Law_law_1148 rfl ?_
  refine J_iload d_Law_law_1149 rfl ?_
  refine J_iconst (v := 2) d_Law_law_1151 (by decide) ?_
  refine J_iadd d_Law_law_1152 ?_
  obtain ⟨k177, hk177, H⟩ := Option.bind_eq_some_iff.mp H
  refine J_sldx hL hxs k177 d_Law_law_1153 (ix_some hk177) ?_
  refine J_aload_n d_Law_law_1154 rfl ?_
  obtain ⟨q178, hq178, H⟩ := Option.bind_eq_some_iff.mp H
  refine J.kk (Nat.add_comm _ _) (Nat.add_comm _ _) ?_
  refine J_callS (kc := kc) (ks := ks) (kc' := 1) (ks' := 6) (as := [.ref x1, .int (xs k176), .int (xs k177), .ref x3]) (st := []) (mf_Law_ticket hw) (ms_Law_161 hw) d_Law_law_1155 ln_Law_ticket (by decide) (by first | exact Nat.le_of_ble_eq_true rfl | (simp only [List.map_cons, List.map_nil, List.sum_cons, List.sum_nil, va_rf_cat]; exact Nat.le_of_ble_eq_true rfl)) rfl (p_Law_ticket hw hG hq178) ?_ (fun E h' n' x' e1 => by cases e1.1)
  intro v9 h9 n9 x9 e9
  obtain ⟨e91, e92, e93⟩ := e9
  cases e91
  subst e92
  subst e93
  clear x
  rename Bool => x
  show J _ _ _ _ (_ :: _) _ _ _ _ _ _
  refine J_istore d_Law_law_1158 (Nat.le_of_ble_eq_true rfl) ?_
  refine J.ls (ls' := [some (.ref (jw_b w)), some (.ref x1), some (.ref x2), some (.ref x3), some (.int x4), some (.int q178.1), none, none]) rfl ?_
  refine J_aload_n d_Law_law_1160 rfl ?_
  refine J_aload_n d_Law_law_1161 rfl ?_
  refine J_iload d_Law_law_1162 rfl ?_
  refine J_iconst (v := 1) d_Law_law_1164 (by decide) ?_
  refine J_iadd d_Law_law_1165 ?_
  obtain ⟨k179, hk179, H⟩ := Option.bind_eq_some_iff.mp H
  refine J_sldx hL hxs k179 d_Law_law_1166 (ix_some hk179) ?_
  refine J_aload_n d_Law_law_1167 rfl ?_
  refine J_iload d_Law_law_1168 rfl ?_
  refine J_iconst (v := 2) d_Law_law_1170 (by decide) ?_
  refine J_iadd d_Law_law_1171 ?_
  obtain ⟨k180, hk180, H⟩ := Option.bind_eq_some_iff.mp H
  refine J_sldx hL hxs k180 d_Law_law_1172 (ix_some hk180) ?_
  have g181 : Γ x2 = .inr 12 := by
    apply Classical.byContradiction
    intro q9
    rw [if_neg q9] at H
    cases H
  rw [if_pos g181] at H
  obtain ⟨q182, hq182, H⟩ := Option.bind_eq_some_iff.mp H
  refine J.kk (Nat.zero_add _) (Nat.zero_add _) ?_
  refine J_callV (kc := kc) (ks := ks) (kc' := 0) (ks' := 0) (a := x2) (ci := 12) (as := [.int (xs k179), .int (xs k180)]) (st := []) (mf_Ref_ticket hw) (mv_Law_163 hw) d_Law_law_1173 ln_Ref_ticket (by decide) (by first | exact Nat.le_of_ble_eq_true rfl | (simp only [List.map_cons, List.map_nil, List.sum_cons, List.sum_nil, va_rf_cat]; exact Nat.le_of_ble_eq_true rfl)) rfl ((hG _).1 _ g181 (by decide)).1 ((hG _).1 _ g181 (by decide)).2 (by unfold pic; rw [g181]; rfl) (jcl_at hw rfl) rfl (p_Ref_ticket hw hG hq182) ?_ (fun E h' n' x' e1 => by cases e1.1)
  intro v9 h9 n9 x9 e9
  obtain ⟨e91, e92, e93⟩ := e9
  cases e91
  subst e92
  subst e93
  clear x
  rename Bool => x
  show J _ _ _ _ (_ :: _) _ _ _ _ _ _
  refine J_istore d_Law_law_1176 (Nat.le_of_ble_eq_true rfl) ?_
  refine J.ls (ls' := [some (.ref (jw_b w)), some (.ref x1), some (.ref x2), some (.ref x3), some (.int x4), some (.int q178.1), some (.int q182.1), none]) rfl ?_
  refine J_aload_n d_Law_law_1178 rfl ?_
  obtain ⟨q183, hq183, H⟩ := Option.bind_eq_some_iff.mp H
  refine J.kk (Nat.zero_add _) (Nat.zero_add _) ?_
  refine J_callV (kc := kc) (ks := ks) (kc' := 0) (ks' := 0) (a := x2) (ci := 12) (as := []) (st := []) (mf_Ref_thrown hw) (mv_Law_118 hw) d_Law_law_1179 ln_Ref_thrown (by decide) (by first | exact Nat.le_of_ble_eq_true rfl | (simp only [List.map_cons, List.map_nil, List.sum_cons, List.sum_nil, va_rf_cat]; exact Nat.le_of_ble_eq_true rfl)) rfl ((hG _).1 _ g181 (by decide)).1 ((hG _).1 _ g181 (by decide)).2 (by unfold pic; rw [g181]; rfl) (jcl_at hw rfl) rfl (p_Ref_thrown hw hG hq183) ?_ (fun E h' n' x' e1 => by cases e1.1)
  intro v9 h9 n9 x9 e9
  obtain ⟨e91, e92, e93⟩ := e9
  cases e91
  subst e92
  subst e93
  clear x
  rename Bool => x
  show J _ _ _ _ (_ :: _) _ _ _ _ _ _
  refine J_iload d_Law_law_1182 rfl ?_
  refine J_icmp_eq (tgt := 1189) d_Law_law_1184 (by decide) ?_ ?_
  · intro c190
    rw [if_pos c190] at H
    refine J_iload d_Law_law_1189 rfl ?_
    refine J_if_ne (tgt := 1206) d_Law_law_1191 (by decide) ?_ ?_
    · intro c188
      rw [if_neg c188] at H
      refine J.drop [true, true, true, true, true, false, false, false] rfl ?_
      exact p_Law_law_L1206 hw hG hL hxs (kc := kc) (ks := ks) hKc53 H
    · intro c188
      rw [if_pos c188] at H
      refine J_aload_n d_Law_law_1194 rfl ?_
      refine J_iconst (v := 0) d_Law_law_1195 (by decide) ?_
      obtain ⟨N184, hN184, H⟩ := Option.bind_eq_some_iff.mp H
      obtain ⟨k185, hk185, H⟩ := Option.bind_eq_some_iff.mp H
      refine F_lald k185 hw hG d_Law_law_1196 (gA_some hN184) (ix_some hk185) ?_
      refine J_iload d_Law_law_1197 rfl ?_
      refine J_i2l d_Law_law_1199 ?_
      refine J_lcmp d_Law_law_1200 ?_
      refine J_if_eq (tgt := 1206) d_Law_law_1201 (by decide) ?_ ?_
      · intro c187
        rw [if_pos c187] at H
        refine J.drop [true, true, true, true, true, false, false, false] rfl ?_
        exact p_Law_law_L1206 hw hG hL hxs (kc := kc) (ks := ks) hKc53 H
      · intro c187
        rw [if_neg c187] at H
        refine J_iconst (v := 0) d_Law_law_1204 (by decide) ?_
        have z186 : (0 : Int32) = 0 ∨ (0 : Int32) = 1 := by
          apply Classical.byContradiction
          intro q9
          rw [if_neg q9] at H
          cases H
        rw [if_pos z186] at H
        have H := Option.some.inj H
        subst H
        exact J_iret (st := []) d_Law_law_1205 rfl (narrow_z z186).1 ⟨rfl, rfl, rfl⟩
  · intro c190
    rw [if_neg c190] at H
    refine J_iconst (v := 0) d_Law_law_1187 (by decide) ?_
    have z189 : (0 : Int32) = 0 ∨ (0 : Int32) = 1 := by
      apply Classical.byContradiction
      intro q9
      rw [if_neg q9] at H
      cases H
    rw [if_pos z189] at H
    have H := Option.some.inj H
    subst H
    exact J_iret (st := []) d_Law_law_1188 rfl (narrow_z z189).1 ⟨rfl, rfl, rfl⟩
def f_Law_law_L1138 (Γ : gm_T) (L : Nat) (xs : Nat → Int32) (Kc53 : ph_T → Nat → Nat → Nat → Int32 → Option (Int32 × ph_T)) (φ : ph_T) (x1 : Nat) (x2 : Nat) (x3 : Nat) (x4 : Int32) : Option (Int32 × ph_T) :=
  f_Law_law_L2021 Γ L xs Kc53 φ x1 x2 x3 x4
set_option maxRecDepth 100000 in
set_option maxHeartbeats 8000000 in
theorem p_Law_law_L1138 {w : jw_T} (hw : jok w) {Γ : gm_T} {n : Nat} (hG : gd w Γ n) {L : Nat} {xs : Nat → Int32} (hL : jw_L w = L) (hxs : jw_xs w = xs) {Kc53 : ph_T → Nat → Nat → Nat → Int32 → Option (Int32 × ph_T)} {kc ks : Nat} (hKc53 : ∀ {x : Bool} {φ : ph_T} {x1 : Nat} {x2 : Nat} {x3 : Nat} {x4 : Int32} {q : Int32 × ph_T}, Kc53 φ x1 x2 x3 x4 = some q → J w M_Law_law 53 [some (.ref (jw_b w)), some (.ref x1), some (.ref x2), some (.ref x3), some (.int x4), none, none, none] [] (pic Γ φ) n x kc ks (fq Γ n (.inl (some (.int q.1))) q.2)) {x : Bool} {φ : ph_T} {x1 : Nat} {x2 : Nat} {x3 : Nat} {x4 : Int32} {q : Int32 × ph_T} (H : f_Law_law_L1138 Γ L xs Kc53 φ x1 x2 x3 x4 = some q) : J w M_Law_law 1138 [some (.ref (jw_b w)), some (.ref x1), some (.ref x2), some (.ref x3), some (.int x4), none, none, none] [] (pic Γ φ) n x kc ks (fq Γ n (.inl (some (.int q.1))) q.2) := by
  unfold f_Law_law_L1138 at H
  refine J_goto (tgt := 2021) d_Law_law_1138 (by decide) ?_
  refine J.drop [true, true, true, true, true, false, false, false] rfl ?_
  exact p_Law_law_L2021 hw hG hL hxs (kc := kc) (ks := ks) hKc53 H
def f_Law_law_L1085 (Γ : gm_T) (L : Nat) (xs : Nat → Int32) (Kc53 : ph_T → Nat → Nat → Nat → Int32 → Option (Int32 × ph_T)) (φ : ph_T) (x1 : Nat) (x2 : Nat) (x3 : Nat) (x4 : Int32) : Option (Int32 × ph_T) :=
  Option.bind (ix (x4 + (1 : Int32)) L) fun k191 =>
  Option.bind (f_Law_drain Γ φ (some x1) (xs k191) (some x3)) fun q192 =>
  Option.bind (ix (x4 + (1 : Int32)) L) fun k193 =>
  @ite _ (Γ x2 = .inr 12) _ (
  Option.bind (f_Ref_drain Γ q192.2 x2 (xs k193)) fun q195 =>
  Option.bind (f_Ref_thrown Γ q195.2 x2) fun q196 =>
  if q196.1 = q192.1 then
    if q192.1 = 0 then
      Option.bind (gA Γ x3 1) fun N197 =>
      Option.bind (ix (0 : Int32) N197) fun k198 =>
      if (lg_cmp (q196.2.2.1 x3 k198) (Int32.toInt64 q195.1)) = 0 then
        f_Law_law_L1138 Γ L xs Kc53 q196.2 x1 x2 x3 x4
      else
        @ite _ ((0 : Int32) = 0 ∨ (0 : Int32) = 1) _ (
        some ((0 : Int32), q196.2)
        ) none
    else
      f_Law_law_L1138 Γ L xs Kc53 q196.2 x1 x2 x3 x4
  else
    @ite _ ((0 : Int32) = 0 ∨ (0 : Int32) = 1) _ (
    some ((0 : Int32), q196.2)
    ) none
  ) none
set_option maxRecDepth 100000 in
set_option maxHeartbeats 8000000 in
theorem p_Law_law_L1085 {w : jw_T} (hw : jok w) {Γ : gm_T} {n : Nat} (hG : gd w Γ n) {L : Nat} {xs : Nat → Int32} (hL : jw_L w = L) (hxs : jw_xs w = xs) {Kc53 : ph_T → Nat → Nat → Nat → Int32 → Option (Int32 × ph_T)} {kc ks : Nat} (hKc53 : ∀ {x : Bool} {φ : ph_T} {x1 : Nat} {x2 : Nat} {x3 : Nat} {x4 : Int32} {q : Int32 × ph_T}, Kc53 φ x1 x2 x3 x4 = some q → J w M_Law_law 53 [some (.ref (jw_b w)), some (.ref x1), some (.ref x2), some (.ref x3), some (.int x4), none, none, none] [] (pic Γ φ) n x kc ks (fq Γ n (.inl (some (.int q.1))) q.2)) {x : Bool} {φ : ph_T} {x1 : Nat} {x2 : Nat} {x3 : Nat} {x4 : Int32} {q : Int32 × ph_T} (H : f_Law_law_L1085 Γ L xs Kc53 φ x1 x2 x3 x4 = some q) : J w M_Law_law 1085 [some (.ref (jw_b w)), some (.ref x1), some (.ref x2), some (.ref x3), some (.int x4), none, none, none] [] (pic Γ φ) n x (kc + 1) (ks + 6) (fq Γ n (.inl (some (.int q.1))) q.2) := by
  unfold f_Law_law_L1085 at H
  refine J_aload_n d_Law_law_1085 rfl ?_
  refine J_aload_n d_Law_law_1086 rfl ?_
  refine J_iload d_Law_law_1087 rfl ?_
  refine J_iconst (v := 1) d_Law_law_1089 (by decide) ?_
  refine J_iadd d_Law_law_1090 ?_
  obtain ⟨k191, hk191, H⟩ := Option.bind_eq_some_iff.mp H
  refine J_sldx hL hxs k191 d_Law_law_1091 (ix_some hk191) ?_
  refine J_aload_n d_Law_law_1092 rfl ?_
  obtain ⟨q192, hq192, H⟩ := Option.bind_eq_some_iff.mp H
  refine J.kk (Nat.add_comm _ _) (Nat.add_comm _ _) ?_
  refine J_callS (kc := kc) (ks := ks) (kc' := 1) (ks' := 6) (as := [.ref x1, .int (xs k191), .ref x3]) (st := []) (mf_Law_drain hw) (ms_Law_158 hw) d_Law_law_1093 ln_Law_drain (by decide) (by first | exact Nat.le_of_ble_eq_true rfl | (simp only [List.map_cons, List.map_nil, List.sum_cons, List.sum_nil, va_rf_cat]; exact Nat.le_of_ble_eq_true rfl)) rfl (p_Law_drain hw hG hq192) ?_ (fun E h' n' x' e1 => by cases e1.1)
  intro v9 h9 n9 x9 e9
  obtain ⟨e91, e92, e93⟩ := e9
  cases e91
  subst e92
  subst e93
  clear x
  rename Bool => x
  show J _ _ _ _ (_ :: _) _ _ _ _ _ _
  refine J_istore d_Law_law_1096 (Nat.le_of_ble_eq_true rfl) ?_
  refine J.ls (ls' := [some (.ref (jw_b w)), some (.ref x1), some (.ref x2), some (.ref x3), some (.int x4), some (.int q192.1), none, none]) rfl ?_
  refine J_aload_n d_Law_law_1098 rfl ?_
  refine J_aload_n d_Law_law_1099 rfl ?_
  refine J_iload d_Law_law_1100 rfl ?_
  refine J_iconst (v := 1) d_Law_law_1102 (by decide) ?_
  refine J_iadd d_Law_law_1103 ?_
  obtain ⟨k193, hk193, H⟩ := Option.bind_eq_some_iff.mp H
  refine J_sldx hL hxs k193 d_Law_law_1104 (ix_some hk193) ?_
  have g194 : Γ x2 = .inr 12 := by
    apply Classical.byContradiction
    intro q9
    rw [if_neg q9] at H
    cases H
  rw [if_pos g194] at H
  obtain ⟨q195, hq195, H⟩ := Option.bind_eq_some_iff.mp H
  refine J.kk (Nat.zero_add _) (Nat.zero_add _) ?_
  refine J_callV (kc := kc) (ks := ks) (kc' := 0) (ks' := 0) (a := x2) (ci := 12) (as := [.int (xs k193)]) (st := []) (mf_Ref_drain hw) (mv_Law_160 hw) d_Law_law_1105 ln_Ref_drain (by decide) (by first | exact Nat.le_of_ble_eq_true rfl | (simp only [List.map_cons, List.map_nil, List.sum_cons, List.sum_nil, va_rf_cat]; exact Nat.le_of_ble_eq_true rfl)) rfl ((hG _).1 _ g194 (by decide)).1 ((hG _).1 _ g194 (by decide)).2 (by unfold pic; rw [g194]; rfl) (jcl_at hw rfl) rfl (p_Ref_drain hw hG hq195) ?_ (fun E h' n' x' e1 => by cases e1.1)
  intro v9 h9 n9 x9 e9
  obtain ⟨e91, e92, e93⟩ := e9
  cases e91
  subst e92
  subst e93
  clear x
  rename Bool => x
  show J _ _ _ _ (_ :: _) _ _ _ _ _ _
  refine J_istore d_Law_law_1108 (Nat.le_of_ble_eq_true rfl) ?_
  refine J.ls (ls' := [some (.ref (jw_b w)), some (.ref x1), some (.ref x2), some (.ref x3), some (.int x4), some (.int q192.1), some (.int q195.1), none]) rfl ?_
  refine J_aload_n d_Law_law_1110 rfl ?_
  obtain ⟨q196, hq196, H⟩ := Option.bind_eq_some_iff.mp H
  refine J.kk (Nat.zero_add _) (Nat.zero_add _) ?_
  refine J_callV (kc := kc) (ks := ks) (kc' := 0) (ks' := 0) (a := x2) (ci := 12) (as := []) (st := []) (mf_Ref_thrown hw) (mv_Law_118 hw) d_Law_law_1111 ln_Ref_thrown (by decide) (by first | exact Nat.le_of_ble_eq_true rfl | (simp only [List.map_cons, List.map_nil, List.sum_cons, List.sum_nil, va_rf_cat]; exact Nat.le_of_ble_eq_true rfl)) rfl ((hG _).1 _ g194 (by decide)).1 ((hG _).1 _ g194 (by decide)).2 (by unfold pic; rw [g194]; rfl) (jcl_at hw rfl) rfl (p_Ref_thrown hw hG hq196) ?_ (fun E h' n' x' e1 => by cases e1.1)
  intro v9 h9 n9 x9 e9
  obtain ⟨e91, e92, e93⟩ := e9
  cases e91
  subst e92
  subst e93
  clear x
  rename Bool => x
  show J _ _ _ _ (_ :: _) _ _ _ _ _ _
  refine J_iload d_Law_law_1114 rfl ?_
  refine J_icmp_eq (tgt := 1121) d_Law_law_1116 (by decide) ?_ ?_
  · intro c203
    rw [if_pos c203] at H
    refine J_iload d_Law_law_1121 rfl ?_
    refine J_if_ne (tgt := 1138) d_Law_law_1123 (by decide) ?_ ?_
    · intro c201
      rw [if_neg c201] at H
      refine J.drop [true, true, true, true, true, false, false, false] rfl ?_
      exact p_Law_law_L1138 hw hG hL hxs (kc := kc) (ks := ks) hKc53 H
    · intro c201
      rw [if_pos c201] at H
      refine J_aload_n d_Law_law_1126 rfl ?_
      refine J_iconst (v := 0) d_Law_law_1127 (by decide) ?_
      obtain ⟨N197, hN197, H⟩ := Option.bind_eq_some_iff.mp H
      obtain ⟨k198, hk198, H⟩ := Option.bind_eq_some_iff.mp H
      refine F_lald k198 hw hG d_Law_law_1128 (gA_some hN197) (ix_some hk198) ?_
      refine J_iload d_Law_law_1129 rfl ?_
      refine J_i2l d_Law_law_1131 ?_
      refine J_lcmp d_Law_law_1132 ?_
      refine J_if_eq (tgt := 1138) d_Law_law_1133 (by decide) ?_ ?_
      · intro c200
        rw [if_pos c200] at H
        refine J.drop [true, true, true, true, true, false, false, false] rfl ?_
        exact p_Law_law_L1138 hw hG hL hxs (kc := kc) (ks := ks) hKc53 H
      · intro c200
        rw [if_neg c200] at H
        refine J_iconst (v := 0) d_Law_law_1136 (by decide) ?_
        have z199 : (0 : Int32) = 0 ∨ (0 : Int32) = 1 := by
          apply Classical.byContradiction
          intro q9
          rw [if_neg q9] at H
          cases H
        rw [if_pos z199] at H
        have H := Option.some.inj H
        subst H
        exact J_iret (st := []) d_Law_law_1137 rfl (narrow_z z199).1 ⟨rfl, rfl, rfl⟩
  · intro c203
    rw [if_neg c203] at H
    refine J_iconst (v := 0) d_Law_law_1119 (by decide) ?_
    have z202 : (0 : Int32) = 0 ∨ (0 : Int32) = 1 := by
      apply Classical.byContradiction
      intro q9
      rw [if_neg q9] at H
      cases H
    rw [if_pos z202] at H
    have H := Option.some.inj H
    subst H
    exact J_iret (st := []) d_Law_law_1120 rfl (narrow_z z202).1 ⟨rfl, rfl, rfl⟩
def f_Law_law_L1082 (Γ : gm_T) (L : Nat) (xs : Nat → Int32) (Kc53 : ph_T → Nat → Nat → Nat → Int32 → Option (Int32 × ph_T)) (φ : ph_T) (x1 : Nat) (x2 : Nat) (x3 : Nat) (x4 : Int32) : Option (Int32 × ph_T) :=
  f_Law_law_L2021 Γ L xs Kc53 φ x1 x2 x3 x4
set_option maxRecDepth 100000 in
set_option maxHeartbeats 8000000 in
theorem p_Law_law_L1082 {w : jw_T} (hw : jok w) {Γ : gm_T} {n : Nat} (hG : gd w Γ n) {L : Nat} {xs : Nat → Int32} (hL : jw_L w = L) (hxs : jw_xs w = xs) {Kc53 : ph_T → Nat → Nat → Nat → Int32 → Option (Int32 × ph_T)} {kc ks : Nat} (hKc53 : ∀ {x : Bool} {φ : ph_T} {x1 : Nat} {x2 : Nat} {x3 : Nat} {x4 : Int32} {q : Int32 × ph_T}, Kc53 φ x1 x2 x3 x4 = some q → J w M_Law_law 53 [some (.ref (jw_b w)), some (.ref x1), some (.ref x2), some (.ref x3), some (.int x4), none, none, none] [] (pic Γ φ) n x kc ks (fq Γ n (.inl (some (.int q.1))) q.2)) {x : Bool} {φ : ph_T} {x1 : Nat} {x2 : Nat} {x3 : Nat} {x4 : Int32} {q : Int32 × ph_T} (H : f_Law_law_L1082 Γ L xs Kc53 φ x1 x2 x3 x4 = some q) : J w M_Law_law 1082 [some (.ref (jw_b w)), some (.ref x1), some (.ref x2), some (.ref x3), some (.int x4), none, none, none] [] (pic Γ φ) n x kc ks (fq Γ n (.inl (some (.int q.1))) q.2) := by
  unfold f_Law_law_L1082 at H
  refine J_goto (tgt := 2021) d_Law_law_1082 (by decide) ?_
  refine J.drop [true, true, true, true, true, false, false, false] rfl ?_
  exact p_Law_law_L2021 hw hG hL hxs (kc := kc) (ks := ks) hKc53 H
def f_Law_law_L1029 (Γ : gm_T) (L : Nat) (xs : Nat → Int32) (Kc53 : ph_T → Nat → Nat → Nat → Int32 → Option (Int32 × ph_T)) (φ : ph_T) (x1 : Nat) (x2 : Nat) (x3 : Nat) (x4 : Int32) : Option (Int32 × ph_T) :=
  Option.bind (ix (x4 + (1 : Int32)) L) fun k204 =>
  Option.bind (f_Law_tick Γ φ (some x1) (xs k204) (some x3)) fun q205 =>
  Option.bind (ix (x4 + (1 : Int32)) L) fun k206 =>
  @ite _ (Γ x2 = .inr 12) _ (
  Option.bind (f_Ref_tick Γ q205.2 x2 (xs k206)) fun q208 =>
  Option.bind (f_Ref_thrown Γ q208.2 x2) fun q209 =>
  if q209.1 = q205.1 then
    if q205.1 = 0 then
      Option.bind (gA Γ x3 1) fun N210 =>
      Option.bind (ix (0 : Int32) N210) fun k211 =>
      if (lg_cmp (q209.2.2.1 x3 k211) (Int32.toInt64 q208.1)) = 0 then
        f_Law_law_L1082 Γ L xs Kc53 q209.2 x1 x2 x3 x4
      else
        @ite _ ((0 : Int32) = 0 ∨ (0 : Int32) = 1) _ (
        some ((0 : Int32), q209.2)
        ) none
    else
      f_Law_law_L1082 Γ L xs Kc53 q209.2 x1 x2 x3 x4
  else
    @ite _ ((0 : Int32) = 0 ∨ (0 : Int32) = 1) _ (
    some ((0 : Int32), q209.2)
    ) none
  ) none
set_option maxRecDepth 100000 in
set_option maxHeartbeats 8000000 in
theorem p_Law_law_L1029 {w : jw_T} (hw : jok w) {Γ : gm_T} {n : Nat} (hG : gd w Γ n) {L : Nat} {xs : Nat → Int32} (hL : jw_L w = L) (hxs : jw_xs w = xs) {Kc53 : ph_T → Nat → Nat → Nat → Int32 → Option (Int32 × ph_T)} {kc ks : Nat} (hKc53 : ∀ {x : Bool} {φ : ph_T} {x1 : Nat} {x2 : Nat} {x3 : Nat} {x4 : Int32} {q : Int32 × ph_T}, Kc53 φ x1 x2 x3 x4 = some q → J w M_Law_law 53 [some (.ref (jw_b w)), some (.ref x1), some (.ref x2), some (.ref x3), some (.int x4), none, none, none] [] (pic Γ φ) n x kc ks (fq Γ n (.inl (some (.int q.1))) q.2)) {x : Bool} {φ : ph_T} {x1 : Nat} {x2 : Nat} {x3 : Nat} {x4 : Int32} {q : Int32 × ph_T} (H : f_Law_law_L1029 Γ L xs Kc53 φ x1 x2 x3 x4 = some q) : J w M_Law_law 1029 [some (.ref (jw_b w)), some (.ref x1), some (.ref x2), some (.ref x3), some (.int x4), none, none, none] [] (pic Γ φ) n x (kc + 1) (ks + 6) (fq Γ n (.inl (some (.int q.1))) q.2) := by
  unfold f_Law_law_L1029 at H
  refine J_aload_n d_Law_law_1029 rfl ?_
  refine J_aload_n d_Law_law_1030 rfl ?_
  refine J_iload d_Law_law_1031 rfl ?_
  refine J_iconst (v := 1) d_Law_law_1033 (by decide) ?_
  refine J_iadd d_Law_law_1034 ?_
  obtain ⟨k204, hk204, H⟩ := Option.bind_eq_some_iff.mp H
  refine J_sldx hL hxs k204 d_Law_law_1035 (ix_some hk204) ?_
  refine J_aload_n d_Law_law_1036 rfl ?_
  obtain ⟨q205, hq205, H⟩ := Option.bind_eq_some_iff.mp H
  refine J.kk (Nat.add_comm _ _) (Nat.add_comm _ _) ?_
  refine J_callS (kc := kc) (ks := ks) (kc' := 1) (ks' := 6) (as := [.ref x1, .int (xs k204), .ref x3]) (st := []) (mf_Law_tick hw) (ms_Law_155 hw) d_Law_law_1037 ln_Law_tick (by decide) (by first | exact Nat.le_of_ble_eq_true rfl | (simp only [List.map_cons, List.map_nil, List.sum_cons, List.sum_nil, va_rf_cat]; exact Nat.le_of_ble_eq_true rfl)) rfl (p_Law_tick hw hG hq205) ?_ (fun E h' n' x' e1 => by cases e1.1)
  intro v9 h9 n9 x9 e9
  obtain ⟨e91, e92, e93⟩ := e9
  cases e91
  subst e92
  subst e93
  clear x
  rename Bool => x
  show J _ _ _ _ (_ :: _) _ _ _ _ _ _
  refine J_istore d_Law_law_1040 (Nat.le_of_ble_eq_true rfl) ?_
  refine J.ls (ls' := [some (.ref (jw_b w)), some (.ref x1), some (.ref x2), some (.ref x3), some (.int x4), some (.int q205.1), none, none]) rfl ?_
  refine J_aload_n d_Law_law_1042 rfl ?_
  refine J_aload_n d_Law_law_1043 rfl ?_
  refine J_iload d_Law_law_1044 rfl ?_
  refine J_iconst (v := 1) d_Law_law_1046 (by decide) ?_
  refine J_iadd d_Law_law_1047 ?_
  obtain ⟨k206, hk206, H⟩ := Option.bind_eq_some_iff.mp H
  refine J_sldx hL hxs k206 d_Law_law_1048 (ix_some hk206) ?_
  have g207 : Γ x2 = .inr 12 := by
    apply Classical.byContradiction
    intro q9
    rw [if_neg q9] at H
    cases H
  rw [if_pos g207] at H
  obtain ⟨q208, hq208, H⟩ := Option.bind_eq_some_iff.mp H
  refine J.kk (Nat.zero_add _) (Nat.zero_add _) ?_
  refine J_callV (kc := kc) (ks := ks) (kc' := 0) (ks' := 0) (a := x2) (ci := 12) (as := [.int (xs k206)]) (st := []) (mf_Ref_tick hw) (mv_Law_157 hw) d_Law_law_1049 ln_Ref_tick (by decide) (by first | exact Nat.le_of_ble_eq_true rfl | (simp only [List.map_cons, List.map_nil, List.sum_cons, List.sum_nil, va_rf_cat]; exact Nat.le_of_ble_eq_true rfl)) rfl ((hG _).1 _ g207 (by decide)).1 ((hG _).1 _ g207 (by decide)).2 (by unfold pic; rw [g207]; rfl) (jcl_at hw rfl) rfl (p_Ref_tick hw hG hq208) ?_ (fun E h' n' x' e1 => by cases e1.1)
  intro v9 h9 n9 x9 e9
  obtain ⟨e91, e92, e93⟩ := e9
  cases e91
  subst e92
  subst e93
  clear x
  rename Bool => x
  show J _ _ _ _ (_ :: _) _ _ _ _ _ _
  refine J_istore d_Law_law_1052 (Nat.le_of_ble_eq_true rfl) ?_
  refine J.ls (ls' := [some (.ref (jw_b w)), some (.ref x1), some (.ref x2), some (.ref x3), some (.int x4), some (.int q205.1), some (.int q208.1), none]) rfl ?_
  refine J_aload_n d_Law_law_1054 rfl ?_
  obtain ⟨q209, hq209, H⟩ := Option.bind_eq_some_iff.mp H
  refine J.kk (Nat.zero_add _) (Nat.zero_add _) ?_
  refine J_callV (kc := kc) (ks := ks) (kc' := 0) (ks' := 0) (a := x2) (ci := 12) (as := []) (st := []) (mf_Ref_thrown hw) (mv_Law_118 hw) d_Law_law_1055 ln_Ref_thrown (by decide) (by first | exact Nat.le_of_ble_eq_true rfl | (simp only [List.map_cons, List.map_nil, List.sum_cons, List.sum_nil, va_rf_cat]; exact Nat.le_of_ble_eq_true rfl)) rfl ((hG _).1 _ g207 (by decide)).1 ((hG _).1 _ g207 (by decide)).2 (by unfold pic; rw [g207]; rfl) (jcl_at hw rfl) rfl (p_Ref_thrown hw hG hq209) ?_ (fun E h' n' x' e1 => by cases e1.1)
  intro v9 h9 n9 x9 e9
  obtain ⟨e91, e92, e93⟩ := e9
  cases e91
  subst e92
  subst e93
  clear x
  rename Bool => x
  show J _ _ _ _ (_ :: _) _ _ _ _ _ _
  refine J_iload d_Law_law_1058 rfl ?_
  refine J_icmp_eq (tgt := 1065) d_Law_law_1060 (by decide) ?_ ?_
  · intro c216
    rw [if_pos c216] at H
    refine J_iload d_Law_law_1065 rfl ?_
    refine J_if_ne (tgt := 1082) d_Law_law_1067 (by decide) ?_ ?_
    · intro c214
      rw [if_neg c214] at H
      refine J.drop [true, true, true, true, true, false, false, false] rfl ?_
      exact p_Law_law_L1082 hw hG hL hxs (kc := kc) (ks := ks) hKc53 H
    · intro c214
      rw [if_pos c214] at H
      refine J_aload_n d_Law_law_1070 rfl ?_
      refine J_iconst (v := 0) d_Law_law_1071 (by decide) ?_
      obtain ⟨N210, hN210, H⟩ := Option.bind_eq_some_iff.mp H
      obtain ⟨k211, hk211, H⟩ := Option.bind_eq_some_iff.mp H
      refine F_lald k211 hw hG d_Law_law_1072 (gA_some hN210) (ix_some hk211) ?_
      refine J_iload d_Law_law_1073 rfl ?_
      refine J_i2l d_Law_law_1075 ?_
      refine J_lcmp d_Law_law_1076 ?_
      refine J_if_eq (tgt := 1082) d_Law_law_1077 (by decide) ?_ ?_
      · intro c213
        rw [if_pos c213] at H
        refine J.drop [true, true, true, true, true, false, false, false] rfl ?_
        exact p_Law_law_L1082 hw hG hL hxs (kc := kc) (ks := ks) hKc53 H
      · intro c213
        rw [if_neg c213] at H
        refine J_iconst (v := 0) d_Law_law_1080 (by decide) ?_
        have z212 : (0 : Int32) = 0 ∨ (0 : Int32) = 1 := by
          apply Classical.byContradiction
          intro q9
          rw [if_neg q9] at H
          cases H
        rw [if_pos z212] at H
        have H := Option.some.inj H
        subst H
        exact J_iret (st := []) d_Law_law_1081 rfl (narrow_z z212).1 ⟨rfl, rfl, rfl⟩
  · intro c216
    rw [if_neg c216] at H
    refine J_iconst (v := 0) d_Law_law_1063 (by decide) ?_
    have z215 : (0 : Int32) = 0 ∨ (0 : Int32) = 1 := by
      apply Classical.byContradiction
      intro q9
      rw [if_neg q9] at H
      cases H
    rw [if_pos z215] at H
    have H := Option.some.inj H
    subst H
    exact J_iret (st := []) d_Law_law_1064 rfl (narrow_z z215).1 ⟨rfl, rfl, rfl⟩
def f_Law_law_L1026 (Γ : gm_T) (L : Nat) (xs : Nat → Int32) (Kc53 : ph_T → Nat → Nat → Nat → Int32 → Option (Int32 × ph_T)) (φ : ph_T) (x1 : Nat) (x2 : Nat) (x3 : Nat) (x4 : Int32) : Option (Int32 × ph_T) :=
  f_Law_law_L2021 Γ L xs Kc53 φ x1 x2 x3 x4
set_option maxRecDepth 100000 in
set_option maxHeartbeats 8000000 in
theorem p_Law_law_L1026 {w : jw_T} (hw : jok w) {Γ : gm_T} {n : Nat} (hG : gd w Γ n) {L : Nat} {xs : Nat → Int32} (hL : jw_L w = L) (hxs : jw_xs w = xs) {Kc53 : ph_T → Nat → Nat → Nat → Int32 → Option (Int32 × ph_T)} {kc ks : Nat} (hKc53 : ∀ {x : Bool} {φ : ph_T} {x1 : Nat} {x2 : Nat} {x3 : Nat} {x4 : Int32} {q : Int32 × ph_T}, Kc53 φ x1 x2 x3 x4 = some q → J w M_Law_law 53 [some (.ref (jw_b w)), some (.ref x1), some (.ref x2), some (.ref x3), some (.int x4), none, none, none] [] (pic Γ φ) n x kc ks (fq Γ n (.inl (some (.int q.1))) q.2)) {x : Bool} {φ : ph_T} {x1 : Nat} {x2 : Nat} {x3 : Nat} {x4 : Int32} {q : Int32 × ph_T} (H : f_Law_law_L1026 Γ L xs Kc53 φ x1 x2 x3 x4 = some q) : J w M_Law_law 1026 [some (.ref (jw_b w)), some (.ref x1), some (.ref x2), some (.ref x3), some (.int x4), none, none, none] [] (pic Γ φ) n x kc ks (fq Γ n (.inl (some (.int q.1))) q.2) := by
  unfold f_Law_law_L1026 at H
  refine J_goto (tgt := 2021) d_Law_law_1026 (by decide) ?_
  refine J.drop [true, true, true, true, true, false, false, false] rfl ?_
  exact p_Law_law_L2021 hw hG hL hxs (kc := kc) (ks := ks) hKc53 H
def f_Law_law_L891 (Γ : gm_T) (L : Nat) (xs : Nat → Int32) (Kc53 : ph_T → Nat → Nat → Nat → Int32 → Option (Int32 × ph_T)) (φ : ph_T) (x1 : Nat) (x2 : Nat) (x3 : Nat) (x4 : Int32) : Option (Int32 × ph_T) :=
  Option.bind (ix (x4 + (1 : Int32)) L) fun k217 =>
  Option.bind (ix (x4 + (2 : Int32)) L) fun k218 =>
  Option.bind (ix (x4 + (3 : Int32)) L) fun k219 =>
  Option.bind (ix (x4 + (4 : Int32)) L) fun k220 =>
  Option.bind (ix (x4 + (5 : Int32)) L) fun k221 =>
  Option.bind (ix (x4 + (6 : Int32)) L) fun k222 =>
  Option.bind (f_Law_request Γ φ (some x1) (xs k217) (xs k218) (xs k219) (xs k220) (((Int32.toInt64 (xs k221)) <<< (Int32.toInt64 (32 : Int32) &&& 63)) ||| ((Int32.toInt64 (xs k222)) &&& (4294967295 : Int64))) (some x3)) fun q223 =>
  Option.bind (ix (x4 + (1 : Int32)) L) fun k224 =>
  Option.bind (ix (x4 + (2 : Int32)) L) fun k225 =>
  Option.bind (ix (x4 + (3 : Int32)) L) fun k226 =>
  Option.bind (ix (x4 + (4 : Int32)) L) fun k227 =>
  Option.bind (ix (x4 + (5 : Int32)) L) fun k228 =>
  Option.bind (ix (x4 + (6 : Int32)) L) fun k229 =>
  @ite _ (Γ x2 = .inr 12) _ (
  Option.bind (f_Ref_request Γ q223.2 x2 (xs k224) (xs k225) (xs k226) (xs k227) (((Int32.toInt64 (xs k228)) <<< (Int32.toInt64 (32 : Int32) &&& 63)) ||| ((Int32.toInt64 (xs k229)) &&& (4294967295 : Int64)))) fun q231 =>
  Option.bind (f_Ref_thrown Γ q231.2 x2) fun q232 =>
  if q232.1 = q223.1 then
    if q223.1 = 0 then
      Option.bind (gA Γ x3 1) fun N233 =>
      Option.bind (ix (0 : Int32) N233) fun k234 =>
      if (lg_cmp (q232.2.2.1 x3 k234) (Int32.toInt64 q231.1)) = 0 then
        f_Law_law_L1026 Γ L xs Kc53 q232.2 x1 x2 x3 x4
      else
        @ite _ ((0 : Int32) = 0 ∨ (0 : Int32) = 1) _ (
        some ((0 : Int32), q232.2)
        ) none
    else
      f_Law_law_L1026 Γ L xs Kc53 q232.2 x1 x2 x3 x4
  else
    @ite _ ((0 : Int32) = 0 ∨ (0 : Int32) = 1) _ (
    some ((0 : Int32), q232.2)
    ) none
  ) none
set_option maxRecDepth 100000 in
set_option maxHeartbeats 8000000 in
theorem p_Law_law_L891 {w : jw_T} (hw : jok w) {Γ : gm_T} {n : Nat} (hG : gd w Γ n) {L : Nat} {xs : Nat → Int32} (hL : jw_L w = L) (hxs : jw_xs w = xs) {Kc53 : ph_T → Nat → Nat → Nat → Int32 → Option (Int32 × ph_T)} {kc ks : Nat} (hKc53 : ∀ {x : Bool} {φ : ph_T} {x1 : Nat} {x2 : Nat} {x3 : Nat} {x4 : Int32} {q : Int32 × ph_T}, Kc53 φ x1 x2 x3 x4 = some q → J w M_Law_law 53 [some (.ref (jw_b w)), some (.ref x1), some (.ref x2), some (.ref x3), some (.int x4), none, none, none] [] (pic Γ φ) n x kc ks (fq Γ n (.inl (some (.int q.1))) q.2)) {x : Bool} {φ : ph_T} {x1 : Nat} {x2 : Nat} {x3 : Nat} {x4 : Int32} {q : Int32 × ph_T} (H : f_Law_law_L891 Γ L xs Kc53 φ x1 x2 x3 x4 = some q) : J w M_Law_law 891 [some (.ref (jw_b w)), some (.ref x1), some (.ref x2), some (.ref x3), some (.int x4), none, none, none] [] (pic Γ φ) n x (kc + 1) (ks + 6) (fq Γ n (.inl (some (.int q.1))) q.2) := by
  unfold f_Law_law_L891 at H
  refine J_aload_n d_Law_law_891 rfl ?_
  refine J_aload_n d_Law_law_892 rfl ?_
  refine J_iload d_Law_law_893 rfl ?_
  refine J_iconst (v := 1) d_Law_law_895 (by decide) ?_
  refine J_iadd d_Law_law_896 ?_
  obtain ⟨k217, hk217, H⟩ := Option.bind_eq_some_iff.mp H
  refine J_sldx hL hxs k217 d_Law_law_897 (ix_some hk217) ?_
  refine J_aload_n d_Law_law_898 rfl ?_
  refine J_iload d_Law_law_899 rfl ?_
  refine J_iconst (v := 2) d_Law_law_901 (by decide) ?_
  refine J_iadd d_Law_law_902 ?_
  obtain ⟨k218, hk218, H⟩ := Option.bind_eq_some_iff.mp H
  refine J_sldx hL hxs k218 d_Law_law_903 (ix_some hk218) ?_
  refine J_aload_n d_Law_law_904 rfl ?_
  refine J_iload d_Law_law_905 rfl ?_
  refine J_iconst (v := 3) d_Law_law_907 (by decide) ?_
  refine J_iadd d_Law_law_908 ?_
  obtain ⟨k219, hk219, H⟩ := Option.bind_eq_some_iff.mp H
  refine J_sldx hL hxs k219 d_Law_law_909 (ix_some hk219) ?_
  refine J_aload_n d_Law_law_910 rfl ?_
  refine J_iload d_Law_law_911 rfl ?_
  refine J_iconst (v := 4) d_Law_law_913 (by decide) ?_
  refine J_iadd d_Law_law_914 ?_
  obtain ⟨k220, hk220, H⟩ := Option.bind_eq_some_iff.mp H
  refine J_sldx hL hxs k220 d_Law_law_915 (ix_some hk220) ?_
  refine J_aload_n d_Law_law_916 rfl ?_
  refine J_iload d_Law_law_917 rfl ?_
  refine J_iconst (v := 5) d_Law_law_919 (by decide) ?_
  refine J_iadd d_Law_law_920 ?_
  obtain ⟨k221, hk221, H⟩ := Option.bind_eq_some_iff.mp H
  refine J_sldx hL hxs k221 d_Law_law_921 (ix_some hk221) ?_
  refine J_i2l d_Law_law_922 ?_
  refine J_bipush (v := 32) d_Law_law_923 (by decide) ?_
  refine J_lshl d_Law_law_925 ?_
  refine J_aload_n d_Law_law_926 rfl ?_
  refine J_iload d_Law_law_927 rfl ?_
  refine J_bipush (v := 6) d_Law_law_929 (by decide) ?_
  refine J_iadd d_Law_law_931 ?_
  obtain ⟨k222, hk222, H⟩ := Option.bind_eq_some_iff.mp H
  refine J_sldx hL hxs k222 d_Law_law_932 (ix_some hk222) ?_
  refine J_i2l d_Law_law_933 ?_
  refine J_ldc2 (v := 4294967295) d_Law_law_934 (kn_Law_149 hw) ?_
  refine J_land d_Law_law_937 ?_
  refine J_lor d_Law_law_938 ?_
  refine J_aload_n d_Law_law_939 rfl ?_
  obtain ⟨q223, hq223, H⟩ := Option.bind_eq_some_iff.mp H
  refine J.kk (Nat.add_comm _ _) (Nat.add_comm _ _) ?_
  refine J_callS (kc := kc) (ks := ks) (kc' := 1) (ks' := 6) (as := [.ref x1, .int (xs k217), .int (xs k218), .int (xs k219), .int (xs k220), .long (((Int32.toInt64 (xs k221)) <<< (Int32.toInt64 (32 : Int32) &&& 63)) ||| ((Int32.toInt64 (xs k222)) &&& (4294967295 : Int64))), .ref x3]) (st := []) (mf_Law_request hw) (ms_Law_151 hw) d_Law_law_940 ln_Law_request (by decide) (by first | exact Nat.le_of_ble_eq_true rfl | (simp only [List.map_cons, List.map_nil, List.sum_cons, List.sum_nil, va_rf_cat]; exact Nat.le_of_ble_eq_true rfl)) rfl (p_Law_request hw hG hq223) ?_ (fun E h' n' x' e1 => by cases e1.1)
  intro v9 h9 n9 x9 e9
  obtain ⟨e91, e92, e93⟩ := e9
  cases e91
  subst e92
  subst e93
  clear x
  rename Bool => x
  show J _ _ _ _ (_ :: _) _ _ _ _ _ _
  refine J_istore d_Law_law_943 (Nat.le_of_ble_eq_true rfl) ?_
  refine J.ls (ls' := [some (.ref (jw_b w)), some (.ref x1), some (.ref x2), some (.ref x3), some (.int x4), some (.int q223.1), none, none]) rfl ?_
  refine J_aload_n d_Law_law_945 rfl ?_
  refine J_aload_n d_Law_law_946 rfl ?_
  refine J_iload d_Law_law_947 rfl ?_
  refine J_iconst (v := 1) d_Law_law_949 (by decide) ?_
  refine J_iadd d_Law_law_950 ?_
  obtain ⟨k224, hk224, H⟩ := Option.bind_eq_some_iff.mp H
  refine J_sldx hL hxs k224 d_Law_law_951 (ix_some hk224) ?_
  refine J_aload_n d_Law_law_952 rfl ?_
  refine J_iload d_Law_law_953 rfl ?_
  refine J_iconst (v := 2) d_Law_law_955 (by decide) ?_
  refine J_iadd d_Law_law_956 ?_
  obtain ⟨k225, hk225, H⟩ := Option.bind_eq_some_iff.mp H
  refine J_sldx hL hxs k225 d_Law_law_957 (ix_some hk225) ?_
  refine J_aload_n d_Law_law_958 rfl ?_
  refine J_iload d_Law_law_959 rfl ?_
  refine J_iconst (v := 3) d_Law_law_961 (by decide) ?_
  refine J_iadd d_Law_law_962 ?_
  obtain ⟨k226, hk226, H⟩ := Option.bind_eq_some_iff.mp H
  refine J_sldx hL hxs k226 d_Law_law_963 (ix_some hk226) ?_
  refine J_aload_n d_Law_law_964 rfl ?_
  refine J_iload d_Law_law_965 rfl ?_
  refine J_iconst (v := 4) d_Law_law_967 (by decide) ?_
  refine J_iadd d_Law_law_968 ?_
  obtain ⟨k227, hk227, H⟩ := Option.bind_eq_some_iff.mp H
  refine J_sldx hL hxs k227 d_Law_law_969 (ix_some hk227) ?_
  refine J_aload_n d_Law_law_970 rfl ?_
  refine J_iload d_Law_law_971 rfl ?_
  refine J_iconst (v := 5) d_Law_law_973 (by decide) ?_
  refine J_iadd d_Law_law_974 ?_
  obtain ⟨k228, hk228, H⟩ := Option.bind_eq_some_iff.mp H
  refine J_sldx hL hxs k228 d_Law_law_975 (ix_some hk228) ?_
  refine J_i2l d_Law_law_976 ?_
  refine J_bipush (v := 32) d_Law_law_977 (by decide) ?_
  refine J_lshl d_Law_law_979 ?_
  refine J_aload_n d_Law_law_980 rfl ?_
  refine J_iload d_Law_law_981 rfl ?_
  refine J_bipush (v := 6) d_Law_law_983 (by decide) ?_
  refine J_iadd d_Law_law_985 ?_
  obtain ⟨k229, hk229, H⟩ := Option.bind_eq_some_iff.mp H
  refine J_sldx hL hxs k229 d_Law_law_986 (ix_some hk229) ?_
  refine J_i2l d_Law_law_987 ?_
  refine J_ldc2 (v := 4294967295) d_Law_law_988 (kn_Law_149 hw) ?_
  refine J_land d_Law_law_991 ?_
  refine J_lor d_Law_law_992 ?_
  have g230 : Γ x2 = .inr 12 := by
    apply Classical.byContradiction
    intro q9
    rw [if_neg q9] at H
    cases H
  rw [if_pos g230] at H
  obtain ⟨q231, hq231, H⟩ := Option.bind_eq_some_iff.mp H
  refine J.kk (Nat.zero_add _) (Nat.zero_add _) ?_
  refine J_callV (kc := kc) (ks := ks) (kc' := 0) (ks' := 0) (a := x2) (ci := 12) (as := [.int (xs k224), .int (xs k225), .int (xs k226), .int (xs k227), .long (((Int32.toInt64 (xs k228)) <<< (Int32.toInt64 (32 : Int32) &&& 63)) ||| ((Int32.toInt64 (xs k229)) &&& (4294967295 : Int64)))]) (st := []) (mf_Ref_request hw) (mv_Law_154 hw) d_Law_law_993 ln_Ref_request (by decide) (by first | exact Nat.le_of_ble_eq_true rfl | (simp only [List.map_cons, List.map_nil, List.sum_cons, List.sum_nil, va_rf_cat]; exact Nat.le_of_ble_eq_true rfl)) rfl ((hG _).1 _ g230 (by decide)).1 ((hG _).1 _ g230 (by decide)).2 (by unfold pic; rw [g230]; rfl) (jcl_at hw rfl) rfl (p_Ref_request hw hG hq231) ?_ (fun E h' n' x' e1 => by cases e1.1)
  intro v9 h9 n9 x9 e9
  obtain ⟨e91, e92, e93⟩ := e9
  cases e91
  subst e92
  subst e93
  clear x
  rename Bool => x
  show J _ _ _ _ (_ :: _) _ _ _ _ _ _
  refine J_istore d_Law_law_996 (Nat.le_of_ble_eq_true rfl) ?_
  refine J.ls (ls' := [some (.ref (jw_b w)), some (.ref x1), some (.ref x2), some (.ref x3), some (.int x4), some (.int q223.1), some (.int q231.1), none]) rfl ?_
  refine J_aload_n d_Law_law_998 rfl ?_
  obtain ⟨q232, hq232, H⟩ := Option.bind_eq_some_iff.mp H
  refine J.kk (Nat.zero_add _) (Nat.zero_add _) ?_
  refine J_callV (kc := kc) (ks := ks) (kc' := 0) (ks' := 0) (a := x2) (ci := 12) (as := []) (st := []) (mf_Ref_thrown hw) (mv_Law_118 hw) d_Law_law_999 ln_Ref_thrown (by decide) (by first | exact Nat.le_of_ble_eq_true rfl | (simp only [List.map_cons, List.map_nil, List.sum_cons, List.sum_nil, va_rf_cat]; exact Nat.le_of_ble_eq_true rfl)) rfl ((hG _).1 _ g230 (by decide)).1 ((hG _).1 _ g230 (by decide)).2 (by unfold pic; rw [g230]; rfl) (jcl_at hw rfl) rfl (p_Ref_thrown hw hG hq232) ?_ (fun E h' n' x' e1 => by cases e1.1)
  intro v9 h9 n9 x9 e9
  obtain ⟨e91, e92, e93⟩ := e9
  cases e91
  subst e92
  subst e93
  clear x
  rename Bool => x
  show J _ _ _ _ (_ :: _) _ _ _ _ _ _
  refine J_iload d_Law_law_1002 rfl ?_
  refine J_icmp_eq (tgt := 1009) d_Law_law_1004 (by decide) ?_ ?_
  · intro c239
    rw [if_pos c239] at H
    refine J_iload d_Law_law_1009 rfl ?_
    refine J_if_ne (tgt := 1026) d_Law_law_1011 (by decide) ?_ ?_
    · intro c237
      rw [if_neg c237] at H
      refine J.drop [true, true, true, true, true, false, false, false] rfl ?_
      exact p_Law_law_L1026 hw hG hL hxs (kc := kc) (ks := ks) hKc53 H
    · intro c237
      rw [if_pos c237] at H
      refine J_aload_n d_Law_law_1014 rfl ?_
      refine J_iconst (v := 0) d_Law_law_1015 (by decide) ?_
      obtain ⟨N233, hN233, H⟩ := Option.bind_eq_some_iff.mp H
      obtain ⟨k234, hk234, H⟩ := Option.bind_eq_some_iff.mp H
      refine F_lald k234 hw hG d_Law_law_1016 (gA_some hN233) (ix_some hk234) ?_
      refine J_iload d_Law_law_1017 rfl ?_
      refine J_i2l d_Law_law_1019 ?_
      refine J_lcmp d_Law_law_1020 ?_
      refine J_if_eq (tgt := 1026) d_Law_law_1021 (by decide) ?_ ?_
      · intro c236
        rw [if_pos c236] at H
        refine J.drop [true, true, true, true, true, false, false, false] rfl ?_
        exact p_Law_law_L1026 hw hG hL hxs (kc := kc) (ks := ks) hKc53 H
      · intro c236
        rw [if_neg c236] at H
        refine J_iconst (v := 0) d_Law_law_1024 (by decide) ?_
        have z235 : (0 : Int32) = 0 ∨ (0 : Int32) = 1 := by
          apply Classical.byContradiction
          intro q9
          rw [if_neg q9] at H
          cases H
        rw [if_pos z235] at H
        have H := Option.some.inj H
        subst H
        exact J_iret (st := []) d_Law_law_1025 rfl (narrow_z z235).1 ⟨rfl, rfl, rfl⟩
  · intro c239
    rw [if_neg c239] at H
    refine J_iconst (v := 0) d_Law_law_1007 (by decide) ?_
    have z238 : (0 : Int32) = 0 ∨ (0 : Int32) = 1 := by
      apply Classical.byContradiction
      intro q9
      rw [if_neg q9] at H
      cases H
    rw [if_pos z238] at H
    have H := Option.some.inj H
    subst H
    exact J_iret (st := []) d_Law_law_1008 rfl (narrow_z z238).1 ⟨rfl, rfl, rfl⟩
def f_Law_law_L888 (Γ : gm_T) (L : Nat) (xs : Nat → Int32) (Kc53 : ph_T → Nat → Nat → Nat → Int32 → Option (Int32 × ph_T)) (φ : ph_T) (x1 : Nat) (x2 : Nat) (x3 : Nat) (x4 : Int32) : Option (Int32 × ph_T) :=
  f_Law_law_L2021 Γ L xs Kc53 φ x1 x2 x3 x4
set_option maxRecDepth 100000 in
set_option maxHeartbeats 8000000 in
theorem p_Law_law_L888 {w : jw_T} (hw : jok w) {Γ : gm_T} {n : Nat} (hG : gd w Γ n) {L : Nat} {xs : Nat → Int32} (hL : jw_L w = L) (hxs : jw_xs w = xs) {Kc53 : ph_T → Nat → Nat → Nat → Int32 → Option (Int32 × ph_T)} {kc ks : Nat} (hKc53 : ∀ {x : Bool} {φ : ph_T} {x1 : Nat} {x2 : Nat} {x3 : Nat} {x4 : Int32} {q : Int32 × ph_T}, Kc53 φ x1 x2 x3 x4 = some q → J w M_Law_law 53 [some (.ref (jw_b w)), some (.ref x1), some (.ref x2), some (.ref x3), some (.int x4), none, none, none] [] (pic Γ φ) n x kc ks (fq Γ n (.inl (some (.int q.1))) q.2)) {x : Bool} {φ : ph_T} {x1 : Nat} {x2 : Nat} {x3 : Nat} {x4 : Int32} {q : Int32 × ph_T} (H : f_Law_law_L888 Γ L xs Kc53 φ x1 x2 x3 x4 = some q) : J w M_Law_law 888 [some (.ref (jw_b w)), some (.ref x1), some (.ref x2), some (.ref x3), some (.int x4), none, none, none] [] (pic Γ φ) n x kc ks (fq Γ n (.inl (some (.int q.1))) q.2) := by
  unfold f_Law_law_L888 at H
  refine J_goto (tgt := 2021) d_Law_law_888 (by decide) ?_
  refine J.drop [true, true, true, true, true, false, false, false] rfl ?_
  exact p_Law_law_L2021 hw hG hL hxs (kc := kc) (ks := ks) hKc53 H
def f_Law_law_L835 (Γ : gm_T) (L : Nat) (xs : Nat → Int32) (Kc53 : ph_T → Nat → Nat → Nat → Int32 → Option (Int32 × ph_T)) (φ : ph_T) (x1 : Nat) (x2 : Nat) (x3 : Nat) (x4 : Int32) : Option (Int32 × ph_T) :=
  Option.bind (ix (x4 + (1 : Int32)) L) fun k240 =>
  Option.bind (f_Law_peek Γ φ (some x1) (xs k240) (some x3)) fun q241 =>
  Option.bind (ix (x4 + (1 : Int32)) L) fun k242 =>
  @ite _ (Γ x2 = .inr 12) _ (
  Option.bind (f_Ref_peek Γ q241.2 x2 (xs k242)) fun q244 =>
  Option.bind (f_Ref_thrown Γ q244.2 x2) fun q245 =>
  if q245.1 = q241.1 then
    if q241.1 = 0 then
      Option.bind (gA Γ x3 1) fun N246 =>
      Option.bind (ix (0 : Int32) N246) fun k247 =>
      if (lg_cmp (q245.2.2.1 x3 k247) (Int32.toInt64 q244.1)) = 0 then
        f_Law_law_L888 Γ L xs Kc53 q245.2 x1 x2 x3 x4
      else
        @ite _ ((0 : Int32) = 0 ∨ (0 : Int32) = 1) _ (
        some ((0 : Int32), q245.2)
        ) none
    else
      f_Law_law_L888 Γ L xs Kc53 q245.2 x1 x2 x3 x4
  else
    @ite _ ((0 : Int32) = 0 ∨ (0 : Int32) = 1) _ (
    some ((0 : Int32), q245.2)
    ) none
  ) none
set_option maxRecDepth 100000 in
set_option maxHeartbeats 8000000 in
theorem p_Law_law_L835 {w : jw_T} (hw : jok w) {Γ : gm_T} {n : Nat} (hG : gd w Γ n) {L : Nat} {xs : Nat → Int32} (hL : jw_L w = L) (hxs : jw_xs w = xs) {Kc53 : ph_T → Nat → Nat → Nat → Int32 → Option (Int32 × ph_T)} {kc ks : Nat} (hKc53 : ∀ {x : Bool} {φ : ph_T} {x1 : Nat} {x2 : Nat} {x3 : Nat} {x4 : Int32} {q : Int32 × ph_T}, Kc53 φ x1 x2 x3 x4 = some q → J w M_Law_law 53 [some (.ref (jw_b w)), some (.ref x1), some (.ref x2), some (.ref x3), some (.int x4), none, none, none] [] (pic Γ φ) n x kc ks (fq Γ n (.inl (some (.int q.1))) q.2)) {x : Bool} {φ : ph_T} {x1 : Nat} {x2 : Nat} {x3 : Nat} {x4 : Int32} {q : Int32 × ph_T} (H : f_Law_law_L835 Γ L xs Kc53 φ x1 x2 x3 x4 = some q) : J w M_Law_law 835 [some (.ref (jw_b w)), some (.ref x1), some (.ref x2), some (.ref x3), some (.int x4), none, none, none] [] (pic Γ φ) n x (kc + 1) (ks + 6) (fq Γ n (.inl (some (.int q.1))) q.2) := by
  unfold f_Law_law_L835 at H
  refine J_aload_n d_Law_law_835 rfl ?_
  refine J_aload_n d_Law_law_836 rfl ?_
  refine J_iload d_Law_law_837 rfl ?_
  refine J_iconst (v := 1) d_Law_law_839 (by decide) ?_
  refine J_iadd d_Law_law_840 ?_
  obtain ⟨k240, hk240, H⟩ := Option.bind_eq_some_iff.mp H
  refine J_sldx hL hxs k240 d_Law_law_841 (ix_some hk240) ?_
  refine J_aload_n d_Law_law_842 rfl ?_
  obtain ⟨q241, hq241, H⟩ := Option.bind_eq_some_iff.mp H
  refine J.kk (Nat.add_comm _ _) (Nat.add_comm _ _) ?_
  refine J_callS (kc := kc) (ks := ks) (kc' := 1) (ks' := 6) (as := [.ref x1, .int (xs k240), .ref x3]) (st := []) (mf_Law_peek hw) (ms_Law_145 hw) d_Law_law_843 ln_Law_peek (by decide) (by first | exact Nat.le_of_ble_eq_true rfl | (simp only [List.map_cons, List.map_nil, List.sum_cons, List.sum_nil, va_rf_cat]; exact Nat.le_of_ble_eq_true rfl)) rfl (p_Law_peek hw hG hq241) ?_ (fun E h' n' x' e1 => by cases e1.1)
  intro v9 h9 n9 x9 e9
  obtain ⟨e91, e92, e93⟩ := e9
  cases e91
  subst e92
  subst e93
  clear x
  rename Bool => x
  show J _ _ _ _ (_ :: _) _ _ _ _ _ _
  refine J_istore d_Law_law_846 (Nat.le_of_ble_eq_true rfl) ?_
  refine J.ls (ls' := [some (.ref (jw_b w)), some (.ref x1), some (.ref x2), some (.ref x3), some (.int x4), some (.int q241.1), none, none]) rfl ?_
  refine J_aload_n d_Law_law_848 rfl ?_
  refine J_aload_n d_Law_law_849 rfl ?_
  refine J_iload d_Law_law_850 rfl ?_
  refine J_iconst (v := 1) d_Law_law_852 (by decide) ?_
  refine J_iadd d_Law_law_853 ?_
  obtain ⟨k242, hk242, H⟩ := Option.bind_eq_some_iff.mp H
  refine J_sldx hL hxs k242 d_Law_law_854 (ix_some hk242) ?_
  have g243 : Γ x2 = .inr 12 := by
    apply Classical.byContradiction
    intro q9
    rw [if_neg q9] at H
    cases H
  rw [if_pos g243] at H
  obtain ⟨q244, hq244, H⟩ := Option.bind_eq_some_iff.mp H
  refine J.kk (Nat.zero_add _) (Nat.zero_add _) ?_
  refine J_callV (kc := kc) (ks := ks) (kc' := 0) (ks' := 0) (a := x2) (ci := 12) (as := [.int (xs k242)]) (st := []) (mf_Ref_peek hw) (mv_Law_148 hw) d_Law_law_855 ln_Ref_peek (by decide) (by first | exact Nat.le_of_ble_eq_true rfl | (simp only [List.map_cons, List.map_nil, List.sum_cons, List.sum_nil, va_rf_cat]; exact Nat.le_of_ble_eq_true rfl)) rfl ((hG _).1 _ g243 (by decide)).1 ((hG _).1 _ g243 (by decide)).2 (by unfold pic; rw [g243]; rfl) (jcl_at hw rfl) rfl (p_Ref_peek hw hG hq244) ?_ (fun E h' n' x' e1 => by cases e1.1)
  intro v9 h9 n9 x9 e9
  obtain ⟨e91, e92, e93⟩ := e9
  cases e91
  subst e92
  subst e93
  clear x
  rename Bool => x
  show J _ _ _ _ (_ :: _) _ _ _ _ _ _
  refine J_istore d_Law_law_858 (Nat.le_of_ble_eq_true rfl) ?_
  refine J.ls (ls' := [some (.ref (jw_b w)), some (.ref x1), some (.ref x2), some (.ref x3), some (.int x4), some (.int q241.1), some (.int q244.1), none]) rfl ?_
  refine J_aload_n d_Law_law_860 rfl ?_
  obtain ⟨q245, hq245, H⟩ := Option.bind_eq_some_iff.mp H
  refine J.kk (Nat.zero_add _) (Nat.zero_add _) ?_
  refine J_callV (kc := kc) (ks := ks) (kc' := 0) (ks' := 0) (a := x2) (ci := 12) (as := []) (st := []) (mf_Ref_thrown hw) (mv_Law_118 hw) d_Law_law_861 ln_Ref_thrown (by decide) (by first | exact Nat.le_of_ble_eq_true rfl | (simp only [List.map_cons, List.map_nil, List.sum_cons, List.sum_nil, va_rf_cat]; exact Nat.le_of_ble_eq_true rfl)) rfl ((hG _).1 _ g243 (by decide)).1 ((hG _).1 _ g243 (by decide)).2 (by unfold pic; rw [g243]; rfl) (jcl_at hw rfl) rfl (p_Ref_thrown hw hG hq245) ?_ (fun E h' n' x' e1 => by cases e1.1)
  intro v9 h9 n9 x9 e9
  obtain ⟨e91, e92, e93⟩ := e9
  cases e91
  subst e92
  subst e93
  clear x
  rename Bool => x
  show J _ _ _ _ (_ :: _) _ _ _ _ _ _
  refine J_iload d_Law_law_864 rfl ?_
  refine J_icmp_eq (tgt := 871) d_Law_law_866 (by decide) ?_ ?_
  · intro c252
    rw [if_pos c252] at H
    refine J_iload d_Law_law_871 rfl ?_
    refine J_if_ne (tgt := 888) d_Law_law_873 (by decide) ?_ ?_
    · intro c250
      rw [if_neg c250] at H
      refine J.drop [true, true, true, true, true, false, false, false] rfl ?_
      exact p_Law_law_L888 hw hG hL hxs (kc := kc) (ks := ks) hKc53 H
    · intro c250
      rw [if_pos c250] at H
      refine J_aload_n d_Law_law_876 rfl ?_
      refine J_iconst (v := 0) d_Law_law_877 (by decide) ?_
      obtain ⟨N246, hN246, H⟩ := Option.bind_eq_some_iff.mp H
      obtain ⟨k247, hk247, H⟩ := Option.bind_eq_some_iff.mp H
      refine F_lald k247 hw hG d_Law_law_878 (gA_some hN246) (ix_some hk247) ?_
      refine J_iload d_Law_law_879 rfl ?_
      refine J_i2l d_Law_law_881 ?_
      refine J_lcmp d_Law_law_882 ?_
      refine J_if_eq (tgt := 888) d_Law_law_883 (by decide) ?_ ?_
      · intro c249
        rw [if_pos c249] at H
        refine J.drop [true, true, true, true, true, false, false, false] rfl ?_
        exact p_Law_law_L888 hw hG hL hxs (kc := kc) (ks := ks) hKc53 H
      · intro c249
        rw [if_neg c249] at H
        refine J_iconst (v := 0) d_Law_law_886 (by decide) ?_
        have z248 : (0 : Int32) = 0 ∨ (0 : Int32) = 1 := by
          apply Classical.byContradiction
          intro q9
          rw [if_neg q9] at H
          cases H
        rw [if_pos z248] at H
        have H := Option.some.inj H
        subst H
        exact J_iret (st := []) d_Law_law_887 rfl (narrow_z z248).1 ⟨rfl, rfl, rfl⟩
  · intro c252
    rw [if_neg c252] at H
    refine J_iconst (v := 0) d_Law_law_869 (by decide) ?_
    have z251 : (0 : Int32) = 0 ∨ (0 : Int32) = 1 := by
      apply Classical.byContradiction
      intro q9
      rw [if_neg q9] at H
      cases H
    rw [if_pos z251] at H
    have H := Option.some.inj H
    subst H
    exact J_iret (st := []) d_Law_law_870 rfl (narrow_z z251).1 ⟨rfl, rfl, rfl⟩
def f_Law_law_L832 (Γ : gm_T) (L : Nat) (xs : Nat → Int32) (Kc53 : ph_T → Nat → Nat → Nat → Int32 → Option (Int32 × ph_T)) (φ : ph_T) (x1 : Nat) (x2 : Nat) (x3 : Nat) (x4 : Int32) : Option (Int32 × ph_T) :=
  f_Law_law_L2021 Γ L xs Kc53 φ x1 x2 x3 x4
set_option maxRecDepth 100000 in
set_option maxHeartbeats 8000000 in
theorem p_Law_law_L832 {w : jw_T} (hw : jok w) {Γ : gm_T} {n : Nat} (hG : gd w Γ n) {L : Nat} {xs : Nat → Int32} (hL : jw_L w = L) (hxs : jw_xs w = xs) {Kc53 : ph_T → Nat → Nat → Nat → Int32 → Option (Int32 × ph_T)} {kc ks : Nat} (hKc53 : ∀ {x : Bool} {φ : ph_T} {x1 : Nat} {x2 : Nat} {x3 : Nat} {x4 : Int32} {q : Int32 × ph_T}, Kc53 φ x1 x2 x3 x4 = some q → J w M_Law_law 53 [some (.ref (jw_b w)), some (.ref x1), some (.ref x2), some (.ref x3), some (.int x4), none, none, none] [] (pic Γ φ) n x kc ks (fq Γ n (.inl (some (.int q.1))) q.2)) {x : Bool} {φ : ph_T} {x1 : Nat} {x2 : Nat} {x3 : Nat} {x4 : Int32} {q : Int32 × ph_T} (H : f_Law_law_L832 Γ L xs Kc53 φ x1 x2 x3 x4 = some q) : J w M_Law_law 832 [some (.ref (jw_b w)), some (.ref x1), some (.ref x2), some (.ref x3), some (.int x4), none, none, none] [] (pic Γ φ) n x kc ks (fq Γ n (.inl (some (.int q.1))) q.2) := by
  unfold f_Law_law_L832 at H
  refine J_goto (tgt := 2021) d_Law_law_832 (by decide) ?_
  refine J.drop [true, true, true, true, true, false, false, false] rfl ?_
  exact p_Law_law_L2021 hw hG hL hxs (kc := kc) (ks := ks) hKc53 H
def f_Law_law_L767 (Γ : gm_T) (L : Nat) (xs : Nat → Int32) (Kc53 : ph_T → Nat → Nat → Nat → Int32 → Option (Int32 × ph_T)) (φ : ph_T) (x1 : Nat) (x2 : Nat) (x3 : Nat) (x4 : Int32) : Option (Int32 × ph_T) :=
  Option.bind (ix (x4 + (1 : Int32)) L) fun k253 =>
  Option.bind (ix (x4 + (2 : Int32)) L) fun k254 =>
  Option.bind (f_Law_poke Γ φ (some x1) (xs k253) (xs k254) (some x3)) fun q255 =>
  Option.bind (ix (x4 + (1 : Int32)) L) fun k256 =>
  Option.bind (ix (x4 + (2 : Int32)) L) fun k257 =>
  @ite _ (Γ x2 = .inr 12) _ (
  Option.bind (f_Ref_poke Γ q255.2 x2 (xs k256) (xs k257)) fun q259 =>
  Option.bind (f_Ref_thrown Γ q259.2 x2) fun q260 =>
  if q260.1 = q255.1 then
    if q255.1 = 0 then
      Option.bind (gA Γ x3 1) fun N261 =>
      Option.bind (ix (0 : Int32) N261) fun k262 =>
      if (lg_cmp (q260.2.2.1 x3 k262) (Int32.toInt64 q259.1)) = 0 then
        f_Law_law_L832 Γ L xs Kc53 q260.2 x1 x2 x3 x4
      else
        @ite _ ((0 : Int32) = 0 ∨ (0 : Int32) = 1) _ (
        some ((0 : Int32), q260.2)
        ) none
    else
      f_Law_law_L832 Γ L xs Kc53 q260.2 x1 x2 x3 x4
  else
    @ite _ ((0 : Int32) = 0 ∨ (0 : Int32) = 1) _ (
    some ((0 : Int32), q260.2)
    ) none
  ) none
set_option maxRecDepth 100000 in
set_option maxHeartbeats 8000000 in
theorem p_Law_law_L767 {w : jw_T} (hw : jok w) {Γ : gm_T} {n : Nat} (hG : gd w Γ n) {L : Nat} {xs : Nat → Int32} (hL : jw_L w = L) (hxs : jw_xs w = xs) {Kc53 : ph_T → Nat → Nat → Nat → Int32 → Option (Int32 × ph_T)} {kc ks : Nat} (hKc53 : ∀ {x : Bool} {φ : ph_T} {x1 : Nat} {x2 : Nat} {x3 : Nat} {x4 : Int32} {q : Int32 × ph_T}, Kc53 φ x1 x2 x3 x4 = some q → J w M_Law_law 53 [some (.ref (jw_b w)), some (.ref x1), some (.ref x2), some (.ref x3), some (.int x4), none, none, none] [] (pic Γ φ) n x kc ks (fq Γ n (.inl (some (.int q.1))) q.2)) {x : Bool} {φ : ph_T} {x1 : Nat} {x2 : Nat} {x3 : Nat} {x4 : Int32} {q : Int32 × ph_T} (H : f_Law_law_L767 Γ L xs Kc53 φ x1 x2 x3 x4 = some q) : J w M_Law_law 767 [some (.ref (jw_b w)), some (.ref x1), some (.ref x2), some (.ref x3), some (.int x4), none, none, none] [] (pic Γ φ) n x (kc + 1) (ks + 6) (fq Γ n (.inl (some (.int q.1))) q.2) := by
  unfold f_Law_law_L767 at H
  refine J_aload_n d_Law_law_767 rfl ?_
  refine J_aload_n d_Law_law_768 rfl ?_
  refine J_iload d_Law_law_769 rfl ?_
  refine J_iconst (v := 1) d_Law_law_771 (by decide) ?_
  refine J_iadd d_Law_law_772 ?_
  obtain ⟨k253, hk253, H⟩ := Option.bind_eq_some_iff.mp H
  refine J_sldx hL hxs k253 d_Law_law_773 (ix_some hk253) ?_
  refine J_aload_n d_Law_law_774 rfl ?_
  refine J_iload d_Law_law_775 rfl ?_
  refine J_iconst (v := 2) d_Law_law_777 (by decide) ?_
  refine J_iadd d_Law_law_778 ?_
  obtain ⟨k254, hk254, H⟩ := Option.bind_eq_some_iff.mp H
  refine J_sldx hL hxs k254 d_Law_law_779 (ix_some hk254) ?_
  refine J_aload_n d_Law_law_780 rfl ?_
  obtain ⟨q255, hq255, H⟩ := Option.bind_eq_some_iff.mp H
  refine J.kk (Nat.add_comm _ _) (Nat.add_comm _ _) ?_
  refine J_callS (kc := kc) (ks := ks) (kc' := 1) (ks' := 6) (as := [.ref x1, .int (xs k253), .int (xs k254), .ref x3]) (st := []) (mf_Law_poke hw) (ms_Law_142 hw) d_Law_law_781 ln_Law_poke (by decide) (by first | exact Nat.le_of_ble_eq_true rfl | (simp only [List.map_cons, List.map_nil, List.sum_cons, List.sum_nil, va_rf_cat]; exact Nat.le_of_ble_eq_true rfl)) rfl (p_Law_poke hw hG hq255) ?_ (fun E h' n' x' e1 => by cases e1.1)
  intro v9 h9 n9 x9 e9
  obtain ⟨e91, e92, e93⟩ := e9
  cases e91
  subst e92
  subst e93
  clear x
  rename Bool => x
  show J _ _ _ _ (_ :: _) _ _ _ _ _ _
  refine J_istore d_Law_law_784 (Nat.le_of_ble_eq_true rfl) ?_
  refine J.ls (ls' := [some (.ref (jw_b w)), some (.ref x1), some (.ref x2), some (.ref x3), some (.int x4), some (.int q255.1), none, none]) rfl ?_
  refine J_aload_n d_Law_law_786 rfl ?_
  refine J_aload_n d_Law_law_787 rfl ?_
  refine J_iload d_Law_law_788 rfl ?_
  refine J_iconst (v := 1) d_Law_law_790 (by decide) ?_
  refine J_iadd d_Law_law_791 ?_
  obtain ⟨k256, hk256, H⟩ := Option.bind_eq_some_iff.mp H
  refine J_sldx hL hxs k256 d_Law_law_792 (ix_some hk256) ?_
  refine J_aload_n d_Law_law_793 rfl ?_
  refine J_iload d_Law_law_794 rfl ?_
  refine J_iconst (v := 2) d_Law_law_796 (by decide) ?_
  refine J_iadd d_Law_law_797 ?_
  obtain ⟨k257, hk257, H⟩ := Option.bind_eq_some_iff.mp H
  refine J_sldx hL hxs k257 d_Law_law_798 (ix_some hk257) ?_
  have g258 : Γ x2 = .inr 12 := by
    apply Classical.byContradiction
    intro q9
    rw [if_neg q9] at H
    cases H
  rw [if_pos g258] at H
  obtain ⟨q259, hq259, H⟩ := Option.bind_eq_some_iff.mp H
  refine J.kk (Nat.zero_add _) (Nat.zero_add _) ?_
  refine J_callV (kc := kc) (ks := ks) (kc' := 0) (ks' := 0) (a := x2) (ci := 12) (as := [.int (xs k256), .int (xs k257)]) (st := []) (mf_Ref_poke hw) (mv_Law_144 hw) d_Law_law_799 ln_Ref_poke (by decide) (by first | exact Nat.le_of_ble_eq_true rfl | (simp only [List.map_cons, List.map_nil, List.sum_cons, List.sum_nil, va_rf_cat]; exact Nat.le_of_ble_eq_true rfl)) rfl ((hG _).1 _ g258 (by decide)).1 ((hG _).1 _ g258 (by decide)).2 (by unfold pic; rw [g258]; rfl) (jcl_at hw rfl) rfl (p_Ref_poke hw hG hq259) ?_ (fun E h' n' x' e1 => by cases e1.1)
  intro v9 h9 n9 x9 e9
  obtain ⟨e91, e92, e93⟩ := e9
  cases e91
  subst e92
  subst e93
  clear x
  rename Bool => x
  show J _ _ _ _ (_ :: _) _ _ _ _ _ _
  refine J_istore d_Law_law_802 (Nat.le_of_ble_eq_true rfl) ?_
  refine J.ls (ls' := [some (.ref (jw_b w)), some (.ref x1), some (.ref x2), some (.ref x3), some (.int x4), some (.int q255.1), some (.int q259.1), none]) rfl ?_
  refine J_aload_n d_Law_law_804 rfl ?_
  obtain ⟨q260, hq260, H⟩ := Option.bind_eq_some_iff.mp H
  refine J.kk (Nat.zero_add _) (Nat.zero_add _) ?_
  refine J_callV (kc := kc) (ks := ks) (kc' := 0) (ks' := 0) (a := x2) (ci := 12) (as := []) (st := []) (mf_Ref_thrown hw) (mv_Law_118 hw) d_Law_law_805 ln_Ref_thrown (by decide) (by first | exact Nat.le_of_ble_eq_true rfl | (simp only [List.map_cons, List.map_nil, List.sum_cons, List.sum_nil, va_rf_cat]; exact Nat.le_of_ble_eq_true rfl)) rfl ((hG _).1 _ g258 (by decide)).1 ((hG _).1 _ g258 (by decide)).2 (by unfold pic; rw [g258]; rfl) (jcl_at hw rfl) rfl (p_Ref_thrown hw hG hq260) ?_ (fun E h' n' x' e1 => by cases e1.1)
  intro v9 h9 n9 x9 e9
  obtain ⟨e91, e92, e93⟩ := e9
  cases e91
  subst e92
  subst e93
  clear x
  rename Bool => x
  show J _ _ _ _ (_ :: _) _ _ _ _ _ _
  refine J_iload d_Law_law_808 rfl ?_
  refine J_icmp_eq (tgt := 815) d_Law_law_810 (by decide) ?_ ?_
  · intro c267
    rw [if_pos c267] at H
    refine J_iload d_Law_law_815 rfl ?_
    refine J_if_ne (tgt := 832) d_Law_law_817 (by decide) ?_ ?_
    · intro c265
      rw [if_neg c265] at H
      refine J.drop [true, true, true, true, true, false, false, false] rfl ?_
      exact p_Law_law_L832 hw hG hL hxs (kc := kc) (ks := ks) hKc53 H
    · intro c265
      rw [if_pos c265] at H
      refine J_aload_n d_Law_law_820 rfl ?_
      refine J_iconst (v := 0) d_Law_law_821 (by decide) ?_
      obtain ⟨N261, hN261, H⟩ := Option.bind_eq_some_iff.mp H
      obtain ⟨k262, hk262, H⟩ := Option.bind_eq_some_iff.mp H
      refine F_lald k262 hw hG d_Law_law_822 (gA_some hN261) (ix_some hk262) ?_
      refine J_iload d_Law_law_823 rfl ?_
      refine J_i2l d_Law_law_825 ?_
      refine J_lcmp d_Law_law_826 ?_
      refine J_if_eq (tgt := 832) d_Law_law_827 (by decide) ?_ ?_
      · intro c264
        rw [if_pos c264] at H
        refine J.drop [true, true, true, true, true, false, false, false] rfl ?_
        exact p_Law_law_L832 hw hG hL hxs (kc := kc) (ks := ks) hKc53 H
      · intro c264
        rw [if_neg c264] at H
        refine J_iconst (v := 0) d_Law_law_830 (by decide) ?_
        have z263 : (0 : Int32) = 0 ∨ (0 : Int32) = 1 := by
          apply Classical.byContradiction
          intro q9
          rw [if_neg q9] at H
          cases H
        rw [if_pos z263] at H
        have H := Option.some.inj H
        subst H
        exact J_iret (st := []) d_Law_law_831 rfl (narrow_z z263).1 ⟨rfl, rfl, rfl⟩
  · intro c267
    rw [if_neg c267] at H
    refine J_iconst (v := 0) d_Law_law_813 (by decide) ?_
    have z266 : (0 : Int32) = 0 ∨ (0 : Int32) = 1 := by
      apply Classical.byContradiction
      intro q9
      rw [if_neg q9] at H
      cases H
    rw [if_pos z266] at H
    have H := Option.some.inj H
    subst H
    exact J_iret (st := []) d_Law_law_814 rfl (narrow_z z266).1 ⟨rfl, rfl, rfl⟩
def f_Law_law_L764 (Γ : gm_T) (L : Nat) (xs : Nat → Int32) (Kc53 : ph_T → Nat → Nat → Nat → Int32 → Option (Int32 × ph_T)) (φ : ph_T) (x1 : Nat) (x2 : Nat) (x3 : Nat) (x4 : Int32) : Option (Int32 × ph_T) :=
  f_Law_law_L2021 Γ L xs Kc53 φ x1 x2 x3 x4
set_option maxRecDepth 100000 in
set_option maxHeartbeats 8000000 in
theorem p_Law_law_L764 {w : jw_T} (hw : jok w) {Γ : gm_T} {n : Nat} (hG : gd w Γ n) {L : Nat} {xs : Nat → Int32} (hL : jw_L w = L) (hxs : jw_xs w = xs) {Kc53 : ph_T → Nat → Nat → Nat → Int32 → Option (Int32 × ph_T)} {kc ks : Nat} (hKc53 : ∀ {x : Bool} {φ : ph_T} {x1 : Nat} {x2 : Nat} {x3 : Nat} {x4 : Int32} {q : Int32 × ph_T}, Kc53 φ x1 x2 x3 x4 = some q → J w M_Law_law 53 [some (.ref (jw_b w)), some (.ref x1), some (.ref x2), some (.ref x3), some (.int x4), none, none, none] [] (pic Γ φ) n x kc ks (fq Γ n (.inl (some (.int q.1))) q.2)) {x : Bool} {φ : ph_T} {x1 : Nat} {x2 : Nat} {x3 : Nat} {x4 : Int32} {q : Int32 × ph_T} (H : f_Law_law_L764 Γ L xs Kc53 φ x1 x2 x3 x4 = some q) : J w M_Law_law 764 [some (.ref (jw_b w)), some (.ref x1), some (.ref x2), some (.ref x3), some (.int x4), none, none, none] [] (pic Γ φ) n x kc ks (fq Γ n (.inl (some (.int q.1))) q.2) := by
  unfold f_Law_law_L764 at H
  refine J_goto (tgt := 2021) d_Law_law_764 (by decide) ?_
  refine J.drop [true, true, true, true, true, false, false, false] rfl ?_
  exact p_Law_law_L2021 hw hG hL hxs (kc := kc) (ks := ks) hKc53 H
def f_Law_law_L731 (Γ : gm_T) (L : Nat) (xs : Nat → Int32) (Kc53 : ph_T → Nat → Nat → Nat → Int32 → Option (Int32 × ph_T)) (φ : ph_T) (x1 : Nat) (x2 : Nat) (x3 : Nat) (x4 : Int32) (x5 : Int32) (y0 : Int32) (y1 : Int32) (y2 : Int32) (y3 : Nat) : Option (Int32 × ph_T) :=
  @ite _ (Γ y3 = .inr 12) _ (
  Option.bind (f_Ref_spoil Γ φ y3 y2 y1 y0) fun q269 =>
  @ite _ (Γ x2 = .inr 12) _ (
  Option.bind (f_Ref_thrown Γ q269.2 x2) fun q271 =>
  if q271.1 = x5 then
    if x5 = 0 then
      Option.bind (gA Γ x3 1) fun N272 =>
      Option.bind (ix (0 : Int32) N272) fun k273 =>
      if (lg_cmp (q271.2.2.1 x3 k273) (Int32.toInt64 q269.1)) = 0 then
        f_Law_law_L764 Γ L xs Kc53 q271.2 x1 x2 x3 x4
      else
        @ite _ ((0 : Int32) = 0 ∨ (0 : Int32) = 1) _ (
        some ((0 : Int32), q271.2)
        ) none
    else
      f_Law_law_L764 Γ L xs Kc53 q271.2 x1 x2 x3 x4
  else
    @ite _ ((0 : Int32) = 0 ∨ (0 : Int32) = 1) _ (
    some ((0 : Int32), q271.2)
    ) none
  ) none
  ) none
set_option maxRecDepth 100000 in
set_option maxHeartbeats 8000000 in
theorem p_Law_law_L731 {w : jw_T} (hw : jok w) {Γ : gm_T} {n : Nat} (hG : gd w Γ n) {L : Nat} {xs : Nat → Int32} (hL : jw_L w = L) (hxs : jw_xs w = xs) {Kc53 : ph_T → Nat → Nat → Nat → Int32 → Option (Int32 × ph_T)} {kc ks : Nat} (hKc53 : ∀ {x : Bool} {φ : ph_T} {x1 : Nat} {x2 : Nat} {x3 : Nat} {x4 : Int32} {q : Int32 × ph_T}, Kc53 φ x1 x2 x3 x4 = some q → J w M_Law_law 53 [some (.ref (jw_b w)), some (.ref x1), some (.ref x2), some (.ref x3), some (.int x4), none, none, none] [] (pic Γ φ) n x kc ks (fq Γ n (.inl (some (.int q.1))) q.2)) {x : Bool} {φ : ph_T} {x1 : Nat} {x2 : Nat} {x3 : Nat} {x4 : Int32} {x5 : Int32} {y0 : Int32} {y1 : Int32} {y2 : Int32} {y3 : Nat} {q : Int32 × ph_T} (H : f_Law_law_L731 Γ L xs Kc53 φ x1 x2 x3 x4 x5 y0 y1 y2 y3 = some q) : J w M_Law_law 731 [some (.ref (jw_b w)), some (.ref x1), some (.ref x2), some (.ref x3), some (.int x4), some (.int x5), none, none] [.int y0, .int y1, .int y2, .ref y3] (pic Γ φ) n x kc ks (fq Γ n (.inl (some (.int q.1))) q.2) := by
  unfold f_Law_law_L731 at H
  have g268 : Γ y3 = .inr 12 := by
    apply Classical.byContradiction
    intro q9
    rw [if_neg q9] at H
    cases H
  rw [if_pos g268] at H
  obtain ⟨q269, hq269, H⟩ := Option.bind_eq_some_iff.mp H
  refine J.kk (Nat.zero_add _) (Nat.zero_add _) ?_
  refine J_callV (kc := kc) (ks := ks) (kc' := 0) (ks' := 0) (a := y3) (ci := 12) (as := [.int y2, .int y1, .int y0]) (st := []) (mf_Ref_spoil hw) (mv_Law_141 hw) d_Law_law_731 ln_Ref_spoil (by decide) (by first | exact Nat.le_of_ble_eq_true rfl | (simp only [List.map_cons, List.map_nil, List.sum_cons, List.sum_nil, va_rf_cat]; exact Nat.le_of_ble_eq_true rfl)) rfl ((hG _).1 _ g268 (by decide)).1 ((hG _).1 _ g268 (by decide)).2 (by unfold pic; rw [g268]; rfl) (jcl_at hw rfl) rfl (p_Ref_spoil hw hG hq269) ?_ (fun E h' n' x' e1 => by cases e1.1)
  intro v9 h9 n9 x9 e9
  obtain ⟨e91, e92, e93⟩ := e9
  cases e91
  subst e92
  subst e93
  clear x
  rename Bool => x
  show J _ _ _ _ (_ :: _) _ _ _ _ _ _
  refine J_istore d_Law_law_734 (Nat.le_of_ble_eq_true rfl) ?_
  refine J.ls (ls' := [some (.ref (jw_b w)), some (.ref x1), some (.ref x2), some (.ref x3), some (.int x4), some (.int x5), some (.int q269.1), none]) rfl ?_
  refine J_aload_n d_Law_law_736 rfl ?_
  have g270 : Γ x2 = .inr 12 := by
    apply Classical.byContradiction
    intro q9
    rw [if_neg q9] at H
    cases H
  rw [if_pos g270] at H
  obtain ⟨q271, hq271, H⟩ := Option.bind_eq_some_iff.mp H
  refine J.kk (Nat.zero_add _) (Nat.zero_add _) ?_
  refine J_callV (kc := kc) (ks := ks) (kc' := 0) (ks' := 0) (a := x2) (ci := 12) (as := []) (st := []) (mf_Ref_thrown hw) (mv_Law_118 hw) d_Law_law_737 ln_Ref_thrown (by decide) (by first | exact Nat.le_of_ble_eq_true rfl | (simp only [List.map_cons, List.map_nil, List.sum_cons, List.sum_nil, va_rf_cat]; exact Nat.le_of_ble_eq_true rfl)) rfl ((hG _).1 _ g270 (by decide)).1 ((hG _).1 _ g270 (by decide)).2 (by unfold pic; rw [g270]; rfl) (jcl_at hw rfl) rfl (p_Ref_thrown hw hG hq271) ?_ (fun E h' n' x' e1 => by cases e1.1)
  intro v9 h9 n9 x9 e9
  obtain ⟨e91, e92, e93⟩ := e9
  cases e91
  subst e92
  subst e93
  clear x
  rename Bool => x
  show J _ _ _ _ (_ :: _) _ _ _ _ _ _
  refine J_iload d_Law_law_740 rfl ?_
  refine J_icmp_eq (tgt := 747) d_Law_law_742 (by decide) ?_ ?_
  · intro c278
    rw [if_pos c278] at H
    refine J_iload d_Law_law_747 rfl ?_
    refine J_if_ne (tgt := 764) d_Law_law_749 (by decide) ?_ ?_
    · intro c276
      rw [if_neg c276] at H
      refine J.drop [true, true, true, true, true, false, false, false] rfl ?_
      exact p_Law_law_L764 hw hG hL hxs (kc := kc) (ks := ks) hKc53 H
    · intro c276
      rw [if_pos c276] at H
      refine J_aload_n d_Law_law_752 rfl ?_
      refine J_iconst (v := 0) d_Law_law_753 (by decide) ?_
      obtain ⟨N272, hN272, H⟩ := Option.bind_eq_some_iff.mp H
      obtain ⟨k273, hk273, H⟩ := Option.bind_eq_some_iff.mp H
      refine F_lald k273 hw hG d_Law_law_754 (gA_some hN272) (ix_some hk273) ?_
      refine J_iload d_Law_law_755 rfl ?_
      refine J_i2l d_Law_law_757 ?_
      refine J_lcmp d_Law_law_758 ?_
      refine J_if_eq (tgt := 764) d_Law_law_759 (by decide) ?_ ?_
      · intro c275
        rw [if_pos c275] at H
        refine J.drop [true, true, true, true, true, false, false, false] rfl ?_
        exact p_Law_law_L764 hw hG hL hxs (kc := kc) (ks := ks) hKc53 H
      · intro c275
        rw [if_neg c275] at H
        refine J_iconst (v := 0) d_Law_law_762 (by decide) ?_
        have z274 : (0 : Int32) = 0 ∨ (0 : Int32) = 1 := by
          apply Classical.byContradiction
          intro q9
          rw [if_neg q9] at H
          cases H
        rw [if_pos z274] at H
        have H := Option.some.inj H
        subst H
        exact J_iret (st := []) d_Law_law_763 rfl (narrow_z z274).1 ⟨rfl, rfl, rfl⟩
  · intro c278
    rw [if_neg c278] at H
    refine J_iconst (v := 0) d_Law_law_745 (by decide) ?_
    have z277 : (0 : Int32) = 0 ∨ (0 : Int32) = 1 := by
      apply Classical.byContradiction
      intro q9
      rw [if_neg q9] at H
      cases H
    rw [if_pos z277] at H
    have H := Option.some.inj H
    subst H
    exact J_iret (st := []) d_Law_law_746 rfl (narrow_z z277).1 ⟨rfl, rfl, rfl⟩
def f_Law_law_L698 (Γ : gm_T) (L : Nat) (xs : Nat → Int32) (Kc53 : ph_T → Nat → Nat → Nat → Int32 → Option (Int32 × ph_T)) (φ : ph_T) (x1 : Nat) (x2 : Nat) (x3 : Nat) (x4 : Int32) (y0 : Int32) (y1 : Int32) (y2 : Int32) (y3 : Nat) : Option (Int32 × ph_T) :=
  Option.bind (f_Law_spoil Γ φ (some y3) y2 y1 y0 (some x3)) fun q279 =>
  Option.bind (ix (x4 + (1 : Int32)) L) fun k280 =>
  Option.bind (ix (x4 + (2 : Int32)) L) fun k281 =>
  Option.bind (ix (x4 + (3 : Int32)) L) fun k282 =>
  if (xs k282) = 0 then
    f_Law_law_L731 Γ L xs Kc53 q279.2 x1 x2 x3 x4 q279.1 (0 : Int32) (xs k281) (xs k280) x2
  else
    f_Law_law_L731 Γ L xs Kc53 q279.2 x1 x2 x3 x4 q279.1 (1 : Int32) (xs k281) (xs k280) x2
set_option maxRecDepth 100000 in
set_option maxHeartbeats 8000000 in
theorem p_Law_law_L698 {w : jw_T} (hw : jok w) {Γ : gm_T} {n : Nat} (hG : gd w Γ n) {L : Nat} {xs : Nat → Int32} (hL : jw_L w = L) (hxs : jw_xs w = xs) {Kc53 : ph_T → Nat → Nat → Nat → Int32 → Option (Int32 × ph_T)} {kc ks : Nat} (hKc53 : ∀ {x : Bool} {φ : ph_T} {x1 : Nat} {x2 : Nat} {x3 : Nat} {x4 : Int32} {q : Int32 × ph_T}, Kc53 φ x1 x2 x3 x4 = some q → J w M_Law_law 53 [some (.ref (jw_b w)), some (.ref x1), some (.ref x2), some (.ref x3), some (.int x4), none, none, none] [] (pic Γ φ) n x kc ks (fq Γ n (.inl (some (.int q.1))) q.2)) {x : Bool} {φ : ph_T} {x1 : Nat} {x2 : Nat} {x3 : Nat} {x4 : Int32} {y0 : Int32} {y1 : Int32} {y2 : Int32} {y3 : Nat} {q : Int32 × ph_T} (H : f_Law_law_L698 Γ L xs Kc53 φ x1 x2 x3 x4 y0 y1 y2 y3 = some q) : J w M_Law_law 698 [some (.ref (jw_b w)), some (.ref x1), some (.ref x2), some (.ref x3), some (.int x4), none, none, none] [.int y0, .int y1, .int y2, .ref y3] (pic Γ φ) n x (kc + 1) (ks + 6) (fq Γ n (.inl (some (.int q.1))) q.2) := by
  unfold f_Law_law_L698 at H
  refine J_aload_n d_Law_law_698 rfl ?_
  obtain ⟨q279, hq279, H⟩ := Option.bind_eq_some_iff.mp H
  refine J.kk (Nat.add_comm _ _) (Nat.add_comm _ _) ?_
  refine J_callS (kc := kc) (ks := ks) (kc' := 1) (ks' := 6) (as := [.ref y3, .int y2, .int y1, .int y0, .ref x3]) (st := []) (mf_Law_spoil hw) (ms_Law_138 hw) d_Law_law_699 ln_Law_spoil (by decide) (by first | exact Nat.le_of_ble_eq_true rfl | (simp only [List.map_cons, List.map_nil, List.sum_cons, List.sum_nil, va_rf_cat]; exact Nat.le_of_ble_eq_true rfl)) rfl (p_Law_spoil hw hG hq279) ?_ (fun E h' n' x' e1 => by cases e1.1)
  intro v9 h9 n9 x9 e9
  obtain ⟨e91, e92, e93⟩ := e9
  cases e91
  subst e92
  subst e93
  clear x
  rename Bool => x
  show J _ _ _ _ (_ :: _) _ _ _ _ _ _
  refine J_istore d_Law_law_702 (Nat.le_of_ble_eq_true rfl) ?_
  refine J.ls (ls' := [some (.ref (jw_b w)), some (.ref x1), some (.ref x2), some (.ref x3), some (.int x4), some (.int q279.1), none, none]) rfl ?_
  refine J_aload_n d_Law_law_704 rfl ?_
  refine J_aload_n d_Law_law_705 rfl ?_
  refine J_iload d_Law_law_706 rfl ?_
  refine J_iconst (v := 1) d_Law_law_708 (by decide) ?_
  refine J_iadd d_Law_law_709 ?_
  obtain ⟨k280, hk280, H⟩ := Option.bind_eq_some_iff.mp H
  refine J_sldx hL hxs k280 d_Law_law_710 (ix_some hk280) ?_
  refine J_aload_n d_Law_law_711 rfl ?_
  refine J_iload d_Law_law_712 rfl ?_
  refine J_iconst (v := 2) d_Law_law_714 (by decide) ?_
  refine J_iadd d_Law_law_715 ?_
  obtain ⟨k281, hk281, H⟩ := Option.bind_eq_some_iff.mp H
  refine J_sldx hL hxs k281 d_Law_law_716 (ix_some hk281) ?_
  refine J_aload_n d_Law_law_717 rfl ?_
  refine J_iload d_Law_law_718 rfl ?_
  refine J_iconst (v := 3) d_Law_law_720 (by decide) ?_
  refine J_iadd d_Law_law_721 ?_
  obtain ⟨k282, hk282, H⟩ := Option.bind_eq_some_iff.mp H
  refine J_sldx hL hxs k282 d_Law_law_722 (ix_some hk282) ?_
  refine J_if_eq (tgt := 730) d_Law_law_723 (by decide) ?_ ?_
  · intro c283
    rw [if_pos c283] at H
    refine J_iconst (v := 0) d_Law_law_730 (by decide) ?_
    refine J.drop [true, true, true, true, true, true, false, false] rfl ?_
    exact p_Law_law_L731 hw hG hL hxs (kc := kc) (ks := ks) hKc53 H
  · intro c283
    rw [if_neg c283] at H
    refine J_iconst (v := 1) d_Law_law_726 (by decide) ?_
    refine J_goto (tgt := 731) d_Law_law_727 (by decide) ?_
    refine J.drop [true, true, true, true, true, true, false, false] rfl ?_
    exact p_Law_law_L731 hw hG hL hxs (kc := kc) (ks := ks) hKc53 H
def f_Law_law_L671 (Γ : gm_T) (L : Nat) (xs : Nat → Int32) (Kc53 : ph_T → Nat → Nat → Nat → Int32 → Option (Int32 × ph_T)) (φ : ph_T) (x1 : Nat) (x2 : Nat) (x3 : Nat) (x4 : Int32) : Option (Int32 × ph_T) :=
  Option.bind (ix (x4 + (1 : Int32)) L) fun k284 =>
  Option.bind (ix (x4 + (2 : Int32)) L) fun k285 =>
  Option.bind (ix (x4 + (3 : Int32)) L) fun k286 =>
  if (xs k286) = 0 then
    f_Law_law_L698 Γ L xs Kc53 φ x1 x2 x3 x4 (0 : Int32) (xs k285) (xs k284) x1
  else
    f_Law_law_L698 Γ L xs Kc53 φ x1 x2 x3 x4 (1 : Int32) (xs k285) (xs k284) x1
set_option maxRecDepth 100000 in
set_option maxHeartbeats 8000000 in
theorem p_Law_law_L671 {w : jw_T} (hw : jok w) {Γ : gm_T} {n : Nat} (hG : gd w Γ n) {L : Nat} {xs : Nat → Int32} (hL : jw_L w = L) (hxs : jw_xs w = xs) {Kc53 : ph_T → Nat → Nat → Nat → Int32 → Option (Int32 × ph_T)} {kc ks : Nat} (hKc53 : ∀ {x : Bool} {φ : ph_T} {x1 : Nat} {x2 : Nat} {x3 : Nat} {x4 : Int32} {q : Int32 × ph_T}, Kc53 φ x1 x2 x3 x4 = some q → J w M_Law_law 53 [some (.ref (jw_b w)), some (.ref x1), some (.ref x2), some (.ref x3), some (.int x4), none, none, none] [] (pic Γ φ) n x kc ks (fq Γ n (.inl (some (.int q.1))) q.2)) {x : Bool} {φ : ph_T} {x1 : Nat} {x2 : Nat} {x3 : Nat} {x4 : Int32} {q : Int32 × ph_T} (H : f_Law_law_L671 Γ L xs Kc53 φ x1 x2 x3 x4 = some q) : J w M_Law_law 671 [some (.ref (jw_b w)), some (.ref x1), some (.ref x2), some (.ref x3), some (.int x4), none, none, none] [] (pic Γ φ) n x (kc + 1) (ks + 6) (fq Γ n (.inl (some (.int q.1))) q.2) := by
  unfold f_Law_law_L671 at H
  refine J_aload_n d_Law_law_671 rfl ?_
  refine J_aload_n d_Law_law_672 rfl ?_
  refine J_iload d_Law_law_673 rfl ?_
  refine J_iconst (v := 1) d_Law_law_675 (by decide) ?_
  refine J_iadd d_Law_law_676 ?_
  obtain ⟨k284, hk284, H⟩ := Option.bind_eq_some_iff.mp H
  refine J_sldx hL hxs k284 d_Law_law_677 (ix_some hk284) ?_
  refine J_aload_n d_Law_law_678 rfl ?_
  refine J_iload d_Law_law_679 rfl ?_
  refine J_iconst (v := 2) d_Law_law_681 (by decide) ?_
  refine J_iadd d_Law_law_682 ?_
  obtain ⟨k285, hk285, H⟩ := Option.bind_eq_some_iff.mp H
  refine J_sldx hL hxs k285 d_Law_law_683 (ix_some hk285) ?_
  refine J_aload_n d_Law_law_684 rfl ?_
  refine J_iload d_Law_law_685 rfl ?_
  refine J_iconst (v := 3) d_Law_law_687 (by decide) ?_
  refine J_iadd d_Law_law_688 ?_
  obtain ⟨k286, hk286, H⟩ := Option.bind_eq_some_iff.mp H
  refine J_sldx hL hxs k286 d_Law_law_689 (ix_some hk286) ?_
  refine J_if_eq (tgt := 697) d_Law_law_690 (by decide) ?_ ?_
  · intro c287
    rw [if_pos c287] at H
    refine J_iconst (v := 0) d_Law_law_697 (by decide) ?_
    refine J.drop [true, true, true, true, true, false, false, false] rfl ?_
    exact p_Law_law_L698 hw hG hL hxs (kc := kc) (ks := ks) hKc53 H
  · intro c287
    rw [if_neg c287] at H
    refine J_iconst (v := 1) d_Law_law_693 (by decide) ?_
    refine J_goto (tgt := 698) d_Law_law_694 (by decide) ?_
    refine J.drop [true, true, true, true, true, false, false, false] rfl ?_
    exact p_Law_law_L698 hw hG hL hxs (kc := kc) (ks := ks) hKc53 H
def f_Law_law_L668 (Γ : gm_T) (L : Nat) (xs : Nat → Int32) (Kc53 : ph_T → Nat → Nat → Nat → Int32 → Option (Int32 × ph_T)) (φ : ph_T) (x1 : Nat) (x2 : Nat) (x3 : Nat) (x4 : Int32) : Option (Int32 × ph_T) :=
  f_Law_law_L2021 Γ L xs Kc53 φ x1 x2 x3 x4
set_option maxRecDepth 100000 in
set_option maxHeartbeats 8000000 in
theorem p_Law_law_L668 {w : jw_T} (hw : jok w) {Γ : gm_T} {n : Nat} (hG : gd w Γ n) {L : Nat} {xs : Nat → Int32} (hL : jw_L w = L) (hxs : jw_xs w = xs) {Kc53 : ph_T → Nat → Nat → Nat → Int32 → Option (Int32 × ph_T)} {kc ks : Nat} (hKc53 : ∀ {x : Bool} {φ : ph_T} {x1 : Nat} {x2 : Nat} {x3 : Nat} {x4 : Int32} {q : Int32 × ph_T}, Kc53 φ x1 x2 x3 x4 = some q → J w M_Law_law 53 [some (.ref (jw_b w)), some (.ref x1), some (.ref x2), some (.ref x3), some (.int x4), none, none, none] [] (pic Γ φ) n x kc ks (fq Γ n (.inl (some (.int q.1))) q.2)) {x : Bool} {φ : ph_T} {x1 : Nat} {x2 : Nat} {x3 : Nat} {x4 : Int32} {q : Int32 × ph_T} (H : f_Law_law_L668 Γ L xs Kc53 φ x1 x2 x3 x4 = some q) : J w M_Law_law 668 [some (.ref (jw_b w)), some (.ref x1), some (.ref x2), some (.ref x3), some (.int x4), none, none, none] [] (pic Γ φ) n x kc ks (fq Γ n (.inl (some (.int q.1))) q.2) := by
  unfold f_Law_law_L668 at H
  refine J_goto (tgt := 2021) d_Law_law_668 (by decide) ?_
  refine J.drop [true, true, true, true, true, false, false, false] rfl ?_
  exact p_Law_law_L2021 hw hG hL hxs (kc := kc) (ks := ks) hKc53 H
def f_Law_law_L591 (Γ : gm_T) (L : Nat) (xs : Nat → Int32) (Kc53 : ph_T → Nat → Nat → Nat → Int32 → Option (Int32 × ph_T)) (φ : ph_T) (x1 : Nat) (x2 : Nat) (x3 : Nat) (x4 : Int32) : Option (Int32 × ph_T) :=
  Option.bind (ix (x4 + (1 : Int32)) L) fun k288 =>
  Option.bind (ix (x4 + (2 : Int32)) L) fun k289 =>
  Option.bind (ix (x4 + (3 : Int32)) L) fun k290 =>
  Option.bind (f_Law_way Γ φ (some x1) (xs k288) (xs k289) (xs k290) (some x3)) fun q291 =>
  Option.bind (ix (x4 + (1 : Int32)) L) fun k292 =>
  Option.bind (ix (x4 + (2 : Int32)) L) fun k293 =>
  Option.bind (ix (x4 + (3 : Int32)) L) fun k294 =>
  @ite _ (Γ x2 = .inr 12) _ (
  Option.bind (f_Ref_way Γ q291.2 x2 (xs k292) (xs k293) (xs k294)) fun q296 =>
  Option.bind (f_Ref_thrown Γ q296.2 x2) fun q297 =>
  if q297.1 = q291.1 then
    if q291.1 = 0 then
      Option.bind (gA Γ x3 1) fun N298 =>
      Option.bind (ix (0 : Int32) N298) fun k299 =>
      if (lg_cmp (q297.2.2.1 x3 k299) (Int32.toInt64 q296.1)) = 0 then
        f_Law_law_L668 Γ L xs Kc53 q297.2 x1 x2 x3 x4
      else
        @ite _ ((0 : Int32) = 0 ∨ (0 : Int32) = 1) _ (
        some ((0 : Int32), q297.2)
        ) none
    else
      f_Law_law_L668 Γ L xs Kc53 q297.2 x1 x2 x3 x4
  else
    @ite _ ((0 : Int32) = 0 ∨ (0 : Int32) = 1) _ (
    some ((0 : Int32), q297.2)
    ) none
  ) none
set_option maxRecDepth 100000 in
set_option maxHeartbeats 8000000 in
theorem p_Law_law_L591 {w : jw_T} (hw : jok w) {Γ : gm_T} {n : Nat} (hG : gd w Γ n) {L : Nat} {xs : Nat → Int32} (hL : jw_L w = L) (hxs : jw_xs w = xs) {Kc53 : ph_T → Nat → Nat → Nat → Int32 → Option (Int32 × ph_T)} {kc ks : Nat} (hKc53 : ∀ {x : Bool} {φ : ph_T} {x1 : Nat} {x2 : Nat} {x3 : Nat} {x4 : Int32} {q : Int32 × ph_T}, Kc53 φ x1 x2 x3 x4 = some q → J w M_Law_law 53 [some (.ref (jw_b w)), some (.ref x1), some (.ref x2), some (.ref x3), some (.int x4), none, none, none] [] (pic Γ φ) n x kc ks (fq Γ n (.inl (some (.int q.1))) q.2)) {x : Bool} {φ : ph_T} {x1 : Nat} {x2 : Nat} {x3 : Nat} {x4 : Int32} {q : Int32 × ph_T} (H : f_Law_law_L591 Γ L xs Kc53 φ x1 x2 x3 x4 = some q) : J w M_Law_law 591 [some (.ref (jw_b w)), some (.ref x1), some (.ref x2), some (.ref x3), some (.int x4), none, none, none] [] (pic Γ φ) n x (kc + 1) (ks + 6) (fq Γ n (.inl (some (.int q.1))) q.2) := by
  unfold f_Law_law_L591 at H
  refine J_aload_n d_Law_law_591 rfl ?_
  refine J_aload_n d_Law_law_592 rfl ?_
  refine J_iload d_Law_law_593 rfl ?_
  refine J_iconst (v := 1) d_Law_law_595 (by decide) ?_
  refine J_iadd d_Law_law_596 ?_
  obtain ⟨k288, hk288, H⟩ := Option.bind_eq_some_iff.mp H
  refine J_sldx hL hxs k288 d_Law_law_597 (ix_some hk288) ?_
  refine J_aload_n d_Law_law_598 rfl ?_
  refine J_iload d_Law_law_599 rfl ?_
  refine J_iconst (v := 2) d_Law_law_601 (by decide) ?_
  refine J_iadd d_Law_law_602 ?_
  obtain ⟨k289, hk289, H⟩ := Option.bind_eq_some_iff.mp H
  refine J_sldx hL hxs k289 d_Law_law_603 (ix_some hk289) ?_
  refine J_aload_n d_Law_law_604 rfl ?_
  refine J_iload d_Law_law_605 rfl ?_
  refine J_iconst (v := 3) d_Law_law_607 (by decide) ?_
  refine J_iadd d_Law_law_608 ?_
  obtain ⟨k290, hk290, H⟩ := Option.bind_eq_some_iff.mp H
  refine J_sldx hL hxs k290 d_Law_law_609 (ix_some hk290) ?_
  refine J_aload_n d_Law_law_610 rfl ?_
  obtain ⟨q291, hq291, H⟩ := Option.bind_eq_some_iff.mp H
  refine J.kk (Nat.add_comm _ _) (Nat.add_comm _ _) ?_
  refine J_callS (kc := kc) (ks := ks) (kc' := 1) (ks' := 6) (as := [.ref x1, .int (xs k288), .int (xs k289), .int (xs k290), .ref x3]) (st := []) (mf_Law_way hw) (ms_Law_135 hw) d_Law_law_611 ln_Law_way (by decide) (by first | exact Nat.le_of_ble_eq_true rfl | (simp only [List.map_cons, List.map_nil, List.sum_cons, List.sum_nil, va_rf_cat]; exact Nat.le_of_ble_eq_true rfl)) rfl (p_Law_way hw hG hq291) ?_ (fun E h' n' x' e1 => by cases e1.1)
  intro v9 h9 n9 x9 e9
  obtain ⟨e91, e92, e93⟩ := e9
  cases e91
  subst e92
  subst e93
  clear x
  rename Bool => x
  show J _ _ _ _ (_ :: _) _ _ _ _ _ _
  refine J_istore d_Law_law_614 (Nat.le_of_ble_eq_true rfl) ?_
  refine J.ls (ls' := [some (.ref (jw_b w)), some (.ref x1), some (.ref x2), some (.ref x3), some (.int x4), some (.int q291.1), none, none]) rfl ?_
  refine J_aload_n d_Law_law_616 rfl ?_
  refine J_aload_n d_Law_law_617 rfl ?_
  refine J_iload d_Law_law_618 rfl ?_
  refine J_iconst (v := 1) d_Law_law_620 (by decide) ?_
  refine J_iadd d_Law_law_621 ?_
  obtain ⟨k292, hk292, H⟩ := Option.bind_eq_some_iff.mp H
  refine J_sldx hL hxs k292 d_Law_law_622 (ix_some hk292) ?_
  refine J_aload_n d_Law_law_623 rfl ?_
  refine J_iload d_Law_law_624 rfl ?_
  refine J_iconst (v := 2) d_Law_law_626 (by decide) ?_
  refine J_iadd d_Law_law_627 ?_
  obtain ⟨k293, hk293, H⟩ := Option.bind_eq_some_iff.mp H
  refine J_sldx hL hxs k293 d_Law_law_628 (ix_some hk293) ?_
  refine J_aload_n d_Law_law_629 rfl ?_
  refine J_iload d_Law_law_630 rfl ?_
  refine J_iconst (v := 3) d_Law_law_632 (by decide) ?_
  refine J_iadd d_Law_law_633 ?_
  obtain ⟨k294, hk294, H⟩ := Option.bind_eq_some_iff.mp H
  refine J_sldx hL hxs k294 d_Law_law_634 (ix_some hk294) ?_
  have g295 : Γ x2 = .inr 12 := by
    apply Classical.byContradiction
    intro q9
    rw [if_neg q9] at H
    cases H
  rw [if_pos g295] at H
  obtain ⟨q296, hq296, H⟩ := Option.bind_eq_some_iff.mp H
  refine J.kk (Nat.zero_add _) (Nat.zero_add _) ?_
  refine J_callV (kc := kc) (ks := ks) (kc' := 0) (ks' := 0) (a := x2) (ci := 12) (as := [.int (xs k292), .int (xs k293), .int (xs k294)]) (st := []) (mf_Ref_way hw) (mv_Law_137 hw) d_Law_law_635 ln_Ref_way (by decide) (by first | exact Nat.le_of_ble_eq_true rfl | (simp only [List.map_cons, List.map_nil, List.sum_cons, List.sum_nil, va_rf_cat]; exact Nat.le_of_ble_eq_true rfl)) rfl ((hG _).1 _ g295 (by decide)).1 ((hG _).1 _ g295 (by decide)).2 (by unfold pic; rw [g295]; rfl) (jcl_at hw rfl) rfl (p_Ref_way hw hG hq296) ?_ (fun E h' n' x' e1 => by cases e1.1)
  intro v9 h9 n9 x9 e9
  obtain ⟨e91, e92, e93⟩ := e9
  cases e91
  subst e92
  subst e93
  clear x
  rename Bool => x
  show J _ _ _ _ (_ :: _) _ _ _ _ _ _
  refine J_istore d_Law_law_638 (Nat.le_of_ble_eq_true rfl) ?_
  refine J.ls (ls' := [some (.ref (jw_b w)), some (.ref x1), some (.ref x2), some (.ref x3), some (.int x4), some (.int q291.1), some (.int q296.1), none]) rfl ?_
  refine J_aload_n d_Law_law_640 rfl ?_
  obtain ⟨q297, hq297, H⟩ := Option.bind_eq_some_iff.mp H
  refine J.kk (Nat.zero_add _) (Nat.zero_add _) ?_
  refine J_callV (kc := kc) (ks := ks) (kc' := 0) (ks' := 0) (a := x2) (ci := 12) (as := []) (st := []) (mf_Ref_thrown hw) (mv_Law_118 hw) d_Law_law_641 ln_Ref_thrown (by decide) (by first | exact Nat.le_of_ble_eq_true rfl | (simp only [List.map_cons, List.map_nil, List.sum_cons, List.sum_nil, va_rf_cat]; exact Nat.le_of_ble_eq_true rfl)) rfl ((hG _).1 _ g295 (by decide)).1 ((hG _).1 _ g295 (by decide)).2 (by unfold pic; rw [g295]; rfl) (jcl_at hw rfl) rfl (p_Ref_thrown hw hG hq297) ?_ (fun E h' n' x' e1 => by cases e1.1)
  intro v9 h9 n9 x9 e9
  obtain ⟨e91, e92, e93⟩ := e9
  cases e91
  subst e92
  subst e93
  clear x
  rename Bool => x
  show J _ _ _ _ (_ :: _) _ _ _ _ _ _
  refine J_iload d_Law_law_644 rfl ?_
  refine J_icmp_eq (tgt := 651) d_Law_law_646 (by decide) ?_ ?_
  · intro c304
    rw [if_pos c304] at H
    refine J_iload d_Law_law_651 rfl ?_
    refine J_if_ne (tgt := 668) d_Law_law_653 (by decide) ?_ ?_
    · intro c302
      rw [if_neg c302] at H
      refine J.drop [true, true, true, true, true, false, false, false] rfl ?_
      exact p_Law_law_L668 hw hG hL hxs (kc := kc) (ks := ks) hKc53 H
    · intro c302
      rw [if_pos c302] at H
      refine J_aload_n d_Law_law_656 rfl ?_
      refine J_iconst (v := 0) d_Law_law_657 (by decide) ?_
      obtain ⟨N298, hN298, H⟩ := Option.bind_eq_some_iff.mp H
      obtain ⟨k299, hk299, H⟩ := Option.bind_eq_some_iff.mp H
      refine F_lald k299 hw hG d_Law_law_658 (gA_some hN298) (ix_some hk299) ?_
      refine J_iload d_Law_law_659 rfl ?_
      refine J_i2l d_Law_law_661 ?_
      refine J_lcmp d_Law_law_662 ?_
      refine J_if_eq (tgt := 668) d_Law_law_663 (by decide) ?_ ?_
      · intro c301
        rw [if_pos c301] at H
        refine J.drop [true, true, true, true, true, false, false, false] rfl ?_
        exact p_Law_law_L668 hw hG hL hxs (kc := kc) (ks := ks) hKc53 H
      · intro c301
        rw [if_neg c301] at H
        refine J_iconst (v := 0) d_Law_law_666 (by decide) ?_
        have z300 : (0 : Int32) = 0 ∨ (0 : Int32) = 1 := by
          apply Classical.byContradiction
          intro q9
          rw [if_neg q9] at H
          cases H
        rw [if_pos z300] at H
        have H := Option.some.inj H
        subst H
        exact J_iret (st := []) d_Law_law_667 rfl (narrow_z z300).1 ⟨rfl, rfl, rfl⟩
  · intro c304
    rw [if_neg c304] at H
    refine J_iconst (v := 0) d_Law_law_649 (by decide) ?_
    have z303 : (0 : Int32) = 0 ∨ (0 : Int32) = 1 := by
      apply Classical.byContradiction
      intro q9
      rw [if_neg q9] at H
      cases H
    rw [if_pos z303] at H
    have H := Option.some.inj H
    subst H
    exact J_iret (st := []) d_Law_law_650 rfl (narrow_z z303).1 ⟨rfl, rfl, rfl⟩
def f_Law_law_L588 (Γ : gm_T) (L : Nat) (xs : Nat → Int32) (Kc53 : ph_T → Nat → Nat → Nat → Int32 → Option (Int32 × ph_T)) (φ : ph_T) (x1 : Nat) (x2 : Nat) (x3 : Nat) (x4 : Int32) : Option (Int32 × ph_T) :=
  f_Law_law_L2021 Γ L xs Kc53 φ x1 x2 x3 x4
set_option maxRecDepth 100000 in
set_option maxHeartbeats 8000000 in
theorem p_Law_law_L588 {w : jw_T} (hw : jok w) {Γ : gm_T} {n : Nat} (hG : gd w Γ n) {L : Nat} {xs : Nat → Int32} (hL : jw_L w = L) (hxs : jw_xs w = xs) {Kc53 : ph_T → Nat → Nat → Nat → Int32 → Option (Int32 × ph_T)} {kc ks : Nat} (hKc53 : ∀ {x : Bool} {φ : ph_T} {x1 : Nat} {x2 : Nat} {x3 : Nat} {x4 : Int32} {q : Int32 × ph_T}, Kc53 φ x1 x2 x3 x4 = some q → J w M_Law_law 53 [some (.ref (jw_b w)), some (.ref x1), some (.ref x2), some (.ref x3), some (.int x4), none, none, none] [] (pic Γ φ) n x kc ks (fq Γ n (.inl (some (.int q.1))) q.2)) {x : Bool} {φ : ph_T} {x1 : Nat} {x2 : Nat} {x3 : Nat} {x4 : Int32} {q : Int32 × ph_T} (H : f_Law_law_L588 Γ L xs Kc53 φ x1 x2 x3 x4 = some q) : J w M_Law_law 588 [some (.ref (jw_b w)), some (.ref x1), some (.ref x2), some (.ref x3), some (.int x4), none, none, none] [] (pic Γ φ) n x kc ks (fq Γ n (.inl (some (.int q.1))) q.2) := by
  unfold f_Law_law_L588 at H
  refine J_goto (tgt := 2021) d_Law_law_588 (by decide) ?_
  refine J.drop [true, true, true, true, true, false, false, false] rfl ?_
  exact p_Law_law_L2021 hw hG hL hxs (kc := kc) (ks := ks) hKc53 H
def f_Law_law_L511 (Γ : gm_T) (L : Nat) (xs : Nat → Int32) (Kc53 : ph_T → Nat → Nat → Nat → Int32 → Option (Int32 × ph_T)) (φ : ph_T) (x1 : Nat) (x2 : Nat) (x3 : Nat) (x4 : Int32) : Option (Int32 × ph_T) :=
  Option.bind (ix (x4 + (1 : Int32)) L) fun k305 =>
  Option.bind (ix (x4 + (2 : Int32)) L) fun k306 =>
  Option.bind (ix (x4 + (3 : Int32)) L) fun k307 =>
  Option.bind (f_Law_slave Γ φ (some x1) (xs k305) (xs k306) (xs k307) (some x3)) fun q308 =>
  Option.bind (ix (x4 + (1 : Int32)) L) fun k309 =>
  Option.bind (ix (x4 + (2 : Int32)) L) fun k310 =>
  Option.bind (ix (x4 + (3 : Int32)) L) fun k311 =>
  @ite _ (Γ x2 = .inr 12) _ (
  Option.bind (f_Ref_slave Γ q308.2 x2 (xs k309) (xs k310) (xs k311)) fun q313 =>
  Option.bind (f_Ref_thrown Γ q313.2 x2) fun q314 =>
  if q314.1 = q308.1 then
    if q308.1 = 0 then
      Option.bind (gA Γ x3 1) fun N315 =>
      Option.bind (ix (0 : Int32) N315) fun k316 =>
      if (lg_cmp (q314.2.2.1 x3 k316) (Int32.toInt64 q313.1)) = 0 then
        f_Law_law_L588 Γ L xs Kc53 q314.2 x1 x2 x3 x4
      else
        @ite _ ((0 : Int32) = 0 ∨ (0 : Int32) = 1) _ (
        some ((0 : Int32), q314.2)
        ) none
    else
      f_Law_law_L588 Γ L xs Kc53 q314.2 x1 x2 x3 x4
  else
    @ite _ ((0 : Int32) = 0 ∨ (0 : Int32) = 1) _ (
    some ((0 : Int32), q314.2)
    ) none
  ) none
set_option maxRecDepth 100000 in
set_option maxHeartbeats 8000000 in
theorem p_Law_law_L511 {w : jw_T} (hw : jok w) {Γ : gm_T} {n : Nat} (hG : gd w Γ n) {L : Nat} {xs : Nat → Int32} (hL : jw_L w = L) (hxs : jw_xs w = xs) {Kc53 : ph_T → Nat → Nat → Nat → Int32 → Option (Int32 × ph_T)} {kc ks : Nat} (hKc53 : ∀ {x : Bool} {φ : ph_T} {x1 : Nat} {x2 : Nat} {x3 : Nat} {x4 : Int32} {q : Int32 × ph_T}, Kc53 φ x1 x2 x3 x4 = some q → J w M_Law_law 53 [some (.ref (jw_b w)), some (.ref x1), some (.ref x2), some (.ref x3), some (.int x4), none, none, none] [] (pic Γ φ) n x kc ks (fq Γ n (.inl (some (.int q.1))) q.2)) {x : Bool} {φ : ph_T} {x1 : Nat} {x2 : Nat} {x3 : Nat} {x4 : Int32} {q : Int32 × ph_T} (H : f_Law_law_L511 Γ L xs Kc53 φ x1 x2 x3 x4 = some q) : J w M_Law_law 511 [some (.ref (jw_b w)), some (.ref x1), some (.ref x2), some (.ref x3), some (.int x4), none, none, none] [] (pic Γ φ) n x (kc + 1) (ks + 6) (fq Γ n (.inl (some (.int q.1))) q.2) := by
  unfold f_Law_law_L511 at H
  refine J_aload_n d_Law_law_511 rfl ?_
  refine J_aload_n d_Law_law_512 rfl ?_
  refine J_iload d_Law_law_513 rfl ?_
  refine J_iconst (v := 1) d_Law_law_515 (by decide) ?_
  refine J_iadd d_Law_law_516 ?_
  obtain ⟨k305, hk305, H⟩ := Option.bind_eq_some_iff.mp H
  refine J_sldx hL hxs k305 d_Law_law_517 (ix_some hk305) ?_
  refine J_aload_n d_Law_law_518 rfl ?_
  refine J_iload d_Law_law_519 rfl ?_
  refine J_iconst (v := 2) d_Law_law_521 (by decide) ?_
  refine J_iadd d_Law_law_522 ?_
  obtain ⟨k306, hk306, H⟩ := Option.bind_eq_some_iff.mp H
  refine J_sldx hL hxs k306 d_Law_law_523 (ix_some hk306) ?_
  refine J_aload_n d_Law_law_524 rfl ?_
  refine J_iload d_Law_law_525 rfl ?_
  refine J_iconst (v := 3) d_Law_law_527 (by decide) ?_
  refine J_iadd d_Law_law_528 ?_
  obtain ⟨k307, hk307, H⟩ := Option.bind_eq_some_iff.mp H
  refine J_sldx hL hxs k307 d_Law_law_529 (ix_some hk307) ?_
  refine J_aload_n d_Law_law_530 rfl ?_
  obtain ⟨q308, hq308, H⟩ := Option.bind_eq_some_iff.mp H
  refine J.kk (Nat.add_comm _ _) (Nat.add_comm _ _) ?_
  refine J_callS (kc := kc) (ks := ks) (kc' := 1) (ks' := 6) (as := [.ref x1, .int (xs k305), .int (xs k306), .int (xs k307), .ref x3]) (st := []) (mf_Law_slave hw) (ms_Law_132 hw) d_Law_law_531 ln_Law_slave (by decide) (by first | exact Nat.le_of_ble_eq_true rfl | (simp only [List.map_cons, List.map_nil, List.sum_cons, List.sum_nil, va_rf_cat]; exact Nat.le_of_ble_eq_true rfl)) rfl (p_Law_slave hw hG hq308) ?_ (fun E h' n' x' e1 => by cases e1.1)
  intro v9 h9 n9 x9 e9
  obtain ⟨e91, e92, e93⟩ := e9
  cases e91
  subst e92
  subst e93
  clear x
  rename Bool => x
  show J _ _ _ _ (_ :: _) _ _ _ _ _ _
  refine J_istore d_Law_law_534 (Nat.le_of_ble_eq_true rfl) ?_
  refine J.ls (ls' := [some (.ref (jw_b w)), some (.ref x1), some (.ref x2), some (.ref x3), some (.int x4), some (.int q308.1), none, none]) rfl ?_
  refine J_aload_n d_Law_law_536 rfl ?_
  refine J_aload_n d_Law_law_537 rfl ?_
  refine J_iload d_Law_law_538 rfl ?_
  refine J_iconst (v := 1) d_Law_law_540 (by decide) ?_
  refine J_iadd d_Law_law_541 ?_
  obtain ⟨k309, hk309, H⟩ := Option.bind_eq_some_iff.mp H
  refine J_sldx hL hxs k309 d_Law_law_542 (ix_some hk309) ?_
  refine J_aload_n d_Law_law_543 rfl ?_
  refine J_iload d_Law_law_544 rfl ?_
  refine J_iconst (v := 2) d_Law_law_546 (by decide) ?_
  refine J_iadd d_Law_law_547 ?_
  obtain ⟨k310, hk310, H⟩ := Option.bind_eq_some_iff.mp H
  refine J_sldx hL hxs k310 d_Law_law_548 (ix_some hk310) ?_
  refine J_aload_n d_Law_law_549 rfl ?_
  refine J_iload d_Law_law_550 rfl ?_
  refine J_iconst (v := 3) d_Law_law_552 (by decide) ?_
  refine J_iadd d_Law_law_553 ?_
  obtain ⟨k311, hk311, H⟩ := Option.bind_eq_some_iff.mp H
  refine J_sldx hL hxs k311 d_Law_law_554 (ix_some hk311) ?_
  have g312 : Γ x2 = .inr 12 := by
    apply Classical.byContradiction
    intro q9
    rw [if_neg q9] at H
    cases H
  rw [if_pos g312] at H
  obtain ⟨q313, hq313, H⟩ := Option.bind_eq_some_iff.mp H
  refine J.kk (Nat.zero_add _) (Nat.zero_add _) ?_
  refine J_callV (kc := kc) (ks := ks) (kc' := 0) (ks' := 0) (a := x2) (ci := 12) (as := [.int (xs k309), .int (xs k310), .int (xs k311)]) (st := []) (mf_Ref_slave hw) (mv_Law_134 hw) d_Law_law_555 ln_Ref_slave (by decide) (by first | exact Nat.le_of_ble_eq_true rfl | (simp only [List.map_cons, List.map_nil, List.sum_cons, List.sum_nil, va_rf_cat]; exact Nat.le_of_ble_eq_true rfl)) rfl ((hG _).1 _ g312 (by decide)).1 ((hG _).1 _ g312 (by decide)).2 (by unfold pic; rw [g312]; rfl) (jcl_at hw rfl) rfl (p_Ref_slave hw hG hq313) ?_ (fun E h' n' x' e1 => by cases e1.1)
  intro v9 h9 n9 x9 e9
  obtain ⟨e91, e92, e93⟩ := e9
  cases e91
  subst e92
  subst e93
  clear x
  rename Bool => x
  show J _ _ _ _ (_ :: _) _ _ _ _ _ _
  refine J_istore d_Law_law_558 (Nat.le_of_ble_eq_true rfl) ?_
  refine J.ls (ls' := [some (.ref (jw_b w)), some (.ref x1), some (.ref x2), some (.ref x3), some (.int x4), some (.int q308.1), some (.int q313.1), none]) rfl ?_
  refine J_aload_n d_Law_law_560 rfl ?_
  obtain ⟨q314, hq314, H⟩ := Option.bind_eq_some_iff.mp H
  refine J.kk (Nat.zero_add _) (Nat.zero_add _) ?_
  refine J_callV (kc := kc) (ks := ks) (kc' := 0) (ks' := 0) (a := x2) (ci := 12) (as := []) (st := []) (mf_Ref_thrown hw) (mv_Law_118 hw) d_Law_law_561 ln_Ref_thrown (by decide) (by first | exact Nat.le_of_ble_eq_true rfl | (simp only [List.map_cons, List.map_nil, List.sum_cons, List.sum_nil, va_rf_cat]; exact Nat.le_of_ble_eq_true rfl)) rfl ((hG _).1 _ g312 (by decide)).1 ((hG _).1 _ g312 (by decide)).2 (by unfold pic; rw [g312]; rfl) (jcl_at hw rfl) rfl (p_Ref_thrown hw hG hq314) ?_ (fun E h' n' x' e1 => by cases e1.1)
  intro v9 h9 n9 x9 e9
  obtain ⟨e91, e92, e93⟩ := e9
  cases e91
  subst e92
  subst e93
  clear x
  rename Bool => x
  show J _ _ _ _ (_ :: _) _ _ _ _ _ _
  refine J_iload d_Law_law_564 rfl ?_
  refine J_icmp_eq (tgt := 571) d_Law_law_566 (by decide) ?_ ?_
  · intro c321
    rw [if_pos c321] at H
    refine J_iload d_Law_law_571 rfl ?_
    refine J_if_ne (tgt := 588) d_Law_law_573 (by decide) ?_ ?_
    · intro c319
      rw [if_neg c319] at H
      refine J.drop [true, true, true, true, true, false, false, false] rfl ?_
      exact p_Law_law_L588 hw hG hL hxs (kc := kc) (ks := ks) hKc53 H
    · intro c319
      rw [if_pos c319] at H
      refine J_aload_n d_Law_law_576 rfl ?_
      refine J_iconst (v := 0) d_Law_law_577 (by decide) ?_
      obtain ⟨N315, hN315, H⟩ := Option.bind_eq_some_iff.mp H
      obtain ⟨k316, hk316, H⟩ := Option.bind_eq_some_iff.mp H
      refine F_lald k316 hw hG d_Law_law_578 (gA_some hN315) (ix_some hk316) ?_
      refine J_iload d_Law_law_579 rfl ?_
      refine J_i2l d_Law_law_581 ?_
      refine J_lcmp d_Law_law_582 ?_
      refine J_if_eq (tgt := 588) d_Law_law_583 (by decide) ?_ ?_
      · intro c318
        rw [if_pos c318] at H
        refine J.drop [true, true, true, true, true, false, false, false] rfl ?_
        exact p_Law_law_L588 hw hG hL hxs (kc := kc) (ks := ks) hKc53 H
      · intro c318
        rw [if_neg c318] at H
        refine J_iconst (v := 0) d_Law_law_586 (by decide) ?_
        have z317 : (0 : Int32) = 0 ∨ (0 : Int32) = 1 := by
          apply Classical.byContradiction
          intro q9
          rw [if_neg q9] at H
          cases H
        rw [if_pos z317] at H
        have H := Option.some.inj H
        subst H
        exact J_iret (st := []) d_Law_law_587 rfl (narrow_z z317).1 ⟨rfl, rfl, rfl⟩
  · intro c321
    rw [if_neg c321] at H
    refine J_iconst (v := 0) d_Law_law_569 (by decide) ?_
    have z320 : (0 : Int32) = 0 ∨ (0 : Int32) = 1 := by
      apply Classical.byContradiction
      intro q9
      rw [if_neg q9] at H
      cases H
    rw [if_pos z320] at H
    have H := Option.some.inj H
    subst H
    exact J_iret (st := []) d_Law_law_570 rfl (narrow_z z320).1 ⟨rfl, rfl, rfl⟩
def f_Law_law_L508 (Γ : gm_T) (L : Nat) (xs : Nat → Int32) (Kc53 : ph_T → Nat → Nat → Nat → Int32 → Option (Int32 × ph_T)) (φ : ph_T) (x1 : Nat) (x2 : Nat) (x3 : Nat) (x4 : Int32) : Option (Int32 × ph_T) :=
  f_Law_law_L2021 Γ L xs Kc53 φ x1 x2 x3 x4
set_option maxRecDepth 100000 in
set_option maxHeartbeats 8000000 in
theorem p_Law_law_L508 {w : jw_T} (hw : jok w) {Γ : gm_T} {n : Nat} (hG : gd w Γ n) {L : Nat} {xs : Nat → Int32} (hL : jw_L w = L) (hxs : jw_xs w = xs) {Kc53 : ph_T → Nat → Nat → Nat → Int32 → Option (Int32 × ph_T)} {kc ks : Nat} (hKc53 : ∀ {x : Bool} {φ : ph_T} {x1 : Nat} {x2 : Nat} {x3 : Nat} {x4 : Int32} {q : Int32 × ph_T}, Kc53 φ x1 x2 x3 x4 = some q → J w M_Law_law 53 [some (.ref (jw_b w)), some (.ref x1), some (.ref x2), some (.ref x3), some (.int x4), none, none, none] [] (pic Γ φ) n x kc ks (fq Γ n (.inl (some (.int q.1))) q.2)) {x : Bool} {φ : ph_T} {x1 : Nat} {x2 : Nat} {x3 : Nat} {x4 : Int32} {q : Int32 × ph_T} (H : f_Law_law_L508 Γ L xs Kc53 φ x1 x2 x3 x4 = some q) : J w M_Law_law 508 [some (.ref (jw_b w)), some (.ref x1), some (.ref x2), some (.ref x3), some (.int x4), none, none, none] [] (pic Γ φ) n x kc ks (fq Γ n (.inl (some (.int q.1))) q.2) := by
  unfold f_Law_law_L508 at H
  refine J_goto (tgt := 2021) d_Law_law_508 (by decide) ?_
  refine J.drop [true, true, true, true, true, false, false, false] rfl ?_
  exact p_Law_law_L2021 hw hG hL hxs (kc := kc) (ks := ks) hKc53 H
def f_Law_law_L502 (Γ : gm_T) (L : Nat) (xs : Nat → Int32) (Kc53 : ph_T → Nat → Nat → Nat → Int32 → Option (Int32 × ph_T)) (φ : ph_T) (x1 : Nat) (x2 : Nat) (x3 : Nat) (x4 : Int32) (y0 : Int64) (y1 : Int64) : Option (Int32 × ph_T) :=
  if (lg_cmp y1 y0) = 0 then
    f_Law_law_L508 Γ L xs Kc53 φ x1 x2 x3 x4
  else
    @ite _ ((0 : Int32) = 0 ∨ (0 : Int32) = 1) _ (
    some ((0 : Int32), φ)
    ) none
set_option maxRecDepth 100000 in
set_option maxHeartbeats 8000000 in
theorem p_Law_law_L502 {w : jw_T} (hw : jok w) {Γ : gm_T} {n : Nat} (hG : gd w Γ n) {L : Nat} {xs : Nat → Int32} (hL : jw_L w = L) (hxs : jw_xs w = xs) {Kc53 : ph_T → Nat → Nat → Nat → Int32 → Option (Int32 × ph_T)} {kc ks : Nat} (hKc53 : ∀ {x : Bool} {φ : ph_T} {x1 : Nat} {x2 : Nat} {x3 : Nat} {x4 : Int32} {q : Int32 × ph_T}, Kc53 φ x1 x2 x3 x4 = some q → J w M_Law_law 53 [some (.ref (jw_b w)), some (.ref x1), some (.ref x2), some (.ref x3), some (.int x4), none, none, none] [] (pic Γ φ) n x kc ks (fq Γ n (.inl (some (.int q.1))) q.2)) {x : Bool} {φ : ph_T} {x1 : Nat} {x2 : Nat} {x3 : Nat} {x4 : Int32} {y0 : Int64} {y1 : Int64} {q : Int32 × ph_T} (H : f_Law_law_L502 Γ L xs Kc53 φ x1 x2 x3 x4 y0 y1 = some q) : J w M_Law_law 502 [some (.ref (jw_b w)), some (.ref x1), some (.ref x2), some (.ref x3), some (.int x4), none, none, none] [.long y0, .long y1] (pic Γ φ) n x kc ks (fq Γ n (.inl (some (.int q.1))) q.2) := by
  unfold f_Law_law_L502 at H
  refine J_lcmp d_Law_law_502 ?_
  refine J_if_eq (tgt := 508) d_Law_law_503 (by decide) ?_ ?_
  · intro c323
    rw [if_pos c323] at H
    refine J.drop [true, true, true, true, true, false, false, false] rfl ?_
    exact p_Law_law_L508 hw hG hL hxs (kc := kc) (ks := ks) hKc53 H
  · intro c323
    rw [if_neg c323] at H
    refine J_iconst (v := 0) d_Law_law_506 (by decide) ?_
    have z322 : (0 : Int32) = 0 ∨ (0 : Int32) = 1 := by
      apply Classical.byContradiction
      intro q9
      rw [if_neg q9] at H
      cases H
    rw [if_pos z322] at H
    have H := Option.some.inj H
    subst H
    exact J_iret (st := []) d_Law_law_507 rfl (narrow_z z322).1 ⟨rfl, rfl, rfl⟩
def f_Law_law_L468 (Γ : gm_T) (L : Nat) (xs : Nat → Int32) (Kc53 : ph_T → Nat → Nat → Nat → Int32 → Option (Int32 × ph_T)) (φ : ph_T) (x1 : Nat) (x2 : Nat) (x3 : Nat) (x4 : Int32) (x5 : Int32) (y0 : Int32) (y1 : Int32) (y2 : Nat) : Option (Int32 × ph_T) :=
  @ite _ (Γ y2 = .inr 12) _ (
  Option.bind (f_Ref_early Γ φ y2 y1 y0) fun q325 =>
  @ite _ (Γ x2 = .inr 12) _ (
  Option.bind (f_Ref_thrown Γ q325.2 x2) fun q327 =>
  if q327.1 = x5 then
    if x5 = 0 then
      Option.bind (gA Γ x3 1) fun N328 =>
      Option.bind (ix (0 : Int32) N328) fun k329 =>
      if q325.1 = 0 then
        f_Law_law_L502 Γ L xs Kc53 q327.2 x1 x2 x3 x4 (0 : Int64) (q327.2.2.1 x3 k329)
      else
        f_Law_law_L502 Γ L xs Kc53 q327.2 x1 x2 x3 x4 (1 : Int64) (q327.2.2.1 x3 k329)
    else
      f_Law_law_L508 Γ L xs Kc53 q327.2 x1 x2 x3 x4
  else
    @ite _ ((0 : Int32) = 0 ∨ (0 : Int32) = 1) _ (
    some ((0 : Int32), q327.2)
    ) none
  ) none
  ) none
set_option maxRecDepth 100000 in
set_option maxHeartbeats 8000000 in
theorem p_Law_law_L468 {w : jw_T} (hw : jok w) {Γ : gm_T} {n : Nat} (hG : gd w Γ n) {L : Nat} {xs : Nat → Int32} (hL : jw_L w = L) (hxs : jw_xs w = xs) {Kc53 : ph_T → Nat → Nat → Nat → Int32 → Option (Int32 × ph_T)} {kc ks : Nat} (hKc53 : ∀ {x : Bool} {φ : ph_T} {x1 : Nat} {x2 : Nat} {x3 : Nat} {x4 : Int32} {q : Int32 × ph_T}, Kc53 φ x1 x2 x3 x4 = some q → J w M_Law_law 53 [some (.ref (jw_b w)), some (.ref x1), some (.ref x2), some (.ref x3), some (.int x4), none, none, none] [] (pic Γ φ) n x kc ks (fq Γ n (.inl (some (.int q.1))) q.2)) {x : Bool} {φ : ph_T} {x1 : Nat} {x2 : Nat} {x3 : Nat} {x4 : Int32} {x5 : Int32} {y0 : Int32} {y1 : Int32} {y2 : Nat} {q : Int32 × ph_T} (H : f_Law_law_L468 Γ L xs Kc53 φ x1 x2 x3 x4 x5 y0 y1 y2 = some q) : J w M_Law_law 468 [some (.ref (jw_b w)), some (.ref x1), some (.ref x2), some (.ref x3), some (.int x4), some (.int x5), none, none] [.int y0, .int y1, .ref y2] (pic Γ φ) n x kc ks (fq Γ n (.inl (some (.int q.1))) q.2) := by
  unfold f_Law_law_L468 at H
  have g324 : Γ y2 = .inr 12 := by
    apply Classical.byContradiction
    intro q9
    rw [if_neg q9] at H
    cases H
  rw [if_pos g324] at H
  obtain ⟨q325, hq325, H⟩ := Option.bind_eq_some_iff.mp H
  refine J.kk (Nat.zero_add _) (Nat.zero_add _) ?_
  refine J_callV (kc := kc) (ks := ks) (kc' := 0) (ks' := 0) (a := y2) (ci := 12) (as := [.int y1, .int y0]) (st := []) (mf_Ref_early hw) (mv_Law_131 hw) d_Law_law_468 ln_Ref_early (by decide) (by first | exact Nat.le_of_ble_eq_true rfl | (simp only [List.map_cons, List.map_nil, List.sum_cons, List.sum_nil, va_rf_cat]; exact Nat.le_of_ble_eq_true rfl)) rfl ((hG _).1 _ g324 (by decide)).1 ((hG _).1 _ g324 (by decide)).2 (by unfold pic; rw [g324]; rfl) (jcl_at hw rfl) rfl (p_Ref_early hw hG hq325) ?_ (fun E h' n' x' e1 => by cases e1.1)
  intro v9 h9 n9 x9 e9
  obtain ⟨e91, e92, e93⟩ := e9
  cases e91
  subst e92
  subst e93
  clear x
  rename Bool => x
  show J _ _ _ _ (_ :: _) _ _ _ _ _ _
  refine J_istore d_Law_law_471 (Nat.le_of_ble_eq_true rfl) ?_
  refine J.ls (ls' := [some (.ref (jw_b w)), some (.ref x1), some (.ref x2), some (.ref x3), some (.int x4), some (.int x5), some (.int q325.1), none]) rfl ?_
  refine J_aload_n d_Law_law_473 rfl ?_
  have g326 : Γ x2 = .inr 12 := by
    apply Classical.byContradiction
    intro q9
    rw [if_neg q9] at H
    cases H
  rw [if_pos g326] at H
  obtain ⟨q327, hq327, H⟩ := Option.bind_eq_some_iff.mp H
  refine J.kk (Nat.zero_add _) (Nat.zero_add _) ?_
  refine J_callV (kc := kc) (ks := ks) (kc' := 0) (ks' := 0) (a := x2) (ci := 12) (as := []) (st := []) (mf_Ref_thrown hw) (mv_Law_118 hw) d_Law_law_474 ln_Ref_thrown (by decide) (by first | exact Nat.le_of_ble_eq_true rfl | (simp only [List.map_cons, List.map_nil, List.sum_cons, List.sum_nil, va_rf_cat]; exact Nat.le_of_ble_eq_true rfl)) rfl ((hG _).1 _ g326 (by decide)).1 ((hG _).1 _ g326 (by decide)).2 (by unfold pic; rw [g326]; rfl) (jcl_at hw rfl) rfl (p_Ref_thrown hw hG hq327) ?_ (fun E h' n' x' e1 => by cases e1.1)
  intro v9 h9 n9 x9 e9
  obtain ⟨e91, e92, e93⟩ := e9
  cases e91
  subst e92
  subst e93
  clear x
  rename Bool => x
  show J _ _ _ _ (_ :: _) _ _ _ _ _ _
  refine J_iload d_Law_law_477 rfl ?_
  refine J_icmp_eq (tgt := 484) d_Law_law_479 (by decide) ?_ ?_
  · intro c333
    rw [if_pos c333] at H
    refine J_iload d_Law_law_484 rfl ?_
    refine J_if_ne (tgt := 508) d_Law_law_486 (by decide) ?_ ?_
    · intro c331
      rw [if_neg c331] at H
      refine J.drop [true, true, true, true, true, false, false, false] rfl ?_
      exact p_Law_law_L508 hw hG hL hxs (kc := kc) (ks := ks) hKc53 H
    · intro c331
      rw [if_pos c331] at H
      refine J_aload_n d_Law_law_489 rfl ?_
      refine J_iconst (v := 0) d_Law_law_490 (by decide) ?_
      obtain ⟨N328, hN328, H⟩ := Option.bind_eq_some_iff.mp H
      obtain ⟨k329, hk329, H⟩ := Option.bind_eq_some_iff.mp H
      refine F_lald k329 hw hG d_Law_law_491 (gA_some hN328) (ix_some hk329) ?_
      refine J_iload d_Law_law_492 rfl ?_
      refine J_if_eq (tgt := 501) d_Law_law_494 (by decide) ?_ ?_
      · intro c330
        rw [if_pos c330] at H
        refine J_lconst (v := 0) d_Law_law_501 (by decide) ?_
        refine J.drop [true, true, true, true, true, false, false, false] rfl ?_
        exact p_Law_law_L502 hw hG hL hxs (kc := kc) (ks := ks) hKc53 H
      · intro c330
        rw [if_neg c330] at H
        refine J_lconst (v := 1) d_Law_law_497 (by decide) ?_
        refine J_goto (tgt := 502) d_Law_law_498 (by decide) ?_
        refine J.drop [true, true, true, true, true, false, false, false] rfl ?_
        exact p_Law_law_L502 hw hG hL hxs (kc := kc) (ks := ks) hKc53 H
  · intro c333
    rw [if_neg c333] at H
    refine J_iconst (v := 0) d_Law_law_482 (by decide) ?_
    have z332 : (0 : Int32) = 0 ∨ (0 : Int32) = 1 := by
      apply Classical.byContradiction
      intro q9
      rw [if_neg q9] at H
      cases H
    rw [if_pos z332] at H
    have H := Option.some.inj H
    subst H
    exact J_iret (st := []) d_Law_law_483 rfl (narrow_z z332).1 ⟨rfl, rfl, rfl⟩
def f_Law_law_L441 (Γ : gm_T) (L : Nat) (xs : Nat → Int32) (Kc53 : ph_T → Nat → Nat → Nat → Int32 → Option (Int32 × ph_T)) (φ : ph_T) (x1 : Nat) (x2 : Nat) (x3 : Nat) (x4 : Int32) (y0 : Int32) (y1 : Int32) (y2 : Nat) : Option (Int32 × ph_T) :=
  Option.bind (f_Law_early Γ φ (some y2) y1 y0 (some x3)) fun q334 =>
  Option.bind (ix (x4 + (1 : Int32)) L) fun k335 =>
  Option.bind (ix (x4 + (2 : Int32)) L) fun k336 =>
  if (xs k336) = 0 then
    f_Law_law_L468 Γ L xs Kc53 q334.2 x1 x2 x3 x4 q334.1 (0 : Int32) (xs k335) x2
  else
    f_Law_law_L468 Γ L xs Kc53 q334.2 x1 x2 x3 x4 q334.1 (1 : Int32) (xs k335) x2
set_option maxRecDepth 100000 in
set_option maxHeartbeats 8000000 in
theorem p_Law_law_L441 {w : jw_T} (hw : jok w) {Γ : gm_T} {n : Nat} (hG : gd w Γ n) {L : Nat} {xs : Nat → Int32} (hL : jw_L w = L) (hxs : jw_xs w = xs) {Kc53 : ph_T → Nat → Nat → Nat → Int32 → Option (Int32 × ph_T)} {kc ks : Nat} (hKc53 : ∀ {x : Bool} {φ : ph_T} {x1 : Nat} {x2 : Nat} {x3 : Nat} {x4 : Int32} {q : Int32 × ph_T}, Kc53 φ x1 x2 x3 x4 = some q → J w M_Law_law 53 [some (.ref (jw_b w)), some (.ref x1), some (.ref x2), some (.ref x3), some (.int x4), none, none, none] [] (pic Γ φ) n x kc ks (fq Γ n (.inl (some (.int q.1))) q.2)) {x : Bool} {φ : ph_T} {x1 : Nat} {x2 : Nat} {x3 : Nat} {x4 : Int32} {y0 : Int32} {y1 : Int32} {y2 : Nat} {q : Int32 × ph_T} (H : f_Law_law_L441 Γ L xs Kc53 φ x1 x2 x3 x4 y0 y1 y2 = some q) : J w M_Law_law 441 [some (.ref (jw_b w)), some (.ref x1), some (.ref x2), some (.ref x3), some (.int x4), none, none, none] [.int y0, .int y1, .ref y2] (pic Γ φ) n x (kc + 1) (ks + 6) (fq Γ n (.inl (some (.int q.1))) q.2) := by
  unfold f_Law_law_L441 at H
  refine J_aload_n d_Law_law_441 rfl ?_
  obtain ⟨q334, hq334, H⟩ := Option.bind_eq_some_iff.mp H
  refine J.kk (Nat.add_comm _ _) (Nat.add_comm _ _) ?_
  refine J_callS (kc := kc) (ks := ks) (kc' := 1) (ks' := 6) (as := [.ref y2, .int y1, .int y0, .ref x3]) (st := []) (mf_Law_early hw) (ms_Law_129 hw) d_Law_law_442 ln_Law_early (by decide) (by first | exact Nat.le_of_ble_eq_true rfl | (simp only [List.map_cons, List.map_nil, List.sum_cons, List.sum_nil, va_rf_cat]; exact Nat.le_of_ble_eq_true rfl)) rfl (p_Law_early hw hG hq334) ?_ (fun E h' n' x' e1 => by cases e1.1)
  intro v9 h9 n9 x9 e9
  obtain ⟨e91, e92, e93⟩ := e9
  cases e91
  subst e92
  subst e93
  clear x
  rename Bool => x
  show J _ _ _ _ (_ :: _) _ _ _ _ _ _
  refine J_istore d_Law_law_445 (Nat.le_of_ble_eq_true rfl) ?_
  refine J.ls (ls' := [some (.ref (jw_b w)), some (.ref x1), some (.ref x2), some (.ref x3), some (.int x4), some (.int q334.1), none, none]) rfl ?_
  refine J_aload_n d_Law_law_447 rfl ?_
  refine J_aload_n d_Law_law_448 rfl ?_
  refine J_iload d_Law_law_449 rfl ?_
  refine J_iconst (v := 1) d_Law_law_451 (by decide) ?_
  refine J_iadd d_Law_law_452 ?_
  obtain ⟨k335, hk335, H⟩ := Option.bind_eq_some_iff.mp H
  refine J_sldx hL hxs k335 d_Law_law_453 (ix_some hk335) ?_
  refine J_aload_n d_Law_law_454 rfl ?_
  refine J_iload d_Law_law_455 rfl ?_
  refine J_iconst (v := 2) d_Law_law_457 (by decide) ?_
  refine J_iadd d_Law_law_458 ?_
  obtain ⟨k336, hk336, H⟩ := Option.bind_eq_some_iff.mp H
  refine J_sldx hL hxs k336 d_Law_law_459 (ix_some hk336) ?_
  refine J_if_eq (tgt := 467) d_Law_law_460 (by decide) ?_ ?_
  · intro c337
    rw [if_pos c337] at H
    refine J_iconst (v := 0) d_Law_law_467 (by decide) ?_
    refine J.drop [true, true, true, true, true, true, false, false] rfl ?_
    exact p_Law_law_L468 hw hG hL hxs (kc := kc) (ks := ks) hKc53 H
  · intro c337
    rw [if_neg c337] at H
    refine J_iconst (v := 1) d_Law_law_463 (by decide) ?_
    refine J_goto (tgt := 468) d_Law_law_464 (by decide) ?_
    refine J.drop [true, true, true, true, true, true, false, false] rfl ?_
    exact p_Law_law_L468 hw hG hL hxs (kc := kc) (ks := ks) hKc53 H
def f_Law_law_L420 (Γ : gm_T) (L : Nat) (xs : Nat → Int32) (Kc53 : ph_T → Nat → Nat → Nat → Int32 → Option (Int32 × ph_T)) (φ : ph_T) (x1 : Nat) (x2 : Nat) (x3 : Nat) (x4 : Int32) : Option (Int32 × ph_T) :=
  Option.bind (ix (x4 + (1 : Int32)) L) fun k338 =>
  Option.bind (ix (x4 + (2 : Int32)) L) fun k339 =>
  if (xs k339) = 0 then
    f_Law_law_L441 Γ L xs Kc53 φ x1 x2 x3 x4 (0 : Int32) (xs k338) x1
  else
    f_Law_law_L441 Γ L xs Kc53 φ x1 x2 x3 x4 (1 : Int32) (xs k338) x1
set_option maxRecDepth 100000 in
set_option maxHeartbeats 8000000 in
theorem p_Law_law_L420 {w : jw_T} (hw : jok w) {Γ : gm_T} {n : Nat} (hG : gd w Γ n) {L : Nat} {xs : Nat → Int32} (hL : jw_L w = L) (hxs : jw_xs w = xs) {Kc53 : ph_T → Nat → Nat → Nat → Int32 → Option (Int32 × ph_T)} {kc ks : Nat} (hKc53 : ∀ {x : Bool} {φ : ph_T} {x1 : Nat} {x2 : Nat} {x3 : Nat} {x4 : Int32} {q : Int32 × ph_T}, Kc53 φ x1 x2 x3 x4 = some q → J w M_Law_law 53 [some (.ref (jw_b w)), some (.ref x1), some (.ref x2), some (.ref x3), some (.int x4), none, none, none] [] (pic Γ φ) n x kc ks (fq Γ n (.inl (some (.int q.1))) q.2)) {x : Bool} {φ : ph_T} {x1 : Nat} {x2 : Nat} {x3 : Nat} {x4 : Int32} {q : Int32 × ph_T} (H : f_Law_law_L420 Γ L xs Kc53 φ x1 x2 x3 x4 = some q) : J w M_Law_law 420 [some (.ref (jw_b w)), some (.ref x1), some (.ref x2), some (.ref x3), some (.int x4), none, none, none] [] (pic Γ φ) n x (kc + 1) (ks + 6) (fq Γ n (.inl (some (.int q.1))) q.2) := by
  unfold f_Law_law_L420 at H
  refine J_aload_n d_Law_law_420 rfl ?_
  refine J_aload_n d_Law_law_421 rfl ?_
  refine J_iload d_Law_law_422 rfl ?_
  refine J_iconst (v := 1) d_Law_law_424 (by decide) ?_
  refine J_iadd d_Law_law_425 ?_
  obtain ⟨k338, hk338, H⟩ := Option.bind_eq_some_iff.mp H
  refine J_sldx hL hxs k338 d_Law_law_426 (ix_some hk338) ?_
  refine J_aload_n d_Law_law_427 rfl ?_
  refine J_iload d_Law_law_428 rfl ?_
  refine J_iconst (v := 2) d_Law_law_430 (by decide) ?_
  refine J_iadd d_Law_law_431 ?_
  obtain ⟨k339, hk339, H⟩ := Option.bind_eq_some_iff.mp H
  refine J_sldx hL hxs k339 d_Law_law_432 (ix_some hk339) ?_
  refine J_if_eq (tgt := 440) d_Law_law_433 (by decide) ?_ ?_
  · intro c340
    rw [if_pos c340] at H
    refine J_iconst (v := 0) d_Law_law_440 (by decide) ?_
    refine J.drop [true, true, true, true, true, false, false, false] rfl ?_
    exact p_Law_law_L441 hw hG hL hxs (kc := kc) (ks := ks) hKc53 H
  · intro c340
    rw [if_neg c340] at H
    refine J_iconst (v := 1) d_Law_law_436 (by decide) ?_
    refine J_goto (tgt := 441) d_Law_law_437 (by decide) ?_
    refine J.drop [true, true, true, true, true, false, false, false] rfl ?_
    exact p_Law_law_L441 hw hG hL hxs (kc := kc) (ks := ks) hKc53 H
def f_Law_law_L417 (Γ : gm_T) (L : Nat) (xs : Nat → Int32) (Kc53 : ph_T → Nat → Nat → Nat → Int32 → Option (Int32 × ph_T)) (φ : ph_T) (x1 : Nat) (x2 : Nat) (x3 : Nat) (x4 : Int32) : Option (Int32 × ph_T) :=
  f_Law_law_L2021 Γ L xs Kc53 φ x1 x2 x3 x4
set_option maxRecDepth 100000 in
set_option maxHeartbeats 8000000 in
theorem p_Law_law_L417 {w : jw_T} (hw : jok w) {Γ : gm_T} {n : Nat} (hG : gd w Γ n) {L : Nat} {xs : Nat → Int32} (hL : jw_L w = L) (hxs : jw_xs w = xs) {Kc53 : ph_T → Nat → Nat → Nat → Int32 → Option (Int32 × ph_T)} {kc ks : Nat} (hKc53 : ∀ {x : Bool} {φ : ph_T} {x1 : Nat} {x2 : Nat} {x3 : Nat} {x4 : Int32} {q : Int32 × ph_T}, Kc53 φ x1 x2 x3 x4 = some q → J w M_Law_law 53 [some (.ref (jw_b w)), some (.ref x1), some (.ref x2), some (.ref x3), some (.int x4), none, none, none] [] (pic Γ φ) n x kc ks (fq Γ n (.inl (some (.int q.1))) q.2)) {x : Bool} {φ : ph_T} {x1 : Nat} {x2 : Nat} {x3 : Nat} {x4 : Int32} {q : Int32 × ph_T} (H : f_Law_law_L417 Γ L xs Kc53 φ x1 x2 x3 x4 = some q) : J w M_Law_law 417 [some (.ref (jw_b w)), some (.ref x1), some (.ref x2), some (.ref x3), some (.int x4), none, none, none] [] (pic Γ φ) n x kc ks (fq Γ n (.inl (some (.int q.1))) q.2) := by
  unfold f_Law_law_L417 at H
  refine J_goto (tgt := 2021) d_Law_law_417 (by decide) ?_
  refine J.drop [true, true, true, true, true, false, false, false] rfl ?_
  exact p_Law_law_L2021 hw hG hL hxs (kc := kc) (ks := ks) hKc53 H
def f_Law_law_L340 (Γ : gm_T) (L : Nat) (xs : Nat → Int32) (Kc53 : ph_T → Nat → Nat → Nat → Int32 → Option (Int32 × ph_T)) (φ : ph_T) (x1 : Nat) (x2 : Nat) (x3 : Nat) (x4 : Int32) : Option (Int32 × ph_T) :=
  Option.bind (ix (x4 + (1 : Int32)) L) fun k341 =>
  Option.bind (ix (x4 + (2 : Int32)) L) fun k342 =>
  Option.bind (ix (x4 + (3 : Int32)) L) fun k343 =>
  Option.bind (f_Law_master Γ φ (some x1) (xs k341) (xs k342) (xs k343) (some x3)) fun q344 =>
  Option.bind (ix (x4 + (1 : Int32)) L) fun k345 =>
  Option.bind (ix (x4 + (2 : Int32)) L) fun k346 =>
  Option.bind (ix (x4 + (3 : Int32)) L) fun k347 =>
  @ite _ (Γ x2 = .inr 12) _ (
  Option.bind (f_Ref_master Γ q344.2 x2 (xs k345) (xs k346) (xs k347)) fun q349 =>
  Option.bind (f_Ref_thrown Γ q349.2 x2) fun q350 =>
  if q350.1 = q344.1 then
    if q344.1 = 0 then
      Option.bind (gA Γ x3 1) fun N351 =>
      Option.bind (ix (0 : Int32) N351) fun k352 =>
      if (lg_cmp (q350.2.2.1 x3 k352) (Int32.toInt64 q349.1)) = 0 then
        f_Law_law_L417 Γ L xs Kc53 q350.2 x1 x2 x3 x4
      else
        @ite _ ((0 : Int32) = 0 ∨ (0 : Int32) = 1) _ (
        some ((0 : Int32), q350.2)
        ) none
    else
      f_Law_law_L417 Γ L xs Kc53 q350.2 x1 x2 x3 x4
  else
    @ite _ ((0 : Int32) = 0 ∨ (0 : Int32) = 1) _ (
    some ((0 : Int32), q350.2)
    ) none
  ) none
set_option maxRecDepth 100000 in
set_option maxHeartbeats 8000000 in
theorem p_Law_law_L340 {w : jw_T} (hw : jok w) {Γ : gm_T} {n : Nat} (hG : gd w Γ n) {L : Nat} {xs : Nat → Int32} (hL : jw_L w = L) (hxs : jw_xs w = xs) {Kc53 : ph_T → Nat → Nat → Nat → Int32 → Option (Int32 × ph_T)} {kc ks : Nat} (hKc53 : ∀ {x : Bool} {φ : ph_T} {x1 : Nat} {x2 : Nat} {x3 : Nat} {x4 : Int32} {q : Int32 × ph_T}, Kc53 φ x1 x2 x3 x4 = some q → J w M_Law_law 53 [some (.ref (jw_b w)), some (.ref x1), some (.ref x2), some (.ref x3), some (.int x4), none, none, none] [] (pic Γ φ) n x kc ks (fq Γ n (.inl (some (.int q.1))) q.2)) {x : Bool} {φ : ph_T} {x1 : Nat} {x2 : Nat} {x3 : Nat} {x4 : Int32} {q : Int32 × ph_T} (H : f_Law_law_L340 Γ L xs Kc53 φ x1 x2 x3 x4 = some q) : J w M_Law_law 340 [some (.ref (jw_b w)), some (.ref x1), some (.ref x2), some (.ref x3), some (.int x4), none, none, none] [] (pic Γ φ) n x (kc + 1) (ks + 6) (fq Γ n (.inl (some (.int q.1))) q.2) := by
  unfold f_Law_law_L340 at H
  refine J_aload_n d_Law_law_340 rfl ?_
  refine J_aload_n d_Law_law_341 rfl ?_
  refine J_iload d_Law_law_342 rfl ?_
  refine J_iconst (v := 1) d_Law_law_344 (by decide) ?_
  refine J_iadd d_Law_law_345 ?_
  obtain ⟨k341, hk341, H⟩ := Option.bind_eq_some_iff.mp H
  refine J_sldx hL hxs k341 d_Law_law_346 (ix_some hk341) ?_
  refine J_aload_n d_Law_law_347 rfl ?_
  refine J_iload d_Law_law_348 rfl ?_
  refine J_iconst (v := 2) d_Law_law_350 (by decide) ?_
  refine J_iadd d_Law_law_351 ?_
  obtain ⟨k342, hk342, H⟩ := Option.bind_eq_some_iff.mp H
  refine J_sldx hL hxs k342 d_Law_law_352 (ix_some hk342) ?_
  refine J_aload_n d_Law_law_353 rfl ?_
  refine J_iload d_Law_law_354 rfl ?_
  refine J_iconst (v := 3) d_Law_law_356 (by decide) ?_
  refine J_iadd d_Law_law_357 ?_
  obtain ⟨k343, hk343, H⟩ := Option.bind_eq_some_iff.mp H
  refine J_sldx hL hxs k343 d_Law_law_358 (ix_some hk343) ?_
  refine J_aload_n d_Law_law_359 rfl ?_
  obtain ⟨q344, hq344, H⟩ := Option.bind_eq_some_iff.mp H
  refine J.kk (Nat.add_comm _ _) (Nat.add_comm _ _) ?_
  refine J_callS (kc := kc) (ks := ks) (kc' := 1) (ks' := 6) (as := [.ref x1, .int (xs k341), .int (xs k342), .int (xs k343), .ref x3]) (st := []) (mf_Law_master hw) (ms_Law_125 hw) d_Law_law_360 ln_Law_master (by decide) (by first | exact Nat.le_of_ble_eq_true rfl | (simp only [List.map_cons, List.map_nil, List.sum_cons, List.sum_nil, va_rf_cat]; exact Nat.le_of_ble_eq_true rfl)) rfl (p_Law_master hw hG hq344) ?_ (fun E h' n' x' e1 => by cases e1.1)
  intro v9 h9 n9 x9 e9
  obtain ⟨e91, e92, e93⟩ := e9
  cases e91
  subst e92
  subst e93
  clear x
  rename Bool => x
  show J _ _ _ _ (_ :: _) _ _ _ _ _ _
  refine J_istore d_Law_law_363 (Nat.le_of_ble_eq_true rfl) ?_
  refine J.ls (ls' := [some (.ref (jw_b w)), some (.ref x1), some (.ref x2), some (.ref x3), some (.int x4), some (.int q344.1), none, none]) rfl ?_
  refine J_aload_n d_Law_law_365 rfl ?_
  refine J_aload_n d_Law_law_366 rfl ?_
  refine J_iload d_Law_law_367 rfl ?_
  refine J_iconst (v := 1) d_Law_law_369 (by decide) ?_
  refine J_iadd d_Law_law_370 ?_
  obtain ⟨k345, hk345, H⟩ := Option.bind_eq_some_iff.mp H
  refine J_sldx hL hxs k345 d_Law_law_371 (ix_some hk345) ?_
  refine J_aload_n d_Law_law_372 rfl ?_
  refine J_iload d_Law_law_373 rfl ?_
  refine J_iconst (v := 2) d_Law_law_375 (by decide) ?_
  refine J_iadd d_Law_law_376 ?_
  obtain ⟨k346, hk346, H⟩ := Option.bind_eq_some_iff.mp H
  refine J_sldx hL hxs k346 d_Law_law_377 (ix_some hk346) ?_
  refine J_aload_n d_Law_law_378 rfl ?_
  refine J_iload d_Law_law_379 rfl ?_
  refine J_iconst (v := 3) d_Law_law_381 (by decide) ?_
  refine J_iadd d_Law_law_382 ?_
  obtain ⟨k347, hk347, H⟩ := Option.bind_eq_some_iff.mp H
  refine J_sldx hL hxs k347 d_Law_law_383 (ix_some hk347) ?_
  have g348 : Γ x2 = .inr 12 := by
    apply Classical.byContradiction
    intro q9
    rw [if_neg q9] at H
    cases H
  rw [if_pos g348] at H
  obtain ⟨q349, hq349, H⟩ := Option.bind_eq_some_iff.mp H
  refine J.kk (Nat.zero_add _) (Nat.zero_add _) ?_
  refine J_callV (kc := kc) (ks := ks) (kc' := 0) (ks' := 0) (a := x2) (ci := 12) (as := [.int (xs k345), .int (xs k346), .int (xs k347)]) (st := []) (mf_Ref_master hw) (mv_Law_128 hw) d_Law_law_384 ln_Ref_master (by decide) (by first | exact Nat.le_of_ble_eq_true rfl | (simp only [List.map_cons, List.map_nil, List.sum_cons, List.sum_nil, va_rf_cat]; exact Nat.le_of_ble_eq_true rfl)) rfl ((hG _).1 _ g348 (by decide)).1 ((hG _).1 _ g348 (by decide)).2 (by unfold pic; rw [g348]; rfl) (jcl_at hw rfl) rfl (p_Ref_master hw hG hq349) ?_ (fun E h' n' x' e1 => by cases e1.1)
  intro v9 h9 n9 x9 e9
  obtain ⟨e91, e92, e93⟩ := e9
  cases e91
  subst e92
  subst e93
  clear x
  rename Bool => x
  show J _ _ _ _ (_ :: _) _ _ _ _ _ _
  refine J_istore d_Law_law_387 (Nat.le_of_ble_eq_true rfl) ?_
  refine J.ls (ls' := [some (.ref (jw_b w)), some (.ref x1), some (.ref x2), some (.ref x3), some (.int x4), some (.int q344.1), some (.int q349.1), none]) rfl ?_
  refine J_aload_n d_Law_law_389 rfl ?_
  obtain ⟨q350, hq350, H⟩ := Option.bind_eq_some_iff.mp H
  refine J.kk (Nat.zero_add _) (Nat.zero_add _) ?_
  refine J_callV (kc := kc) (ks := ks) (kc' := 0) (ks' := 0) (a := x2) (ci := 12) (as := []) (st := []) (mf_Ref_thrown hw) (mv_Law_118 hw) d_Law_law_390 ln_Ref_thrown (by decide) (by first | exact Nat.le_of_ble_eq_true rfl | (simp only [List.map_cons, List.map_nil, List.sum_cons, List.sum_nil, va_rf_cat]; exact Nat.le_of_ble_eq_true rfl)) rfl ((hG _).1 _ g348 (by decide)).1 ((hG _).1 _ g348 (by decide)).2 (by unfold pic; rw [g348]; rfl) (jcl_at hw rfl) rfl (p_Ref_thrown hw hG hq350) ?_ (fun E h' n' x' e1 => by cases e1.1)
  intro v9 h9 n9 x9 e9
  obtain ⟨e91, e92, e93⟩ := e9
  cases e91
  subst e92
  subst e93
  clear x
  rename Bool => x
  show J _ _ _ _ (_ :: _) _ _ _ _ _ _
  refine J_iload d_Law_law_393 rfl ?_
  refine J_icmp_eq (tgt := 400) d_Law_law_395 (by decide) ?_ ?_
  · intro c357
    rw [if_pos c357] at H
    refine J_iload d_Law_law_400 rfl ?_
    refine J_if_ne (tgt := 417) d_Law_law_402 (by decide) ?_ ?_
    · intro c355
      rw [if_neg c355] at H
      refine J.drop [true, true, true, true, true, false, false, false] rfl ?_
      exact p_Law_law_L417 hw hG hL hxs (kc := kc) (ks := ks) hKc53 H
    · intro c355
      rw [if_pos c355] at H
      refine J_aload_n d_Law_law_405 rfl ?_
      refine J_iconst (v := 0) d_Law_law_406 (by decide) ?_
      obtain ⟨N351, hN351, H⟩ := Option.bind_eq_some_iff.mp H
      obtain ⟨k352, hk352, H⟩ := Option.bind_eq_some_iff.mp H
      refine F_lald k352 hw hG d_Law_law_407 (gA_some hN351) (ix_some hk352) ?_
      refine J_iload d_Law_law_408 rfl ?_
      refine J_i2l d_Law_law_410 ?_
      refine J_lcmp d_Law_law_411 ?_
      refine J_if_eq (tgt := 417) d_Law_law_412 (by decide) ?_ ?_
      · intro c354
        rw [if_pos c354] at H
        refine J.drop [true, true, true, true, true, false, false, false] rfl ?_
        exact p_Law_law_L417 hw hG hL hxs (kc := kc) (ks := ks) hKc53 H
      · intro c354
        rw [if_neg c354] at H
        refine J_iconst (v := 0) d_Law_law_415 (by decide) ?_
        have z353 : (0 : Int32) = 0 ∨ (0 : Int32) = 1 := by
          apply Classical.byContradiction
          intro q9
          rw [if_neg q9] at H
          cases H
        rw [if_pos z353] at H
        have H := Option.some.inj H
        subst H
        exact J_iret (st := []) d_Law_law_416 rfl (narrow_z z353).1 ⟨rfl, rfl, rfl⟩
  · intro c357
    rw [if_neg c357] at H
    refine J_iconst (v := 0) d_Law_law_398 (by decide) ?_
    have z356 : (0 : Int32) = 0 ∨ (0 : Int32) = 1 := by
      apply Classical.byContradiction
      intro q9
      rw [if_neg q9] at H
      cases H
    rw [if_pos z356] at H
    have H := Option.some.inj H
    subst H
    exact J_iret (st := []) d_Law_law_399 rfl (narrow_z z356).1 ⟨rfl, rfl, rfl⟩
def f_Law_law_L337 (Γ : gm_T) (L : Nat) (xs : Nat → Int32) (Kc53 : ph_T → Nat → Nat → Nat → Int32 → Option (Int32 × ph_T)) (φ : ph_T) (x1 : Nat) (x2 : Nat) (x3 : Nat) (x4 : Int32) : Option (Int32 × ph_T) :=
  f_Law_law_L2021 Γ L xs Kc53 φ x1 x2 x3 x4
set_option maxRecDepth 100000 in
set_option maxHeartbeats 8000000 in
theorem p_Law_law_L337 {w : jw_T} (hw : jok w) {Γ : gm_T} {n : Nat} (hG : gd w Γ n) {L : Nat} {xs : Nat → Int32} (hL : jw_L w = L) (hxs : jw_xs w = xs) {Kc53 : ph_T → Nat → Nat → Nat → Int32 → Option (Int32 × ph_T)} {kc ks : Nat} (hKc53 : ∀ {x : Bool} {φ : ph_T} {x1 : Nat} {x2 : Nat} {x3 : Nat} {x4 : Int32} {q : Int32 × ph_T}, Kc53 φ x1 x2 x3 x4 = some q → J w M_Law_law 53 [some (.ref (jw_b w)), some (.ref x1), some (.ref x2), some (.ref x3), some (.int x4), none, none, none] [] (pic Γ φ) n x kc ks (fq Γ n (.inl (some (.int q.1))) q.2)) {x : Bool} {φ : ph_T} {x1 : Nat} {x2 : Nat} {x3 : Nat} {x4 : Int32} {q : Int32 × ph_T} (H : f_Law_law_L337 Γ L xs Kc53 φ x1 x2 x3 x4 = some q) : J w M_Law_law 337 [some (.ref (jw_b w)), some (.ref x1), some (.ref x2), some (.ref x3), some (.int x4), none, none, none] [] (pic Γ φ) n x kc ks (fq Γ n (.inl (some (.int q.1))) q.2) := by
  unfold f_Law_law_L337 at H
  refine J_goto (tgt := 2021) d_Law_law_337 (by decide) ?_
  refine J.drop [true, true, true, true, true, false, false, false] rfl ?_
  exact p_Law_law_L2021 hw hG hL hxs (kc := kc) (ks := ks) hKc53 H
def f_Law_law_L304 (Γ : gm_T) (L : Nat) (xs : Nat → Int32) (Kc53 : ph_T → Nat → Nat → Nat → Int32 → Option (Int32 × ph_T)) (φ : ph_T) (x1 : Nat) (x2 : Nat) (x3 : Nat) (x4 : Int32) (x5 : Int32) (y0 : Int32) (y1 : Int32) (y2 : Nat) : Option (Int32 × ph_T) :=
  @ite _ (Γ y2 = .inr 12) _ (
  Option.bind (f_Ref_policy Γ φ y2 y1 y0) fun q359 =>
  @ite _ (Γ x2 = .inr 12) _ (
  Option.bind (f_Ref_thrown Γ q359.2 x2) fun q361 =>
  if q361.1 = x5 then
    if x5 = 0 then
      Option.bind (gA Γ x3 1) fun N362 =>
      Option.bind (ix (0 : Int32) N362) fun k363 =>
      if (lg_cmp (q361.2.2.1 x3 k363) (Int32.toInt64 q359.1)) = 0 then
        f_Law_law_L337 Γ L xs Kc53 q361.2 x1 x2 x3 x4
      else
        @ite _ ((0 : Int32) = 0 ∨ (0 : Int32) = 1) _ (
        some ((0 : Int32), q361.2)
        ) none
    else
      f_Law_law_L337 Γ L xs Kc53 q361.2 x1 x2 x3 x4
  else
    @ite _ ((0 : Int32) = 0 ∨ (0 : Int32) = 1) _ (
    some ((0 : Int32), q361.2)
    ) none
  ) none
  ) none
set_option maxRecDepth 100000 in
set_option maxHeartbeats 8000000 in
theorem p_Law_law_L304 {w : jw_T} (hw : jok w) {Γ : gm_T} {n : Nat} (hG : gd w Γ n) {L : Nat} {xs : Nat → Int32} (hL : jw_L w = L) (hxs : jw_xs w = xs) {Kc53 : ph_T → Nat → Nat → Nat → Int32 → Option (Int32 × ph_T)} {kc ks : Nat} (hKc53 : ∀ {x : Bool} {φ : ph_T} {x1 : Nat} {x2 : Nat} {x3 : Nat} {x4 : Int32} {q : Int32 × ph_T}, Kc53 φ x1 x2 x3 x4 = some q → J w M_Law_law 53 [some (.ref (jw_b w)), some (.ref x1), some (.ref x2), some (.ref x3), some (.int x4), none, none, none] [] (pic Γ φ) n x kc ks (fq Γ n (.inl (some (.int q.1))) q.2)) {x : Bool} {φ : ph_T} {x1 : Nat} {x2 : Nat} {x3 : Nat} {x4 : Int32} {x5 : Int32} {y0 : Int32} {y1 : Int32} {y2 : Nat} {q : Int32 × ph_T} (H : f_Law_law_L304 Γ L xs Kc53 φ x1 x2 x3 x4 x5 y0 y1 y2 = some q) : J w M_Law_law 304 [some (.ref (jw_b w)), some (.ref x1), some (.ref x2), some (.ref x3), some (.int x4), some (.int x5), none, none] [.int y0, .int y1, .ref y2] (pic Γ φ) n x kc ks (fq Γ n (.inl (some (.int q.1))) q.2) := by
  unfold f_Law_law_L304 at H
  have g358 : Γ y2 = .inr 12 := by
    apply Classical.byContradiction
    intro q9
    rw [if_neg q9] at H
    cases H
  rw [if_pos g358] at H
  obtain ⟨q359, hq359, H⟩ := Option.bind_eq_some_iff.mp H
  refine J.kk (Nat.zero_add _) (Nat.zero_add _) ?_
  refine J_callV (kc := kc) (ks := ks) (kc' := 0) (ks' := 0) (a := y2) (ci := 12) (as := [.int y1, .int y0]) (st := []) (mf_Ref_policy hw) (mv_Law_124 hw) d_Law_law_304 ln_Ref_policy (by decide) (by first | exact Nat.le_of_ble_eq_true rfl | (simp only [List.map_cons, List.map_nil, List.sum_cons, List.sum_nil, va_rf_cat]; exact Nat.le_of_ble_eq_true rfl)) rfl ((hG _).1 _ g358 (by decide)).1 ((hG _).1 _ g358 (by decide)).2 (by unfold pic; rw [g358]; rfl) (jcl_at hw rfl) rfl (p_Ref_policy hw hG hq359) ?_ (fun E h' n' x' e1 => by cases e1.1)
  intro v9 h9 n9 x9 e9
  obtain ⟨e91, e92, e93⟩ := e9
  cases e91
  subst e92
  subst e93
  clear x
  rename Bool => x
  show J _ _ _ _ (_ :: _) _ _ _ _ _ _
  refine J_istore d_Law_law_307 (Nat.le_of_ble_eq_true rfl) ?_
  refine J.ls (ls' := [some (.ref (jw_b w)), some (.ref x1), some (.ref x2), some (.ref x3), some (.int x4), some (.int x5), some (.int q359.1), none]) rfl ?_
  refine J_aload_n d_Law_law_309 rfl ?_
  have g360 : Γ x2 = .inr 12 := by
    apply Classical.byContradiction
    intro q9
    rw [if_neg q9] at H
    cases H
  rw [if_pos g360] at H
  obtain ⟨q361, hq361, H⟩ := Option.bind_eq_some_iff.mp H
  refine J.kk (Nat.zero_add _) (Nat.zero_add _) ?_
  refine J_callV (kc := kc) (ks := ks) (kc' := 0) (ks' := 0) (a := x2) (ci := 12) (as := []) (st := []) (mf_Ref_thrown hw) (mv_Law_118 hw) d_Law_law_310 ln_Ref_thrown (by decide) (by first | exact Nat.le_of_ble_eq_true rfl | (simp only [List.map_cons, List.map_nil, List.sum_cons, List.sum_nil, va_rf_cat]; exact Nat.le_of_ble_eq_true rfl)) rfl ((hG _).1 _ g360 (by decide)).1 ((hG _).1 _ g360 (by decide)).2 (by unfold pic; rw [g360]; rfl) (jcl_at hw rfl) rfl (p_Ref_thrown hw hG hq361) ?_ (fun E h' n' x' e1 => by cases e1.1)
  intro v9 h9 n9 x9 e9
  obtain ⟨e91, e92, e93⟩ := e9
  cases e91
  subst e92
  subst e93
  clear x
  rename Bool => x
  show J _ _ _ _ (_ :: _) _ _ _ _ _ _
  refine J_iload d_Law_law_313 rfl ?_
  refine J_icmp_eq (tgt := 320) d_Law_law_315 (by decide) ?_ ?_
  · intro c368
    rw [if_pos c368] at H
    refine J_iload d_Law_law_320 rfl ?_
    refine J_if_ne (tgt := 337) d_Law_law_322 (by decide) ?_ ?_
    · intro c366
      rw [if_neg c366] at H
      refine J.drop [true, true, true, true, true, false, false, false] rfl ?_
      exact p_Law_law_L337 hw hG hL hxs (kc := kc) (ks := ks) hKc53 H
    · intro c366
      rw [if_pos c366] at H
      refine J_aload_n d_Law_law_325 rfl ?_
      refine J_iconst (v := 0) d_Law_law_326 (by decide) ?_
      obtain ⟨N362, hN362, H⟩ := Option.bind_eq_some_iff.mp H
      obtain ⟨k363, hk363, H⟩ := Option.bind_eq_some_iff.mp H
      refine F_lald k363 hw hG d_Law_law_327 (gA_some hN362) (ix_some hk363) ?_
      refine J_iload d_Law_law_328 rfl ?_
      refine J_i2l d_Law_law_330 ?_
      refine J_lcmp d_Law_law_331 ?_
      refine J_if_eq (tgt := 337) d_Law_law_332 (by decide) ?_ ?_
      · intro c365
        rw [if_pos c365] at H
        refine J.drop [true, true, true, true, true, false, false, false] rfl ?_
        exact p_Law_law_L337 hw hG hL hxs (kc := kc) (ks := ks) hKc53 H
      · intro c365
        rw [if_neg c365] at H
        refine J_iconst (v := 0) d_Law_law_335 (by decide) ?_
        have z364 : (0 : Int32) = 0 ∨ (0 : Int32) = 1 := by
          apply Classical.byContradiction
          intro q9
          rw [if_neg q9] at H
          cases H
        rw [if_pos z364] at H
        have H := Option.some.inj H
        subst H
        exact J_iret (st := []) d_Law_law_336 rfl (narrow_z z364).1 ⟨rfl, rfl, rfl⟩
  · intro c368
    rw [if_neg c368] at H
    refine J_iconst (v := 0) d_Law_law_318 (by decide) ?_
    have z367 : (0 : Int32) = 0 ∨ (0 : Int32) = 1 := by
      apply Classical.byContradiction
      intro q9
      rw [if_neg q9] at H
      cases H
    rw [if_pos z367] at H
    have H := Option.some.inj H
    subst H
    exact J_iret (st := []) d_Law_law_319 rfl (narrow_z z367).1 ⟨rfl, rfl, rfl⟩
def f_Law_law_L277 (Γ : gm_T) (L : Nat) (xs : Nat → Int32) (Kc53 : ph_T → Nat → Nat → Nat → Int32 → Option (Int32 × ph_T)) (φ : ph_T) (x1 : Nat) (x2 : Nat) (x3 : Nat) (x4 : Int32) (y0 : Int32) (y1 : Int32) (y2 : Nat) : Option (Int32 × ph_T) :=
  Option.bind (f_Law_policy Γ φ (some y2) y1 y0 (some x3)) fun q369 =>
  Option.bind (ix (x4 + (1 : Int32)) L) fun k370 =>
  Option.bind (ix (x4 + (2 : Int32)) L) fun k371 =>
  if (xs k371) = 0 then
    f_Law_law_L304 Γ L xs Kc53 q369.2 x1 x2 x3 x4 q369.1 (0 : Int32) (xs k370) x2
  else
    f_Law_law_L304 Γ L xs Kc53 q369.2 x1 x2 x3 x4 q369.1 (1 : Int32) (xs k370) x2
set_option maxRecDepth 100000 in
set_option maxHeartbeats 8000000 in
theorem p_Law_law_L277 {w : jw_T} (hw : jok w) {Γ : gm_T} {n : Nat} (hG : gd w Γ n) {L : Nat} {xs : Nat → Int32} (hL : jw_L w = L) (hxs : jw_xs w = xs) {Kc53 : ph_T → Nat → Nat → Nat → Int32 → Option (Int32 × ph_T)} {kc ks : Nat} (hKc53 : ∀ {x : Bool} {φ : ph_T} {x1 : Nat} {x2 : Nat} {x3 : Nat} {x4 : Int32} {q : Int32 × ph_T}, Kc53 φ x1 x2 x3 x4 = some q → J w M_Law_law 53 [some (.ref (jw_b w)), some (.ref x1), some (.ref x2), some (.ref x3), some (.int x4), none, none, none] [] (pic Γ φ) n x kc ks (fq Γ n (.inl (some (.int q.1))) q.2)) {x : Bool} {φ : ph_T} {x1 : Nat} {x2 : Nat} {x3 : Nat} {x4 : Int32} {y0 : Int32} {y1 : Int32} {y2 : Nat} {q : Int32 × ph_T} (H : f_Law_law_L277 Γ L xs Kc53 φ x1 x2 x3 x4 y0 y1 y2 = some q) : J w M_Law_law 277 [some (.ref (jw_b w)), some (.ref x1), some (.ref x2), some (.ref x3), some (.int x4), none, none, none] [.int y0, .int y1, .ref y2] (pic Γ φ) n x (kc + 1) (ks + 6) (fq Γ n (.inl (some (.int q.1))) q.2) := by
  unfold f_Law_law_L277 at H
  refine J_aload_n d_Law_law_277 rfl ?_
  obtain ⟨q369, hq369, H⟩ := Option.bind_eq_some_iff.mp H
  refine J.kk (Nat.add_comm _ _) (Nat.add_comm _ _) ?_
  refine J_callS (kc := kc) (ks := ks) (kc' := 1) (ks' := 6) (as := [.ref y2, .int y1, .int y0, .ref x3]) (st := []) (mf_Law_policy hw) (ms_Law_121 hw) d_Law_law_278 ln_Law_policy (by decide) (by first | exact Nat.le_of_ble_eq_true rfl | (simp only [List.map_cons, List.map_nil, List.sum_cons, List.sum_nil, va_rf_cat]; exact Nat.le_of_ble_eq_true rfl)) rfl (p_Law_policy hw hG hq369) ?_ (fun E h' n' x' e1 => by cases e1.1)
  intro v9 h9 n9 x9 e9
  obtain ⟨e91, e92, e93⟩ := e9
  cases e91
  subst e92
  subst e93
  clear x
  rename Bool => x
  show J _ _ _ _ (_ :: _) _ _ _ _ _ _
  refine J_istore d_Law_law_281 (Nat.le_of_ble_eq_true rfl) ?_
  refine J.ls (ls' := [some (.ref (jw_b w)), some (.ref x1), some (.ref x2), some (.ref x3), some (.int x4), some (.int q369.1), none, none]) rfl ?_
  refine J_aload_n d_Law_law_283 rfl ?_
  refine J_aload_n d_Law_law_284 rfl ?_
  refine J_iload d_Law_law_285 rfl ?_
  refine J_iconst (v := 1) d_Law_law_287 (by decide) ?_
  refine J_iadd d_Law_law_288 ?_
  obtain ⟨k370, hk370, H⟩ := Option.bind_eq_some_iff.mp H
  refine J_sldx hL hxs k370 d_Law_law_289 (ix_some hk370) ?_
  refine J_aload_n d_Law_law_290 rfl ?_
  refine J_iload d_Law_law_291 rfl ?_
  refine J_iconst (v := 2) d_Law_law_293 (by decide) ?_
  refine J_iadd d_Law_law_294 ?_
  obtain ⟨k371, hk371, H⟩ := Option.bind_eq_some_iff.mp H
  refine J_sldx hL hxs k371 d_Law_law_295 (ix_some hk371) ?_
  refine J_if_eq (tgt := 303) d_Law_law_296 (by decide) ?_ ?_
  · intro c372
    rw [if_pos c372] at H
    refine J_iconst (v := 0) d_Law_law_303 (by decide) ?_
    refine J.drop [true, true, true, true, true, true, false, false] rfl ?_
    exact p_Law_law_L304 hw hG hL hxs (kc := kc) (ks := ks) hKc53 H
  · intro c372
    rw [if_neg c372] at H
    refine J_iconst (v := 1) d_Law_law_299 (by decide) ?_
    refine J_goto (tgt := 304) d_Law_law_300 (by decide) ?_
    refine J.drop [true, true, true, true, true, true, false, false] rfl ?_
    exact p_Law_law_L304 hw hG hL hxs (kc := kc) (ks := ks) hKc53 H
def f_Law_law_L256 (Γ : gm_T) (L : Nat) (xs : Nat → Int32) (Kc53 : ph_T → Nat → Nat → Nat → Int32 → Option (Int32 × ph_T)) (φ : ph_T) (x1 : Nat) (x2 : Nat) (x3 : Nat) (x4 : Int32) : Option (Int32 × ph_T) :=
  Option.bind (ix (x4 + (1 : Int32)) L) fun k373 =>
  Option.bind (ix (x4 + (2 : Int32)) L) fun k374 =>
  if (xs k374) = 0 then
    f_Law_law_L277 Γ L xs Kc53 φ x1 x2 x3 x4 (0 : Int32) (xs k373) x1
  else
    f_Law_law_L277 Γ L xs Kc53 φ x1 x2 x3 x4 (1 : Int32) (xs k373) x1
set_option maxRecDepth 100000 in
set_option maxHeartbeats 8000000 in
theorem p_Law_law_L256 {w : jw_T} (hw : jok w) {Γ : gm_T} {n : Nat} (hG : gd w Γ n) {L : Nat} {xs : Nat → Int32} (hL : jw_L w = L) (hxs : jw_xs w = xs) {Kc53 : ph_T → Nat → Nat → Nat → Int32 → Option (Int32 × ph_T)} {kc ks : Nat} (hKc53 : ∀ {x : Bool} {φ : ph_T} {x1 : Nat} {x2 : Nat} {x3 : Nat} {x4 : Int32} {q : Int32 × ph_T}, Kc53 φ x1 x2 x3 x4 = some q → J w M_Law_law 53 [some (.ref (jw_b w)), some (.ref x1), some (.ref x2), some (.ref x3), some (.int x4), none, none, none] [] (pic Γ φ) n x kc ks (fq Γ n (.inl (some (.int q.1))) q.2)) {x : Bool} {φ : ph_T} {x1 : Nat} {x2 : Nat} {x3 : Nat} {x4 : Int32} {q : Int32 × ph_T} (H : f_Law_law_L256 Γ L xs Kc53 φ x1 x2 x3 x4 = some q) : J w M_Law_law 256 [some (.ref (jw_b w)), some (.ref x1), some (.ref x2), some (.ref x3), some (.int x4), none, none, none] [] (pic Γ φ) n x (kc + 1) (ks + 6) (fq Γ n (.inl (some (.int q.1))) q.2) := by
  unfold f_Law_law_L256 at H
  refine J_aload_n d_Law_law_256 rfl ?_
  refine J_aload_n d_Law_law_257 rfl ?_
  refine J_iload d_Law_law_258 rfl ?_
  refine J_iconst (v := 1) d_Law_law_260 (by decide) ?_
  refine J_iadd d_Law_law_261 ?_
  obtain ⟨k373, hk373, H⟩ := Option.bind_eq_some_iff.mp H
  refine J_sldx hL hxs k373 d_Law_law_262 (ix_some hk373) ?_
  refine J_aload_n d_Law_law_263 rfl ?_
  refine J_iload d_Law_law_264 rfl ?_
  refine J_iconst (v := 2) d_Law_law_266 (by decide) ?_
  refine J_iadd d_Law_law_267 ?_
  obtain ⟨k374, hk374, H⟩ := Option.bind_eq_some_iff.mp H
  refine J_sldx hL hxs k374 d_Law_law_268 (ix_some hk374) ?_
  refine J_if_eq (tgt := 276) d_Law_law_269 (by decide) ?_ ?_
  · intro c375
    rw [if_pos c375] at H
    refine J_iconst (v := 0) d_Law_law_276 (by decide) ?_
    refine J.drop [true, true, true, true, true, false, false, false] rfl ?_
    exact p_Law_law_L277 hw hG hL hxs (kc := kc) (ks := ks) hKc53 H
  · intro c375
    rw [if_neg c375] at H
    refine J_iconst (v := 1) d_Law_law_272 (by decide) ?_
    refine J_goto (tgt := 277) d_Law_law_273 (by decide) ?_
    refine J.drop [true, true, true, true, true, false, false, false] rfl ?_
    exact p_Law_law_L277 hw hG hL hxs (kc := kc) (ks := ks) hKc53 H
def f_Law_law_L253 (Γ : gm_T) (L : Nat) (xs : Nat → Int32) (Kc53 : ph_T → Nat → Nat → Nat → Int32 → Option (Int32 × ph_T)) (φ : ph_T) (x1 : Nat) (x2 : Nat) (x3 : Nat) (x4 : Int32) : Option (Int32 × ph_T) :=
  f_Law_law_L2021 Γ L xs Kc53 φ x1 x2 x3 x4
set_option maxRecDepth 100000 in
set_option maxHeartbeats 8000000 in
theorem p_Law_law_L253 {w : jw_T} (hw : jok w) {Γ : gm_T} {n : Nat} (hG : gd w Γ n) {L : Nat} {xs : Nat → Int32} (hL : jw_L w = L) (hxs : jw_xs w = xs) {Kc53 : ph_T → Nat → Nat → Nat → Int32 → Option (Int32 × ph_T)} {kc ks : Nat} (hKc53 : ∀ {x : Bool} {φ : ph_T} {x1 : Nat} {x2 : Nat} {x3 : Nat} {x4 : Int32} {q : Int32 × ph_T}, Kc53 φ x1 x2 x3 x4 = some q → J w M_Law_law 53 [some (.ref (jw_b w)), some (.ref x1), some (.ref x2), some (.ref x3), some (.int x4), none, none, none] [] (pic Γ φ) n x kc ks (fq Γ n (.inl (some (.int q.1))) q.2)) {x : Bool} {φ : ph_T} {x1 : Nat} {x2 : Nat} {x3 : Nat} {x4 : Int32} {q : Int32 × ph_T} (H : f_Law_law_L253 Γ L xs Kc53 φ x1 x2 x3 x4 = some q) : J w M_Law_law 253 [some (.ref (jw_b w)), some (.ref x1), some (.ref x2), some (.ref x3), some (.int x4), none, none, none] [] (pic Γ φ) n x kc ks (fq Γ n (.inl (some (.int q.1))) q.2) := by
  unfold f_Law_law_L253 at H
  refine J_goto (tgt := 2021) d_Law_law_253 (by decide) ?_
  refine J.drop [true, true, true, true, true, false, false, false] rfl ?_
  exact p_Law_law_L2021 hw hG hL hxs (kc := kc) (ks := ks) hKc53 H
def f_Law_law_L188 (Γ : gm_T) (L : Nat) (xs : Nat → Int32) (Kc53 : ph_T → Nat → Nat → Nat → Int32 → Option (Int32 × ph_T)) (φ : ph_T) (x1 : Nat) (x2 : Nat) (x3 : Nat) (x4 : Int32) : Option (Int32 × ph_T) :=
  Option.bind (ix (x4 + (1 : Int32)) L) fun k376 =>
  Option.bind (ix (x4 + (2 : Int32)) L) fun k377 =>
  Option.bind (f_Law_map Γ φ (some x1) (xs k376) (xs k377) (some x3)) fun q378 =>
  Option.bind (ix (x4 + (1 : Int32)) L) fun k379 =>
  Option.bind (ix (x4 + (2 : Int32)) L) fun k380 =>
  @ite _ (Γ x2 = .inr 12) _ (
  Option.bind (f_Ref_map Γ q378.2 x2 (xs k379) (xs k380)) fun q382 =>
  Option.bind (f_Ref_thrown Γ q382.2 x2) fun q383 =>
  if q383.1 = q378.1 then
    if q378.1 = 0 then
      Option.bind (gA Γ x3 1) fun N384 =>
      Option.bind (ix (0 : Int32) N384) fun k385 =>
      if (lg_cmp (q383.2.2.1 x3 k385) (Int32.toInt64 q382.1)) = 0 then
        f_Law_law_L253 Γ L xs Kc53 q383.2 x1 x2 x3 x4
      else
        @ite _ ((0 : Int32) = 0 ∨ (0 : Int32) = 1) _ (
        some ((0 : Int32), q383.2)
        ) none
    else
      f_Law_law_L253 Γ L xs Kc53 q383.2 x1 x2 x3 x4
  else
    @ite _ ((0 : Int32) = 0 ∨ (0 : Int32) = 1) _ (
    some ((0 : Int32), q383.2)
    ) none
  ) none
set_option maxRecDepth 100000 in
set_option maxHeartbeats 8000000 in
theorem p_Law_law_L188 {w : jw_T} (hw : jok w) {Γ : gm_T} {n : Nat} (hG : gd w Γ n) {L : Nat} {xs : Nat → Int32} (hL : jw_L w = L) (hxs : jw_xs w = xs) {Kc53 : ph_T → Nat → Nat → Nat → Int32 → Option (Int32 × ph_T)} {kc ks : Nat} (hKc53 : ∀ {x : Bool} {φ : ph_T} {x1 : Nat} {x2 : Nat} {x3 : Nat} {x4 : Int32} {q : Int32 × ph_T}, Kc53 φ x1 x2 x3 x4 = some q → J w M_Law_law 53 [some (.ref (jw_b w)), some (.ref x1), some (.ref x2), some (.ref x3), some (.int x4), none, none, none] [] (pic Γ φ) n x kc ks (fq Γ n (.inl (some (.int q.1))) q.2)) {x : Bool} {φ : ph_T} {x1 : Nat} {x2 : Nat} {x3 : Nat} {x4 : Int32} {q : Int32 × ph_T} (H : f_Law_law_L188 Γ L xs Kc53 φ x1 x2 x3 x4 = some q) : J w M_Law_law 188 [some (.ref (jw_b w)), some (.ref x1), some (.ref x2), some (.ref x3), some (.int x4), none, none, none] [] (pic Γ φ) n x (kc + 1) (ks + 6) (fq Γ n (.inl (some (.int q.1))) q.2) := by
  unfold f_Law_law_L188 at H
  refine J_aload_n d_Law_law_188 rfl ?_
  refine J_aload_n d_Law_law_189 rfl ?_
  refine J_iload d_Law_law_190 rfl ?_
  refine J_iconst (v := 1) d_Law_law_192 (by decide) ?_
  refine J_iadd d_Law_law_193 ?_
  obtain ⟨k376, hk376, H⟩ := Option.bind_eq_some_iff.mp H
  refine J_sldx hL hxs k376 d_Law_law_194 (ix_some hk376) ?_
  refine J_aload_n d_Law_law_195 rfl ?_
  refine J_iload d_Law_law_196 rfl ?_
  refine J_iconst (v := 2) d_Law_law_198 (by decide) ?_
  refine J_iadd d_Law_law_199 ?_
  obtain ⟨k377, hk377, H⟩ := Option.bind_eq_some_iff.mp H
  refine J_sldx hL hxs k377 d_Law_law_200 (ix_some hk377) ?_
  refine J_aload_n d_Law_law_201 rfl ?_
  obtain ⟨q378, hq378, H⟩ := Option.bind_eq_some_iff.mp H
  refine J.kk (Nat.add_comm _ _) (Nat.add_comm _ _) ?_
  refine J_callS (kc := kc) (ks := ks) (kc' := 1) (ks' := 6) (as := [.ref x1, .int (xs k376), .int (xs k377), .ref x3]) (st := []) (mf_Law_map hw) (ms_Law_114 hw) d_Law_law_202 ln_Law_map (by decide) (by first | exact Nat.le_of_ble_eq_true rfl | (simp only [List.map_cons, List.map_nil, List.sum_cons, List.sum_nil, va_rf_cat]; exact Nat.le_of_ble_eq_true rfl)) rfl (p_Law_map hw hG hq378) ?_ (fun E h' n' x' e1 => by cases e1.1)
  intro v9 h9 n9 x9 e9
  obtain ⟨e91, e92, e93⟩ := e9
  cases e91
  subst e92
  subst e93
  clear x
  rename Bool => x
  show J _ _ _ _ (_ :: _) _ _ _ _ _ _
  refine J_istore d_Law_law_205 (Nat.le_of_ble_eq_true rfl) ?_
  refine J.ls (ls' := [some (.ref (jw_b w)), some (.ref x1), some (.ref x2), some (.ref x3), some (.int x4), some (.int q378.1), none, none]) rfl ?_
  refine J_aload_n d_Law_law_207 rfl ?_
  refine J_aload_n d_Law_law_208 rfl ?_
  refine J_iload d_Law_law_209 rfl ?_
  refine J_iconst (v := 1) d_Law_law_211 (by decide) ?_
  refine J_iadd d_Law_law_212 ?_
  obtain ⟨k379, hk379, H⟩ := Option.bind_eq_some_iff.mp H
  refine J_sldx hL hxs k379 d_Law_law_213 (ix_some hk379) ?_
  refine J_aload_n d_Law_law_214 rfl ?_
  refine J_iload d_Law_law_215 rfl ?_
  refine J_iconst (v := 2) d_Law_law_217 (by decide) ?_
  refine J_iadd d_Law_law_218 ?_
  obtain ⟨k380, hk380, H⟩ := Option.bind_eq_some_iff.mp H
  refine J_sldx hL hxs k380 d_Law_law_219 (ix_some hk380) ?_
  have g381 : Γ x2 = .inr 12 := by
    apply Classical.byContradiction
    intro q9
    rw [if_neg q9] at H
    cases H
  rw [if_pos g381] at H
  obtain ⟨q382, hq382, H⟩ := Option.bind_eq_some_iff.mp H
  refine J.kk (Nat.zero_add _) (Nat.zero_add _) ?_
  refine J_callV (kc := kc) (ks := ks) (kc' := 0) (ks' := 0) (a := x2) (ci := 12) (as := [.int (xs k379), .int (xs k380)]) (st := []) (mf_Ref_map hw) (mv_Law_117 hw) d_Law_law_220 ln_Ref_map (by decide) (by first | exact Nat.le_of_ble_eq_true rfl | (simp only [List.map_cons, List.map_nil, List.sum_cons, List.sum_nil, va_rf_cat]; exact Nat.le_of_ble_eq_true rfl)) rfl ((hG _).1 _ g381 (by decide)).1 ((hG _).1 _ g381 (by decide)).2 (by unfold pic; rw [g381]; rfl) (jcl_at hw rfl) rfl (p_Ref_map hw hG hq382) ?_ (fun E h' n' x' e1 => by cases e1.1)
  intro v9 h9 n9 x9 e9
  obtain ⟨e91, e92, e93⟩ := e9
  cases e91
  subst e92
  subst e93
  clear x
  rename Bool => x
  show J _ _ _ _ (_ :: _) _ _ _ _ _ _
  refine J_istore d_Law_law_223 (Nat.le_of_ble_eq_true rfl) ?_
  refine J.ls (ls' := [some (.ref (jw_b w)), some (.ref x1), some (.ref x2), some (.ref x3), some (.int x4), some (.int q378.1), some (.int q382.1), none]) rfl ?_
  refine J_aload_n d_Law_law_225 rfl ?_
  obtain ⟨q383, hq383, H⟩ := Option.bind_eq_some_iff.mp H
  refine J.kk (Nat.zero_add _) (Nat.zero_add _) ?_
  refine J_callV (kc := kc) (ks := ks) (kc' := 0) (ks' := 0) (a := x2) (ci := 12) (as := []) (st := []) (mf_Ref_thrown hw) (mv_Law_118 hw) d_Law_law_226 ln_Ref_thrown (by decide) (by first | exact Nat.le_of_ble_eq_true rfl | (simp only [List.map_cons, List.map_nil, List.sum_cons, List.sum_nil, va_rf_cat]; exact Nat.le_of_ble_eq_true rfl)) rfl ((hG _).1 _ g381 (by decide)).1 ((hG _).1 _ g381 (by decide)).2 (by unfold pic; rw [g381]; rfl) (jcl_at hw rfl) rfl (p_Ref_thrown hw hG hq383) ?_ (fun E h' n' x' e1 => by cases e1.1)
  intro v9 h9 n9 x9 e9
  obtain ⟨e91, e92, e93⟩ := e9
  cases e91
  subst e92
  subst e93
  clear x
  rename Bool => x
  show J _ _ _ _ (_ :: _) _ _ _ _ _ _
  refine J_iload d_Law_law_229 rfl ?_
  refine J_icmp_eq (tgt := 236) d_Law_law_231 (by decide) ?_ ?_
  · intro c390
    rw [if_pos c390] at H
    refine J_iload d_Law_law_236 rfl ?_
    refine J_if_ne (tgt := 253) d_Law_law_238 (by decide) ?_ ?_
    · intro c388
      rw [if_neg c388] at H
      refine J.drop [true, true, true, true, true, false, false, false] rfl ?_
      exact p_Law_law_L253 hw hG hL hxs (kc := kc) (ks := ks) hKc53 H
    · intro c388
      rw [if_pos c388] at H
      refine J_aload_n d_Law_law_241 rfl ?_
      refine J_iconst (v := 0) d_Law_law_242 (by decide) ?_
      obtain ⟨N384, hN384, H⟩ := Option.bind_eq_some_iff.mp H
      obtain ⟨k385, hk385, H⟩ := Option.bind_eq_some_iff.mp H
      refine F_lald k385 hw hG d_Law_law_243 (gA_some hN384) (ix_some hk385) ?_
      refine J_iload d_Law_law_244 rfl ?_
      refine J_i2l d_Law_law_246 ?_
      refine J_lcmp d_Law_law_247 ?_
      refine J_if_eq (tgt := 253) d_Law_law_248 (by decide) ?_ ?_
      · intro c387
        rw [if_pos c387] at H
        refine J.drop [true, true, true, true, true, false, false, false] rfl ?_
        exact p_Law_law_L253 hw hG hL hxs (kc := kc) (ks := ks) hKc53 H
      · intro c387
        rw [if_neg c387] at H
        refine J_iconst (v := 0) d_Law_law_251 (by decide) ?_
        have z386 : (0 : Int32) = 0 ∨ (0 : Int32) = 1 := by
          apply Classical.byContradiction
          intro q9
          rw [if_neg q9] at H
          cases H
        rw [if_pos z386] at H
        have H := Option.some.inj H
        subst H
        exact J_iret (st := []) d_Law_law_252 rfl (narrow_z z386).1 ⟨rfl, rfl, rfl⟩
  · intro c390
    rw [if_neg c390] at H
    refine J_iconst (v := 0) d_Law_law_234 (by decide) ?_
    have z389 : (0 : Int32) = 0 ∨ (0 : Int32) = 1 := by
      apply Classical.byContradiction
      intro q9
      rw [if_neg q9] at H
      cases H
    rw [if_pos z389] at H
    have H := Option.some.inj H
    subst H
    exact J_iret (st := []) d_Law_law_235 rfl (narrow_z z389).1 ⟨rfl, rfl, rfl⟩
def f_Law_law_L53 (Γ : gm_T) (L : Nat) (xs : Nat → Int32) : Nat → ph_T → Nat → Nat → Nat → Int32 → Option (Int32 × ph_T)
  | 0, _, _, _, _, _ => none
  | fu + 1, φ, x1, x2, x3, x4 =>
    if ((nI L) - (7 : Int32)) < x4 then
      @ite _ ((1 : Int32) = 0 ∨ (1 : Int32) = 1) _ (
      some ((1 : Int32), φ)
      ) none
    else
      Option.bind (ix x4 L) fun k392 =>
      if ((xs k392) &&& (31 : Int32)) = 0 then
        f_Law_law_L188 Γ L xs (f_Law_law_L53 Γ L xs fu) φ x1 x2 x3 x4
      else
        if ((xs k392) &&& (31 : Int32)) = 1 then
          f_Law_law_L256 Γ L xs (f_Law_law_L53 Γ L xs fu) φ x1 x2 x3 x4
        else
          if ((xs k392) &&& (31 : Int32)) = 2 then
            f_Law_law_L340 Γ L xs (f_Law_law_L53 Γ L xs fu) φ x1 x2 x3 x4
          else
            if ((xs k392) &&& (31 : Int32)) = 3 then
              f_Law_law_L420 Γ L xs (f_Law_law_L53 Γ L xs fu) φ x1 x2 x3 x4
            else
              if ((xs k392) &&& (31 : Int32)) = 4 then
                f_Law_law_L511 Γ L xs (f_Law_law_L53 Γ L xs fu) φ x1 x2 x3 x4
              else
                if ((xs k392) &&& (31 : Int32)) = 5 then
                  f_Law_law_L591 Γ L xs (f_Law_law_L53 Γ L xs fu) φ x1 x2 x3 x4
                else
                  if ((xs k392) &&& (31 : Int32)) = 6 then
                    f_Law_law_L671 Γ L xs (f_Law_law_L53 Γ L xs fu) φ x1 x2 x3 x4
                  else
                    if ((xs k392) &&& (31 : Int32)) = 7 then
                      f_Law_law_L767 Γ L xs (f_Law_law_L53 Γ L xs fu) φ x1 x2 x3 x4
                    else
                      if ((xs k392) &&& (31 : Int32)) = 8 then
                        f_Law_law_L835 Γ L xs (f_Law_law_L53 Γ L xs fu) φ x1 x2 x3 x4
                      else
                        if ((xs k392) &&& (31 : Int32)) = 9 then
                          f_Law_law_L891 Γ L xs (f_Law_law_L53 Γ L xs fu) φ x1 x2 x3 x4
                        else
                          if ((xs k392) &&& (31 : Int32)) = 10 then
                            f_Law_law_L1029 Γ L xs (f_Law_law_L53 Γ L xs fu) φ x1 x2 x3 x4
                          else
                            if ((xs k392) &&& (31 : Int32)) = 11 then
                              f_Law_law_L1085 Γ L xs (f_Law_law_L53 Γ L xs fu) φ x1 x2 x3 x4
                            else
                              if ((xs k392) &&& (31 : Int32)) = 12 then
                                f_Law_law_L1141 Γ L xs (f_Law_law_L53 Γ L xs fu) φ x1 x2 x3 x4
                              else
                                if ((xs k392) &&& (31 : Int32)) = 13 then
                                  f_Law_law_L1209 Γ L xs (f_Law_law_L53 Γ L xs fu) φ x1 x2 x3 x4
                                else
                                  if ((xs k392) &&& (31 : Int32)) = 14 then
                                    f_Law_law_L1276 Γ L xs (f_Law_law_L53 Γ L xs fu) φ x1 x2 x3 x4
                                  else
                                    if ((xs k392) &&& (31 : Int32)) = 15 then
                                      f_Law_law_L1320 Γ L xs (f_Law_law_L53 Γ L xs fu) φ x1 x2 x3 x4
                                    else
                                      if ((xs k392) &&& (31 : Int32)) = 16 then
                                        f_Law_law_L1412 Γ L xs (f_Law_law_L53 Γ L xs fu) φ x1 x2 x3 x4
                                      else
                                        if ((xs k392) &&& (31 : Int32)) = 17 then
                                          f_Law_law_L1491 Γ L xs (f_Law_law_L53 Γ L xs fu) φ x1 x2 x3 x4
                                        else
                                          if ((xs k392) &&& (31 : Int32)) = 18 then
                                            f_Law_law_L1571 Γ L xs (f_Law_law_L53 Γ L xs fu) φ x1 x2 x3 x4
                                          else
                                            if ((xs k392) &&& (31 : Int32)) = 19 then
                                              f_Law_law_L1639 Γ L xs (f_Law_law_L53 Γ L xs fu) φ x1 x2 x3 x4
                                            else
                                              if ((xs k392) &&& (31 : Int32)) = 20 then
                                                f_Law_law_L1707 Γ L xs (f_Law_law_L53 Γ L xs fu) φ x1 x2 x3 x4
                                              else
                                                if ((xs k392) &&& (31 : Int32)) = 21 then
                                                  f_Law_law_L1732 Γ L xs (f_Law_law_L53 Γ L xs fu) φ x1 x2 x3 x4
                                                else
                                                  if ((xs k392) &&& (31 : Int32)) = 22 then
                                                    f_Law_law_L1850 Γ L xs (f_Law_law_L53 Γ L xs fu) φ x1 x2 x3 x4
                                                  else
                                                    if ((xs k392) &&& (31 : Int32)) = 23 then
                                                      f_Law_law_L1906 Γ L xs (f_Law_law_L53 Γ L xs fu) φ x1 x2 x3 x4
                                                    else
                                                      if ((xs k392) &&& (31 : Int32)) = 24 then
                                                        f_Law_law_L1974 Γ L xs (f_Law_law_L53 Γ L xs fu) φ x1 x2 x3 x4
                                                      else
                                                        if ((xs k392) &&& (31 : Int32)) = 25 then
                                                          f_Law_law_L2010 Γ L xs (f_Law_law_L53 Γ L xs fu) φ x1 x2 x3 x4
                                                        else
                                                          f_Law_law_L2021 Γ L xs (f_Law_law_L53 Γ L xs fu) φ x1 x2 x3 x4
set_option maxRecDepth 100000 in
set_option maxHeartbeats 8000000 in
theorem p_Law_law_L53 {w : jw_T} (hw : jok w) {Γ : gm_T} {n : Nat} (hG : gd w Γ n) {L : Nat} {xs : Nat → Int32} (hL : jw_L w = L) (hxs : jw_xs w = xs) : ∀ (fu : Nat) {x : Bool} {φ : ph_T} {x1 : Nat} {x2 : Nat} {x3 : Nat} {x4 : Int32} {q : Int32 × ph_T}, f_Law_law_L53 Γ L xs fu φ x1 x2 x3 x4 = some q → J w M_Law_law 53 [some (.ref (jw_b w)), some (.ref x1), some (.ref x2), some (.ref x3), some (.int x4), none, none, none] [] (pic Γ φ) n x fu (6 * fu) (fq Γ n (.inl (some (.int q.1))) q.2) := by
  intro fu
  induction fu with
  | zero =>
    intro x φ x1 x2 x3 x4 q H
    cases H
  | succ fu ih =>
    intro x φ x1 x2 x3 x4 q H
    unfold f_Law_law_L53 at H
    refine J_iload d_Law_law_53 rfl ?_
    refine J_aload_n d_Law_law_55 rfl ?_
    refine J_slen (v := nI L) d_Law_law_56 (by rw [hL]) ?_
    refine J_bipush (v := 7) d_Law_law_57 (by decide) ?_
    refine J_isub d_Law_law_59 ?_
    refine J_icmp_gt (tgt := 2027) d_Law_law_60 (by decide) ?_ ?_
    · intro c419
      rw [if_pos c419] at H
      refine J_iconst (v := 1) d_Law_law_2027 (by decide) ?_
      have z391 : (1 : Int32) = 0 ∨ (1 : Int32) = 1 := by
        apply Classical.byContradiction
        intro q9
        rw [if_neg q9] at H
        cases H
      rw [if_pos z391] at H
      have H := Option.some.inj H
      subst H
      exact J_iret (st := []) d_Law_law_2028 rfl (narrow_z z391).1 ⟨rfl, rfl, rfl⟩
    · intro c419
      rw [if_neg c419] at H
      refine J_aload_n d_Law_law_63 rfl ?_
      refine J_iload d_Law_law_64 rfl ?_
      obtain ⟨k392, hk392, H⟩ := Option.bind_eq_some_iff.mp H
      refine J_sldx hL hxs k392 d_Law_law_66 (ix_some hk392) ?_
      refine J_bipush (v := 31) d_Law_law_67 (by decide) ?_
      refine J_iand d_Law_law_69 ?_
      by_cases c393 : ((xs k392) &&& (31 : Int32)) = 0
      · rw [if_pos c393] at H
        refine J_table (off := 118) (tgt := 188) d_Law_law_70 (by rw [c393]; decide) (by decide) ?_
        refine J.drop [true, true, true, true, true, false, false, false] rfl ?_
        exact p_Law_law_L188 hw hG hL hxs (kc := fu) (ks := 6 * fu) ih H
      · rw [if_neg c393] at H
        by_cases c394 : ((xs k392) &&& (31 : Int32)) = 1
        · rw [if_pos c394] at H
          refine J_table (off := 186) (tgt := 256) d_Law_law_70 (by rw [c394]; decide) (by decide) ?_
          refine J.drop [true, true, true, true, true, false, false, false] rfl ?_
          exact p_Law_law_L256 hw hG hL hxs (kc := fu) (ks := 6 * fu) ih H
        · rw [if_neg c394] at H
          by_cases c395 : ((xs k392) &&& (31 : Int32)) = 2
          · rw [if_pos c395] at H
            refine J_table (off := 270) (tgt := 340) d_Law_law_70 (by rw [c395]; decide) (by decide) ?_
            refine J.drop [true, true, true, true, true, false, false, false] rfl ?_
            exact p_Law_law_L340 hw hG hL hxs (kc := fu) (ks := 6 * fu) ih H
          · rw [if_neg c395] at H
            by_cases c396 : ((xs k392) &&& (31 : Int32)) = 3
            · rw [if_pos c396] at H
              refine J_table (off := 350) (tgt := 420) d_Law_law_70 (by rw [c396]; decide) (by decide) ?_
              refine J.drop [true, true, true, true, true, false, false, false] rfl ?_
              exact p_Law_law_L420 hw hG hL hxs (kc := fu) (ks := 6 * fu) ih H
            · rw [if_neg c396] at H
              by_cases c397 : ((xs k392) &&& (31 : Int32)) = 4
              · rw [if_pos c397] at H
                refine J_table (off := 441) (tgt := 511) d_Law_law_70 (by rw [c397]; decide) (by decide) ?_
                refine J.drop [true, true, true, true, true, false, false, false] rfl ?_
                exact p_Law_law_L511 hw hG hL hxs (kc := fu) (ks := 6 * fu) ih H
              · rw [if_neg c397] at H
                by_cases c398 : ((xs k392) &&& (31 : Int32)) = 5
                · rw [if_pos c398] at H
                  refine J_table (off := 521) (tgt := 591) d_Law_law_70 (by rw [c398]; decide) (by decide) ?_
                  refine J.drop [true, true, true, true, true, false, false, false] rfl ?_
                  exact p_Law_law_L591 hw hG hL hxs (kc := fu) (ks := 6 * fu) ih H
                · rw [if_neg c398] at H
                  by_cases c399 : ((xs k392) &&& (31 : Int32)) = 6
                  · rw [if_pos c399] at H
                    refine J_table (off := 601) (tgt := 671) d_Law_law_70 (by rw [c399]; decide) (by decide) ?_
                    refine J.drop [true, true, true, true, true, false, false, false] rfl ?_
                    exact p_Law_law_L671 hw hG hL hxs (kc := fu) (ks := 6 * fu) ih H
                  · rw [if_neg c399] at H
                    by_cases c400 : ((xs k392) &&& (31 : Int32)) = 7
                    · rw [if_pos c400] at H
                      refine J_table (off := 697) (tgt := 767) d_Law_law_70 (by rw [c400]; decide) (by decide) ?_
                      refine J.drop [true, true, true, true, true, false, false, false] rfl ?_
                      exact p_Law_law_L767 hw hG hL hxs (kc := fu) (ks := 6 * fu) ih H
                    · rw [if_neg c400] at H
                      by_cases c401 : ((xs k392) &&& (31 : Int32)) = 8
                      · rw [if_pos c401] at H
                        refine J_table (off := 765) (tgt := 835) d_Law_law_70 (by rw [c401]; decide) (by decide) ?_
                        refine J.drop [true, true, true, true, true, false, false, false] rfl ?_
                        exact p_Law_law_L835 hw hG hL hxs (kc := fu) (ks := 6 * fu) ih H
                      · rw [if_neg c401] at H
                        by_cases c402 : ((xs k392) &&& (31 : Int32)) = 9
                        · rw [if_pos c402] at H
                          refine J_table (off := 821) (tgt := 891) d_Law_law_70 (by rw [c402]; decide) (by decide) ?_
                          refine J.drop [true, true, true, true, true, false, false, false] rfl ?_
                          exact p_Law_law_L891 hw hG hL hxs (kc := fu) (ks := 6 * fu) ih H
                        · rw [if_neg c402] at H
                          by_cases c403 : ((xs k392) &&& (31 : Int32)) = 10
                          · rw [if_pos c403] at H
                            refine J_table (off := 959) (tgt := 1029) d_Law_law_70 (by rw [c403]; decide) (by decide) ?_
                            refine J.drop [true, true, true, true, true, false, false, false] rfl ?_
                            exact p_Law_law_L1029 hw hG hL hxs (kc := fu) (ks := 6 * fu) ih H
                          · rw [if_neg c403] at H
                            by_cases c404 : ((xs k392) &&& (31 : Int32)) = 11
                            · rw [if_pos c404] at H
                              refine J_table (off := 1015) (tgt := 1085) d_Law_law_70 (by rw [c404]; decide) (by decide) ?_
                              refine J.drop [true, true, true, true, true, false, false, false] rfl ?_
                              exact p_Law_law_L1085 hw hG hL hxs (kc := fu) (ks := 6 * fu) ih H
                            · rw [if_neg c404] at H
                              by_cases c405 : ((xs k392) &&& (31 : Int32)) = 12
                              · rw [if_pos c405] at H
                                refine J_table (off := 1071) (tgt := 1141) d_Law_law_70 (by rw [c405]; decide) (by decide) ?_
                                refine J.drop [true, true, true, true, true, false, false, false] rfl ?_
                                exact p_Law_law_L1141 hw hG hL hxs (kc := fu) (ks := 6 * fu) ih H
                              · rw [if_neg c405] at H
                                by_cases c406 : ((xs k392) &&& (31 : Int32)) = 13
                                · rw [if_pos c406] at H
                                  refine J_table (off := 1139) (tgt := 1209) d_Law_law_70 (by rw [c406]; decide) (by decide) ?_
                                  refine J.drop [true, true, true, true, true, false, false, false] rfl ?_
                                  exact p_Law_law_L1209 hw hG hL hxs (kc := fu) (ks := 6 * fu) ih H
                                · rw [if_neg c406] at H
                                  by_cases c407 : ((xs k392) &&& (31 : Int32)) = 14
                                  · rw [if_pos c407] at H
                                    refine J_table (off := 1206) (tgt := 1276) d_Law_law_70 (by rw [c407]; decide) (by decide) ?_
                                    refine J.drop [true, true, true, true, true, false, false, false] rfl ?_
                                    exact p_Law_law_L1276 hw hG hL hxs (kc := fu) (ks := 6 * fu) ih H
                                  · rw [if_neg c407] at H
                                    by_cases c408 : ((xs k392) &&& (31 : Int32)) = 15
                                    · rw [if_pos c408] at H
                                      refine J_table (off := 1250) (tgt := 1320) d_Law_law_70 (by rw [c408]; decide) (by decide) ?_
                                      refine J.drop [true, true, true, true, true, false, false, false] rfl ?_
                                      exact p_Law_law_L1320 hw hG hL hxs (kc := fu) (ks := 6 * fu) ih H
                                    · rw [if_neg c408] at H
                                      by_cases c409 : ((xs k392) &&& (31 : Int32)) = 16
                                      · rw [if_pos c409] at H
                                        refine J_table (off := 1342) (tgt := 1412) d_Law_law_70 (by rw [c409]; decide) (by decide) ?_
                                        refine J.drop [true, true, true, true, true, false, false, false] rfl ?_
                                        exact p_Law_law_L1412 hw hG hL hxs (kc := fu) (ks := 6 * fu) ih H
                                      · rw [if_neg c409] at H
                                        by_cases c410 : ((xs k392) &&& (31 : Int32)) = 17
                                        · rw [if_pos c410] at H
                                          refine J_table (off := 1421) (tgt := 1491) d_Law_law_70 (by rw [c410]; decide) (by decide) ?_
                                          refine J.drop [true, true, true, true, true, false, false, false] rfl ?_
                                          exact p_Law_law_L1491 hw hG hL hxs (kc := fu) (ks := 6 * fu) ih H
                                        · rw [if_neg c410] at H
                                          by_cases c411 : ((xs k392) &&& (31 : Int32)) = 18
                                          · rw [if_pos c411] at H
                                            refine J_table (off := 1501) (tgt := 1571) d_Law_law_70 (by rw [c411]; decide) (by decide) ?_
                                            refine J.drop [true, true, true, true, true, false, false, false] rfl ?_
                                            exact p_Law_law_L1571 hw hG hL hxs (kc := fu) (ks := 6 * fu) ih H
                                          · rw [if_neg c411] at H
                                            by_cases c412 : ((xs k392) &&& (31 : Int32)) = 19
                                            · rw [if_pos c412] at H
                                              refine J_table (off := 1569) (tgt := 1639) d_Law_law_70 (by rw [c412]; decide) (by decide) ?_
                                              refine J.drop [true, true, true, true, true, false, false, false] rfl ?_
                                              exact p_Law_law_L1639 hw hG hL hxs (kc := fu) (ks := 6 * fu) ih H
                                            · rw [if_neg c412] at H
                                              by_cases c413 : ((xs k392) &&& (31 : Int32)) = 20
                                              · rw [if_pos c413] at H
                                                refine J_table (off := 1637) (tgt := 1707) d_Law_law_70 (by rw [c413]; decide) (by decide) ?_
                                                refine J.drop [true, true, true, true, true, false, false, false] rfl ?_
                                                exact p_Law_law_L1707 hw hG hL hxs (kc := fu) (ks := 6 * fu) ih H
                                              · rw [if_neg c413] at H
                                                by_cases c414 : ((xs k392) &&& (31 : Int32)) = 21
                                                · rw [if_pos c414] at H
                                                  refine J_table (off := 1662) (tgt := 1732) d_Law_law_70 (by rw [c414]; decide) (by decide) ?_
                                                  refine J.drop [true, true, true, true, true, false, false, false] rfl ?_
                                                  exact p_Law_law_L1732 hw hG hL hxs (kc := fu) (ks := 6 * fu) ih H
                                                · rw [if_neg c414] at H
                                                  by_cases c415 : ((xs k392) &&& (31 : Int32)) = 22
                                                  · rw [if_pos c415] at H
                                                    refine J_table (off := 1780) (tgt := 1850) d_Law_law_70 (by rw [c415]; decide) (by decide) ?_
                                                    refine J.drop [true, true, true, true, true, false, false, false] rfl ?_
                                                    exact p_Law_law_L1850 hw hG hL hxs (kc := fu) (ks := 6 * fu) ih H
                                                  · rw [if_neg c415] at H
                                                    by_cases c416 : ((xs k392) &&& (31 : Int32)) = 23
                                                    · rw [if_pos c416] at H
                                                      refine J_table (off := 1836) (tgt := 1906) d_Law_law_70 (by rw [c416]; decide) (by decide) ?_
                                                      refine J.drop [true, true, true, true, true, false, false, false] rfl ?_
                                                      exact p_Law_law_L1906 hw hG hL hxs (kc := fu) (ks := 6 * fu) ih H
                                                    · rw [if_neg c416] at H
                                                      by_cases c417 : ((xs k392) &&& (31 : Int32)) = 24
                                                      · rw [if_pos c417] at H
                                                        refine J_table (off := 1904) (tgt := 1974) d_Law_law_70 (by rw [c417]; decide) (by decide) ?_
                                                        refine J.drop [true, true, true, true, true, false, false, false] rfl ?_
                                                        exact p_Law_law_L1974 hw hG hL hxs (kc := fu) (ks := 6 * fu) ih H
                                                      · rw [if_neg c417] at H
                                                        by_cases c418 : ((xs k392) &&& (31 : Int32)) = 25
                                                        · rw [if_pos c418] at H
                                                          refine J_table (off := 1940) (tgt := 2010) d_Law_law_70 (by rw [c418]; decide) (by decide) ?_
                                                          refine J.drop [true, true, true, true, true, false, false, false] rfl ?_
                                                          exact p_Law_law_L2010 hw hG hL hxs (kc := fu) (ks := 6 * fu) ih H
                                                        · rw [if_neg c418] at H
                                                          refine J_table (off := 1951) (tgt := 2021) d_Law_law_70 (by
                                                              rw [if_pos (by
                                                                apply Classical.byContradiction
                                                                intro h9
                                                                have h8 : (((xs k392) &&& (31 : Int32))).toInt = 0 ∨ (((xs k392) &&& (31 : Int32))).toInt = 1 ∨ (((xs k392) &&& (31 : Int32))).toInt = 2 ∨ (((xs k392) &&& (31 : Int32))).toInt = 3 ∨ (((xs k392) &&& (31 : Int32))).toInt = 4 ∨ (((xs k392) &&& (31 : Int32))).toInt = 5 ∨ (((xs k392) &&& (31 : Int32))).toInt = 6 ∨ (((xs k392) &&& (31 : Int32))).toInt = 7 ∨ (((xs k392) &&& (31 : Int32))).toInt = 8 ∨ (((xs k392) &&& (31 : Int32))).toInt = 9 ∨ (((xs k392) &&& (31 : Int32))).toInt = 10 ∨ (((xs k392) &&& (31 : Int32))).toInt = 11 ∨ (((xs k392) &&& (31 : Int32))).toInt = 12 ∨ (((xs k392) &&& (31 : Int32))).toInt = 13 ∨ (((xs k392) &&& (31 : Int32))).toInt = 14 ∨ (((xs k392) &&& (31 : Int32))).toInt = 15 ∨ (((xs k392) &&& (31 : Int32))).toInt = 16 ∨ (((xs k392) &&& (31 : Int32))).toInt = 17 ∨ (((xs k392) &&& (31 : Int32))).toInt = 18 ∨ (((xs k392) &&& (31 : Int32))).toInt = 19 ∨ (((xs k392) &&& (31 : Int32))).toInt = 20 ∨ (((xs k392) &&& (31 : Int32))).toInt = 21 ∨ (((xs k392) &&& (31 : Int32))).toInt = 22 ∨ (((xs k392) &&& (31 : Int32))).toInt = 23 ∨ (((xs k392) &&& (31 : Int32))).toInt = 24 ∨ (((xs k392) &&& (31 : Int32))).toInt = 25 := by omega
                                                                rcases h8 with h8 | h8 | h8 | h8 | h8 | h8 | h8 | h8 | h8 | h8 | h8 | h8 | h8 | h8 | h8 | h8 | h8 | h8 | h8 | h8 | h8 | h8 | h8 | h8 | h8 | h8
                                                                · exact c393 (j_inj (by rw [h8]; decide))
                                                                · exact c394 (j_inj (by rw [h8]; decide))
                                                                · exact c395 (j_inj (by rw [h8]; decide))
                                                                · exact c396 (j_inj (by rw [h8]; decide))
                                                                · exact c397 (j_inj (by rw [h8]; decide))
                                                                · exact c398 (j_inj (by rw [h8]; decide))
                                                                · exact c399 (j_inj (by rw [h8]; decide))
                                                                · exact c400 (j_inj (by rw [h8]; decide))
                                                                · exact c401 (j_inj (by rw [h8]; decide))
                                                                · exact c402 (j_inj (by rw [h8]; decide))
                                                                · exact c403 (j_inj (by rw [h8]; decide))
                                                                · exact c404 (j_inj (by rw [h8]; decide))
                                                                · exact c405 (j_inj (by rw [h8]; decide))
                                                                · exact c406 (j_inj (by rw [h8]; decide))
                                                                · exact c407 (j_inj (by rw [h8]; decide))
                                                                · exact c408 (j_inj (by rw [h8]; decide))
                                                                · exact c409 (j_inj (by rw [h8]; decide))
                                                                · exact c410 (j_inj (by rw [h8]; decide))
                                                                · exact c411 (j_inj (by rw [h8]; decide))
                                                                · exact c412 (j_inj (by rw [h8]; decide))
                                                                · exact c413 (j_inj (by rw [h8]; decide))
                                                                · exact c414 (j_inj (by rw [h8]; decide))
                                                                · exact c415 (j_inj (by rw [h8]; decide))
                                                                · exact c416 (j_inj (by rw [h8]; decide))
                                                                · exact c417 (j_inj (by rw [h8]; decide))
                                                                · exact c418 (j_inj (by rw [h8]; decide)))]) (by decide) ?_
                                                          refine J.more (kc := fu) (ks := 6 * fu) (by omega) (by omega) ?_
                                                          refine J.drop [true, true, true, true, true, false, false, false] rfl ?_
                                                          exact p_Law_law_L2021 hw hG hL hxs (kc := fu) (ks := 6 * fu) ih H
