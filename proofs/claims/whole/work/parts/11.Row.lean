theorem ln_Row_hasRoom : (parseMethodDescriptor y_Row_hasRoom.desc).map (fun q => q.parameters.length) = some 0 := by decide +kernel
def f_Row_hasRoom_L17 (Γ : gm_T)  (φ : ph_T) (y0 : Int32) : Option (Int32 × ph_T) :=
  @ite _ (y0 = 0 ∨ y0 = 1) _ (
  some (y0, φ)
  ) none
set_option maxRecDepth 100000 in
set_option maxHeartbeats 4000000 in
theorem p_Row_hasRoom_L17 {w : jw_T} (hw : jok w) {Γ : gm_T} {n : Nat} (hG : gd w Γ n)  {x : Bool} {φ : ph_T} {y0 : Int32} {q : Int32 × ph_T} (H : f_Row_hasRoom_L17 Γ  φ y0 = some q) : J w M_Row_hasRoom 17 [none] [.int y0] (pic Γ φ) n x 0 0 (fq Γ n (.inl (some (.int q.1))) q.2) := by
  unfold f_Row_hasRoom_L17 at H
  have z1 : y0 = 0 ∨ y0 = 1 := by
    apply Classical.byContradiction
    intro q9
    rw [if_neg q9] at H
    cases H
  rw [if_pos z1] at H
  cases H
  exact J_iret (st := []) d_Row_hasRoom_17 rfl (narrow_z z1).1 ⟨rfl, rfl, rfl⟩
def f_Row_hasRoom (Γ : gm_T) (φ : ph_T) (this : Nat) : Option (Int32 × ph_T) :=
  @ite _ (Γ this = .inr 3) _ (
  Option.bind (φ.2.2 this 0) fun a3 =>
  Option.bind (gA Γ a3 1) fun N4 =>
  if (nI N4) ≤ (φ.1 this 3) then
    f_Row_hasRoom_L17 Γ  φ (0 : Int32)
  else
    f_Row_hasRoom_L17 Γ  φ (1 : Int32)
  ) none
set_option maxRecDepth 100000 in
set_option maxHeartbeats 4000000 in
theorem p_Row_hasRoom {w : jw_T} (hw : jok w) {Γ : gm_T} {n : Nat} (hG : gd w Γ n) {x : Bool} {φ : ph_T} {this : Nat} {q : Int32 × ph_T} (H : f_Row_hasRoom Γ φ this = some q) : jc w M_Row_hasRoom [.ref this] (pic Γ φ) n x 0 0 (fq Γ n (.inl (some (.int q.1))) q.2) := by
  refine jc.of (by first | exact Nat.le_of_ble_eq_true rfl | simp [jent, va_rf_cat, Value.category, M_Row_hasRoom]) ?_
  have hls : jents [.ref this] (jm_nL M_Row_hasRoom) = [some (.ref this)] := by first | rfl | simp [jents, jent, va_rf_cat, Value.category, List.replicate, M_Row_hasRoom]
  rw [hls]
  clear hls
  unfold f_Row_hasRoom at H
  refine J_aload_n d_Row_hasRoom_0 rfl ?_
  have g2 : Γ this = .inr 3 := by
    apply Classical.byContradiction
    intro q9
    rw [if_neg q9] at H
    cases H
  rw [if_pos g2] at H
  refine F_getI (ci := 3) (k := 3) hG (cf_Row hw) (fl_Row_20 hw) (by decide) (by decide) rfl d_Row_hasRoom_1 g2 ?_
  refine J_aload_n d_Row_hasRoom_4 rfl ?_
  refine F_getR (ci := 3) (k := 0) hG (cf_Row hw) (fl_Row_7 hw) (by decide) (by decide) rfl d_Row_hasRoom_5 g2 ?_
  obtain ⟨a3, ha3, H⟩ := Option.bind_eq_some_iff.mp H
  rw [ha3]
  obtain ⟨N4, hN4, H⟩ := Option.bind_eq_some_iff.mp H
  refine F_alen hw hG (t := 1) rfl d_Row_hasRoom_8 (gA_some hN4) ?_
  refine J_icmp_ge (tgt := 16) d_Row_hasRoom_9 (by decide) ?_ ?_
  · intro c5
    rw [if_pos c5] at H
    refine J_iconst (v := 0) d_Row_hasRoom_16 (by decide) ?_
    refine J.drop [false] rfl ?_
    exact p_Row_hasRoom_L17 hw hG  H
  · intro c5
    rw [if_neg c5] at H
    refine J_iconst (v := 1) d_Row_hasRoom_12 (by decide) ?_
    refine J_goto (tgt := 17) d_Row_hasRoom_13 (by decide) ?_
    refine J.drop [false] rfl ?_
    exact p_Row_hasRoom_L17 hw hG  H
theorem ln_Row_holds : (parseMethodDescriptor y_Row_holds.desc).map (fun q => q.parameters.length) = some 0 := by decide +kernel
def f_Row_holds_L12 (Γ : gm_T)  (φ : ph_T) (y0 : Int32) : Option (Int32 × ph_T) :=
  @ite _ (y0 = 0 ∨ y0 = 1) _ (
  some (y0, φ)
  ) none
set_option maxRecDepth 100000 in
set_option maxHeartbeats 4000000 in
theorem p_Row_holds_L12 {w : jw_T} (hw : jok w) {Γ : gm_T} {n : Nat} (hG : gd w Γ n)  {x : Bool} {φ : ph_T} {y0 : Int32} {q : Int32 × ph_T} (H : f_Row_holds_L12 Γ  φ y0 = some q) : J w M_Row_holds 12 [none] [.int y0] (pic Γ φ) n x 0 0 (fq Γ n (.inl (some (.int q.1))) q.2) := by
  unfold f_Row_holds_L12 at H
  have z1 : y0 = 0 ∨ y0 = 1 := by
    apply Classical.byContradiction
    intro q9
    rw [if_neg q9] at H
    cases H
  rw [if_pos z1] at H
  cases H
  exact J_iret (st := []) d_Row_holds_12 rfl (narrow_z z1).1 ⟨rfl, rfl, rfl⟩
def f_Row_holds (Γ : gm_T) (φ : ph_T) (this : Nat) : Option (Int32 × ph_T) :=
  @ite _ (Γ this = .inr 3) _ (
  if (φ.1 this 3) ≤ 0 then
    f_Row_holds_L12 Γ  φ (0 : Int32)
  else
    f_Row_holds_L12 Γ  φ (1 : Int32)
  ) none
set_option maxRecDepth 100000 in
set_option maxHeartbeats 4000000 in
theorem p_Row_holds {w : jw_T} (hw : jok w) {Γ : gm_T} {n : Nat} (hG : gd w Γ n) {x : Bool} {φ : ph_T} {this : Nat} {q : Int32 × ph_T} (H : f_Row_holds Γ φ this = some q) : jc w M_Row_holds [.ref this] (pic Γ φ) n x 0 0 (fq Γ n (.inl (some (.int q.1))) q.2) := by
  refine jc.of (by first | exact Nat.le_of_ble_eq_true rfl | simp [jent, va_rf_cat, Value.category, M_Row_holds]) ?_
  have hls : jents [.ref this] (jm_nL M_Row_holds) = [some (.ref this)] := by first | rfl | simp [jents, jent, va_rf_cat, Value.category, List.replicate, M_Row_holds]
  rw [hls]
  clear hls
  unfold f_Row_holds at H
  refine J_aload_n d_Row_holds_0 rfl ?_
  have g2 : Γ this = .inr 3 := by
    apply Classical.byContradiction
    intro q9
    rw [if_neg q9] at H
    cases H
  rw [if_pos g2] at H
  refine F_getI (ci := 3) (k := 3) hG (cf_Row hw) (fl_Row_20 hw) (by decide) (by decide) rfl d_Row_holds_1 g2 ?_
  refine J_if_le (tgt := 11) d_Row_holds_4 (by decide) ?_ ?_
  · intro c3
    rw [if_pos c3] at H
    refine J_iconst (v := 0) d_Row_holds_11 (by decide) ?_
    refine J.drop [false] rfl ?_
    exact p_Row_holds_L12 hw hG  H
  · intro c3
    rw [if_neg c3] at H
    refine J_iconst (v := 1) d_Row_holds_7 (by decide) ?_
    refine J_goto (tgt := 12) d_Row_holds_8 (by decide) ?_
    refine J.drop [false] rfl ?_
    exact p_Row_holds_L12 hw hG  H
theorem ln_Row_firstContent : (parseMethodDescriptor y_Row_firstContent.desc).map (fun q => q.parameters.length) = some 0 := by decide +kernel
def f_Row_firstContent_L17 (Γ : gm_T)  (φ : ph_T) (y0 : Int64) : Option (Int64 × ph_T) :=
  some (y0, φ)
set_option maxRecDepth 100000 in
set_option maxHeartbeats 4000000 in
theorem p_Row_firstContent_L17 {w : jw_T} (hw : jok w) {Γ : gm_T} {n : Nat} (hG : gd w Γ n)  {x : Bool} {φ : ph_T} {y0 : Int64} {q : Int64 × ph_T} (H : f_Row_firstContent_L17 Γ  φ y0 = some q) : J w M_Row_firstContent 17 [none] [.long y0] (pic Γ φ) n x 0 0 (fq Γ n (.inl (some (.long q.1))) q.2) := by
  unfold f_Row_firstContent_L17 at H
  cases H
  exact J_lret (st := []) d_Row_firstContent_17 rfl ⟨rfl, rfl, rfl⟩
def f_Row_firstContent (Γ : gm_T) (φ : ph_T) (this : Nat) : Option (Int64 × ph_T) :=
  @ite _ (Γ this = .inr 3) _ (
  if (φ.1 this 3) ≤ 0 then
    f_Row_firstContent_L17 Γ  φ (0 : Int64)
  else
    Option.bind (φ.2.2 this 0) fun a2 =>
    Option.bind (gA Γ a2 1) fun N3 =>
    Option.bind (ix (0 : Int32) N3) fun k4 =>
    f_Row_firstContent_L17 Γ  φ (φ.2.1 a2 k4)
  ) none
set_option maxRecDepth 100000 in
set_option maxHeartbeats 4000000 in
theorem p_Row_firstContent {w : jw_T} (hw : jok w) {Γ : gm_T} {n : Nat} (hG : gd w Γ n) {x : Bool} {φ : ph_T} {this : Nat} {q : Int64 × ph_T} (H : f_Row_firstContent Γ φ this = some q) : jc w M_Row_firstContent [.ref this] (pic Γ φ) n x 0 0 (fq Γ n (.inl (some (.long q.1))) q.2) := by
  refine jc.of (by first | exact Nat.le_of_ble_eq_true rfl | simp [jent, va_rf_cat, Value.category, M_Row_firstContent]) ?_
  have hls : jents [.ref this] (jm_nL M_Row_firstContent) = [some (.ref this)] := by first | rfl | simp [jents, jent, va_rf_cat, Value.category, List.replicate, M_Row_firstContent]
  rw [hls]
  clear hls
  unfold f_Row_firstContent at H
  refine J_aload_n d_Row_firstContent_0 rfl ?_
  have g1 : Γ this = .inr 3 := by
    apply Classical.byContradiction
    intro q9
    rw [if_neg q9] at H
    cases H
  rw [if_pos g1] at H
  refine F_getI (ci := 3) (k := 3) hG (cf_Row hw) (fl_Row_20 hw) (by decide) (by decide) rfl d_Row_firstContent_1 g1 ?_
  refine J_if_le (tgt := 16) d_Row_firstContent_4 (by decide) ?_ ?_
  · intro c5
    rw [if_pos c5] at H
    refine J_lconst (v := 0) d_Row_firstContent_16 (by decide) ?_
    refine J.drop [false] rfl ?_
    exact p_Row_firstContent_L17 hw hG  H
  · intro c5
    rw [if_neg c5] at H
    refine J_aload_n d_Row_firstContent_7 rfl ?_
    refine F_getR (ci := 3) (k := 0) hG (cf_Row hw) (fl_Row_7 hw) (by decide) (by decide) rfl d_Row_firstContent_8 g1 ?_
    refine J_iconst (v := 0) d_Row_firstContent_11 (by decide) ?_
    obtain ⟨a2, ha2, H⟩ := Option.bind_eq_some_iff.mp H
    rw [ha2]
    obtain ⟨N3, hN3, H⟩ := Option.bind_eq_some_iff.mp H
    obtain ⟨k4, hk4, H⟩ := Option.bind_eq_some_iff.mp H
    refine F_lald k4 hw hG d_Row_firstContent_12 (gA_some hN3) (ix_some hk4) ?_
    refine J_goto (tgt := 17) d_Row_firstContent_13 (by decide) ?_
    refine J.drop [false] rfl ?_
    exact p_Row_firstContent_L17 hw hG  H
theorem ln_Row_firstRest : (parseMethodDescriptor y_Row_firstRest.desc).map (fun q => q.parameters.length) = some 0 := by decide +kernel
def f_Row_firstRest_L17 (Γ : gm_T)  (φ : ph_T) (y0 : Int32) : Option (Int32 × ph_T) :=
  some (y0, φ)
set_option maxRecDepth 100000 in
set_option maxHeartbeats 4000000 in
theorem p_Row_firstRest_L17 {w : jw_T} (hw : jok w) {Γ : gm_T} {n : Nat} (hG : gd w Γ n)  {x : Bool} {φ : ph_T} {y0 : Int32} {q : Int32 × ph_T} (H : f_Row_firstRest_L17 Γ  φ y0 = some q) : J w M_Row_firstRest 17 [none] [.int y0] (pic Γ φ) n x 0 0 (fq Γ n (.inl (some (.int q.1))) q.2) := by
  unfold f_Row_firstRest_L17 at H
  cases H
  exact J_iret (st := []) d_Row_firstRest_17 rfl rfl ⟨rfl, rfl, rfl⟩
def f_Row_firstRest (Γ : gm_T) (φ : ph_T) (this : Nat) : Option (Int32 × ph_T) :=
  @ite _ (Γ this = .inr 3) _ (
  if (φ.1 this 3) ≤ 0 then
    f_Row_firstRest_L17 Γ  φ (0 : Int32)
  else
    Option.bind (φ.2.2 this 1) fun a2 =>
    Option.bind (gA Γ a2 0) fun N3 =>
    Option.bind (ix (0 : Int32) N3) fun k4 =>
    f_Row_firstRest_L17 Γ  φ (φ.1 a2 k4)
  ) none
set_option maxRecDepth 100000 in
set_option maxHeartbeats 4000000 in
theorem p_Row_firstRest {w : jw_T} (hw : jok w) {Γ : gm_T} {n : Nat} (hG : gd w Γ n) {x : Bool} {φ : ph_T} {this : Nat} {q : Int32 × ph_T} (H : f_Row_firstRest Γ φ this = some q) : jc w M_Row_firstRest [.ref this] (pic Γ φ) n x 0 0 (fq Γ n (.inl (some (.int q.1))) q.2) := by
  refine jc.of (by first | exact Nat.le_of_ble_eq_true rfl | simp [jent, va_rf_cat, Value.category, M_Row_firstRest]) ?_
  have hls : jents [.ref this] (jm_nL M_Row_firstRest) = [some (.ref this)] := by first | rfl | simp [jents, jent, va_rf_cat, Value.category, List.replicate, M_Row_firstRest]
  rw [hls]
  clear hls
  unfold f_Row_firstRest at H
  refine J_aload_n d_Row_firstRest_0 rfl ?_
  have g1 : Γ this = .inr 3 := by
    apply Classical.byContradiction
    intro q9
    rw [if_neg q9] at H
    cases H
  rw [if_pos g1] at H
  refine F_getI (ci := 3) (k := 3) hG (cf_Row hw) (fl_Row_20 hw) (by decide) (by decide) rfl d_Row_firstRest_1 g1 ?_
  refine J_if_le (tgt := 16) d_Row_firstRest_4 (by decide) ?_ ?_
  · intro c5
    rw [if_pos c5] at H
    refine J_iconst (v := 0) d_Row_firstRest_16 (by decide) ?_
    refine J.drop [false] rfl ?_
    exact p_Row_firstRest_L17 hw hG  H
  · intro c5
    rw [if_neg c5] at H
    refine J_aload_n d_Row_firstRest_7 rfl ?_
    refine F_getR (ci := 3) (k := 1) hG (cf_Row hw) (fl_Row_13 hw) (by decide) (by decide) rfl d_Row_firstRest_8 g1 ?_
    refine J_iconst (v := 0) d_Row_firstRest_11 (by decide) ?_
    obtain ⟨a2, ha2, H⟩ := Option.bind_eq_some_iff.mp H
    rw [ha2]
    obtain ⟨N3, hN3, H⟩ := Option.bind_eq_some_iff.mp H
    obtain ⟨k4, hk4, H⟩ := Option.bind_eq_some_iff.mp H
    refine F_iald k4 hw hG d_Row_firstRest_12 (gA_some hN3) (ix_some hk4) ?_
    refine J_goto (tgt := 17) d_Row_firstRest_13 (by decide) ?_
    refine J.drop [false] rfl ?_
    exact p_Row_firstRest_L17 hw hG  H
theorem ln_Row_put : (parseMethodDescriptor y_Row_put.desc).map (fun q => q.parameters.length) = some 3 := by decide +kernel
def f_Row_put_L48 (Γ : gm_T)  (φ : ph_T) : Option (Unit × ph_T) :=
  some ((), φ)
set_option maxRecDepth 100000 in
set_option maxHeartbeats 4000000 in
theorem p_Row_put_L48 {w : jw_T} (hw : jok w) {Γ : gm_T} {n : Nat} (hG : gd w Γ n)  {x : Bool} {φ : ph_T} {q : Unit × ph_T} (H : f_Row_put_L48 Γ  φ  = some q) : J w M_Row_put 48 [none, none, none, none, none] [] (pic Γ φ) n x 0 0 (fq Γ n (.inl none) q.2) := by
  unfold f_Row_put_L48 at H
  cases H
  exact J_vret (st := []) d_Row_put_48 rfl ⟨rfl, rfl, rfl⟩
def f_Row_put (Γ : gm_T) (φ : ph_T) (this : Nat) (p0 : Int64) (p1 : Int32) (p2 : Int32) : Option (Unit × ph_T) :=
  @ite _ (Γ this = .inr 3) _ (
  Option.bind (f_Row_hasRoom Γ φ this) fun q2 =>
  if q2.1 = 0 then
    f_Row_put_L48 Γ  q2.2 
  else
    Option.bind (q2.2.2.2 this 0) fun a3 =>
    Option.bind (gA Γ a3 1) fun N4 =>
    Option.bind (ix (q2.2.1 this 3) N4) fun k5 =>
    Option.bind ((uL q2.2 a3 k5 p0).2.2 this 1) fun a6 =>
    Option.bind (gA Γ a6 0) fun N7 =>
    Option.bind (ix ((uL q2.2 a3 k5 p0).1 this 3) N7) fun k8 =>
    Option.bind ((uI (uL q2.2 a3 k5 p0) a6 k8 p1).2.2 this 2) fun a9 =>
    Option.bind (gA Γ a9 0) fun N10 =>
    Option.bind (ix ((uI (uL q2.2 a3 k5 p0) a6 k8 p1).1 this 3) N10) fun k11 =>
    f_Row_put_L48 Γ  (uI (uI (uI (uL q2.2 a3 k5 p0) a6 k8 p1) a9 k11 p2) this 3 (((uI (uI (uL q2.2 a3 k5 p0) a6 k8 p1) a9 k11 p2).1 this 3) + (1 : Int32))) 
  ) none
set_option maxRecDepth 100000 in
set_option maxHeartbeats 4000000 in
theorem p_Row_put {w : jw_T} (hw : jok w) {Γ : gm_T} {n : Nat} (hG : gd w Γ n) {x : Bool} {φ : ph_T} {this : Nat} {p0 : Int64} {p1 : Int32} {p2 : Int32} {q : Unit × ph_T} (H : f_Row_put Γ φ this p0 p1 p2 = some q) : jc w M_Row_put [.ref this, .long p0, .int p1, .int p2] (pic Γ φ) n x 0 0 (fq Γ n (.inl none) q.2) := by
  refine jc.of (by first | exact Nat.le_of_ble_eq_true rfl | simp [jent, va_rf_cat, Value.category, M_Row_put]) ?_
  have hls : jents [.ref this, .long p0, .int p1, .int p2] (jm_nL M_Row_put) = [some (.ref this), some (.long p0), none, some (.int p1), some (.int p2)] := by first | rfl | simp [jents, jent, va_rf_cat, Value.category, List.replicate, M_Row_put]
  rw [hls]
  clear hls
  unfold f_Row_put at H
  refine J_aload_n d_Row_put_0 rfl ?_
  have g1 : Γ this = .inr 3 := by
    apply Classical.byContradiction
    intro q9
    rw [if_neg q9] at H
    cases H
  rw [if_pos g1] at H
  obtain ⟨q2, hq2, H⟩ := Option.bind_eq_some_iff.mp H
  refine J_callV (kc := 0) (ks := 0) (kc' := 0) (ks' := 0) (a := this) (ci := 3) (as := []) (st := []) (mf_Row_hasRoom hw) (mv_Row_24 hw) d_Row_put_1 ln_Row_hasRoom (by decide) (by first | exact Nat.le_of_ble_eq_true rfl | (simp only [List.map_cons, List.map_nil, List.sum_cons, List.sum_nil, va_rf_cat, Value.category]; decide)) rfl ((hG _).1 _ g1 (by decide)).1 ((hG _).1 _ g1 (by decide)).2 (by unfold pic; rw [g1]; rfl) (jcl_at hw rfl) rfl (p_Row_hasRoom hw hG hq2) ?_ (fun E h' n' x' e1 => by cases e1.1)
  intro v9 h9 n9 x9 e9
  obtain ⟨e91, e92, e93⟩ := e9
  cases e91
  subst e92
  subst e93
  clear x
  rename Bool => x
  show J _ _ _ _ (_ :: _) _ _ _ _ _ _
  refine J_if_eq (tgt := 48) d_Row_put_4 (by decide) ?_ ?_
  · intro c12
    rw [if_pos c12] at H
    refine J.drop [false, false, false, false, false] rfl ?_
    exact p_Row_put_L48 hw hG  H
  · intro c12
    rw [if_neg c12] at H
    refine J_aload_n d_Row_put_7 rfl ?_
    refine F_getR (ci := 3) (k := 0) hG (cf_Row hw) (fl_Row_7 hw) (by decide) (by decide) rfl d_Row_put_8 g1 ?_
    refine J_aload_n d_Row_put_11 rfl ?_
    refine F_getI (ci := 3) (k := 3) hG (cf_Row hw) (fl_Row_20 hw) (by decide) (by decide) rfl d_Row_put_12 g1 ?_
    refine J_lload_n d_Row_put_15 rfl ?_
    obtain ⟨a3, ha3, H⟩ := Option.bind_eq_some_iff.mp H
    rw [ha3]
    obtain ⟨N4, hN4, H⟩ := Option.bind_eq_some_iff.mp H
    obtain ⟨k5, hk5, H⟩ := Option.bind_eq_some_iff.mp H
    refine F_last k5 hw hG d_Row_put_16 (gA_some hN4) (ix_some hk5) ?_
    refine J_aload_n d_Row_put_17 rfl ?_
    refine F_getR (ci := 3) (k := 1) hG (cf_Row hw) (fl_Row_13 hw) (by decide) (by decide) rfl d_Row_put_18 g1 ?_
    refine J_aload_n d_Row_put_21 rfl ?_
    refine F_getI (ci := 3) (k := 3) hG (cf_Row hw) (fl_Row_20 hw) (by decide) (by decide) rfl d_Row_put_22 g1 ?_
    refine J_iload_n d_Row_put_25 rfl ?_
    obtain ⟨a6, ha6, H⟩ := Option.bind_eq_some_iff.mp H
    rw [ha6]
    obtain ⟨N7, hN7, H⟩ := Option.bind_eq_some_iff.mp H
    obtain ⟨k8, hk8, H⟩ := Option.bind_eq_some_iff.mp H
    refine F_iast k8 hw hG d_Row_put_26 (gA_some hN7) (ix_some hk8) ?_
    refine J_aload_n d_Row_put_27 rfl ?_
    refine F_getR (ci := 3) (k := 2) hG (cf_Row hw) (fl_Row_17 hw) (by decide) (by decide) rfl d_Row_put_28 g1 ?_
    refine J_aload_n d_Row_put_31 rfl ?_
    refine F_getI (ci := 3) (k := 3) hG (cf_Row hw) (fl_Row_20 hw) (by decide) (by decide) rfl d_Row_put_32 g1 ?_
    refine J_iload d_Row_put_35 rfl ?_
    obtain ⟨a9, ha9, H⟩ := Option.bind_eq_some_iff.mp H
    rw [ha9]
    obtain ⟨N10, hN10, H⟩ := Option.bind_eq_some_iff.mp H
    obtain ⟨k11, hk11, H⟩ := Option.bind_eq_some_iff.mp H
    refine F_iast k11 hw hG d_Row_put_37 (gA_some hN10) (ix_some hk11) ?_
    refine J_aload_n d_Row_put_38 rfl ?_
    refine J_dup d_Row_put_39 rfl ?_
    refine F_getI (ci := 3) (k := 3) hG (cf_Row hw) (fl_Row_20 hw) (by decide) (by decide) rfl d_Row_put_40 g1 ?_
    refine J_iconst (v := 1) d_Row_put_43 (by decide) ?_
    refine J_iadd d_Row_put_44 ?_
    refine F_putI (ci := 3) (k := 3) hG (cf_Row hw) (fl_Row_20 hw) (by decide) (by decide) rfl d_Row_put_45 rfl rfl rfl g1 ?_
    refine J.drop [false, false, false, false, false] rfl ?_
    exact p_Row_put_L48 hw hG  H
theorem ln_Row_drop : (parseMethodDescriptor y_Row_drop.desc).map (fun q => q.parameters.length) = some 0 := by decide +kernel
def f_Row_drop_L75 (Γ : gm_T)  (φ : ph_T) : Option (Unit × ph_T) :=
  some ((), φ)
set_option maxRecDepth 100000 in
set_option maxHeartbeats 4000000 in
theorem p_Row_drop_L75 {w : jw_T} (hw : jok w) {Γ : gm_T} {n : Nat} (hG : gd w Γ n)  {x : Bool} {φ : ph_T} {q : Unit × ph_T} (H : f_Row_drop_L75 Γ  φ  = some q) : J w M_Row_drop 75 [none, none] [] (pic Γ φ) n x 0 0 (fq Γ n (.inl none) q.2) := by
  unfold f_Row_drop_L75 at H
  cases H
  exact J_vret (st := []) d_Row_drop_75 rfl ⟨rfl, rfl, rfl⟩
def f_Row_drop_L2 (Γ : gm_T)  : Nat → ph_T → Nat → Int32 → Option (Unit × ph_T)
  | 0, _, _, _ => none
  | fu + 1, φ, x0, x1 =>
    @ite _ (Γ x0 = .inr 3) _ (
    if (φ.1 x0 3) ≤ x1 then
      if (φ.1 x0 3) ≤ 0 then
        f_Row_drop_L75 Γ  φ 
      else
        f_Row_drop_L75 Γ  (uI φ x0 3 ((φ.1 x0 3) - (1 : Int32))) 
    else
      Option.bind (φ.2.2 x0 0) fun a3 =>
      Option.bind (gA Γ a3 1) fun N4 =>
      Option.bind (ix x1 N4) fun k5 =>
      Option.bind (gA Γ a3 1) fun N6 =>
      Option.bind (ix (x1 - (1 : Int32)) N6) fun k7 =>
      Option.bind ((uL φ a3 k7 (φ.2.1 a3 k5)).2.2 x0 1) fun a8 =>
      Option.bind (gA Γ a8 0) fun N9 =>
      Option.bind (ix x1 N9) fun k10 =>
      Option.bind (gA Γ a8 0) fun N11 =>
      Option.bind (ix (x1 - (1 : Int32)) N11) fun k12 =>
      Option.bind ((uI (uL φ a3 k7 (φ.2.1 a3 k5)) a8 k12 ((uL φ a3 k7 (φ.2.1 a3 k5)).1 a8 k10)).2.2 x0 2) fun a13 =>
      Option.bind (gA Γ a13 0) fun N14 =>
      Option.bind (ix x1 N14) fun k15 =>
      Option.bind (gA Γ a13 0) fun N16 =>
      Option.bind (ix (x1 - (1 : Int32)) N16) fun k17 =>
      f_Row_drop_L2 Γ  fu (uI (uI (uL φ a3 k7 (φ.2.1 a3 k5)) a8 k12 ((uL φ a3 k7 (φ.2.1 a3 k5)).1 a8 k10)) a13 k17 ((uI (uL φ a3 k7 (φ.2.1 a3 k5)) a8 k12 ((uL φ a3 k7 (φ.2.1 a3 k5)).1 a8 k10)).1 a13 k15)) x0 (x1 + (1 : Int32))
    ) none
set_option maxRecDepth 100000 in
set_option maxHeartbeats 4000000 in
theorem p_Row_drop_L2 {w : jw_T} (hw : jok w) {Γ : gm_T} {n : Nat} (hG : gd w Γ n)  : ∀ (fu : Nat) {x : Bool} {φ : ph_T} {x0 : Nat} {x1 : Int32} {q : Unit × ph_T}, f_Row_drop_L2 Γ  fu φ x0 x1 = some q → J w M_Row_drop 2 [some (.ref x0), some (.int x1)] [] (pic Γ φ) n x 0 0 (fq Γ n (.inl none) q.2) := by
  intro fu
  induction fu with
  | zero =>
    intro x φ x0 x1 q H
    cases H
  | succ fu ih =>
    intro x φ x0 x1 q H
    unfold f_Row_drop_L2 at H
    refine J_iload_n d_Row_drop_2 rfl ?_
    refine J_aload_n d_Row_drop_3 rfl ?_
    have g1 : Γ x0 = .inr 3 := by
      apply Classical.byContradiction
      intro q9
      rw [if_neg q9] at H
      cases H
    rw [if_pos g1] at H
    refine F_getI (ci := 3) (k := 3) hG (cf_Row hw) (fl_Row_20 hw) (by decide) (by decide) rfl d_Row_drop_4 g1 ?_
    refine J_icmp_ge (tgt := 58) d_Row_drop_7 (by decide) ?_ ?_
    · intro c18
      rw [if_pos c18] at H
      refine J_aload_n d_Row_drop_58 rfl ?_
      refine F_getI (ci := 3) (k := 3) hG (cf_Row hw) (fl_Row_20 hw) (by decide) (by decide) rfl d_Row_drop_59 g1 ?_
      refine J_if_le (tgt := 75) d_Row_drop_62 (by decide) ?_ ?_
      · intro c2
        rw [if_pos c2] at H
        refine J.drop [false, false] rfl ?_
        exact p_Row_drop_L75 hw hG  H
      · intro c2
        rw [if_neg c2] at H
        refine J_aload_n d_Row_drop_65 rfl ?_
        refine J_dup d_Row_drop_66 rfl ?_
        refine F_getI (ci := 3) (k := 3) hG (cf_Row hw) (fl_Row_20 hw) (by decide) (by decide) rfl d_Row_drop_67 g1 ?_
        refine J_iconst (v := 1) d_Row_drop_70 (by decide) ?_
        refine J_isub d_Row_drop_71 ?_
        refine F_putI (ci := 3) (k := 3) hG (cf_Row hw) (fl_Row_20 hw) (by decide) (by decide) rfl d_Row_drop_72 rfl rfl rfl g1 ?_
        refine J.drop [false, false] rfl ?_
        exact p_Row_drop_L75 hw hG  H
    · intro c18
      rw [if_neg c18] at H
      refine J_aload_n d_Row_drop_10 rfl ?_
      refine F_getR (ci := 3) (k := 0) hG (cf_Row hw) (fl_Row_7 hw) (by decide) (by decide) rfl d_Row_drop_11 g1 ?_
      refine J_iload_n d_Row_drop_14 rfl ?_
      refine J_iconst (v := 1) d_Row_drop_15 (by decide) ?_
      refine J_isub d_Row_drop_16 ?_
      refine J_aload_n d_Row_drop_17 rfl ?_
      refine F_getR (ci := 3) (k := 0) hG (cf_Row hw) (fl_Row_7 hw) (by decide) (by decide) rfl d_Row_drop_18 g1 ?_
      refine J_iload_n d_Row_drop_21 rfl ?_
      obtain ⟨a3, ha3, H⟩ := Option.bind_eq_some_iff.mp H
      rw [ha3]
      obtain ⟨N4, hN4, H⟩ := Option.bind_eq_some_iff.mp H
      obtain ⟨k5, hk5, H⟩ := Option.bind_eq_some_iff.mp H
      refine F_lald k5 hw hG d_Row_drop_22 (gA_some hN4) (ix_some hk5) ?_
      try rw [ha3]
      obtain ⟨N6, hN6, H⟩ := Option.bind_eq_some_iff.mp H
      obtain ⟨k7, hk7, H⟩ := Option.bind_eq_some_iff.mp H
      refine F_last k7 hw hG d_Row_drop_23 (gA_some hN6) (ix_some hk7) ?_
      refine J_aload_n d_Row_drop_24 rfl ?_
      refine F_getR (ci := 3) (k := 1) hG (cf_Row hw) (fl_Row_13 hw) (by decide) (by decide) rfl d_Row_drop_25 g1 ?_
      refine J_iload_n d_Row_drop_28 rfl ?_
      refine J_iconst (v := 1) d_Row_drop_29 (by decide) ?_
      refine J_isub d_Row_drop_30 ?_
      refine J_aload_n d_Row_drop_31 rfl ?_
      refine F_getR (ci := 3) (k := 1) hG (cf_Row hw) (fl_Row_13 hw) (by decide) (by decide) rfl d_Row_drop_32 g1 ?_
      refine J_iload_n d_Row_drop_35 rfl ?_
      obtain ⟨a8, ha8, H⟩ := Option.bind_eq_some_iff.mp H
      rw [ha8]
      obtain ⟨N9, hN9, H⟩ := Option.bind_eq_some_iff.mp H
      obtain ⟨k10, hk10, H⟩ := Option.bind_eq_some_iff.mp H
      refine F_iald k10 hw hG d_Row_drop_36 (gA_some hN9) (ix_some hk10) ?_
      try rw [ha8]
      obtain ⟨N11, hN11, H⟩ := Option.bind_eq_some_iff.mp H
      obtain ⟨k12, hk12, H⟩ := Option.bind_eq_some_iff.mp H
      refine F_iast k12 hw hG d_Row_drop_37 (gA_some hN11) (ix_some hk12) ?_
      refine J_aload_n d_Row_drop_38 rfl ?_
      refine F_getR (ci := 3) (k := 2) hG (cf_Row hw) (fl_Row_17 hw) (by decide) (by decide) rfl d_Row_drop_39 g1 ?_
      refine J_iload_n d_Row_drop_42 rfl ?_
      refine J_iconst (v := 1) d_Row_drop_43 (by decide) ?_
      refine J_isub d_Row_drop_44 ?_
      refine J_aload_n d_Row_drop_45 rfl ?_
      refine F_getR (ci := 3) (k := 2) hG (cf_Row hw) (fl_Row_17 hw) (by decide) (by decide) rfl d_Row_drop_46 g1 ?_
      refine J_iload_n d_Row_drop_49 rfl ?_
      obtain ⟨a13, ha13, H⟩ := Option.bind_eq_some_iff.mp H
      rw [ha13]
      obtain ⟨N14, hN14, H⟩ := Option.bind_eq_some_iff.mp H
      obtain ⟨k15, hk15, H⟩ := Option.bind_eq_some_iff.mp H
      refine F_iald k15 hw hG d_Row_drop_50 (gA_some hN14) (ix_some hk15) ?_
      try rw [ha13]
      obtain ⟨N16, hN16, H⟩ := Option.bind_eq_some_iff.mp H
      obtain ⟨k17, hk17, H⟩ := Option.bind_eq_some_iff.mp H
      refine F_iast k17 hw hG d_Row_drop_51 (gA_some hN16) (ix_some hk17) ?_
      refine J_iinc (v := x1 + 1) d_Row_drop_52 rfl (by rw [show Int32.ofInt 1 = (1 : Int32) from by decide]) ?_
      refine J_goto (tgt := 2) d_Row_drop_55 (by decide) ?_
      refine J.drop [true, true] rfl ?_
      exact ih H
def f_Row_drop (Γ : gm_T) (φ : ph_T) (this : Nat) : Option (Unit × ph_T) :=
  f_Row_drop_L2 Γ  jF φ this (1 : Int32)
set_option maxRecDepth 100000 in
set_option maxHeartbeats 4000000 in
theorem p_Row_drop {w : jw_T} (hw : jok w) {Γ : gm_T} {n : Nat} (hG : gd w Γ n) {x : Bool} {φ : ph_T} {this : Nat} {q : Unit × ph_T} (H : f_Row_drop Γ φ this = some q) : jc w M_Row_drop [.ref this] (pic Γ φ) n x 0 0 (fq Γ n (.inl none) q.2) := by
  refine jc.of (by first | exact Nat.le_of_ble_eq_true rfl | simp [jent, va_rf_cat, Value.category, M_Row_drop]) ?_
  have hls : jents [.ref this] (jm_nL M_Row_drop) = [some (.ref this), none] := by first | rfl | simp [jents, jent, va_rf_cat, Value.category, List.replicate, M_Row_drop]
  rw [hls]
  clear hls
  unfold f_Row_drop at H
  refine J_iconst (v := 1) d_Row_drop_0 (by decide) ?_
  refine J_istore_n d_Row_drop_1 (Nat.le_of_ble_eq_true rfl) ?_
  refine J.drop [true, true] rfl ?_
  exact p_Row_drop_L2 hw hG  _ H
theorem ln_Row_firstCame : (parseMethodDescriptor y_Row_firstCame.desc).map (fun q => q.parameters.length) = some 0 := by decide +kernel
def f_Row_firstCame_L17 (Γ : gm_T)  (φ : ph_T) (y0 : Int32) : Option (Int32 × ph_T) :=
  some (y0, φ)
set_option maxRecDepth 100000 in
set_option maxHeartbeats 4000000 in
theorem p_Row_firstCame_L17 {w : jw_T} (hw : jok w) {Γ : gm_T} {n : Nat} (hG : gd w Γ n)  {x : Bool} {φ : ph_T} {y0 : Int32} {q : Int32 × ph_T} (H : f_Row_firstCame_L17 Γ  φ y0 = some q) : J w M_Row_firstCame 17 [none] [.int y0] (pic Γ φ) n x 0 0 (fq Γ n (.inl (some (.int q.1))) q.2) := by
  unfold f_Row_firstCame_L17 at H
  cases H
  exact J_iret (st := []) d_Row_firstCame_17 rfl rfl ⟨rfl, rfl, rfl⟩
def f_Row_firstCame (Γ : gm_T) (φ : ph_T) (this : Nat) : Option (Int32 × ph_T) :=
  @ite _ (Γ this = .inr 3) _ (
  if (φ.1 this 3) ≤ 0 then
    f_Row_firstCame_L17 Γ  φ (0 : Int32)
  else
    Option.bind (φ.2.2 this 2) fun a2 =>
    Option.bind (gA Γ a2 0) fun N3 =>
    Option.bind (ix (0 : Int32) N3) fun k4 =>
    f_Row_firstCame_L17 Γ  φ (φ.1 a2 k4)
  ) none
set_option maxRecDepth 100000 in
set_option maxHeartbeats 4000000 in
theorem p_Row_firstCame {w : jw_T} (hw : jok w) {Γ : gm_T} {n : Nat} (hG : gd w Γ n) {x : Bool} {φ : ph_T} {this : Nat} {q : Int32 × ph_T} (H : f_Row_firstCame Γ φ this = some q) : jc w M_Row_firstCame [.ref this] (pic Γ φ) n x 0 0 (fq Γ n (.inl (some (.int q.1))) q.2) := by
  refine jc.of (by first | exact Nat.le_of_ble_eq_true rfl | simp [jent, va_rf_cat, Value.category, M_Row_firstCame]) ?_
  have hls : jents [.ref this] (jm_nL M_Row_firstCame) = [some (.ref this)] := by first | rfl | simp [jents, jent, va_rf_cat, Value.category, List.replicate, M_Row_firstCame]
  rw [hls]
  clear hls
  unfold f_Row_firstCame at H
  refine J_aload_n d_Row_firstCame_0 rfl ?_
  have g1 : Γ this = .inr 3 := by
    apply Classical.byContradiction
    intro q9
    rw [if_neg q9] at H
    cases H
  rw [if_pos g1] at H
  refine F_getI (ci := 3) (k := 3) hG (cf_Row hw) (fl_Row_20 hw) (by decide) (by decide) rfl d_Row_firstCame_1 g1 ?_
  refine J_if_le (tgt := 16) d_Row_firstCame_4 (by decide) ?_ ?_
  · intro c5
    rw [if_pos c5] at H
    refine J_iconst (v := 0) d_Row_firstCame_16 (by decide) ?_
    refine J.drop [false] rfl ?_
    exact p_Row_firstCame_L17 hw hG  H
  · intro c5
    rw [if_neg c5] at H
    refine J_aload_n d_Row_firstCame_7 rfl ?_
    refine F_getR (ci := 3) (k := 2) hG (cf_Row hw) (fl_Row_17 hw) (by decide) (by decide) rfl d_Row_firstCame_8 g1 ?_
    refine J_iconst (v := 0) d_Row_firstCame_11 (by decide) ?_
    obtain ⟨a2, ha2, H⟩ := Option.bind_eq_some_iff.mp H
    rw [ha2]
    obtain ⟨N3, hN3, H⟩ := Option.bind_eq_some_iff.mp H
    obtain ⟨k4, hk4, H⟩ := Option.bind_eq_some_iff.mp H
    refine F_iald k4 hw hG d_Row_firstCame_12 (gA_some hN3) (ix_some hk4) ?_
    refine J_goto (tgt := 17) d_Row_firstCame_13 (by decide) ?_
    refine J.drop [false] rfl ?_
    exact p_Row_firstCame_L17 hw hG  H

