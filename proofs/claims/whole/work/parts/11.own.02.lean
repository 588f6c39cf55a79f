theorem ln_Master_at : (parseMethodDescriptor y_Master_at.desc).map (fun q => q.parameters.length) = some 3 := by decide +kernel
def f_Master_at_L22 (Γ : gm_T)  (φ : ph_T) (y0 : Option Nat) : Option (Option Nat × ph_T) :=
  some (y0, φ)
set_option maxRecDepth 100000 in
set_option maxHeartbeats 4000000 in
theorem p_Master_at_L22 {w : jw_T} (hw : jok w) {Γ : gm_T} {n : Nat} (hG : gd w Γ n)  {x : Bool} {φ : ph_T} {y0 : Option Nat} {q : Option Nat × ph_T} (H : f_Master_at_L22 Γ  φ y0 = some q) : J w M_Master_at 22 [none, none, none] [va_rf y0] (pic Γ φ) n x 0 0 (fq Γ n (.inl (some (va_rf q.1))) q.2) := by
  unfold f_Master_at_L22 at H
  have H := Option.some.inj H
  subst H
  exact J_aret (st := []) d_Master_at_22 rfl (Or.inl ⟨_, rfl⟩) (by first | exact Or.inr ⟨_, rfl⟩ | (generalize y0 = r9; cases r9; exact Or.inl rfl; exact Or.inr ⟨_, rfl⟩)) ⟨rfl, rfl, rfl⟩
def f_Master_at_L15 (Γ : gm_T)  (φ : ph_T) : Option (Option Nat × ph_T) :=
  f_Master_at_L22 Γ  φ none
set_option maxRecDepth 100000 in
set_option maxHeartbeats 4000000 in
theorem p_Master_at_L15 {w : jw_T} (hw : jok w) {Γ : gm_T} {n : Nat} (hG : gd w Γ n)  {x : Bool} {φ : ph_T} {q : Option Nat × ph_T} (H : f_Master_at_L15 Γ  φ  = some q) : J w M_Master_at 15 [none, none, none] [] (pic Γ φ) n x 0 0 (fq Γ n (.inl (some (va_rf q.1))) q.2) := by
  unfold f_Master_at_L15 at H
  refine J_null d_Master_at_15 ?_
  show J _ _ _ _ (va_rf none :: _) _ _ _ _ _ _
  refine J_goto (tgt := 22) d_Master_at_16 (by decide) ?_
  refine J.drop [false, false, false] rfl ?_
  exact p_Master_at_L22 hw hG  H
def f_Master_at (Γ : gm_T) (φ : ph_T) (p0 : Option Nat) (p1 : Int32) (p2 : Int32) : Option (Option Nat × ph_T) :=
  if p1 < 0 then
    f_Master_at_L15 Γ  φ 
  else
    if p2 ≤ p1 then
      f_Master_at_L15 Γ  φ 
    else
      Option.bind p0 fun a1 =>
      Option.bind (gA Γ a1 6) fun N2 =>
      if p1 < (nI N2) then
        Option.bind (gA Γ a1 6) fun N3 =>
        Option.bind (ix p1 N3) fun k4 =>
        f_Master_at_L22 Γ  φ (φ.2.2 a1 k4)
      else
        f_Master_at_L15 Γ  φ 
set_option maxRecDepth 100000 in
set_option maxHeartbeats 4000000 in
theorem p_Master_at {w : jw_T} (hw : jok w) {Γ : gm_T} {n : Nat} (hG : gd w Γ n) {x : Bool} {φ : ph_T} {p0 : Option Nat} {p1 : Int32} {p2 : Int32} {q : Option Nat × ph_T} (H : f_Master_at Γ φ p0 p1 p2 = some q) : jc w M_Master_at [va_rf p0, .int p1, .int p2] (pic Γ φ) n x 0 0 (fq Γ n (.inl (some (va_rf q.1))) q.2) := by
  refine jc.of (by simp only [jent_r, jent_i, jent_l, jent_a, jent_0]; exact Nat.le_of_ble_eq_true rfl) ?_
  have hls : jents [va_rf p0, .int p1, .int p2] (jm_nL M_Master_at) = [some (va_rf p0), some (.int p1), some (.int p2)] := by simp only [jents, jent_r, jent_i, jent_l, jent_a, jent_0]; rfl
  rw [hls]
  clear hls
  unfold f_Master_at at H
  refine J_iload_n d_Master_at_0 rfl ?_
  refine J_if_lt (tgt := 15) d_Master_at_1 (by decide) ?_ ?_
  · intro c7
    rw [if_pos c7] at H
    refine J.drop [false, false, false] rfl ?_
    exact p_Master_at_L15 hw hG  H
  · intro c7
    rw [if_neg c7] at H
    refine J_iload_n d_Master_at_4 rfl ?_
    refine J_iload_n d_Master_at_5 rfl ?_
    refine J_icmp_ge (tgt := 15) d_Master_at_6 (by decide) ?_ ?_
    · intro c6
      rw [if_pos c6] at H
      refine J.drop [false, false, false] rfl ?_
      exact p_Master_at_L15 hw hG  H
    · intro c6
      rw [if_neg c6] at H
      refine J_iload_n d_Master_at_9 rfl ?_
      refine J_aload_nO d_Master_at_10 rfl ?_
      obtain ⟨a1, ha1, H⟩ := Option.bind_eq_some_iff.mp H
      rw [j_rf ha1]
      obtain ⟨N2, hN2, H⟩ := Option.bind_eq_some_iff.mp H
      refine F_alen hw hG (t := 6) rfl d_Master_at_11 (gA_some hN2) ?_
      refine J_icmp_lt (tgt := 19) d_Master_at_12 (by decide) ?_ ?_
      · intro c5
        rw [if_pos c5] at H
        refine J_aload_n d_Master_at_19 rfl ?_
        refine J_iload_n d_Master_at_20 rfl ?_
        obtain ⟨N3, hN3, H⟩ := Option.bind_eq_some_iff.mp H
        obtain ⟨k4, hk4, H⟩ := Option.bind_eq_some_iff.mp H
        refine F_aald k4 hw hG (t := 6) rfl (by decide) d_Master_at_21 (gA_some hN3) (ix_some hk4) ?_
        refine J.drop [false, false, false] rfl ?_
        exact p_Master_at_L22 hw hG  H
      · intro c5
        rw [if_neg c5] at H
        refine J.drop [false, false, false] rfl ?_
        exact p_Master_at_L15 hw hG  H
theorem ln_Bus_isOn : (parseMethodDescriptor y_Bus_isOn.desc).map (fun q => q.parameters.length) = some 2 := by decide +kernel
def f_Bus_isOn_L17 (Γ : gm_T)  (φ : ph_T) (y0 : Int32) : Option (Int32 × ph_T) :=
  @ite _ (y0 = 0 ∨ y0 = 1) _ (
  some (y0, φ)
  ) none
set_option maxRecDepth 100000 in
set_option maxHeartbeats 4000000 in
theorem p_Bus_isOn_L17 {w : jw_T} (hw : jok w) {Γ : gm_T} {n : Nat} (hG : gd w Γ n)  {x : Bool} {φ : ph_T} {y0 : Int32} {q : Int32 × ph_T} (H : f_Bus_isOn_L17 Γ  φ y0 = some q) : J w M_Bus_isOn 17 [none, none] [.int y0] (pic Γ φ) n x 0 0 (fq Γ n (.inl (some (.int q.1))) q.2) := by
  unfold f_Bus_isOn_L17 at H
  have z1 : y0 = 0 ∨ y0 = 1 := by
    apply Classical.byContradiction
    intro q9
    rw [if_neg q9] at H
    cases H
  rw [if_pos z1] at H
  have H := Option.some.inj H
  subst H
  exact J_iret (st := []) d_Bus_isOn_17 rfl (narrow_z z1).1 ⟨rfl, rfl, rfl⟩
def f_Bus_isOn (Γ : gm_T) (φ : ph_T) (p0 : Int32) (p1 : Int32) : Option (Int32 × ph_T) :=
  if ((p0 >>> ((p1 &&& (15 : Int32)) &&& 31)) &&& (1 : Int32)) = (1 : Int32) then
    f_Bus_isOn_L17 Γ  φ (1 : Int32)
  else
    f_Bus_isOn_L17 Γ  φ (0 : Int32)
set_option maxRecDepth 100000 in
set_option maxHeartbeats 4000000 in
theorem p_Bus_isOn {w : jw_T} (hw : jok w) {Γ : gm_T} {n : Nat} (hG : gd w Γ n) {x : Bool} {φ : ph_T} {p0 : Int32} {p1 : Int32} {q : Int32 × ph_T} (H : f_Bus_isOn Γ φ p0 p1 = some q) : jc w M_Bus_isOn [.int p0, .int p1] (pic Γ φ) n x 0 0 (fq Γ n (.inl (some (.int q.1))) q.2) := by
  refine jc.of (by simp only [jent_r, jent_i, jent_l, jent_a, jent_0]; exact Nat.le_of_ble_eq_true rfl) ?_
  have hls : jents [.int p0, .int p1] (jm_nL M_Bus_isOn) = [some (.int p0), some (.int p1)] := by simp only [jents, jent_r, jent_i, jent_l, jent_a, jent_0]; rfl
  rw [hls]
  clear hls
  unfold f_Bus_isOn at H
  refine J_iload_n d_Bus_isOn_0 rfl ?_
  refine J_iload_n d_Bus_isOn_1 rfl ?_
  refine J_bipush (v := 15) d_Bus_isOn_2 (by decide) ?_
  refine J_iand d_Bus_isOn_4 ?_
  refine J_ishr d_Bus_isOn_5 ?_
  refine J_iconst (v := 1) d_Bus_isOn_6 (by decide) ?_
  refine J_iand d_Bus_isOn_7 ?_
  refine J_iconst (v := 1) d_Bus_isOn_8 (by decide) ?_
  refine J_icmp_ne (tgt := 16) d_Bus_isOn_9 (by decide) ?_ ?_
  · intro c2
    rw [if_neg c2] at H
    refine J_iconst (v := 0) d_Bus_isOn_16 (by decide) ?_
    refine J.drop [false, false] rfl ?_
    exact p_Bus_isOn_L17 hw hG  H
  · intro c2
    rw [if_pos c2] at H
    refine J_iconst (v := 1) d_Bus_isOn_12 (by decide) ?_
    refine J_goto (tgt := 17) d_Bus_isOn_13 (by decide) ?_
    refine J.drop [false, false] rfl ?_
    exact p_Bus_isOn_L17 hw hG  H
theorem ln_Port_send : (parseMethodDescriptor y_Port_send.desc).map (fun q => q.parameters.length) = some 3 := by decide +kernel
def f_Port_send (Γ : gm_T) (φ : ph_T) (this : Nat) (p0 : Int32) (p1 : Int64) (p2 : Int32) : Option (Unit × ph_T) :=
  @ite _ (Γ this = .inr 5) _ (
  Option.bind (φ.2.2 this 0) fun a2 =>
  Option.bind (gA Γ a2 2) fun N3 =>
  Option.bind (ix p0 N3) fun k4 =>
  @ite _ ((1 : Int32) = 0 ∨ (1 : Int32) = 1) _ (
  Option.bind (φ.2.2 this 3) fun a6 =>
  Option.bind (gA Γ a6 1) fun N7 =>
  Option.bind (ix p0 N7) fun k8 =>
  Option.bind (φ.2.2 this 4) fun a9 =>
  Option.bind (gA Γ a9 0) fun N10 =>
  Option.bind (ix p0 N10) fun k11 =>
  some ((), (uI (uL (uI φ a2 k4 (1 : Int32)) a6 k8 p1) a9 k11 p2))
  ) none
  ) none
set_option maxRecDepth 100000 in
set_option maxHeartbeats 4000000 in
theorem p_Port_send {w : jw_T} (hw : jok w) {Γ : gm_T} {n : Nat} (hG : gd w Γ n) {x : Bool} {φ : ph_T} {this : Nat} {p0 : Int32} {p1 : Int64} {p2 : Int32} {q : Unit × ph_T} (H : f_Port_send Γ φ this p0 p1 p2 = some q) : jc w M_Port_send [.ref this, .int p0, .long p1, .int p2] (pic Γ φ) n x 0 0 (fq Γ n (.inl none) q.2) := by
  refine jc.of (by simp only [jent_r, jent_i, jent_l, jent_a, jent_0]; exact Nat.le_of_ble_eq_true rfl) ?_
  have hls : jents [.ref this, .int p0, .long p1, .int p2] (jm_nL M_Port_send) = [some (.ref this), some (.int p0), some (.long p1), none, some (.int p2)] := by simp only [jents, jent_r, jent_i, jent_l, jent_a, jent_0]; rfl
  rw [hls]
  clear hls
  unfold f_Port_send at H
  refine J_aload_n d_Port_send_0 rfl ?_
  have g1 : Γ this = .inr 5 := by
    apply Classical.byContradiction
    intro q9
    rw [if_neg q9] at H
    cases H
  rw [if_pos g1] at H
  refine F_getR (ci := 5) (k := 0) hG (cf_Port hw) (fl_Port_9 hw) (by decide) (by decide) rfl d_Port_send_1 g1 ?_
  refine J_iload_n d_Port_send_4 rfl ?_
  refine J_iconst (v := 1) d_Port_send_5 (by decide) ?_
  obtain ⟨a2, ha2, H⟩ := Option.bind_eq_some_iff.mp H
  rw [j_rf ha2]
  obtain ⟨N3, hN3, H⟩ := Option.bind_eq_some_iff.mp H
  obtain ⟨k4, hk4, H⟩ := Option.bind_eq_some_iff.mp H
  have z5 : (1 : Int32) = 0 ∨ (1 : Int32) = 1 := by
    apply Classical.byContradiction
    intro q9
    rw [if_neg q9] at H
    cases H
  rw [if_pos z5] at H
  refine F_zast k4 hw hG d_Port_send_6 (gA_some hN3) (ix_some hk4) z5 ?_
  refine J_aload_n d_Port_send_7 rfl ?_
  refine F_getR (ci := 5) (k := 3) hG (cf_Port hw) (fl_Port_21 hw) (by decide) (by decide) rfl d_Port_send_8 g1 ?_
  show J _ _ _ _ (va_rf (φ.2.2 this 3) :: _) _ _ _ _ _ _
  refine J_iload_n d_Port_send_11 rfl ?_
  refine J_lload_n d_Port_send_12 rfl ?_
  obtain ⟨a6, ha6, H⟩ := Option.bind_eq_some_iff.mp H
  rw [j_rf ha6]
  obtain ⟨N7, hN7, H⟩ := Option.bind_eq_some_iff.mp H
  obtain ⟨k8, hk8, H⟩ := Option.bind_eq_some_iff.mp H
  refine F_last k8 hw hG d_Port_send_13 (gA_some hN7) (ix_some hk8) ?_
  refine J_aload_n d_Port_send_14 rfl ?_
  refine F_getR (ci := 5) (k := 4) hG (cf_Port hw) (fl_Port_25 hw) (by decide) (by decide) rfl d_Port_send_15 g1 ?_
  show J _ _ _ _ (va_rf (φ.2.2 this 4) :: _) _ _ _ _ _ _
  refine J_iload_n d_Port_send_18 rfl ?_
  refine J_iload d_Port_send_19 rfl ?_
  obtain ⟨a9, ha9, H⟩ := Option.bind_eq_some_iff.mp H
  rw [j_rf ha9]
  obtain ⟨N10, hN10, H⟩ := Option.bind_eq_some_iff.mp H
  obtain ⟨k11, hk11, H⟩ := Option.bind_eq_some_iff.mp H
  refine F_iast k11 hw hG d_Port_send_21 (gA_some hN10) (ix_some hk11) ?_
  have H := Option.some.inj H
  subst H
  exact J_vret (st := []) d_Port_send_22 rfl ⟨rfl, rfl, rfl⟩
theorem ln_Master_tellAddress : (parseMethodDescriptor y_Master_tellAddress.desc).map (fun q => q.parameters.length) = some 4 := by decide +kernel
def f_Master_tellAddress_L40 (Γ : gm_T)  (φ : ph_T) : Option (Unit × ph_T) :=
  some ((), φ)
set_option maxRecDepth 100000 in
set_option maxHeartbeats 4000000 in
theorem p_Master_tellAddress_L40 {w : jw_T} (hw : jok w) {Γ : gm_T} {n : Nat} (hG : gd w Γ n)  {x : Bool} {φ : ph_T} {q : Unit × ph_T} (H : f_Master_tellAddress_L40 Γ  φ  = some q) : J w M_Master_tellAddress 40 [none, none, none, none, none] [] (pic Γ φ) n x 0 0 (fq Γ n (.inl none) q.2) := by
  unfold f_Master_tellAddress_L40 at H
  have H := Option.some.inj H
  subst H
  exact J_vret (st := []) d_Master_tellAddress_40 rfl ⟨rfl, rfl, rfl⟩
def f_Master_tellAddress (Γ : gm_T) (φ : ph_T) (this : Nat) (p0 : Option Nat) (p1 : Int32) (p2 : Option Nat) (p3 : Int32) : Option (Unit × ph_T) :=
  Option.bind p0 fun a1 =>
  @ite _ (Γ a1 = .inr 5) _ (
  Option.bind (φ.2.2 a1 2) fun a3 =>
  Option.bind (gA Γ a3 2) fun N4 =>
  Option.bind (ix p1 N4) fun k5 =>
  if (φ.1 a3 k5) = 0 then
    if p2 = none then
      f_Master_tellAddress_L40 Γ  φ 
    else
      @ite _ (Γ this = .inr 7) _ (
      Option.bind (φ.2.2 this 0) fun a7 =>
      Option.bind (gA Γ a7 0) fun N8 =>
      Option.bind (ix p1 N8) fun k9 =>
      Option.bind (f_Bus_isOn Γ φ (φ.1 a7 k9) p3) fun q10 =>
      if q10.1 = 0 then
        f_Master_tellAddress_L40 Γ  q10.2 
      else
        Option.bind p2 fun a11 =>
        @ite _ (Γ a11 = .inr 6) _ (
        Option.bind (q10.2.2.2 a11 0) fun a13 =>
        @ite _ (Γ a13 = .inr 0) _ (
        Option.bind (f_Port_send Γ q10.2 a1 p1 (q10.2.2.1 a13 0) (0 : Int32)) fun q15 =>
        f_Master_tellAddress_L40 Γ  q15.2 
        ) none
        ) none
      ) none
  else
    f_Master_tellAddress_L40 Γ  φ 
  ) none
set_option maxRecDepth 100000 in
set_option maxHeartbeats 4000000 in
theorem p_Master_tellAddress {w : jw_T} (hw : jok w) {Γ : gm_T} {n : Nat} (hG : gd w Γ n) {x : Bool} {φ : ph_T} {this : Nat} {p0 : Option Nat} {p1 : Int32} {p2 : Option Nat} {p3 : Int32} {q : Unit × ph_T} (H : f_Master_tellAddress Γ φ this p0 p1 p2 p3 = some q) : jc w M_Master_tellAddress [.ref this, va_rf p0, .int p1, va_rf p2, .int p3] (pic Γ φ) n x 0 0 (fq Γ n (.inl none) q.2) := by
  refine jc.of (by simp only [jent_r, jent_i, jent_l, jent_a, jent_0]; exact Nat.le_of_ble_eq_true rfl) ?_
  have hls : jents [.ref this, va_rf p0, .int p1, va_rf p2, .int p3] (jm_nL M_Master_tellAddress) = [some (.ref this), some (va_rf p0), some (.int p1), some (va_rf p2), some (.int p3)] := by simp only [jents, jent_r, jent_i, jent_l, jent_a, jent_0]; rfl
  rw [hls]
  clear hls
  unfold f_Master_tellAddress at H
  refine J_aload_nO d_Master_tellAddress_0 rfl ?_
  obtain ⟨a1, ha1, H⟩ := Option.bind_eq_some_iff.mp H
  rw [j_rf ha1]
  have g2 : Γ a1 = .inr 5 := by
    apply Classical.byContradiction
    intro q9
    rw [if_neg q9] at H
    cases H
  rw [if_pos g2] at H
  refine F_getR (ci := 5) (k := 2) hG (cf_Port hw) (fl_Master_83 hw) (by decide) (by decide) rfl d_Master_tellAddress_1 g2 ?_
  refine J_iload_n d_Master_tellAddress_4 rfl ?_
  obtain ⟨a3, ha3, H⟩ := Option.bind_eq_some_iff.mp H
  rw [j_rf ha3]
  obtain ⟨N4, hN4, H⟩ := Option.bind_eq_some_iff.mp H
  obtain ⟨k5, hk5, H⟩ := Option.bind_eq_some_iff.mp H
  refine F_zald k5 hw hG d_Master_tellAddress_5 (gA_some hN4) (ix_some hk5) ?_
  refine J_if_ne (tgt := 40) d_Master_tellAddress_6 (by decide) ?_ ?_
  · intro c18
    rw [if_neg c18] at H
    refine J.drop [false, false, false, false, false] rfl ?_
    exact p_Master_tellAddress_L40 hw hG  H
  · intro c18
    rw [if_pos c18] at H
    refine J_aload_nO d_Master_tellAddress_9 rfl ?_
    refine J_ifnullO (r := p2) (tgt := 40) d_Master_tellAddress_10 (by decide) ?_ ?_
    · intro c17
      rw [if_pos c17] at H
      refine J.drop [false, false, false, false, false] rfl ?_
      exact p_Master_tellAddress_L40 hw hG  H
    · intro c17
      rw [if_neg c17] at H
      refine J_aload_n d_Master_tellAddress_13 rfl ?_
      have g6 : Γ this = .inr 7 := by
        apply Classical.byContradiction
        intro q9
        rw [if_neg q9] at H
        cases H
      rw [if_pos g6] at H
      refine F_getR (ci := 7) (k := 0) hG (cf_Master hw) (fl_Master_9 hw) (by decide) (by decide) rfl d_Master_tellAddress_14 g6 ?_
      refine J_iload_n d_Master_tellAddress_17 rfl ?_
      obtain ⟨a7, ha7, H⟩ := Option.bind_eq_some_iff.mp H
      rw [j_rf ha7]
      obtain ⟨N8, hN8, H⟩ := Option.bind_eq_some_iff.mp H
      obtain ⟨k9, hk9, H⟩ := Option.bind_eq_some_iff.mp H
      refine F_iald k9 hw hG d_Master_tellAddress_18 (gA_some hN8) (ix_some hk9) ?_
      refine J_iload d_Master_tellAddress_19 rfl ?_
      obtain ⟨q10, hq10, H⟩ := Option.bind_eq_some_iff.mp H
      refine J_callS (kc := 0) (ks := 0) (kc' := 0) (ks' := 0) (as := [.int (φ.1 a7 k9), .int p3]) (st := []) (mf_Bus_isOn hw) (ms_Master_79 hw) d_Master_tellAddress_21 ln_Bus_isOn (by decide) (by first | exact Nat.le_of_ble_eq_true rfl | (simp only [List.map_cons, List.map_nil, List.sum_cons, List.sum_nil, va_rf_cat]; exact Nat.le_of_ble_eq_true rfl)) rfl (p_Bus_isOn hw hG hq10) ?_ (fun E h' n' x' e1 => by cases e1.1)
      intro v9 h9 n9 x9 e9
      obtain ⟨e91, e92, e93⟩ := e9
      cases e91
      subst e92
      subst e93
      clear x
      rename Bool => x
      show J _ _ _ _ (_ :: _) _ _ _ _ _ _
      refine J_if_eq (tgt := 40) d_Master_tellAddress_24 (by decide) ?_ ?_
      · intro c16
        rw [if_pos c16] at H
        refine J.drop [false, false, false, false, false] rfl ?_
        exact p_Master_tellAddress_L40 hw hG  H
      · intro c16
        rw [if_neg c16] at H
        refine J_aload_n d_Master_tellAddress_27 rfl ?_
        refine J_iload_n d_Master_tellAddress_28 rfl ?_
        refine J_aload_nO d_Master_tellAddress_29 rfl ?_
        obtain ⟨a11, ha11, H⟩ := Option.bind_eq_some_iff.mp H
        rw [j_rf ha11]
        have g12 : Γ a11 = .inr 6 := by
          apply Classical.byContradiction
          intro q9
          rw [if_neg q9] at H
          cases H
        rw [if_pos g12] at H
        refine F_getR (ci := 6) (k := 0) hG (cf_Request hw) (fl_Master_86 hw) (by decide) (by decide) rfl d_Master_tellAddress_30 g12 ?_
        obtain ⟨a13, ha13, H⟩ := Option.bind_eq_some_iff.mp H
        rw [j_rf ha13]
        have g14 : Γ a13 = .inr 0 := by
          apply Classical.byContradiction
          intro q9
          rw [if_neg q9] at H
          cases H
        rw [if_pos g14] at H
        refine F_getL (ci := 0) (k := 0) hG (cf_Burst hw) (fl_Master_90 hw) (by decide) (by decide) rfl d_Master_tellAddress_33 g14 ?_
        refine J_iconst (v := 0) d_Master_tellAddress_36 (by decide) ?_
        obtain ⟨q15, hq15, H⟩ := Option.bind_eq_some_iff.mp H
        refine J_callV (kc := 0) (ks := 0) (kc' := 0) (ks' := 0) (a := a1) (ci := 5) (as := [.int p1, .long (q10.2.2.1 a13 0), .int (0 : Int32)]) (st := []) (mf_Port_send hw) (mv_Master_96 hw) d_Master_tellAddress_37 ln_Port_send (by decide) (by first | exact Nat.le_of_ble_eq_true rfl | (simp only [List.map_cons, List.map_nil, List.sum_cons, List.sum_nil, va_rf_cat]; exact Nat.le_of_ble_eq_true rfl)) rfl ((hG _).1 _ g2 (by decide)).1 ((hG _).1 _ g2 (by decide)).2 (by unfold pic; rw [g2]; rfl) (jcl_at hw rfl) rfl (p_Port_send hw hG hq15) ?_ (fun E h' n' x' e1 => by cases e1.1)
        intro v9 h9 n9 x9 e9
        obtain ⟨e91, e92, e93⟩ := e9
        cases e91
        subst e92
        subst e93
        clear x
        rename Bool => x
        show J _ _ _ _ [] _ _ _ _ _ _
        refine J.drop [false, false, false, false, false] rfl ?_
        exact p_Master_tellAddress_L40 hw hG  H
theorem ln_Master_tellData : (parseMethodDescriptor y_Master_tellData.desc).map (fun q => q.parameters.length) = some 3 := by decide +kernel
def f_Master_tellData_L85 (Γ : gm_T)  (φ : ph_T) : Option (Unit × ph_T) :=
  some ((), φ)
set_option maxRecDepth 100000 in
set_option maxHeartbeats 4000000 in
theorem p_Master_tellData_L85 {w : jw_T} (hw : jok w) {Γ : gm_T} {n : Nat} (hG : gd w Γ n)  {x : Bool} {φ : ph_T} {q : Unit × ph_T} (H : f_Master_tellData_L85 Γ  φ  = some q) : J w M_Master_tellData 85 [none, none, none, none, none] [] (pic Γ φ) n x 0 0 (fq Γ n (.inl none) q.2) := by
  unfold f_Master_tellData_L85 at H
  have H := Option.some.inj H
  subst H
  exact J_vret (st := []) d_Master_tellData_85 rfl ⟨rfl, rfl, rfl⟩
def f_Master_tellData_L48 (Γ : gm_T)  (φ : ph_T) (x1 : Option Nat) (x4 : Option Nat) : Option (Unit × ph_T) :=
  Option.bind x4 fun a1 =>
  @ite _ (Γ a1 = .inr 0) _ (
  if (16 : Int32) ≤ (φ.1 a1 3) then
    f_Master_tellData_L85 Γ  φ 
  else
    Option.bind (φ.2.2 a1 6) fun a3 =>
    Option.bind (gA Γ a3 1) fun N4 =>
    Option.bind (ix (φ.1 a1 3) N4) fun k5 =>
    Option.bind (φ.2.2 a1 7) fun a6 =>
    Option.bind (gA Γ a6 0) fun N7 =>
    Option.bind (ix (φ.1 a1 3) N7) fun k8 =>
    Option.bind x1 fun a9 =>
    @ite _ (Γ a9 = .inr 5) _ (
    Option.bind (f_Port_send Γ φ a9 (1 : Int32) (φ.2.1 a3 k5) (φ.1 a6 k8)) fun q11 =>
    f_Master_tellData_L85 Γ  q11.2 
    ) none
  ) none
set_option maxRecDepth 100000 in
set_option maxHeartbeats 4000000 in
theorem p_Master_tellData_L48 {w : jw_T} (hw : jok w) {Γ : gm_T} {n : Nat} (hG : gd w Γ n)  {x : Bool} {φ : ph_T} {x1 : Option Nat} {x4 : Option Nat} {q : Unit × ph_T} (H : f_Master_tellData_L48 Γ  φ x1 x4 = some q) : J w M_Master_tellData 48 [none, some (va_rf x1), none, none, some (va_rf x4)] [] (pic Γ φ) n x 0 0 (fq Γ n (.inl none) q.2) := by
  unfold f_Master_tellData_L48 at H
  refine J_aloadO d_Master_tellData_48 rfl ?_
  obtain ⟨a1, ha1, H⟩ := Option.bind_eq_some_iff.mp H
  rw [j_rf ha1]
  have g2 : Γ a1 = .inr 0 := by
    apply Classical.byContradiction
    intro q9
    rw [if_neg q9] at H
    cases H
  rw [if_pos g2] at H
  refine F_getI (ci := 0) (k := 3) hG (cf_Burst hw) (fl_Master_103 hw) (by decide) (by decide) rfl d_Master_tellData_50 g2 ?_
  refine J_bipush (v := 16) d_Master_tellData_53 (by decide) ?_
  refine J_icmp_ge (tgt := 85) d_Master_tellData_55 (by decide) ?_ ?_
  · intro c12
    rw [if_pos c12] at H
    refine J.drop [false, false, false, false, false] rfl ?_
    exact p_Master_tellData_L85 hw hG  H
  · intro c12
    rw [if_neg c12] at H
    refine J_aload_nO d_Master_tellData_58 rfl ?_
    refine J_iconst (v := 1) d_Master_tellData_59 (by decide) ?_
    refine J_aload d_Master_tellData_60 rfl ?_
    refine F_getR (ci := 0) (k := 6) hG (cf_Burst hw) (fl_Master_106 hw) (by decide) (by decide) rfl d_Master_tellData_62 g2 ?_
    refine J_aload d_Master_tellData_65 rfl ?_
    refine F_getI (ci := 0) (k := 3) hG (cf_Burst hw) (fl_Master_103 hw) (by decide) (by decide) rfl d_Master_tellData_67 g2 ?_
    obtain ⟨a3, ha3, H⟩ := Option.bind_eq_some_iff.mp H
    rw [j_rf ha3]
    obtain ⟨N4, hN4, H⟩ := Option.bind_eq_some_iff.mp H
    obtain ⟨k5, hk5, H⟩ := Option.bind_eq_some_iff.mp H
    refine F_lald k5 hw hG d_Master_tellData_70 (gA_some hN4) (ix_some hk5) ?_
    refine J_aload d_Master_tellData_71 rfl ?_
    refine F_getR (ci := 0) (k := 7) hG (cf_Burst hw) (fl_Master_110 hw) (by decide) (by decide) rfl d_Master_tellData_73 g2 ?_
    refine J_aload d_Master_tellData_76 rfl ?_
    refine F_getI (ci := 0) (k := 3) hG (cf_Burst hw) (fl_Master_103 hw) (by decide) (by decide) rfl d_Master_tellData_78 g2 ?_
    obtain ⟨a6, ha6, H⟩ := Option.bind_eq_some_iff.mp H
    rw [j_rf ha6]
    obtain ⟨N7, hN7, H⟩ := Option.bind_eq_some_iff.mp H
    obtain ⟨k8, hk8, H⟩ := Option.bind_eq_some_iff.mp H
    refine F_iald k8 hw hG d_Master_tellData_81 (gA_some hN7) (ix_some hk8) ?_
    obtain ⟨a9, ha9, H⟩ := Option.bind_eq_some_iff.mp H
    rw [j_rf ha9]
    have g10 : Γ a9 = .inr 5 := by
      apply Classical.byContradiction
      intro q9
      rw [if_neg q9] at H
      cases H
    rw [if_pos g10] at H
    obtain ⟨q11, hq11, H⟩ := Option.bind_eq_some_iff.mp H
    refine J_callV (kc := 0) (ks := 0) (kc' := 0) (ks' := 0) (a := a9) (ci := 5) (as := [.int (1 : Int32), .long (φ.2.1 a3 k5), .int (φ.1 a6 k8)]) (st := []) (mf_Port_send hw) (mv_Master_96 hw) d_Master_tellData_82 ln_Port_send (by decide) (by first | exact Nat.le_of_ble_eq_true rfl | (simp only [List.map_cons, List.map_nil, List.sum_cons, List.sum_nil, va_rf_cat]; exact Nat.le_of_ble_eq_true rfl)) rfl ((hG _).1 _ g10 (by decide)).1 ((hG _).1 _ g10 (by decide)).2 (by unfold pic; rw [g10]; rfl) (jcl_at hw rfl) rfl (p_Port_send hw hG hq11) ?_ (fun E h' n' x' e1 => by cases e1.1)
    intro v9 h9 n9 x9 e9
    obtain ⟨e91, e92, e93⟩ := e9
    cases e91
    subst e92
    subst e93
    clear x
    rename Bool => x
    show J _ _ _ _ [] _ _ _ _ _ _
    refine J.drop [false, false, false, false, false] rfl ?_
    exact p_Master_tellData_L85 hw hG  H
def f_Master_tellData_L26 (Γ : gm_T)  (φ : ph_T) : Option (Unit × ph_T) :=
  some ((), φ)
set_option maxRecDepth 100000 in
set_option maxHeartbeats 4000000 in
theorem p_Master_tellData_L26 {w : jw_T} (hw : jok w) {Γ : gm_T} {n : Nat} (hG : gd w Γ n)  {x : Bool} {φ : ph_T} {q : Unit × ph_T} (H : f_Master_tellData_L26 Γ  φ  = some q) : J w M_Master_tellData 26 [none, none, none, none, none] [] (pic Γ φ) n x 0 0 (fq Γ n (.inl none) q.2) := by
  unfold f_Master_tellData_L26 at H
  have H := Option.some.inj H
  subst H
  exact J_vret (st := []) d_Master_tellData_26 rfl ⟨rfl, rfl, rfl⟩
def f_Master_tellData (Γ : gm_T) (φ : ph_T) (this : Nat) (p0 : Option Nat) (p1 : Option Nat) (p2 : Int32) : Option (Unit × ph_T) :=
  Option.bind p0 fun a13 =>
  @ite _ (Γ a13 = .inr 5) _ (
  Option.bind (φ.2.2 a13 2) fun a15 =>
  Option.bind (gA Γ a15 2) fun N16 =>
  Option.bind (ix (1 : Int32) N16) fun k17 =>
  if (φ.1 a15 k17) = 0 then
    if p1 = none then
      f_Master_tellData_L26 Γ  φ 
    else
      @ite _ (Γ this = .inr 7) _ (
      Option.bind (φ.2.2 this 0) fun a19 =>
      Option.bind (gA Γ a19 0) fun N20 =>
      Option.bind (ix (1 : Int32) N20) fun k21 =>
      Option.bind (f_Bus_isOn Γ φ (φ.1 a19 k21) p2) fun q22 =>
      if q22.1 = 0 then
        f_Master_tellData_L26 Γ  q22.2 
      else
        Option.bind p1 fun a23 =>
        @ite _ (Γ a23 = .inr 6) _ (
        if (q22.2.1 this 1) = 0 then
          if (q22.2.1 a23 3) = (-1 : Int32) then
            f_Master_tellData_L85 Γ  q22.2 
          else
            f_Master_tellData_L48 Γ  q22.2 (some a13) (q22.2.2.2 a23 0)
        else
          f_Master_tellData_L48 Γ  q22.2 (some a13) (q22.2.2.2 a23 0)
        ) none
      ) none
  else
    f_Master_tellData_L26 Γ  φ 
  ) none
set_option maxRecDepth 100000 in
set_option maxHeartbeats 4000000 in
theorem p_Master_tellData {w : jw_T} (hw : jok w) {Γ : gm_T} {n : Nat} (hG : gd w Γ n) {x : Bool} {φ : ph_T} {this : Nat} {p0 : Option Nat} {p1 : Option Nat} {p2 : Int32} {q : Unit × ph_T} (H : f_Master_tellData Γ φ this p0 p1 p2 = some q) : jc w M_Master_tellData [.ref this, va_rf p0, va_rf p1, .int p2] (pic Γ φ) n x 0 0 (fq Γ n (.inl none) q.2) := by
  refine jc.of (by simp only [jent_r, jent_i, jent_l, jent_a, jent_0]; exact Nat.le_of_ble_eq_true rfl) ?_
  have hls : jents [.ref this, va_rf p0, va_rf p1, .int p2] (jm_nL M_Master_tellData) = [some (.ref this), some (va_rf p0), some (va_rf p1), some (.int p2), none] := by simp only [jents, jent_r, jent_i, jent_l, jent_a, jent_0]; rfl
  rw [hls]
  clear hls
  unfold f_Master_tellData at H
  refine J_aload_nO d_Master_tellData_0 rfl ?_
  obtain ⟨a13, ha13, H⟩ := Option.bind_eq_some_iff.mp H
  rw [j_rf ha13]
  have g14 : Γ a13 = .inr 5 := by
    apply Classical.byContradiction
    intro q9
    rw [if_neg q9] at H
    cases H
  rw [if_pos g14] at H
  refine F_getR (ci := 5) (k := 2) hG (cf_Port hw) (fl_Master_83 hw) (by decide) (by decide) rfl d_Master_tellData_1 g14 ?_
  refine J_iconst (v := 1) d_Master_tellData_4 (by decide) ?_
  obtain ⟨a15, ha15, H⟩ := Option.bind_eq_some_iff.mp H
  rw [j_rf ha15]
  obtain ⟨N16, hN16, H⟩ := Option.bind_eq_some_iff.mp H
  obtain ⟨k17, hk17, H⟩ := Option.bind_eq_some_iff.mp H
  refine F_zald k17 hw hG d_Master_tellData_5 (gA_some hN16) (ix_some hk17) ?_
  refine J_if_ne (tgt := 26) d_Master_tellData_6 (by decide) ?_ ?_
  · intro c29
    rw [if_neg c29] at H
    refine J.drop [false, false, false, false, false] rfl ?_
    exact p_Master_tellData_L26 hw hG  H
  · intro c29
    rw [if_pos c29] at H
    refine J_aload_nO d_Master_tellData_9 rfl ?_
    refine J_ifnullO (r := p1) (tgt := 26) d_Master_tellData_10 (by decide) ?_ ?_
    · intro c28
      rw [if_pos c28] at H
      refine J.drop [false, false, false, false, false] rfl ?_
      exact p_Master_tellData_L26 hw hG  H
    · intro c28
      rw [if_neg c28] at H
      refine J_aload_n d_Master_tellData_13 rfl ?_
      have g18 : Γ this = .inr 7 := by
        apply Classical.byContradiction
        intro q9
        rw [if_neg q9] at H
        cases H
      rw [if_pos g18] at H
      refine F_getR (ci := 7) (k := 0) hG (cf_Master hw) (fl_Master_9 hw) (by decide) (by decide) rfl d_Master_tellData_14 g18 ?_
      refine J_iconst (v := 1) d_Master_tellData_17 (by decide) ?_
      obtain ⟨a19, ha19, H⟩ := Option.bind_eq_some_iff.mp H
      rw [j_rf ha19]
      obtain ⟨N20, hN20, H⟩ := Option.bind_eq_some_iff.mp H
      obtain ⟨k21, hk21, H⟩ := Option.bind_eq_some_iff.mp H
      refine F_iald k21 hw hG d_Master_tellData_18 (gA_some hN20) (ix_some hk21) ?_
      refine J_iload_n d_Master_tellData_19 rfl ?_
      obtain ⟨q22, hq22, H⟩ := Option.bind_eq_some_iff.mp H
      refine J_callS (kc := 0) (ks := 0) (kc' := 0) (ks' := 0) (as := [.int (φ.1 a19 k21), .int p2]) (st := []) (mf_Bus_isOn hw) (ms_Master_79 hw) d_Master_tellData_20 ln_Bus_isOn (by decide) (by first | exact Nat.le_of_ble_eq_true rfl | (simp only [List.map_cons, List.map_nil, List.sum_cons, List.sum_nil, va_rf_cat]; exact Nat.le_of_ble_eq_true rfl)) rfl (p_Bus_isOn hw hG hq22) ?_ (fun E h' n' x' e1 => by cases e1.1)
      intro v9 h9 n9 x9 e9
      obtain ⟨e91, e92, e93⟩ := e9
      cases e91
      subst e92
      subst e93
      clear x
      rename Bool => x
      show J _ _ _ _ (_ :: _) _ _ _ _ _ _
      refine J_if_ne (tgt := 27) d_Master_tellData_23 (by decide) ?_ ?_
      · intro c27
        rw [if_neg c27] at H
        refine J_aload_nO d_Master_tellData_27 rfl ?_
        obtain ⟨a23, ha23, H⟩ := Option.bind_eq_some_iff.mp H
        rw [j_rf ha23]
        have g24 : Γ a23 = .inr 6 := by
          apply Classical.byContradiction
          intro q9
          rw [if_neg q9] at H
          cases H
        rw [if_pos g24] at H
        refine F_getR (ci := 6) (k := 0) hG (cf_Request hw) (fl_Master_86 hw) (by decide) (by decide) rfl d_Master_tellData_28 g24 ?_
        refine J_astoreO d_Master_tellData_31 (Nat.le_of_ble_eq_true rfl) ?_
        refine J.ls (ls' := [some (.ref this), some (.ref a13), some (.ref a23), some (.int p2), some (va_rf (q22.2.2.2 a23 0))]) rfl ?_
        refine J_aload_n d_Master_tellData_33 rfl ?_
        refine F_getI (ci := 7) (k := 1) hG (cf_Master hw) (fl_Master_31 hw) (by decide) (by decide) rfl d_Master_tellData_34 g18 ?_
        refine J_if_ne (tgt := 48) d_Master_tellData_37 (by decide) ?_ ?_
        · intro c26
          rw [if_neg c26] at H
          refine J.drop [false, true, false, false, true] rfl ?_
          exact p_Master_tellData_L48 hw hG  H
        · intro c26
          rw [if_pos c26] at H
          refine J_aload_n d_Master_tellData_40 rfl ?_
          refine F_getI (ci := 6) (k := 3) hG (cf_Request hw) (fl_Master_100 hw) (by decide) (by decide) rfl d_Master_tellData_41 g24 ?_
          refine J_iconst (v := -1) d_Master_tellData_44 (by decide) ?_
          refine J_icmp_eq (tgt := 85) d_Master_tellData_45 (by decide) ?_ ?_
          · intro c25
            rw [if_pos c25] at H
            refine J.drop [false, false, false, false, false] rfl ?_
            exact p_Master_tellData_L85 hw hG  H
          · intro c25
            rw [if_neg c25] at H
            refine J.drop [false, true, false, false, true] rfl ?_
            exact p_Master_tellData_L48 hw hG  H
      · intro c27
        rw [if_pos c27] at H
        refine J.drop [false, false, false, false, false] rfl ?_
        exact p_Master_tellData_L26 hw hG  H
theorem ln_Master_tell : (parseMethodDescriptor y_Master_tell.desc).map (fun q => q.parameters.length) = some 2 := by decide +kernel
def f_Master_tell (Γ : gm_T) (φ : ph_T) (this : Nat) (p0 : Option Nat) (p1 : Int32) : Option (Unit × ph_T) :=
  @ite _ (Γ this = .inr 7) _ (
  Option.bind (f_Master_at Γ φ (φ.2.2 this 2) (φ.1 this 6) (φ.1 this 4)) fun q2 =>
  Option.bind (f_Master_tellAddress Γ q2.2 this p0 (0 : Int32) q2.1 p1) fun q3 =>
  Option.bind (f_Master_at Γ q3.2 (q3.2.2.2 this 2) (q3.2.1 this 8) (q3.2.1 this 4)) fun q4 =>
  Option.bind (f_Master_tellData Γ q4.2 this p0 q4.1 p1) fun q5 =>
  Option.bind (f_Master_at Γ q5.2 (q5.2.2.2 this 3) (q5.2.1 this 7) (q5.2.1 this 5)) fun q6 =>
  Option.bind (f_Master_tellAddress Γ q6.2 this p0 (3 : Int32) q6.1 p1) fun q7 =>
  Option.bind p0 fun a8 =>
  @ite _ (Γ a8 = .inr 5) _ (
  Option.bind (q7.2.2.2 this 0) fun a10 =>
  Option.bind (gA Γ a10 0) fun N11 =>
  Option.bind (ix (2 : Int32) N11) fun k12 =>
  Option.bind (f_Bus_isOn Γ q7.2 (q7.2.1 a10 k12) p1) fun q13 =>
  Option.bind (q7.2.2.2 a8 1) fun a14 =>
  Option.bind (gA Γ a14 2) fun N15 =>
  Option.bind (ix (2 : Int32) N15) fun k16 =>
  @ite _ (q13.1 = 0 ∨ q13.1 = 1) _ (
  Option.bind (q13.2.2.2 this 0) fun a18 =>
  Option.bind (gA Γ a18 0) fun N19 =>
  Option.bind (ix (4 : Int32) N19) fun k20 =>
  Option.bind (f_Bus_isOn Γ (uI q13.2 a14 k16 q13.1) ((uI q13.2 a14 k16 q13.1).1 a18 k20) p1) fun q21 =>
  Option.bind (q13.2.2.2 a8 1) fun a22 =>
  Option.bind (gA Γ a22 2) fun N23 =>
  Option.bind (ix (4 : Int32) N23) fun k24 =>
  @ite _ (q21.1 = 0 ∨ q21.1 = 1) _ (
  some ((), (uI q21.2 a22 k24 q21.1))
  ) none
  ) none
  ) none
  ) none
set_option maxRecDepth 100000 in
set_option maxHeartbeats 4000000 in
theorem p_Master_tell {w : jw_T} (hw : jok w) {Γ : gm_T} {n : Nat} (hG : gd w Γ n) {x : Bool} {φ : ph_T} {this : Nat} {p0 : Option Nat} {p1 : Int32} {q : Unit × ph_T} (H : f_Master_tell Γ φ this p0 p1 = some q) : jc w M_Master_tell [.ref this, va_rf p0, .int p1] (pic Γ φ) n x 0 0 (fq Γ n (.inl none) q.2) := by
  refine jc.of (by simp only [jent_r, jent_i, jent_l, jent_a, jent_0]; exact Nat.le_of_ble_eq_true rfl) ?_
  have hls : jents [.ref this, va_rf p0, .int p1] (jm_nL M_Master_tell) = [some (.ref this), some (va_rf p0), some (.int p1)] := by simp only [jents, jent_r, jent_i, jent_l, jent_a, jent_0]; rfl
  rw [hls]
  clear hls
  unfold f_Master_tell at H
  refine J_aload_n d_Master_tell_0 rfl ?_
  refine J_aload_nO d_Master_tell_1 rfl ?_
  refine J_iconst (v := 0) d_Master_tell_2 (by decide) ?_
  refine J_aload_n d_Master_tell_3 rfl ?_
  have g1 : Γ this = .inr 7 := by
    apply Classical.byContradiction
    intro q9
    rw [if_neg q9] at H
    cases H
  rw [if_pos g1] at H
  refine F_getR (ci := 7) (k := 2) hG (cf_Master hw) (fl_Master_17 hw) (by decide) (by decide) rfl d_Master_tell_4 g1 ?_
  refine J_aload_n d_Master_tell_7 rfl ?_
  refine F_getI (ci := 7) (k := 6) hG (cf_Master hw) (fl_Master_42 hw) (by decide) (by decide) rfl d_Master_tell_8 g1 ?_
  refine J_aload_n d_Master_tell_11 rfl ?_
  refine F_getI (ci := 7) (k := 4) hG (cf_Master hw) (fl_Master_35 hw) (by decide) (by decide) rfl d_Master_tell_12 g1 ?_
  obtain ⟨q2, hq2, H⟩ := Option.bind_eq_some_iff.mp H
  refine J_callS (kc := 0) (ks := 0) (kc' := 0) (ks' := 0) (as := [va_rf (φ.2.2 this 2), .int (φ.1 this 6), .int (φ.1 this 4)]) (st := [.int (0 : Int32), va_rf p0, .ref this]) (mf_Master_at hw) (ms_Master_61 hw) d_Master_tell_15 ln_Master_at (by decide) (by first | exact Nat.le_of_ble_eq_true rfl | (simp only [List.map_cons, List.map_nil, List.sum_cons, List.sum_nil, va_rf_cat]; exact Nat.le_of_ble_eq_true rfl)) rfl (p_Master_at hw hG hq2) ?_ (fun E h' n' x' e1 => by cases e1.1)
  intro v9 h9 n9 x9 e9
  obtain ⟨e91, e92, e93⟩ := e9
  cases e91
  subst e92
  subst e93
  clear x
  rename Bool => x
  show J _ _ _ _ (_ :: _) _ _ _ _ _ _
  refine J_iload_n d_Master_tell_18 rfl ?_
  obtain ⟨q3, hq3, H⟩ := Option.bind_eq_some_iff.mp H
  refine J_callV (kc := 0) (ks := 0) (kc' := 0) (ks' := 0) (a := this) (ci := 7) (as := [va_rf p0, .int (0 : Int32), va_rf q2.1, .int p1]) (st := []) (mf_Master_tellAddress hw) (mv_Master_65 hw) d_Master_tell_19 ln_Master_tellAddress (by decide) (by first | exact Nat.le_of_ble_eq_true rfl | (simp only [List.map_cons, List.map_nil, List.sum_cons, List.sum_nil, va_rf_cat]; exact Nat.le_of_ble_eq_true rfl)) rfl ((hG _).1 _ g1 (by decide)).1 ((hG _).1 _ g1 (by decide)).2 (by unfold pic; rw [g1]; rfl) (jcl_at hw rfl) rfl (p_Master_tellAddress hw hG hq3) ?_ (fun E h' n' x' e1 => by cases e1.1)
  intro v9 h9 n9 x9 e9
  obtain ⟨e91, e92, e93⟩ := e9
  cases e91
  subst e92
  subst e93
  clear x
  rename Bool => x
  show J _ _ _ _ [] _ _ _ _ _ _
  refine J_aload_n d_Master_tell_22 rfl ?_
  refine J_aload_nO d_Master_tell_23 rfl ?_
  refine J_aload_n d_Master_tell_24 rfl ?_
  refine F_getR (ci := 7) (k := 2) hG (cf_Master hw) (fl_Master_17 hw) (by decide) (by decide) rfl d_Master_tell_25 g1 ?_
  refine J_aload_n d_Master_tell_28 rfl ?_
  refine F_getI (ci := 7) (k := 8) hG (cf_Master hw) (fl_Master_48 hw) (by decide) (by decide) rfl d_Master_tell_29 g1 ?_
  refine J_aload_n d_Master_tell_32 rfl ?_
  refine F_getI (ci := 7) (k := 4) hG (cf_Master hw) (fl_Master_35 hw) (by decide) (by decide) rfl d_Master_tell_33 g1 ?_
  obtain ⟨q4, hq4, H⟩ := Option.bind_eq_some_iff.mp H
  refine J_callS (kc := 0) (ks := 0) (kc' := 0) (ks' := 0) (as := [va_rf (q3.2.2.2 this 2), .int (q3.2.1 this 8), .int (q3.2.1 this 4)]) (st := [va_rf p0, .ref this]) (mf_Master_at hw) (ms_Master_61 hw) d_Master_tell_36 ln_Master_at (by decide) (by first | exact Nat.le_of_ble_eq_true rfl | (simp only [List.map_cons, List.map_nil, List.sum_cons, List.sum_nil, va_rf_cat]; exact Nat.le_of_ble_eq_true rfl)) rfl (p_Master_at hw hG hq4) ?_ (fun E h' n' x' e1 => by cases e1.1)
  intro v9 h9 n9 x9 e9
  obtain ⟨e91, e92, e93⟩ := e9
  cases e91
  subst e92
  subst e93
  clear x
  rename Bool => x
  show J _ _ _ _ (_ :: _) _ _ _ _ _ _
  refine J_iload_n d_Master_tell_39 rfl ?_
  obtain ⟨q5, hq5, H⟩ := Option.bind_eq_some_iff.mp H
  refine J_callV (kc := 0) (ks := 0) (kc' := 0) (ks' := 0) (a := this) (ci := 7) (as := [va_rf p0, va_rf q4.1, .int p1]) (st := []) (mf_Master_tellData hw) (mv_Master_69 hw) d_Master_tell_40 ln_Master_tellData (by decide) (by first | exact Nat.le_of_ble_eq_true rfl | (simp only [List.map_cons, List.map_nil, List.sum_cons, List.sum_nil, va_rf_cat]; exact Nat.le_of_ble_eq_true rfl)) rfl ((hG _).1 _ g1 (by decide)).1 ((hG _).1 _ g1 (by decide)).2 (by unfold pic; rw [g1]; rfl) (jcl_at hw rfl) rfl (p_Master_tellData hw hG hq5) ?_ (fun E h' n' x' e1 => by cases e1.1)
  intro v9 h9 n9 x9 e9
  obtain ⟨e91, e92, e93⟩ := e9
  cases e91
  subst e92
  subst e93
  clear x
  rename Bool => x
  show J _ _ _ _ [] _ _ _ _ _ _
  refine J_aload_n d_Master_tell_43 rfl ?_
  refine J_aload_nO d_Master_tell_44 rfl ?_
  refine J_iconst (v := 3) d_Master_tell_45 (by decide) ?_
  refine J_aload_n d_Master_tell_46 rfl ?_
  refine F_getR (ci := 7) (k := 3) hG (cf_Master hw) (fl_Master_21 hw) (by decide) (by decide) rfl d_Master_tell_47 g1 ?_
  refine J_aload_n d_Master_tell_50 rfl ?_
  refine F_getI (ci := 7) (k := 7) hG (cf_Master hw) (fl_Master_45 hw) (by decide) (by decide) rfl d_Master_tell_51 g1 ?_
  refine J_aload_n d_Master_tell_54 rfl ?_
  refine F_getI (ci := 7) (k := 5) hG (cf_Master hw) (fl_Master_39 hw) (by decide) (by decide) rfl d_Master_tell_55 g1 ?_
  obtain ⟨q6, hq6, H⟩ := Option.bind_eq_some_iff.mp H
  refine J_callS (kc := 0) (ks := 0) (kc' := 0) (ks' := 0) (as := [va_rf (q5.2.2.2 this 3), .int (q5.2.1 this 7), .int (q5.2.1 this 5)]) (st := [.int (3 : Int32), va_rf p0, .ref this]) (mf_Master_at hw) (ms_Master_61 hw) d_Master_tell_58 ln_Master_at (by decide) (by first | exact Nat.le_of_ble_eq_true rfl | (simp only [List.map_cons, List.map_nil, List.sum_cons, List.sum_nil, va_rf_cat]; exact Nat.le_of_ble_eq_true rfl)) rfl (p_Master_at hw hG hq6) ?_ (fun E h' n' x' e1 => by cases e1.1)
  intro v9 h9 n9 x9 e9
  obtain ⟨e91, e92, e93⟩ := e9
  cases e91
  subst e92
  subst e93
  clear x
  rename Bool => x
  show J _ _ _ _ (_ :: _) _ _ _ _ _ _
  refine J_iload_n d_Master_tell_61 rfl ?_
  obtain ⟨q7, hq7, H⟩ := Option.bind_eq_some_iff.mp H
  refine J_callV (kc := 0) (ks := 0) (kc' := 0) (ks' := 0) (a := this) (ci := 7) (as := [va_rf p0, .int (3 : Int32), va_rf q6.1, .int p1]) (st := []) (mf_Master_tellAddress hw) (mv_Master_65 hw) d_Master_tell_62 ln_Master_tellAddress (by decide) (by first | exact Nat.le_of_ble_eq_true rfl | (simp only [List.map_cons, List.map_nil, List.sum_cons, List.sum_nil, va_rf_cat]; exact Nat.le_of_ble_eq_true rfl)) rfl ((hG _).1 _ g1 (by decide)).1 ((hG _).1 _ g1 (by decide)).2 (by unfold pic; rw [g1]; rfl) (jcl_at hw rfl) rfl (p_Master_tellAddress hw hG hq7) ?_ (fun E h' n' x' e1 => by cases e1.1)
  intro v9 h9 n9 x9 e9
  obtain ⟨e91, e92, e93⟩ := e9
  cases e91
  subst e92
  subst e93
  clear x
  rename Bool => x
  show J _ _ _ _ [] _ _ _ _ _ _
  refine J_aload_nO d_Master_tell_65 rfl ?_
  obtain ⟨a8, ha8, H⟩ := Option.bind_eq_some_iff.mp H
  rw [j_rf ha8]
  have g9 : Γ a8 = .inr 5 := by
    apply Classical.byContradiction
    intro q9
    rw [if_neg q9] at H
    cases H
  rw [if_pos g9] at H
  refine F_getR (ci := 5) (k := 1) hG (cf_Port hw) (fl_Master_73 hw) (by decide) (by decide) rfl d_Master_tell_66 g9 ?_
  refine J_iconst (v := 2) d_Master_tell_69 (by decide) ?_
  refine J_aload_n d_Master_tell_70 rfl ?_
  refine F_getR (ci := 7) (k := 0) hG (cf_Master hw) (fl_Master_9 hw) (by decide) (by decide) rfl d_Master_tell_71 g1 ?_
  refine J_iconst (v := 2) d_Master_tell_74 (by decide) ?_
  obtain ⟨a10, ha10, H⟩ := Option.bind_eq_some_iff.mp H
  rw [j_rf ha10]
  obtain ⟨N11, hN11, H⟩ := Option.bind_eq_some_iff.mp H
  obtain ⟨k12, hk12, H⟩ := Option.bind_eq_some_iff.mp H
  refine F_iald k12 hw hG d_Master_tell_75 (gA_some hN11) (ix_some hk12) ?_
  refine J_iload_n d_Master_tell_76 rfl ?_
  obtain ⟨q13, hq13, H⟩ := Option.bind_eq_some_iff.mp H
  refine J_callS (kc := 0) (ks := 0) (kc' := 0) (ks' := 0) (as := [.int (q7.2.1 a10 k12), .int p1]) (st := [.int (2 : Int32), va_rf (q7.2.2.2 a8 1)]) (mf_Bus_isOn hw) (ms_Master_79 hw) d_Master_tell_77 ln_Bus_isOn (by decide) (by first | exact Nat.le_of_ble_eq_true rfl | (simp only [List.map_cons, List.map_nil, List.sum_cons, List.sum_nil, va_rf_cat]; exact Nat.le_of_ble_eq_true rfl)) rfl (p_Bus_isOn hw hG hq13) ?_ (fun E h' n' x' e1 => by cases e1.1)
  intro v9 h9 n9 x9 e9
  obtain ⟨e91, e92, e93⟩ := e9
  cases e91
  subst e92
  subst e93
  clear x
  rename Bool => x
  show J _ _ _ _ (_ :: _) _ _ _ _ _ _
  obtain ⟨a14, ha14, H⟩ := Option.bind_eq_some_iff.mp H
  rw [j_rf ha14]
  obtain ⟨N15, hN15, H⟩ := Option.bind_eq_some_iff.mp H
  obtain ⟨k16, hk16, H⟩ := Option.bind_eq_some_iff.mp H
  have z17 : q13.1 = 0 ∨ q13.1 = 1 := by
    apply Classical.byContradiction
    intro q9
    rw [if_neg q9] at H
    cases H
  rw [if_pos z17] at H
  refine F_zast k16 hw hG d_Master_tell_80 (gA_some hN15) (ix_some hk16) z17 ?_
  refine J_aload_n d_Master_tell_81 rfl ?_
  refine F_getR (ci := 5) (k := 1) hG (cf_Port hw) (fl_Master_73 hw) (by decide) (by decide) rfl d_Master_tell_82 g9 ?_
  show J _ _ _ _ (va_rf (q13.2.2.2 a8 1) :: _) _ _ _ _ _ _
  refine J_iconst (v := 4) d_Master_tell_85 (by decide) ?_
  refine J_aload_n d_Master_tell_86 rfl ?_
  refine F_getR (ci := 7) (k := 0) hG (cf_Master hw) (fl_Master_9 hw) (by decide) (by decide) rfl d_Master_tell_87 g1 ?_
  show J _ _ _ _ (va_rf (q13.2.2.2 this 0) :: _) _ _ _ _ _ _
  refine J_iconst (v := 4) d_Master_tell_90 (by decide) ?_
  obtain ⟨a18, ha18, H⟩ := Option.bind_eq_some_iff.mp H
  rw [j_rf ha18]
  obtain ⟨N19, hN19, H⟩ := Option.bind_eq_some_iff.mp H
  obtain ⟨k20, hk20, H⟩ := Option.bind_eq_some_iff.mp H
  refine F_iald k20 hw hG d_Master_tell_91 (gA_some hN19) (ix_some hk20) ?_
  refine J_iload_n d_Master_tell_92 rfl ?_
  obtain ⟨q21, hq21, H⟩ := Option.bind_eq_some_iff.mp H
  refine J_callS (kc := 0) (ks := 0) (kc' := 0) (ks' := 0) (as := [.int ((uI q13.2 a14 k16 q13.1).1 a18 k20), .int p1]) (st := [.int (4 : Int32), va_rf (q13.2.2.2 a8 1)]) (mf_Bus_isOn hw) (ms_Master_79 hw) d_Master_tell_93 ln_Bus_isOn (by decide) (by first | exact Nat.le_of_ble_eq_true rfl | (simp only [List.map_cons, List.map_nil, List.sum_cons, List.sum_nil, va_rf_cat]; exact Nat.le_of_ble_eq_true rfl)) rfl (p_Bus_isOn hw hG hq21) ?_ (fun E h' n' x' e1 => by cases e1.1)
  intro v9 h9 n9 x9 e9
  obtain ⟨e91, e92, e93⟩ := e9
  cases e91
  subst e92
  subst e93
  clear x
  rename Bool => x
  show J _ _ _ _ (_ :: _) _ _ _ _ _ _
  obtain ⟨a22, ha22, H⟩ := Option.bind_eq_some_iff.mp H
  rw [j_rf ha22]
  obtain ⟨N23, hN23, H⟩ := Option.bind_eq_some_iff.mp H
  obtain ⟨k24, hk24, H⟩ := Option.bind_eq_some_iff.mp H
  have z25 : q21.1 = 0 ∨ q21.1 = 1 := by
    apply Classical.byContradiction
    intro q9
    rw [if_neg q9] at H
    cases H
  rw [if_pos z25] at H
  refine F_zast k24 hw hG d_Master_tell_96 (gA_some hN23) (ix_some hk24) z25 ?_
  have H := Option.some.inj H
  subst H
  exact J_vret (st := []) d_Master_tell_97 rfl ⟨rfl, rfl, rfl⟩
theorem ln_Switch_ofMaster : (parseMethodDescriptor y_Switch_ofMaster.desc).map (fun q => q.parameters.length) = some 2 := by decide +kernel
def f_Switch_ofMaster (Γ : gm_T) (φ : ph_T) (this : Nat) (p0 : Int32) (p1 : Int32) : Option (Option Nat × ph_T) :=
  @ite _ (Γ this = .inr 10) _ (
  Option.bind (φ.2.2 this 4) fun a2 =>
  Option.bind (gA Γ a2 3) fun N3 =>
  Option.bind (ix ((p0 * (5 : Int32)) + p1) N3) fun k4 =>
  some ((φ.2.2 a2 k4), φ)
  ) none
set_option maxRecDepth 100000 in
set_option maxHeartbeats 4000000 in
theorem p_Switch_ofMaster {w : jw_T} (hw : jok w) {Γ : gm_T} {n : Nat} (hG : gd w Γ n) {x : Bool} {φ : ph_T} {this : Nat} {p0 : Int32} {p1 : Int32} {q : Option Nat × ph_T} (H : f_Switch_ofMaster Γ φ this p0 p1 = some q) : jc w M_Switch_ofMaster [.ref this, .int p0, .int p1] (pic Γ φ) n x 0 0 (fq Γ n (.inl (some (va_rf q.1))) q.2) := by
  refine jc.of (by simp only [jent_r, jent_i, jent_l, jent_a, jent_0]; exact Nat.le_of_ble_eq_true rfl) ?_
  have hls : jents [.ref this, .int p0, .int p1] (jm_nL M_Switch_ofMaster) = [some (.ref this), some (.int p0), some (.int p1)] := by simp only [jents, jent_r, jent_i, jent_l, jent_a, jent_0]; rfl
  rw [hls]
  clear hls
  unfold f_Switch_ofMaster at H
  refine J_aload_n d_Switch_ofMaster_0 rfl ?_
  have g1 : Γ this = .inr 10 := by
    apply Classical.byContradiction
    intro q9
    rw [if_neg q9] at H
    cases H
  rw [if_pos g1] at H
  refine F_getR (ci := 10) (k := 4) hG (cf_Switch hw) (fl_Switch_29 hw) (by decide) (by decide) rfl d_Switch_ofMaster_1 g1 ?_
  refine J_iload_n d_Switch_ofMaster_4 rfl ?_
  refine J_iconst (v := 5) d_Switch_ofMaster_5 (by decide) ?_
  refine J_imul d_Switch_ofMaster_6 ?_
  refine J_iload_n d_Switch_ofMaster_7 rfl ?_
  refine J_iadd d_Switch_ofMaster_8 ?_
  obtain ⟨a2, ha2, H⟩ := Option.bind_eq_some_iff.mp H
  rw [j_rf ha2]
  obtain ⟨N3, hN3, H⟩ := Option.bind_eq_some_iff.mp H
  obtain ⟨k4, hk4, H⟩ := Option.bind_eq_some_iff.mp H
  refine F_aald k4 hw hG (t := 3) rfl (by decide) d_Switch_ofMaster_9 (gA_some hN3) (ix_some hk4) ?_
  have H := Option.some.inj H
  subst H
  exact J_aret (st := []) d_Switch_ofMaster_10 rfl (Or.inl ⟨_, rfl⟩) (by first | exact Or.inr ⟨_, rfl⟩ | (generalize (φ.2.2 a2 k4) = r9; cases r9; exact Or.inl rfl; exact Or.inr ⟨_, rfl⟩)) ⟨rfl, rfl, rfl⟩
theorem ln_Bus_toSlave : (parseMethodDescriptor y_Bus_toSlave.desc).map (fun q => q.parameters.length) = some 1 := by decide +kernel
def f_Bus_toSlave_L15 (Γ : gm_T)  (φ : ph_T) (y0 : Int32) : Option (Int32 × ph_T) :=
  @ite _ (y0 = 0 ∨ y0 = 1) _ (
  some (y0, φ)
  ) none
set_option maxRecDepth 100000 in
set_option maxHeartbeats 4000000 in
theorem p_Bus_toSlave_L15 {w : jw_T} (hw : jok w) {Γ : gm_T} {n : Nat} (hG : gd w Γ n)  {x : Bool} {φ : ph_T} {y0 : Int32} {q : Int32 × ph_T} (H : f_Bus_toSlave_L15 Γ  φ y0 = some q) : J w M_Bus_toSlave 15 [none] [.int y0] (pic Γ φ) n x 0 0 (fq Γ n (.inl (some (.int q.1))) q.2) := by
  unfold f_Bus_toSlave_L15 at H
  have z1 : y0 = 0 ∨ y0 = 1 := by
    apply Classical.byContradiction
    intro q9
    rw [if_neg q9] at H
    cases H
  rw [if_pos z1] at H
  have H := Option.some.inj H
  subst H
  exact J_iret (st := []) d_Bus_toSlave_15 rfl (narrow_z z1).1 ⟨rfl, rfl, rfl⟩
def f_Bus_toSlave_L14 (Γ : gm_T)  (φ : ph_T) : Option (Int32 × ph_T) :=
  f_Bus_toSlave_L15 Γ  φ (0 : Int32)
set_option maxRecDepth 100000 in
set_option maxHeartbeats 4000000 in
theorem p_Bus_toSlave_L14 {w : jw_T} (hw : jok w) {Γ : gm_T} {n : Nat} (hG : gd w Γ n)  {x : Bool} {φ : ph_T} {q : Int32 × ph_T} (H : f_Bus_toSlave_L14 Γ  φ  = some q) : J w M_Bus_toSlave 14 [none] [] (pic Γ φ) n x 0 0 (fq Γ n (.inl (some (.int q.1))) q.2) := by
  unfold f_Bus_toSlave_L14 at H
  refine J_iconst (v := 0) d_Bus_toSlave_14 (by decide) ?_
  refine J.drop [false] rfl ?_
  exact p_Bus_toSlave_L15 hw hG  H
def f_Bus_toSlave (Γ : gm_T) (φ : ph_T) (p0 : Int32) : Option (Int32 × ph_T) :=
  if p0 = (2 : Int32) then
    f_Bus_toSlave_L14 Γ  φ 
  else
    if p0 = (4 : Int32) then
      f_Bus_toSlave_L14 Γ  φ 
    else
      f_Bus_toSlave_L15 Γ  φ (1 : Int32)
set_option maxRecDepth 100000 in
set_option maxHeartbeats 4000000 in
theorem p_Bus_toSlave {w : jw_T} (hw : jok w) {Γ : gm_T} {n : Nat} (hG : gd w Γ n) {x : Bool} {φ : ph_T} {p0 : Int32} {q : Int32 × ph_T} (H : f_Bus_toSlave Γ φ p0 = some q) : jc w M_Bus_toSlave [.int p0] (pic Γ φ) n x 0 0 (fq Γ n (.inl (some (.int q.1))) q.2) := by
  refine jc.of (by simp only [jent_r, jent_i, jent_l, jent_a, jent_0]; exact Nat.le_of_ble_eq_true rfl) ?_
  have hls : jents [.int p0] (jm_nL M_Bus_toSlave) = [some (.int p0)] := by simp only [jents, jent_r, jent_i, jent_l, jent_a, jent_0]; rfl
  rw [hls]
  clear hls
  unfold f_Bus_toSlave at H
  refine J_iload_n d_Bus_toSlave_0 rfl ?_
  refine J_iconst (v := 2) d_Bus_toSlave_1 (by decide) ?_
  refine J_icmp_eq (tgt := 14) d_Bus_toSlave_2 (by decide) ?_ ?_
  · intro c3
    rw [if_pos c3] at H
    refine J.drop [false] rfl ?_
    exact p_Bus_toSlave_L14 hw hG  H
  · intro c3
    rw [if_neg c3] at H
    refine J_iload_n d_Bus_toSlave_5 rfl ?_
    refine J_iconst (v := 4) d_Bus_toSlave_6 (by decide) ?_
    refine J_icmp_eq (tgt := 14) d_Bus_toSlave_7 (by decide) ?_ ?_
    · intro c2
      rw [if_pos c2] at H
      refine J.drop [false] rfl ?_
      exact p_Bus_toSlave_L14 hw hG  H
    · intro c2
      rw [if_neg c2] at H
      refine J_iconst (v := 1) d_Bus_toSlave_10 (by decide) ?_
      refine J_goto (tgt := 15) d_Bus_toSlave_11 (by decide) ?_
      refine J.drop [false] rfl ?_
      exact p_Bus_toSlave_L15 hw hG  H
theorem ln_Row_hasRoom : (parseMethodDescriptor y_Row_hasRoom.desc).map (fun q => q.parameters.length) = some 0 := by decide +kernel
def f_Row_hasRoom_L17 (Γ : gm_T)  (φ : ph_T) (y0 : Int32) : Option (Int32 × ph_T) :=
  @ite _ (y0 = 0 ∨ y0 = 1) _ (
  some (y0, φ)
  ) none
set_option maxRecDepth 100000 in
set_option maxHeartbeats 4000000 in
theorem p_Row_hasRoom_L17 {w : jw_T} (hw : jok w) {Γ : gm_T} {n : Nat} (hG : gd w Γ n)  {x : Bool} {φ : ph_T} {y0 : Int32} {q : Int32 × ph_T} (H : f_Row_hasRoom_L17 Γ  φ y0 = some q) : J w M_Row_hasRoom 17 [none] [.int y0] (pic Γ φ) n x 0 0 (fq Γ n (.inl (some (.int q.1))) q.2) := by
  unfold f_Row_hasRoom_L17 at H
  have z1 : y0 = 0 ∨ y0 = 1 := by
    apply Classical.byContradiction
    intro q9
    rw [if_neg q9] at H
    cases H
  rw [if_pos z1] at H
  have H := Option.some.inj H
  subst H
  exact J_iret (st := []) d_Row_hasRoom_17 rfl (narrow_z z1).1 ⟨rfl, rfl, rfl⟩
def f_Row_hasRoom (Γ : gm_T) (φ : ph_T) (this : Nat) : Option (Int32 × ph_T) :=
  @ite _ (Γ this = .inr 3) _ (
  Option.bind (φ.2.2 this 0) fun a3 =>
  Option.bind (gA Γ a3 1) fun N4 =>
  if (nI N4) ≤ (φ.1 this 3) then
    f_Row_hasRoom_L17 Γ  φ (0 : Int32)
  else
    f_Row_hasRoom_L17 Γ  φ (1 : Int32)
  ) none
set_option maxRecDepth 100000 in
set_option maxHeartbeats 4000000 in
theorem p_Row_hasRoom {w : jw_T} (hw : jok w) {Γ : gm_T} {n : Nat} (hG : gd w Γ n) {x : Bool} {φ : ph_T} {this : Nat} {q : Int32 × ph_T} (H : f_Row_hasRoom Γ φ this = some q) : jc w M_Row_hasRoom [.ref this] (pic Γ φ) n x 0 0 (fq Γ n (.inl (some (.int q.1))) q.2) := by
  refine jc.of (by simp only [jent_r, jent_i, jent_l, jent_a, jent_0]; exact Nat.le_of_ble_eq_true rfl) ?_
  have hls : jents [.ref this] (jm_nL M_Row_hasRoom) = [some (.ref this)] := by simp only [jents, jent_r, jent_i, jent_l, jent_a, jent_0]; rfl
  rw [hls]
  clear hls
  unfold f_Row_hasRoom at H
  refine J_aload_n d_Row_hasRoom_0 rfl ?_
  have g2 : Γ this = .inr 3 := by
    apply Classical.byContradiction
    intro q9
    rw [if_neg q9] at H
    cases H
  rw [if_pos g2] at H
  refine F_getI (ci := 3) (k := 3) hG (cf_Row hw) (fl_Row_20 hw) (by decide) (by decide) rfl d_Row_hasRoom_1 g2 ?_
  refine J_aload_n d_Row_hasRoom_4 rfl ?_
  refine F_getR (ci := 3) (k := 0) hG (cf_Row hw) (fl_Row_7 hw) (by decide) (by decide) rfl d_Row_hasRoom_5 g2 ?_
  obtain ⟨a3, ha3, H⟩ := Option.bind_eq_some_iff.mp H
  rw [j_rf ha3]
  obtain ⟨N4, hN4, H⟩ := Option.bind_eq_some_iff.mp H
  refine F_alen hw hG (t := 1) rfl d_Row_hasRoom_8 (gA_some hN4) ?_
  refine J_icmp_ge (tgt := 16) d_Row_hasRoom_9 (by decide) ?_ ?_
  · intro c5
    rw [if_pos c5] at H
    refine J_iconst (v := 0) d_Row_hasRoom_16 (by decide) ?_
    refine J.drop [false] rfl ?_
    exact p_Row_hasRoom_L17 hw hG  H
  · intro c5
    rw [if_neg c5] at H
    refine J_iconst (v := 1) d_Row_hasRoom_12 (by decide) ?_
    refine J_goto (tgt := 17) d_Row_hasRoom_13 (by decide) ?_
    refine J.drop [false] rfl ?_
    exact p_Row_hasRoom_L17 hw hG  H
theorem ln_Row_holds : (parseMethodDescriptor y_Row_holds.desc).map (fun q => q.parameters.length) = some 0 := by decide +kernel
def f_Row_holds_L12 (Γ : gm_T)  (φ : ph_T) (y0 : Int32) : Option (Int32 × ph_T) :=
  @ite _ (y0 = 0 ∨ y0 = 1) _ (
  some (y0, φ)
  ) none
set_option maxRecDepth 100000 in
set_option maxHeartbeats 4000000 in
theorem p_Row_holds_L12 {w : jw_T} (hw : jok w) {Γ : gm_T} {n : Nat} (hG : gd w Γ n)  {x : Bool} {φ : ph_T} {y0 : Int32} {q : Int32 × ph_T} (H : f_Row_holds_L12 Γ  φ y0 = some q) : J w M_Row_holds 12 [none] [.int y0] (pic Γ φ) n x 0 0 (fq Γ n (.inl (some (.int q.1))) q.2) := by
  unfold f_Row_holds_L12 at H
  have z1 : y0 = 0 ∨ y0 = 1 := by
    apply Classical.byContradiction
    intro q9
    rw [if_neg q9] at H
    cases H
  rw [if_pos z1] at H
  have H := Option.some.inj H
  subst H
  exact J_iret (st := []) d_Row_holds_12 rfl (narrow_z z1).1 ⟨rfl, rfl, rfl⟩
def f_Row_holds (Γ : gm_T) (φ : ph_T) (this : Nat) : Option (Int32 × ph_T) :=
  @ite _ (Γ this = .inr 3) _ (
  if (φ.1 this 3) ≤ 0 then
    f_Row_holds_L12 Γ  φ (0 : Int32)
  else
    f_Row_holds_L12 Γ  φ (1 : Int32)
  ) none
set_option maxRecDepth 100000 in
set_option maxHeartbeats 4000000 in
theorem p_Row_holds {w : jw_T} (hw : jok w) {Γ : gm_T} {n : Nat} (hG : gd w Γ n) {x : Bool} {φ : ph_T} {this : Nat} {q : Int32 × ph_T} (H : f_Row_holds Γ φ this = some q) : jc w M_Row_holds [.ref this] (pic Γ φ) n x 0 0 (fq Γ n (.inl (some (.int q.1))) q.2) := by
  refine jc.of (by simp only [jent_r, jent_i, jent_l, jent_a, jent_0]; exact Nat.le_of_ble_eq_true rfl) ?_
  have hls : jents [.ref this] (jm_nL M_Row_holds) = [some (.ref this)] := by simp only [jents, jent_r, jent_i, jent_l, jent_a, jent_0]; rfl
  rw [hls]
  clear hls
  unfold f_Row_holds at H
  refine J_aload_n d_Row_holds_0 rfl ?_
  have g2 : Γ this = .inr 3 := by
    apply Classical.byContradiction
    intro q9
    rw [if_neg q9] at H
    cases H
  rw [if_pos g2] at H
  refine F_getI (ci := 3) (k := 3) hG (cf_Row hw) (fl_Row_20 hw) (by decide) (by decide) rfl d_Row_holds_1 g2 ?_
  refine J_if_le (tgt := 11) d_Row_holds_4 (by decide) ?_ ?_
  · intro c3
    rw [if_pos c3] at H
    refine J_iconst (v := 0) d_Row_holds_11 (by decide) ?_
    refine J.drop [false] rfl ?_
    exact p_Row_holds_L12 hw hG  H
  · intro c3
    rw [if_neg c3] at H
    refine J_iconst (v := 1) d_Row_holds_7 (by decide) ?_
    refine J_goto (tgt := 12) d_Row_holds_8 (by decide) ?_
    refine J.drop [false] rfl ?_
    exact p_Row_holds_L12 hw hG  H
theorem ln_Row_firstContent : (parseMethodDescriptor y_Row_firstContent.desc).map (fun q => q.parameters.length) = some 0 := by decide +kernel
def f_Row_firstContent_L17 (Γ : gm_T)  (φ : ph_T) (y0 : Int64) : Option (Int64 × ph_T) :=
  some (y0, φ)
set_option maxRecDepth 100000 in
set_option maxHeartbeats 4000000 in
theorem p_Row_firstContent_L17 {w : jw_T} (hw : jok w) {Γ : gm_T} {n : Nat} (hG : gd w Γ n)  {x : Bool} {φ : ph_T} {y0 : Int64} {q : Int64 × ph_T} (H : f_Row_firstContent_L17 Γ  φ y0 = some q) : J w M_Row_firstContent 17 [none] [.long y0] (pic Γ φ) n x 0 0 (fq Γ n (.inl (some (.long q.1))) q.2) := by
  unfold f_Row_firstContent_L17 at H
  have H := Option.some.inj H
  subst H
  exact J_lret (st := []) d_Row_firstContent_17 rfl ⟨rfl, rfl, rfl⟩
def f_Row_firstContent (Γ : gm_T) (φ : ph_T) (this : Nat) : Option (Int64 × ph_T) :=
  @ite _ (Γ this = .inr 3) _ (
  if (φ.1 this 3) ≤ 0 then
    f_Row_firstContent_L17 Γ  φ (0 : Int64)
  else
    Option.bind (φ.2.2 this 0) fun a2 =>
    Option.bind (gA Γ a2 1) fun N3 =>
    Option.bind (ix (0 : Int32) N3) fun k4 =>
    f_Row_firstContent_L17 Γ  φ (φ.2.1 a2 k4)
  ) none
set_option maxRecDepth 100000 in
set_option maxHeartbeats 4000000 in
theorem p_Row_firstContent {w : jw_T} (hw : jok w) {Γ : gm_T} {n : Nat} (hG : gd w Γ n) {x : Bool} {φ : ph_T} {this : Nat} {q : Int64 × ph_T} (H : f_Row_firstContent Γ φ this = some q) : jc w M_Row_firstContent [.ref this] (pic Γ φ) n x 0 0 (fq Γ n (.inl (some (.long q.1))) q.2) := by
  refine jc.of (by simp only [jent_r, jent_i, jent_l, jent_a, jent_0]; exact Nat.le_of_ble_eq_true rfl) ?_
  have hls : jents [.ref this] (jm_nL M_Row_firstContent) = [some (.ref this)] := by simp only [jents, jent_r, jent_i, jent_l, jent_a, jent_0]; rfl
  rw [hls]
  clear hls
  unfold f_Row_firstContent at H
  refine J_aload_n d_Row_firstContent_0 rfl ?_
  have g1 : Γ this = .inr 3 := by
    apply Classical.byContradiction
    intro q9
    rw [if_neg q9] at H
    cases H
  rw [if_pos g1] at H
  refine F_getI (ci := 3) (k := 3) hG (cf_Row hw) (fl_Row_20 hw) (by decide) (by decide) rfl d_Row_firstContent_1 g1 ?_
  refine J_if_le (tgt := 16) d_Row_firstContent_4 (by decide) ?_ ?_
  · intro c5
    rw [if_pos c5] at H
    refine J_lconst (v := 0) d_Row_firstContent_16 (by decide) ?_
    refine J.drop [false] rfl ?_
    exact p_Row_firstContent_L17 hw hG  H
  · intro c5
    rw [if_neg c5] at H
    refine J_aload_n d_Row_firstContent_7 rfl ?_
    refine F_getR (ci := 3) (k := 0) hG (cf_Row hw) (fl_Row_7 hw) (by decide) (by decide) rfl d_Row_firstContent_8 g1 ?_
    refine J_iconst (v := 0) d_Row_firstContent_11 (by decide) ?_
    obtain ⟨a2, ha2, H⟩ := Option.bind_eq_some_iff.mp H
    rw [j_rf ha2]
    obtain ⟨N3, hN3, H⟩ := Option.bind_eq_some_iff.mp H
    obtain ⟨k4, hk4, H⟩ := Option.bind_eq_some_iff.mp H
    refine F_lald k4 hw hG d_Row_firstContent_12 (gA_some hN3) (ix_some hk4) ?_
    refine J_goto (tgt := 17) d_Row_firstContent_13 (by decide) ?_
    refine J.drop [false] rfl ?_
    exact p_Row_firstContent_L17 hw hG  H
theorem ln_Row_firstRest : (parseMethodDescriptor y_Row_firstRest.desc).map (fun q => q.parameters.length) = some 0 := by decide +kernel
def f_Row_firstRest_L17 (Γ : gm_T)  (φ : ph_T) (y0 : Int32) : Option (Int32 × ph_T) :=
  some (y0, φ)
set_option maxRecDepth 100000 in
set_option maxHeartbeats 4000000 in
theorem p_Row_firstRest_L17 {w : jw_T} (hw : jok w) {Γ : gm_T} {n : Nat} (hG : gd w Γ n)  {x : Bool} {φ : ph_T} {y0 : Int32} {q : Int32 × ph_T} (H : f_Row_firstRest_L17 Γ  φ y0 = some q) : J w M_Row_firstRest 17 [none] [.int y0] (pic Γ φ) n x 0 0 (fq Γ n (.inl (some (.int q.1))) q.2) := by
  unfold f_Row_firstRest_L17 at H
  have H := Option.some.inj H
  subst H
  exact J_iret (st := []) d_Row_firstRest_17 rfl rfl ⟨rfl, rfl, rfl⟩
def f_Row_firstRest (Γ : gm_T) (φ : ph_T) (this : Nat) : Option (Int32 × ph_T) :=
  @ite _ (Γ this = .inr 3) _ (
  if (φ.1 this 3) ≤ 0 then
    f_Row_firstRest_L17 Γ  φ (0 : Int32)
  else
    Option.bind (φ.2.2 this 1) fun a2 =>
    Option.bind (gA Γ a2 0) fun N3 =>
    Option.bind (ix (0 : Int32) N3) fun k4 =>
    f_Row_firstRest_L17 Γ  φ (φ.1 a2 k4)
  ) none
set_option maxRecDepth 100000 in
set_option maxHeartbeats 4000000 in
theorem p_Row_firstRest {w : jw_T} (hw : jok w) {Γ : gm_T} {n : Nat} (hG : gd w Γ n) {x : Bool} {φ : ph_T} {this : Nat} {q : Int32 × ph_T} (H : f_Row_firstRest Γ φ this = some q) : jc w M_Row_firstRest [.ref this] (pic Γ φ) n x 0 0 (fq Γ n (.inl (some (.int q.1))) q.2) := by
  refine jc.of (by simp only [jent_r, jent_i, jent_l, jent_a, jent_0]; exact Nat.le_of_ble_eq_true rfl) ?_
  have hls : jents [.ref this] (jm_nL M_Row_firstRest) = [some (.ref this)] := by simp only [jents, jent_r, jent_i, jent_l, jent_a, jent_0]; rfl
  rw [hls]
  clear hls
  unfold f_Row_firstRest at H
  refine J_aload_n d_Row_firstRest_0 rfl ?_
  have g1 : Γ this = .inr 3 := by
    apply Classical.byContradiction
    intro q9
    rw [if_neg q9] at H
    cases H
  rw [if_pos g1] at H
  refine F_getI (ci := 3) (k := 3) hG (cf_Row hw) (fl_Row_20 hw) (by decide) (by decide) rfl d_Row_firstRest_1 g1 ?_
  refine J_if_le (tgt := 16) d_Row_firstRest_4 (by decide) ?_ ?_
  · intro c5
    rw [if_pos c5] at H
    refine J_iconst (v := 0) d_Row_firstRest_16 (by decide) ?_
    refine J.drop [false] rfl ?_
    exact p_Row_firstRest_L17 hw hG  H
  · intro c5
    rw [if_neg c5] at H
    refine J_aload_n d_Row_firstRest_7 rfl ?_
    refine F_getR (ci := 3) (k := 1) hG (cf_Row hw) (fl_Row_13 hw) (by decide) (by decide) rfl d_Row_firstRest_8 g1 ?_
    refine J_iconst (v := 0) d_Row_firstRest_11 (by decide) ?_
    obtain ⟨a2, ha2, H⟩ := Option.bind_eq_some_iff.mp H
    rw [j_rf ha2]
    obtain ⟨N3, hN3, H⟩ := Option.bind_eq_some_iff.mp H
    obtain ⟨k4, hk4, H⟩ := Option.bind_eq_some_iff.mp H
    refine F_iald k4 hw hG d_Row_firstRest_12 (gA_some hN3) (ix_some hk4) ?_
    refine J_goto (tgt := 17) d_Row_firstRest_13 (by decide) ?_
    refine J.drop [false] rfl ?_
    exact p_Row_firstRest_L17 hw hG  H
theorem ln_Switch_tellRow : (parseMethodDescriptor y_Switch_tellRow.desc).map (fun q => q.parameters.length) = some 4 := by decide +kernel
def f_Switch_tellRow_L37 (Γ : gm_T)  (φ : ph_T) : Option (Unit × ph_T) :=
  some ((), φ)
set_option maxRecDepth 100000 in
set_option maxHeartbeats 4000000 in
theorem p_Switch_tellRow_L37 {w : jw_T} (hw : jok w) {Γ : gm_T} {n : Nat} (hG : gd w Γ n)  {x : Bool} {φ : ph_T} {q : Unit × ph_T} (H : f_Switch_tellRow_L37 Γ  φ  = some q) : J w M_Switch_tellRow 37 [none, none, none, none] [] (pic Γ φ) n x 0 0 (fq Γ n (.inl none) q.2) := by
  unfold f_Switch_tellRow_L37 at H
  have H := Option.some.inj H
  subst H
  exact J_vret (st := []) d_Switch_tellRow_37 rfl ⟨rfl, rfl, rfl⟩
def f_Switch_tellRow (Γ : gm_T) (φ : ph_T) (p0 : Option Nat) (p1 : Int32) (p2 : Option Nat) (p3 : Int32) : Option (Unit × ph_T) :=
  if p3 = 0 then
    Option.bind p2 fun a1 =>
    @ite _ (Γ a1 = .inr 3) _ (
    Option.bind (f_Row_holds Γ φ a1) fun q3 =>
    if q3.1 = 0 then
      f_Switch_tellRow_L37 Γ  q3.2 
    else
      Option.bind (f_Row_firstContent Γ q3.2 a1) fun q4 =>
      Option.bind (f_Row_firstRest Γ q4.2 a1) fun q5 =>
      Option.bind p0 fun a6 =>
      @ite _ (Γ a6 = .inr 5) _ (
      Option.bind (f_Port_send Γ q5.2 a6 p1 q4.1 q5.1) fun q8 =>
      f_Switch_tellRow_L37 Γ  q8.2 
      ) none
    ) none
  else
    Option.bind p0 fun a10 =>
    @ite _ (Γ a10 = .inr 5) _ (
    Option.bind p2 fun a12 =>
    @ite _ (Γ a12 = .inr 3) _ (
    Option.bind (f_Row_hasRoom Γ φ a12) fun q14 =>
    Option.bind (φ.2.2 a10 1) fun a15 =>
    Option.bind (gA Γ a15 2) fun N16 =>
    Option.bind (ix p1 N16) fun k17 =>
    @ite _ (q14.1 = 0 ∨ q14.1 = 1) _ (
    f_Switch_tellRow_L37 Γ  (uI q14.2 a15 k17 q14.1) 
    ) none
    ) none
    ) none
set_option maxRecDepth 100000 in
set_option maxHeartbeats 4000000 in
theorem p_Switch_tellRow {w : jw_T} (hw : jok w) {Γ : gm_T} {n : Nat} (hG : gd w Γ n) {x : Bool} {φ : ph_T} {p0 : Option Nat} {p1 : Int32} {p2 : Option Nat} {p3 : Int32} {q : Unit × ph_T} (H : f_Switch_tellRow Γ φ p0 p1 p2 p3 = some q) : jc w M_Switch_tellRow [va_rf p0, .int p1, va_rf p2, .int p3] (pic Γ φ) n x 0 0 (fq Γ n (.inl none) q.2) := by
  refine jc.of (by simp only [jent_r, jent_i, jent_l, jent_a, jent_0]; exact Nat.le_of_ble_eq_true rfl) ?_
  have hls : jents [va_rf p0, .int p1, va_rf p2, .int p3] (jm_nL M_Switch_tellRow) = [some (va_rf p0), some (.int p1), some (va_rf p2), some (.int p3)] := by simp only [jents, jent_r, jent_i, jent_l, jent_a, jent_0]; rfl
  rw [hls]
  clear hls
  unfold f_Switch_tellRow at H
  refine J_iload_n d_Switch_tellRow_0 rfl ?_
  refine J_if_eq (tgt := 17) d_Switch_tellRow_1 (by decide) ?_ ?_
  · intro c19
    rw [if_pos c19] at H
    refine J_aload_nO d_Switch_tellRow_17 rfl ?_
    obtain ⟨a1, ha1, H⟩ := Option.bind_eq_some_iff.mp H
    rw [j_rf ha1]
    have g2 : Γ a1 = .inr 3 := by
      apply Classical.byContradiction
      intro q9
      rw [if_neg q9] at H
      cases H
    rw [if_pos g2] at H
    obtain ⟨q3, hq3, H⟩ := Option.bind_eq_some_iff.mp H
    refine J_callV (kc := 0) (ks := 0) (kc' := 0) (ks' := 0) (a := a1) (ci := 3) (as := []) (st := []) (mf_Row_holds hw) (mv_Switch_131 hw) d_Switch_tellRow_18 ln_Row_holds (by decide) (by first | exact Nat.le_of_ble_eq_true rfl | (simp only [List.map_cons, List.map_nil, List.sum_cons, List.sum_nil, va_rf_cat]; exact Nat.le_of_ble_eq_true rfl)) rfl ((hG _).1 _ g2 (by decide)).1 ((hG _).1 _ g2 (by decide)).2 (by unfold pic; rw [g2]; rfl) (jcl_at hw rfl) rfl (p_Row_holds hw hG hq3) ?_ (fun E h' n' x' e1 => by cases e1.1)
    intro v9 h9 n9 x9 e9
    obtain ⟨e91, e92, e93⟩ := e9
    cases e91
    subst e92
    subst e93
    clear x
    rename Bool => x
    show J _ _ _ _ (_ :: _) _ _ _ _ _ _
    refine J_if_eq (tgt := 37) d_Switch_tellRow_21 (by decide) ?_ ?_
    · intro c9
      rw [if_pos c9] at H
      refine J.drop [false, false, false, false] rfl ?_
      exact p_Switch_tellRow_L37 hw hG  H
    · intro c9
      rw [if_neg c9] at H
      refine J_aload_nO d_Switch_tellRow_24 rfl ?_
      refine J_iload_n d_Switch_tellRow_25 rfl ?_
      refine J_aload_n d_Switch_tellRow_26 rfl ?_
      obtain ⟨q4, hq4, H⟩ := Option.bind_eq_some_iff.mp H
      refine J_callV (kc := 0) (ks := 0) (kc' := 0) (ks' := 0) (a := a1) (ci := 3) (as := []) (st := [.int p1, va_rf p0]) (mf_Row_firstContent hw) (mv_Switch_134 hw) d_Switch_tellRow_27 ln_Row_firstContent (by decide) (by first | exact Nat.le_of_ble_eq_true rfl | (simp only [List.map_cons, List.map_nil, List.sum_cons, List.sum_nil, va_rf_cat]; exact Nat.le_of_ble_eq_true rfl)) rfl ((hG _).1 _ g2 (by decide)).1 ((hG _).1 _ g2 (by decide)).2 (by unfold pic; rw [g2]; rfl) (jcl_at hw rfl) rfl (p_Row_firstContent hw hG hq4) ?_ (fun E h' n' x' e1 => by cases e1.1)
      intro v9 h9 n9 x9 e9
      obtain ⟨e91, e92, e93⟩ := e9
      cases e91
      subst e92
      subst e93
      clear x
      rename Bool => x
      show J _ _ _ _ (_ :: _) _ _ _ _ _ _
      refine J_aload_n d_Switch_tellRow_30 rfl ?_
      obtain ⟨q5, hq5, H⟩ := Option.bind_eq_some_iff.mp H
      refine J_callV (kc := 0) (ks := 0) (kc' := 0) (ks' := 0) (a := a1) (ci := 3) (as := []) (st := [.long q4.1, .int p1, va_rf p0]) (mf_Row_firstRest hw) (mv_Switch_138 hw) d_Switch_tellRow_31 ln_Row_firstRest (by decide) (by first | exact Nat.le_of_ble_eq_true rfl | (simp only [List.map_cons, List.map_nil, List.sum_cons, List.sum_nil, va_rf_cat]; exact Nat.le_of_ble_eq_true rfl)) rfl ((hG _).1 _ g2 (by decide)).1 ((hG _).1 _ g2 (by decide)).2 (by unfold pic; rw [g2]; rfl) (jcl_at hw rfl) rfl (p_Row_firstRest hw hG hq5) ?_ (fun E h' n' x' e1 => by cases e1.1)
      intro v9 h9 n9 x9 e9
      obtain ⟨e91, e92, e93⟩ := e9
      cases e91
      subst e92
      subst e93
      clear x
      rename Bool => x
      show J _ _ _ _ (_ :: _) _ _ _ _ _ _
      obtain ⟨a6, ha6, H⟩ := Option.bind_eq_some_iff.mp H
      rw [j_rf ha6]
      have g7 : Γ a6 = .inr 5 := by
        apply Classical.byContradiction
        intro q9
        rw [if_neg q9] at H
        cases H
      rw [if_pos g7] at H
      obtain ⟨q8, hq8, H⟩ := Option.bind_eq_some_iff.mp H
      refine J_callV (kc := 0) (ks := 0) (kc' := 0) (ks' := 0) (a := a6) (ci := 5) (as := [.int p1, .long q4.1, .int q5.1]) (st := []) (mf_Port_send hw) (mv_Switch_142 hw) d_Switch_tellRow_34 ln_Port_send (by decide) (by first | exact Nat.le_of_ble_eq_true rfl | (simp only [List.map_cons, List.map_nil, List.sum_cons, List.sum_nil, va_rf_cat]; exact Nat.le_of_ble_eq_true rfl)) rfl ((hG _).1 _ g7 (by decide)).1 ((hG _).1 _ g7 (by decide)).2 (by unfold pic; rw [g7]; rfl) (jcl_at hw rfl) rfl (p_Port_send hw hG hq8) ?_ (fun E h' n' x' e1 => by cases e1.1)
      intro v9 h9 n9 x9 e9
      obtain ⟨e91, e92, e93⟩ := e9
      cases e91
      subst e92
      subst e93
      clear x
      rename Bool => x
      show J _ _ _ _ [] _ _ _ _ _ _
      refine J.drop [false, false, false, false] rfl ?_
      exact p_Switch_tellRow_L37 hw hG  H
  · intro c19
    rw [if_neg c19] at H
    refine J_aload_nO d_Switch_tellRow_4 rfl ?_
    obtain ⟨a10, ha10, H⟩ := Option.bind_eq_some_iff.mp H
    rw [j_rf ha10]
    have g11 : Γ a10 = .inr 5 := by
      apply Classical.byContradiction
      intro q9
      rw [if_neg q9] at H
      cases H
    rw [if_pos g11] at H
    refine F_getR (ci := 5) (k := 1) hG (cf_Port hw) (fl_Switch_122 hw) (by decide) (by decide) rfl d_Switch_tellRow_5 g11 ?_
    refine J_iload_n d_Switch_tellRow_8 rfl ?_
    refine J_aload_nO d_Switch_tellRow_9 rfl ?_
    obtain ⟨a12, ha12, H⟩ := Option.bind_eq_some_iff.mp H
    rw [j_rf ha12]
    have g13 : Γ a12 = .inr 3 := by
      apply Classical.byContradiction
      intro q9
      rw [if_neg q9] at H
      cases H
    rw [if_pos g13] at H
    obtain ⟨q14, hq14, H⟩ := Option.bind_eq_some_iff.mp H
    refine J_callV (kc := 0) (ks := 0) (kc' := 0) (ks' := 0) (a := a12) (ci := 3) (as := []) (st := [.int p1, va_rf (φ.2.2 a10 1)]) (mf_Row_hasRoom hw) (mv_Switch_127 hw) d_Switch_tellRow_10 ln_Row_hasRoom (by decide) (by first | exact Nat.le_of_ble_eq_true rfl | (simp only [List.map_cons, List.map_nil, List.sum_cons, List.sum_nil, va_rf_cat]; exact Nat.le_of_ble_eq_true rfl)) rfl ((hG _).1 _ g13 (by decide)).1 ((hG _).1 _ g13 (by decide)).2 (by unfold pic; rw [g13]; rfl) (jcl_at hw rfl) rfl (p_Row_hasRoom hw hG hq14) ?_ (fun E h' n' x' e1 => by cases e1.1)
    intro v9 h9 n9 x9 e9
    obtain ⟨e91, e92, e93⟩ := e9
    cases e91
    subst e92
    subst e93
    clear x
    rename Bool => x
    show J _ _ _ _ (_ :: _) _ _ _ _ _ _
    obtain ⟨a15, ha15, H⟩ := Option.bind_eq_some_iff.mp H
    rw [j_rf ha15]
    obtain ⟨N16, hN16, H⟩ := Option.bind_eq_some_iff.mp H
    obtain ⟨k17, hk17, H⟩ := Option.bind_eq_some_iff.mp H
    have z18 : q14.1 = 0 ∨ q14.1 = 1 := by
      apply Classical.byContradiction
      intro q9
      rw [if_neg q9] at H
      cases H
    rw [if_pos z18] at H
    refine F_zast k17 hw hG d_Switch_tellRow_13 (gA_some hN16) (ix_some hk17) z18 ?_
    refine J_goto (tgt := 37) d_Switch_tellRow_14 (by decide) ?_
    refine J.drop [false, false, false, false] rfl ?_
    exact p_Switch_tellRow_L37 hw hG  H
theorem ln_Switch_tellMaster : (parseMethodDescriptor y_Switch_tellMaster.desc).map (fun q => q.parameters.length) = some 2 := by decide +kernel
def f_Switch_tellMaster_L2 (Γ : gm_T)  : Nat → ph_T → Nat → Option Nat → Int32 → Int32 → Option (Unit × ph_T)
  | 0, _, _, _, _, _ => none
  | fu + 1, φ, x0, x1, x2, x3 =>
    if (5 : Int32) ≤ x3 then
      some ((), φ)
    else
      @ite _ (Γ x0 = .inr 10) _ (
      Option.bind (f_Switch_ofMaster Γ φ x0 x2 x3) fun q2 =>
      Option.bind (f_Bus_toSlave Γ q2.2 x3) fun q3 =>
      Option.bind (f_Switch_tellRow Γ q3.2 x1 x3 q2.1 q3.1) fun q4 =>
      (f_Switch_tellMaster_L2 Γ  fu) q4.2 x0 x1 x2 (x3 + (1 : Int32))
      ) none
set_option maxRecDepth 100000 in
set_option maxHeartbeats 4000000 in
theorem p_Switch_tellMaster_L2 {w : jw_T} (hw : jok w) {Γ : gm_T} {n : Nat} (hG : gd w Γ n)  : ∀ (fu : Nat) {x : Bool} {φ : ph_T} {x0 : Nat} {x1 : Option Nat} {x2 : Int32} {x3 : Int32} {q : Unit × ph_T}, f_Switch_tellMaster_L2 Γ  fu φ x0 x1 x2 x3 = some q → J w M_Switch_tellMaster 2 [some (.ref x0), some (va_rf x1), some (.int x2), some (.int x3)] [] (pic Γ φ) n x 0 0 (fq Γ n (.inl none) q.2) := by
  intro fu
  induction fu with
  | zero =>
    intro x φ x0 x1 x2 x3 q H
    cases H
  | succ fu ih =>
    intro x φ x0 x1 x2 x3 q H
    unfold f_Switch_tellMaster_L2 at H
    refine J_iload_n d_Switch_tellMaster_2 rfl ?_
    refine J_iconst (v := 5) d_Switch_tellMaster_3 (by decide) ?_
    refine J_icmp_ge (tgt := 28) d_Switch_tellMaster_4 (by decide) ?_ ?_
    · intro c5
      rw [if_pos c5] at H
      have H := Option.some.inj H
      subst H
      exact J_vret (st := []) d_Switch_tellMaster_28 rfl ⟨rfl, rfl, rfl⟩
    · intro c5
      rw [if_neg c5] at H
      refine J_aload_nO d_Switch_tellMaster_7 rfl ?_
      refine J_iload_n d_Switch_tellMaster_8 rfl ?_
      refine J_aload_n d_Switch_tellMaster_9 rfl ?_
      refine J_iload_n d_Switch_tellMaster_10 rfl ?_
      refine J_iload_n d_Switch_tellMaster_11 rfl ?_
      have g1 : Γ x0 = .inr 10 := by
        apply Classical.byContradiction
        intro q9
        rw [if_neg q9] at H
        cases H
      rw [if_pos g1] at H
      obtain ⟨q2, hq2, H⟩ := Option.bind_eq_some_iff.mp H
      refine J_callV (kc := 0) (ks := 0) (kc' := 0) (ks' := 0) (a := x0) (ci := 10) (as := [.int x2, .int x3]) (st := [.int x3, va_rf x1]) (mf_Switch_ofMaster hw) (mv_Switch_107 hw) d_Switch_tellMaster_12 ln_Switch_ofMaster (by decide) (by first | exact Nat.le_of_ble_eq_true rfl | (simp only [List.map_cons, List.map_nil, List.sum_cons, List.sum_nil, va_rf_cat]; exact Nat.le_of_ble_eq_true rfl)) rfl ((hG _).1 _ g1 (by decide)).1 ((hG _).1 _ g1 (by decide)).2 (by unfold pic; rw [g1]; rfl) (jcl_at hw rfl) rfl (p_Switch_ofMaster hw hG hq2) ?_ (fun E h' n' x' e1 => by cases e1.1)
      intro v9 h9 n9 x9 e9
      obtain ⟨e91, e92, e93⟩ := e9
      cases e91
      subst e92
      subst e93
      clear x
      rename Bool => x
      show J _ _ _ _ (_ :: _) _ _ _ _ _ _
      refine J_iload_n d_Switch_tellMaster_15 rfl ?_
      obtain ⟨q3, hq3, H⟩ := Option.bind_eq_some_iff.mp H
      refine J_callS (kc := 0) (ks := 0) (kc' := 0) (ks' := 0) (as := [.int x3]) (st := [va_rf q2.1, .int x3, va_rf x1]) (mf_Bus_toSlave hw) (ms_Switch_111 hw) d_Switch_tellMaster_16 ln_Bus_toSlave (by decide) (by first | exact Nat.le_of_ble_eq_true rfl | (simp only [List.map_cons, List.map_nil, List.sum_cons, List.sum_nil, va_rf_cat]; exact Nat.le_of_ble_eq_true rfl)) rfl (p_Bus_toSlave hw hG hq3) ?_ (fun E h' n' x' e1 => by cases e1.1)
      intro v9 h9 n9 x9 e9
      obtain ⟨e91, e92, e93⟩ := e9
      cases e91
      subst e92
      subst e93
      clear x
      rename Bool => x
      show J _ _ _ _ (_ :: _) _ _ _ _ _ _
      obtain ⟨q4, hq4, H⟩ := Option.bind_eq_some_iff.mp H
      refine J_callS (kc := 0) (ks := 0) (kc' := 0) (ks' := 0) (as := [va_rf x1, .int x3, va_rf q2.1, .int q3.1]) (st := []) (mf_Switch_tellRow hw) (ms_Switch_115 hw) d_Switch_tellMaster_19 ln_Switch_tellRow (by decide) (by first | exact Nat.le_of_ble_eq_true rfl | (simp only [List.map_cons, List.map_nil, List.sum_cons, List.sum_nil, va_rf_cat]; exact Nat.le_of_ble_eq_true rfl)) rfl (p_Switch_tellRow hw hG hq4) ?_ (fun E h' n' x' e1 => by cases e1.1)
      intro v9 h9 n9 x9 e9
      obtain ⟨e91, e92, e93⟩ := e9
      cases e91
      subst e92
      subst e93
      clear x
      rename Bool => x
      show J _ _ _ _ [] _ _ _ _ _ _
      refine J_iinc (v := x3 + 1) d_Switch_tellMaster_22 rfl (by rw [show Int32.ofInt 1 = (1 : Int32) from by decide]) ?_
      refine J.ls (ls' := [some (.ref x0), some (va_rf x1), some (.int x2), some (.int (x3 + (1 : Int32)))]) rfl ?_
      refine J_goto (tgt := 2) d_Switch_tellMaster_25 (by decide) ?_
      refine J.drop [true, true, true, true] rfl ?_
      exact ih H
def f_Switch_tellMaster (Γ : gm_T) (φ : ph_T) (this : Nat) (p0 : Option Nat) (p1 : Int32) : Option (Unit × ph_T) :=
  f_Switch_tellMaster_L2 Γ  jF φ this p0 p1 (0 : Int32)
set_option maxRecDepth 100000 in
set_option maxHeartbeats 4000000 in
theorem p_Switch_tellMaster {w : jw_T} (hw : jok w) {Γ : gm_T} {n : Nat} (hG : gd w Γ n) {x : Bool} {φ : ph_T} {this : Nat} {p0 : Option Nat} {p1 : Int32} {q : Unit × ph_T} (H : f_Switch_tellMaster Γ φ this p0 p1 = some q) : jc w M_Switch_tellMaster [.ref this, va_rf p0, .int p1] (pic Γ φ) n x 0 0 (fq Γ n (.inl none) q.2) := by
  refine jc.of (by simp only [jent_r, jent_i, jent_l, jent_a, jent_0]; exact Nat.le_of_ble_eq_true rfl) ?_
  have hls : jents [.ref this, va_rf p0, .int p1] (jm_nL M_Switch_tellMaster) = [some (.ref this), some (va_rf p0), some (.int p1), none] := by simp only [jents, jent_r, jent_i, jent_l, jent_a, jent_0]; rfl
  rw [hls]
  clear hls
  unfold f_Switch_tellMaster at H
  refine J_iconst (v := 0) d_Switch_tellMaster_0 (by decide) ?_
  refine J_istore_n d_Switch_tellMaster_1 (Nat.le_of_ble_eq_true rfl) ?_
  refine J.ls (ls' := [some (.ref this), some (va_rf p0), some (.int p1), some (.int (0 : Int32))]) rfl ?_
  refine J.drop [true, true, true, true] rfl ?_
  exact p_Switch_tellMaster_L2 hw hG  _ H
theorem ln_Monitor_brokenHeld : (parseMethodDescriptor y_Monitor_brokenHeld.desc).map (fun q => q.parameters.length) = some 2 := by decide +kernel
def f_Monitor_brokenHeld_L57 (Γ : gm_T)  (φ : ph_T) (y0 : Int32) : Option (Int32 × ph_T) :=
  some (y0, φ)
set_option maxRecDepth 100000 in
set_option maxHeartbeats 4000000 in
theorem p_Monitor_brokenHeld_L57 {w : jw_T} (hw : jok w) {Γ : gm_T} {n : Nat} (hG : gd w Γ n)  {x : Bool} {φ : ph_T} {y0 : Int32} {q : Int32 × ph_T} (H : f_Monitor_brokenHeld_L57 Γ  φ y0 = some q) : J w M_Monitor_brokenHeld 57 [none, none, none, none] [.int y0] (pic Γ φ) n x 0 0 (fq Γ n (.inl (some (.int q.1))) q.2) := by
  unfold f_Monitor_brokenHeld_L57 at H
  have H := Option.some.inj H
  subst H
  exact J_iret (st := []) d_Monitor_brokenHeld_57 rfl rfl ⟨rfl, rfl, rfl⟩
def f_Monitor_brokenHeld_L47 (Γ : gm_T)  (φ : ph_T) (y0 : Int32) : Option (Int32 × ph_T) :=
  if y0 = 0 then
    f_Monitor_brokenHeld_L57 Γ  φ (2 : Int32)
  else
    f_Monitor_brokenHeld_L57 Γ  φ (0 : Int32)
set_option maxRecDepth 100000 in
set_option maxHeartbeats 4000000 in
theorem p_Monitor_brokenHeld_L47 {w : jw_T} (hw : jok w) {Γ : gm_T} {n : Nat} (hG : gd w Γ n)  {x : Bool} {φ : ph_T} {y0 : Int32} {q : Int32 × ph_T} (H : f_Monitor_brokenHeld_L47 Γ  φ y0 = some q) : J w M_Monitor_brokenHeld 47 [none, none, none, none] [.int y0] (pic Γ φ) n x 0 0 (fq Γ n (.inl (some (.int q.1))) q.2) := by
  unfold f_Monitor_brokenHeld_L47 at H
  refine J_istore_n d_Monitor_brokenHeld_47 (Nat.le_of_ble_eq_true rfl) ?_
  refine J.ls (ls' := [none, none, none, some (.int y0)]) rfl ?_
  refine J_iload_n d_Monitor_brokenHeld_48 rfl ?_
  refine J_if_eq (tgt := 56) d_Monitor_brokenHeld_49 (by decide) ?_ ?_
  · intro c1
    rw [if_pos c1] at H
    refine J_iconst (v := 2) d_Monitor_brokenHeld_56 (by decide) ?_
    refine J.drop [false, false, false, false] rfl ?_
    exact p_Monitor_brokenHeld_L57 hw hG  H
  · intro c1
    rw [if_neg c1] at H
    refine J_iconst (v := 0) d_Monitor_brokenHeld_52 (by decide) ?_
    refine J_goto (tgt := 57) d_Monitor_brokenHeld_53 (by decide) ?_
    refine J.drop [false, false, false, false] rfl ?_
    exact p_Monitor_brokenHeld_L57 hw hG  H
def f_Monitor_brokenHeld_L46 (Γ : gm_T)  (φ : ph_T) : Option (Int32 × ph_T) :=
  f_Monitor_brokenHeld_L47 Γ  φ (0 : Int32)
set_option maxRecDepth 100000 in
set_option maxHeartbeats 4000000 in
theorem p_Monitor_brokenHeld_L46 {w : jw_T} (hw : jok w) {Γ : gm_T} {n : Nat} (hG : gd w Γ n)  {x : Bool} {φ : ph_T} {q : Int32 × ph_T} (H : f_Monitor_brokenHeld_L46 Γ  φ  = some q) : J w M_Monitor_brokenHeld 46 [none, none, none, none] [] (pic Γ φ) n x 0 0 (fq Γ n (.inl (some (.int q.1))) q.2) := by
  unfold f_Monitor_brokenHeld_L46 at H
  refine J_iconst (v := 0) d_Monitor_brokenHeld_46 (by decide) ?_
  refine J.drop [false, false, false, false] rfl ?_
  exact p_Monitor_brokenHeld_L47 hw hG  H
def f_Monitor_brokenHeld (Γ : gm_T) (φ : ph_T) (this : Nat) (p0 : Option Nat) (p1 : Int32) : Option (Int32 × ph_T) :=
  Option.bind p0 fun a2 =>
  @ite _ (Γ a2 = .inr 5) _ (
  Option.bind (φ.2.2 a2 0) fun a4 =>
  Option.bind (gA Γ a4 2) fun N5 =>
  Option.bind (ix p1 N5) fun k6 =>
  if (φ.1 a4 k6) = 0 then
    some ((1 : Int32), φ)
  else
    Option.bind (φ.2.2 a2 3) fun a7 =>
    Option.bind (gA Γ a7 1) fun N8 =>
    Option.bind (ix p1 N8) fun k9 =>
    @ite _ (Γ this = .inr 4) _ (
    Option.bind (φ.2.2 this 3) fun a11 =>
    Option.bind (gA Γ a11 1) fun N12 =>
    Option.bind (ix p1 N12) fun k13 =>
    if (lg_cmp (φ.2.1 a7 k9) (φ.2.1 a11 k13)) = 0 then
      Option.bind (φ.2.2 a2 4) fun a14 =>
      Option.bind (gA Γ a14 0) fun N15 =>
      Option.bind (ix p1 N15) fun k16 =>
      Option.bind (φ.2.2 this 4) fun a17 =>
      Option.bind (gA Γ a17 0) fun N18 =>
      Option.bind (ix p1 N18) fun k19 =>
      if (φ.1 a14 k16) = (φ.1 a17 k19) then
        f_Monitor_brokenHeld_L47 Γ  φ (1 : Int32)
      else
        f_Monitor_brokenHeld_L46 Γ  φ 
    else
      f_Monitor_brokenHeld_L46 Γ  φ 
    ) none
  ) none
set_option maxRecDepth 100000 in
set_option maxHeartbeats 4000000 in
theorem p_Monitor_brokenHeld {w : jw_T} (hw : jok w) {Γ : gm_T} {n : Nat} (hG : gd w Γ n) {x : Bool} {φ : ph_T} {this : Nat} {p0 : Option Nat} {p1 : Int32} {q : Int32 × ph_T} (H : f_Monitor_brokenHeld Γ φ this p0 p1 = some q) : jc w M_Monitor_brokenHeld [.ref this, va_rf p0, .int p1] (pic Γ φ) n x 0 0 (fq Γ n (.inl (some (.int q.1))) q.2) := by
  refine jc.of (by simp only [jent_r, jent_i, jent_l, jent_a, jent_0]; exact Nat.le_of_ble_eq_true rfl) ?_
  have hls : jents [.ref this, va_rf p0, .int p1] (jm_nL M_Monitor_brokenHeld) = [some (.ref this), some (va_rf p0), some (.int p1), none] := by simp only [jents, jent_r, jent_i, jent_l, jent_a, jent_0]; rfl
  rw [hls]
  clear hls
  unfold f_Monitor_brokenHeld at H
  refine J_aload_nO d_Monitor_brokenHeld_0 rfl ?_
  obtain ⟨a2, ha2, H⟩ := Option.bind_eq_some_iff.mp H
  rw [j_rf ha2]
  have g3 : Γ a2 = .inr 5 := by
    apply Classical.byContradiction
    intro q9
    rw [if_neg q9] at H
    cases H
  rw [if_pos g3] at H
  refine F_getR (ci := 5) (k := 0) hG (cf_Port hw) (fl_Monitor_90 hw) (by decide) (by decide) rfl d_Monitor_brokenHeld_1 g3 ?_
  refine J_iload_n d_Monitor_brokenHeld_4 rfl ?_
  obtain ⟨a4, ha4, H⟩ := Option.bind_eq_some_iff.mp H
  rw [j_rf ha4]
  obtain ⟨N5, hN5, H⟩ := Option.bind_eq_some_iff.mp H
  obtain ⟨k6, hk6, H⟩ := Option.bind_eq_some_iff.mp H
  refine F_zald k6 hw hG d_Monitor_brokenHeld_5 (gA_some hN5) (ix_some hk6) ?_
  refine J_if_ne (tgt := 11) d_Monitor_brokenHeld_6 (by decide) ?_ ?_
  · intro c22
    rw [if_neg c22] at H
    refine J_aload_n d_Monitor_brokenHeld_11 rfl ?_
    refine F_getR (ci := 5) (k := 3) hG (cf_Port hw) (fl_Monitor_69 hw) (by decide) (by decide) rfl d_Monitor_brokenHeld_12 g3 ?_
    refine J_iload_n d_Monitor_brokenHeld_15 rfl ?_
    obtain ⟨a7, ha7, H⟩ := Option.bind_eq_some_iff.mp H
    rw [j_rf ha7]
    obtain ⟨N8, hN8, H⟩ := Option.bind_eq_some_iff.mp H
    obtain ⟨k9, hk9, H⟩ := Option.bind_eq_some_iff.mp H
    refine F_lald k9 hw hG d_Monitor_brokenHeld_16 (gA_some hN8) (ix_some hk9) ?_
    refine J_aload_n d_Monitor_brokenHeld_17 rfl ?_
    have g10 : Γ this = .inr 4 := by
      apply Classical.byContradiction
      intro q9
      rw [if_neg q9] at H
      cases H
    rw [if_pos g10] at H
    refine F_getR (ci := 4) (k := 3) hG (cf_Monitor hw) (fl_Monitor_27 hw) (by decide) (by decide) rfl d_Monitor_brokenHeld_18 g10 ?_
    refine J_iload_n d_Monitor_brokenHeld_21 rfl ?_
    obtain ⟨a11, ha11, H⟩ := Option.bind_eq_some_iff.mp H
    rw [j_rf ha11]
    obtain ⟨N12, hN12, H⟩ := Option.bind_eq_some_iff.mp H
    obtain ⟨k13, hk13, H⟩ := Option.bind_eq_some_iff.mp H
    refine F_lald k13 hw hG d_Monitor_brokenHeld_22 (gA_some hN12) (ix_some hk13) ?_
    refine J_lcmp d_Monitor_brokenHeld_23 ?_
    refine J_if_ne (tgt := 46) d_Monitor_brokenHeld_24 (by decide) ?_ ?_
    · intro c21
      rw [if_neg c21] at H
      refine J.drop [false, false, false, false] rfl ?_
      exact p_Monitor_brokenHeld_L46 hw hG  H
    · intro c21
      rw [if_pos c21] at H
      refine J_aload_n d_Monitor_brokenHeld_27 rfl ?_
      refine F_getR (ci := 5) (k := 4) hG (cf_Port hw) (fl_Monitor_80 hw) (by decide) (by decide) rfl d_Monitor_brokenHeld_28 g3 ?_
      refine J_iload_n d_Monitor_brokenHeld_31 rfl ?_
      obtain ⟨a14, ha14, H⟩ := Option.bind_eq_some_iff.mp H
      rw [j_rf ha14]
      obtain ⟨N15, hN15, H⟩ := Option.bind_eq_some_iff.mp H
      obtain ⟨k16, hk16, H⟩ := Option.bind_eq_some_iff.mp H
      refine F_iald k16 hw hG d_Monitor_brokenHeld_32 (gA_some hN15) (ix_some hk16) ?_
      refine J_aload_n d_Monitor_brokenHeld_33 rfl ?_
      refine F_getR (ci := 4) (k := 4) hG (cf_Monitor hw) (fl_Monitor_31 hw) (by decide) (by decide) rfl d_Monitor_brokenHeld_34 g10 ?_
      refine J_iload_n d_Monitor_brokenHeld_37 rfl ?_
      obtain ⟨a17, ha17, H⟩ := Option.bind_eq_some_iff.mp H
      rw [j_rf ha17]
      obtain ⟨N18, hN18, H⟩ := Option.bind_eq_some_iff.mp H
      obtain ⟨k19, hk19, H⟩ := Option.bind_eq_some_iff.mp H
      refine F_iald k19 hw hG d_Monitor_brokenHeld_38 (gA_some hN18) (ix_some hk19) ?_
      refine J_icmp_ne (tgt := 46) d_Monitor_brokenHeld_39 (by decide) ?_ ?_
      · intro c20
        rw [if_neg c20] at H
        refine J.drop [false, false, false, false] rfl ?_
        exact p_Monitor_brokenHeld_L46 hw hG  H
      · intro c20
        rw [if_pos c20] at H
        refine J_iconst (v := 1) d_Monitor_brokenHeld_42 (by decide) ?_
        refine J_goto (tgt := 47) d_Monitor_brokenHeld_43 (by decide) ?_
        refine J.drop [false, false, false, false] rfl ?_
        exact p_Monitor_brokenHeld_L47 hw hG  H
  · intro c22
    rw [if_pos c22] at H
    refine J_iconst (v := 1) d_Monitor_brokenHeld_9 (by decide) ?_
    have H := Option.some.inj H
    subst H
    exact J_iret (st := []) d_Monitor_brokenHeld_10 rfl rfl ⟨rfl, rfl, rfl⟩
theorem ln_Bus_restId : (parseMethodDescriptor y_Bus_restId.desc).map (fun q => q.parameters.length) = some 1 := by decide +kernel
def f_Bus_restId (Γ : gm_T) (φ : ph_T) (p0 : Int32) : Option (Int32 × ph_T) :=
  some ((p0 &&& (63 : Int32)), φ)
set_option maxRecDepth 100000 in
set_option maxHeartbeats 4000000 in
theorem p_Bus_restId {w : jw_T} (hw : jok w) {Γ : gm_T} {n : Nat} (hG : gd w Γ n) {x : Bool} {φ : ph_T} {p0 : Int32} {q : Int32 × ph_T} (H : f_Bus_restId Γ φ p0 = some q) : jc w M_Bus_restId [.int p0] (pic Γ φ) n x 0 0 (fq Γ n (.inl (some (.int q.1))) q.2) := by
  refine jc.of (by simp only [jent_r, jent_i, jent_l, jent_a, jent_0]; exact Nat.le_of_ble_eq_true rfl) ?_
  have hls : jents [.int p0] (jm_nL M_Bus_restId) = [some (.int p0)] := by simp only [jents, jent_r, jent_i, jent_l, jent_a, jent_0]; rfl
  rw [hls]
  clear hls
  unfold f_Bus_restId at H
  refine J_iload_n d_Bus_restId_0 rfl ?_
  refine J_bipush (v := 63) d_Bus_restId_1 (by decide) ?_
  refine J_iand d_Bus_restId_3 ?_
  have H := Option.some.inj H
  subst H
  exact J_iret (st := []) d_Bus_restId_4 rfl rfl ⟨rfl, rfl, rfl⟩
theorem ln_Burst_idOf : (parseMethodDescriptor y_Burst_idOf.desc).map (fun q => q.parameters.length) = some 1 := by decide +kernel
def f_Burst_idOf (Γ : gm_T) (φ : ph_T) (p0 : Int64) : Option (Int32 × ph_T) :=
  some (((Int64.toInt32 p0) &&& (63 : Int32)), φ)
set_option maxRecDepth 100000 in
set_option maxHeartbeats 4000000 in
theorem p_Burst_idOf {w : jw_T} (hw : jok w) {Γ : gm_T} {n : Nat} (hG : gd w Γ n) {x : Bool} {φ : ph_T} {p0 : Int64} {q : Int32 × ph_T} (H : f_Burst_idOf Γ φ p0 = some q) : jc w M_Burst_idOf [.long p0] (pic Γ φ) n x 0 0 (fq Γ n (.inl (some (.int q.1))) q.2) := by
  refine jc.of (by simp only [jent_r, jent_i, jent_l, jent_a, jent_0]; exact Nat.le_of_ble_eq_true rfl) ?_
  have hls : jents [.long p0] (jm_nL M_Burst_idOf) = [some (.long p0), none] := by simp only [jents, jent_r, jent_i, jent_l, jent_a, jent_0]; rfl
  rw [hls]
  clear hls
  unfold f_Burst_idOf at H
  refine J_lload_n d_Burst_idOf_0 rfl ?_
  refine J_l2i d_Burst_idOf_1 ?_
  refine J_bipush (v := 63) d_Burst_idOf_2 (by decide) ?_
  refine J_iand d_Burst_idOf_4 ?_
  have H := Option.some.inj H
  subst H
  exact J_iret (st := []) d_Burst_idOf_5 rfl rfl ⟨rfl, rfl, rfl⟩
theorem ln_Line_firstAnswerable : (parseMethodDescriptor y_Line_firstAnswerable.desc).map (fun q => q.parameters.length) = some 1 := by decide +kernel
def f_Line_firstAnswerable_L44 (Γ : gm_T) (Kc2 : ph_T → Nat → Int32 → Int32 → Option (Int32 × ph_T)) (φ : ph_T) (x0 : Nat) (x1 : Int32) (x2 : Int32) : Option (Int32 × ph_T) :=
  Kc2 φ x0 x1 (x2 + (1 : Int32))
set_option maxRecDepth 100000 in
set_option maxHeartbeats 4000000 in
theorem p_Line_firstAnswerable_L44 {w : jw_T} (hw : jok w) {Γ : gm_T} {n : Nat} (hG : gd w Γ n) {Kc2 : ph_T → Nat → Int32 → Int32 → Option (Int32 × ph_T)} (hKc2 : ∀ {x : Bool} {φ : ph_T} {x0 : Nat} {x1 : Int32} {x2 : Int32} {q : Int32 × ph_T}, Kc2 φ x0 x1 x2 = some q → J w M_Line_firstAnswerable 2 [some (.ref x0), some (.int x1), some (.int x2), none] [] (pic Γ φ) n x 0 0 (fq Γ n (.inl (some (.int q.1))) q.2)) {x : Bool} {φ : ph_T} {x0 : Nat} {x1 : Int32} {x2 : Int32} {q : Int32 × ph_T} (H : f_Line_firstAnswerable_L44 Γ Kc2 φ x0 x1 x2 = some q) : J w M_Line_firstAnswerable 44 [some (.ref x0), some (.int x1), some (.int x2), none] [] (pic Γ φ) n x 0 0 (fq Γ n (.inl (some (.int q.1))) q.2) := by
  unfold f_Line_firstAnswerable_L44 at H
  refine J_iinc (v := x2 + 1) d_Line_firstAnswerable_44 rfl (by rw [show Int32.ofInt 1 = (1 : Int32) from by decide]) ?_
  refine J.ls (ls' := [some (.ref x0), some (.int x1), some (.int (x2 + (1 : Int32))), none]) rfl ?_
  refine J_goto (tgt := 2) d_Line_firstAnswerable_47 (by decide) ?_
  refine J.drop [true, true, true, false] rfl ?_
  exact hKc2 H
def f_Line_firstAnswerable_L2 (Γ : gm_T)  : Nat → ph_T → Nat → Int32 → Int32 → Option (Int32 × ph_T)
  | 0, _, _, _, _ => none
  | fu + 1, φ, x0, x1, x2 =>
    @ite _ (Γ x0 = .inr 1) _ (
    if (φ.1 x0 1) ≤ x2 then
      some ((-1 : Int32), φ)
    else
      Option.bind (φ.2.2 x0 0) fun a2 =>
      Option.bind (gA Γ a2 5) fun N3 =>
      Option.bind (ix x2 N3) fun k4 =>
      Option.bind (φ.2.2 a2 k4) fun a5 =>
      @ite _ (Γ a5 = .inr 0) _ (
      if (φ.1 a5 1) = 0 then
        f_Line_firstAnswerable_L44 Γ (f_Line_firstAnswerable_L2 Γ  fu) φ x0 x1 x2
      else
        if (φ.1 a5 2) = 0 then
          f_Line_firstAnswerable_L44 Γ (f_Line_firstAnswerable_L2 Γ  fu) φ x0 x1 x2
        else
          Option.bind (f_Burst_idOf Γ φ (φ.2.1 a5 0)) fun q7 =>
          if q7.1 = x1 then
            some (x2, q7.2)
          else
            f_Line_firstAnswerable_L44 Γ (f_Line_firstAnswerable_L2 Γ  fu) q7.2 x0 x1 x2
      ) none
    ) none
set_option maxRecDepth 100000 in
set_option maxHeartbeats 4000000 in
theorem p_Line_firstAnswerable_L2 {w : jw_T} (hw : jok w) {Γ : gm_T} {n : Nat} (hG : gd w Γ n)  : ∀ (fu : Nat) {x : Bool} {φ : ph_T} {x0 : Nat} {x1 : Int32} {x2 : Int32} {q : Int32 × ph_T}, f_Line_firstAnswerable_L2 Γ  fu φ x0 x1 x2 = some q → J w M_Line_firstAnswerable 2 [some (.ref x0), some (.int x1), some (.int x2), none] [] (pic Γ φ) n x 0 0 (fq Γ n (.inl (some (.int q.1))) q.2) := by
  intro fu
  induction fu with
  | zero =>
    intro x φ x0 x1 x2 q H
    cases H
  | succ fu ih =>
    intro x φ x0 x1 x2 q H
    unfold f_Line_firstAnswerable_L2 at H
    refine J_iload_n d_Line_firstAnswerable_2 rfl ?_
    refine J_aload_n d_Line_firstAnswerable_3 rfl ?_
    have g1 : Γ x0 = .inr 1 := by
      apply Classical.byContradiction
      intro q9
      rw [if_neg q9] at H
      cases H
    rw [if_pos g1] at H
    refine F_getI (ci := 1) (k := 1) hG (cf_Line hw) (fl_Line_18 hw) (by decide) (by decide) rfl d_Line_firstAnswerable_4 g1 ?_
    refine J_icmp_ge (tgt := 50) d_Line_firstAnswerable_7 (by decide) ?_ ?_
    · intro c11
      rw [if_pos c11] at H
      refine J_iconst (v := -1) d_Line_firstAnswerable_50 (by decide) ?_
      have H := Option.some.inj H
      subst H
      exact J_iret (st := []) d_Line_firstAnswerable_51 rfl rfl ⟨rfl, rfl, rfl⟩
    · intro c11
      rw [if_neg c11] at H
      refine J_aload_n d_Line_firstAnswerable_10 rfl ?_
      refine F_getR (ci := 1) (k := 0) hG (cf_Line hw) (fl_Line_11 hw) (by decide) (by decide) rfl d_Line_firstAnswerable_11 g1 ?_
      refine J_iload_n d_Line_firstAnswerable_14 rfl ?_
      obtain ⟨a2, ha2, H⟩ := Option.bind_eq_some_iff.mp H
      rw [j_rf ha2]
      obtain ⟨N3, hN3, H⟩ := Option.bind_eq_some_iff.mp H
      obtain ⟨k4, hk4, H⟩ := Option.bind_eq_some_iff.mp H
      refine F_aald k4 hw hG (t := 5) rfl (by decide) d_Line_firstAnswerable_15 (gA_some hN3) (ix_some hk4) ?_
      refine J_astore_nO d_Line_firstAnswerable_16 (Nat.le_of_ble_eq_true rfl) ?_
      refine J.ls (ls' := [some (.ref x0), some (.int x1), some (.int x2), some (va_rf (φ.2.2 a2 k4))]) rfl ?_
      refine J_aload_nO d_Line_firstAnswerable_17 rfl ?_
      obtain ⟨a5, ha5, H⟩ := Option.bind_eq_some_iff.mp H
      rw [j_rf ha5]
      have g6 : Γ a5 = .inr 0 := by
        apply Classical.byContradiction
        intro q9
        rw [if_neg q9] at H
        cases H
      rw [if_pos g6] at H
      refine F_getI (ci := 0) (k := 1) hG (cf_Burst hw) (fl_Line_38 hw) (by decide) (by decide) rfl d_Line_firstAnswerable_18 g6 ?_
      refine J_if_eq (tgt := 44) d_Line_firstAnswerable_21 (by decide) ?_ ?_
      · intro c10
        rw [if_pos c10] at H
        refine J.drop [true, true, true, false] rfl ?_
        exact p_Line_firstAnswerable_L44 hw hG ih H
      · intro c10
        rw [if_neg c10] at H
        refine J_aload_n d_Line_firstAnswerable_24 rfl ?_
        refine F_getI (ci := 0) (k := 2) hG (cf_Burst hw) (fl_Line_42 hw) (by decide) (by decide) rfl d_Line_firstAnswerable_25 g6 ?_
        refine J_if_eq (tgt := 44) d_Line_firstAnswerable_28 (by decide) ?_ ?_
        · intro c9
          rw [if_pos c9] at H
          refine J.drop [true, true, true, false] rfl ?_
          exact p_Line_firstAnswerable_L44 hw hG ih H
        · intro c9
          rw [if_neg c9] at H
          refine J_aload_n d_Line_firstAnswerable_31 rfl ?_
          refine F_getL (ci := 0) (k := 0) hG (cf_Burst hw) (fl_Line_30 hw) (by decide) (by decide) rfl d_Line_firstAnswerable_32 g6 ?_
          obtain ⟨q7, hq7, H⟩ := Option.bind_eq_some_iff.mp H
          refine J_callS (kc := 0) (ks := 0) (kc' := 0) (ks' := 0) (as := [.long (φ.2.1 a5 0)]) (st := []) (mf_Burst_idOf hw) (ms_Line_34 hw) d_Line_firstAnswerable_35 ln_Burst_idOf (by decide) (by first | exact Nat.le_of_ble_eq_true rfl | (simp only [List.map_cons, List.map_nil, List.sum_cons, List.sum_nil, va_rf_cat]; exact Nat.le_of_ble_eq_true rfl)) rfl (p_Burst_idOf hw hG hq7) ?_ (fun E h' n' x' e1 => by cases e1.1)
          intro v9 h9 n9 x9 e9
          obtain ⟨e91, e92, e93⟩ := e9
          cases e91
          subst e92
          subst e93
          clear x
          rename Bool => x
          show J _ _ _ _ (_ :: _) _ _ _ _ _ _
          refine J_iload_n d_Line_firstAnswerable_38 rfl ?_
          refine J_icmp_ne (tgt := 44) d_Line_firstAnswerable_39 (by decide) ?_ ?_
          · intro c8
            rw [if_neg c8] at H
            refine J.drop [true, true, true, false] rfl ?_
            exact p_Line_firstAnswerable_L44 hw hG ih H
          · intro c8
            rw [if_pos c8] at H
            refine J_iload_n d_Line_firstAnswerable_42 rfl ?_
            have H := Option.some.inj H
            subst H
            exact J_iret (st := []) d_Line_firstAnswerable_43 rfl rfl ⟨rfl, rfl, rfl⟩
def f_Line_firstAnswerable (Γ : gm_T) (φ : ph_T) (this : Nat) (p0 : Int32) : Option (Int32 × ph_T) :=
  f_Line_firstAnswerable_L2 Γ  jF φ this p0 (0 : Int32)
set_option maxRecDepth 100000 in
set_option maxHeartbeats 4000000 in
theorem p_Line_firstAnswerable {w : jw_T} (hw : jok w) {Γ : gm_T} {n : Nat} (hG : gd w Γ n) {x : Bool} {φ : ph_T} {this : Nat} {p0 : Int32} {q : Int32 × ph_T} (H : f_Line_firstAnswerable Γ φ this p0 = some q) : jc w M_Line_firstAnswerable [.ref this, .int p0] (pic Γ φ) n x 0 0 (fq Γ n (.inl (some (.int q.1))) q.2) := by
  refine jc.of (by simp only [jent_r, jent_i, jent_l, jent_a, jent_0]; exact Nat.le_of_ble_eq_true rfl) ?_
  have hls : jents [.ref this, .int p0] (jm_nL M_Line_firstAnswerable) = [some (.ref this), some (.int p0), none, none] := by simp only [jents, jent_r, jent_i, jent_l, jent_a, jent_0]; rfl
  rw [hls]
  clear hls
  unfold f_Line_firstAnswerable at H
  refine J_iconst (v := 0) d_Line_firstAnswerable_0 (by decide) ?_
  refine J_istore_n d_Line_firstAnswerable_1 (Nat.le_of_ble_eq_true rfl) ?_
  refine J.ls (ls' := [some (.ref this), some (.int p0), some (.int (0 : Int32)), none]) rfl ?_
  refine J.drop [true, true, true, false] rfl ?_
  exact p_Line_firstAnswerable_L2 hw hG  _ H
theorem ln_Line_at : (parseMethodDescriptor y_Line_at.desc).map (fun q => q.parameters.length) = some 1 := by decide +kernel
def f_Line_at_L22 (Γ : gm_T)  (φ : ph_T) (y0 : Option Nat) : Option (Option Nat × ph_T) :=
  some (y0, φ)
set_option maxRecDepth 100000 in
set_option maxHeartbeats 4000000 in
theorem p_Line_at_L22 {w : jw_T} (hw : jok w) {Γ : gm_T} {n : Nat} (hG : gd w Γ n)  {x : Bool} {φ : ph_T} {y0 : Option Nat} {q : Option Nat × ph_T} (H : f_Line_at_L22 Γ  φ y0 = some q) : J w M_Line_at 22 [none, none] [va_rf y0] (pic Γ φ) n x 0 0 (fq Γ n (.inl (some (va_rf q.1))) q.2) := by
  unfold f_Line_at_L22 at H
  have H := Option.some.inj H
  subst H
  exact J_aret (st := []) d_Line_at_22 rfl (Or.inl ⟨_, rfl⟩) (by first | exact Or.inr ⟨_, rfl⟩ | (generalize y0 = r9; cases r9; exact Or.inl rfl; exact Or.inr ⟨_, rfl⟩)) ⟨rfl, rfl, rfl⟩
def f_Line_at_L12 (Γ : gm_T)  (φ : ph_T) : Option (Option Nat × ph_T) :=
  f_Line_at_L22 Γ  φ none
set_option maxRecDepth 100000 in
set_option maxHeartbeats 4000000 in
theorem p_Line_at_L12 {w : jw_T} (hw : jok w) {Γ : gm_T} {n : Nat} (hG : gd w Γ n)  {x : Bool} {φ : ph_T} {q : Option Nat × ph_T} (H : f_Line_at_L12 Γ  φ  = some q) : J w M_Line_at 12 [none, none] [] (pic Γ φ) n x 0 0 (fq Γ n (.inl (some (va_rf q.1))) q.2) := by
  unfold f_Line_at_L12 at H
  refine J_null d_Line_at_12 ?_
  show J _ _ _ _ (va_rf none :: _) _ _ _ _ _ _
  refine J_goto (tgt := 22) d_Line_at_13 (by decide) ?_
  refine J.drop [false, false] rfl ?_
  exact p_Line_at_L22 hw hG  H
def f_Line_at (Γ : gm_T) (φ : ph_T) (this : Nat) (p0 : Int32) : Option (Option Nat × ph_T) :=
  if p0 < 0 then
    f_Line_at_L12 Γ  φ 
  else
    @ite _ (Γ this = .inr 1) _ (
    if p0 < (φ.1 this 1) then
      Option.bind (φ.2.2 this 0) fun a2 =>
      Option.bind (gA Γ a2 5) fun N3 =>
      Option.bind (ix p0 N3) fun k4 =>
      f_Line_at_L22 Γ  φ (φ.2.2 a2 k4)
    else
      f_Line_at_L12 Γ  φ 
    ) none
set_option maxRecDepth 100000 in
set_option maxHeartbeats 4000000 in
theorem p_Line_at {w : jw_T} (hw : jok w) {Γ : gm_T} {n : Nat} (hG : gd w Γ n) {x : Bool} {φ : ph_T} {this : Nat} {p0 : Int32} {q : Option Nat × ph_T} (H : f_Line_at Γ φ this p0 = some q) : jc w M_Line_at [.ref this, .int p0] (pic Γ φ) n x 0 0 (fq Γ n (.inl (some (va_rf q.1))) q.2) := by
  refine jc.of (by simp only [jent_r, jent_i, jent_l, jent_a, jent_0]; exact Nat.le_of_ble_eq_true rfl) ?_
  have hls : jents [.ref this, .int p0] (jm_nL M_Line_at) = [some (.ref this), some (.int p0)] := by simp only [jents, jent_r, jent_i, jent_l, jent_a, jent_0]; rfl
  rw [hls]
  clear hls
  unfold f_Line_at at H
  refine J_iload_n d_Line_at_0 rfl ?_
  refine J_if_lt (tgt := 12) d_Line_at_1 (by decide) ?_ ?_
  · intro c6
    rw [if_pos c6] at H
    refine J.drop [false, false] rfl ?_
    exact p_Line_at_L12 hw hG  H
  · intro c6
    rw [if_neg c6] at H
    refine J_iload_n d_Line_at_4 rfl ?_
    refine J_aload_n d_Line_at_5 rfl ?_
    have g1 : Γ this = .inr 1 := by
      apply Classical.byContradiction
      intro q9
      rw [if_neg q9] at H
      cases H
    rw [if_pos g1] at H
    refine F_getI (ci := 1) (k := 1) hG (cf_Line hw) (fl_Line_18 hw) (by decide) (by decide) rfl d_Line_at_6 g1 ?_
    refine J_icmp_lt (tgt := 16) d_Line_at_9 (by decide) ?_ ?_
    · intro c5
      rw [if_pos c5] at H
      refine J_aload_n d_Line_at_16 rfl ?_
      refine F_getR (ci := 1) (k := 0) hG (cf_Line hw) (fl_Line_11 hw) (by decide) (by decide) rfl d_Line_at_17 g1 ?_
      refine J_iload_n d_Line_at_20 rfl ?_
      obtain ⟨a2, ha2, H⟩ := Option.bind_eq_some_iff.mp H
      rw [j_rf ha2]
      obtain ⟨N3, hN3, H⟩ := Option.bind_eq_some_iff.mp H
      obtain ⟨k4, hk4, H⟩ := Option.bind_eq_some_iff.mp H
      refine F_aald k4 hw hG (t := 5) rfl (by decide) d_Line_at_21 (gA_some hN3) (ix_some hk4) ?_
      refine J.drop [false, false] rfl ?_
      exact p_Line_at_L22 hw hG  H
    · intro c5
      rw [if_neg c5] at H
      refine J.drop [false, false] rfl ?_
      exact p_Line_at_L12 hw hG  H
theorem ln_Bus_restResponse : (parseMethodDescriptor y_Bus_restResponse.desc).map (fun q => q.parameters.length) = some 1 := by decide +kernel
def f_Bus_restResponse (Γ : gm_T) (φ : ph_T) (p0 : Int32) : Option (Int32 × ph_T) :=
  some (((p0 >>> ((6 : Int32) &&& 31)) &&& (3 : Int32)), φ)
set_option maxRecDepth 100000 in
set_option maxHeartbeats 4000000 in
theorem p_Bus_restResponse {w : jw_T} (hw : jok w) {Γ : gm_T} {n : Nat} (hG : gd w Γ n) {x : Bool} {φ : ph_T} {p0 : Int32} {q : Int32 × ph_T} (H : f_Bus_restResponse Γ φ p0 = some q) : jc w M_Bus_restResponse [.int p0] (pic Γ φ) n x 0 0 (fq Γ n (.inl (some (.int q.1))) q.2) := by
  refine jc.of (by simp only [jent_r, jent_i, jent_l, jent_a, jent_0]; exact Nat.le_of_ble_eq_true rfl) ?_
  have hls : jents [.int p0] (jm_nL M_Bus_restResponse) = [some (.int p0)] := by simp only [jents, jent_r, jent_i, jent_l, jent_a, jent_0]; rfl
  rw [hls]
  clear hls
  unfold f_Bus_restResponse at H
  refine J_iload_n d_Bus_restResponse_0 rfl ?_
  refine J_bipush (v := 6) d_Bus_restResponse_1 (by decide) ?_
  refine J_ishr d_Bus_restResponse_3 ?_
  refine J_iconst (v := 3) d_Bus_restResponse_4 (by decide) ?_
  refine J_iand d_Bus_restResponse_5 ?_
  have H := Option.some.inj H
  subst H
  exact J_iret (st := []) d_Bus_restResponse_6 rfl rfl ⟨rfl, rfl, rfl⟩
theorem ln_Monitor_brokenResponse : (parseMethodDescriptor y_Monitor_brokenResponse.desc).map (fun q => q.parameters.length) = some 2 := by decide +kernel
def f_Monitor_brokenResponse_L34 (Γ : gm_T)  (φ : ph_T) (y0 : Int32) : Option (Int32 × ph_T) :=
  some (y0, φ)
set_option maxRecDepth 100000 in
set_option maxHeartbeats 4000000 in
theorem p_Monitor_brokenResponse_L34 {w : jw_T} (hw : jok w) {Γ : gm_T} {n : Nat} (hG : gd w Γ n)  {x : Bool} {φ : ph_T} {y0 : Int32} {q : Int32 × ph_T} (H : f_Monitor_brokenResponse_L34 Γ  φ y0 = some q) : J w M_Monitor_brokenResponse 34 [none, none, none] [.int y0] (pic Γ φ) n x 0 0 (fq Γ n (.inl (some (.int q.1))) q.2) := by
  unfold f_Monitor_brokenResponse_L34 at H
  have H := Option.some.inj H
  subst H
  exact J_iret (st := []) d_Monitor_brokenResponse_34 rfl rfl ⟨rfl, rfl, rfl⟩
def f_Monitor_brokenResponse_L23 (Γ : gm_T)  (φ : ph_T) (y0 : Int32) : Option (Int32 × ph_T) :=
  if y0 = 0 then
    f_Monitor_brokenResponse_L34 Γ  φ (0 : Int32)
  else
    f_Monitor_brokenResponse_L34 Γ  φ (11 : Int32)
set_option maxRecDepth 100000 in
set_option maxHeartbeats 4000000 in
theorem p_Monitor_brokenResponse_L23 {w : jw_T} (hw : jok w) {Γ : gm_T} {n : Nat} (hG : gd w Γ n)  {x : Bool} {φ : ph_T} {y0 : Int32} {q : Int32 × ph_T} (H : f_Monitor_brokenResponse_L23 Γ  φ y0 = some q) : J w M_Monitor_brokenResponse 23 [none, none, none] [.int y0] (pic Γ φ) n x 0 0 (fq Γ n (.inl (some (.int q.1))) q.2) := by
  unfold f_Monitor_brokenResponse_L23 at H
  refine J_istore_n d_Monitor_brokenResponse_23 (Nat.le_of_ble_eq_true rfl) ?_
  refine J.ls (ls' := [none, none, some (.int y0)]) rfl ?_
  refine J_iload_n d_Monitor_brokenResponse_24 rfl ?_
  refine J_if_eq (tgt := 33) d_Monitor_brokenResponse_25 (by decide) ?_ ?_
  · intro c1
    rw [if_pos c1] at H
    refine J_iconst (v := 0) d_Monitor_brokenResponse_33 (by decide) ?_
    refine J.drop [false, false, false] rfl ?_
    exact p_Monitor_brokenResponse_L34 hw hG  H
  · intro c1
    rw [if_neg c1] at H
    refine J_bipush (v := 11) d_Monitor_brokenResponse_28 (by decide) ?_
    refine J_goto (tgt := 34) d_Monitor_brokenResponse_30 (by decide) ?_
    refine J.drop [false, false, false] rfl ?_
    exact p_Monitor_brokenResponse_L34 hw hG  H
def f_Monitor_brokenResponse_L22 (Γ : gm_T)  (φ : ph_T) : Option (Int32 × ph_T) :=
  f_Monitor_brokenResponse_L23 Γ  φ (0 : Int32)
set_option maxRecDepth 100000 in
set_option maxHeartbeats 4000000 in
theorem p_Monitor_brokenResponse_L22 {w : jw_T} (hw : jok w) {Γ : gm_T} {n : Nat} (hG : gd w Γ n)  {x : Bool} {φ : ph_T} {q : Int32 × ph_T} (H : f_Monitor_brokenResponse_L22 Γ  φ  = some q) : J w M_Monitor_brokenResponse 22 [none, none, none] [] (pic Γ φ) n x 0 0 (fq Γ n (.inl (some (.int q.1))) q.2) := by
  unfold f_Monitor_brokenResponse_L22 at H
  refine J_iconst (v := 0) d_Monitor_brokenResponse_22 (by decide) ?_
  refine J.drop [false, false, false] rfl ?_
  exact p_Monitor_brokenResponse_L23 hw hG  H
def f_Monitor_brokenResponse (Γ : gm_T) (φ : ph_T) (p0 : Int32) (p1 : Option Nat) : Option (Int32 × ph_T) :=
  Option.bind (f_Bus_restResponse Γ φ p0) fun q2 =>
  if q2.1 = (1 : Int32) then
    Option.bind p1 fun a3 =>
    @ite _ (Γ a3 = .inr 0) _ (
    Option.bind (f_Burst_isExclusive Γ q2.2 (q2.2.2.1 a3 0)) fun q5 =>
    if q5.1 = 0 then
      f_Monitor_brokenResponse_L23 Γ  q5.2 (1 : Int32)
    else
      f_Monitor_brokenResponse_L22 Γ  q5.2 
    ) none
  else
    f_Monitor_brokenResponse_L22 Γ  q2.2 
set_option maxRecDepth 100000 in
set_option maxHeartbeats 4000000 in
theorem p_Monitor_brokenResponse {w : jw_T} (hw : jok w) {Γ : gm_T} {n : Nat} (hG : gd w Γ n) {x : Bool} {φ : ph_T} {p0 : Int32} {p1 : Option Nat} {q : Int32 × ph_T} (H : f_Monitor_brokenResponse Γ φ p0 p1 = some q) : jc w M_Monitor_brokenResponse [.int p0, va_rf p1] (pic Γ φ) n x 0 0 (fq Γ n (.inl (some (.int q.1))) q.2) := by
  refine jc.of (by simp only [jent_r, jent_i, jent_l, jent_a, jent_0]; exact Nat.le_of_ble_eq_true rfl) ?_
  have hls : jents [.int p0, va_rf p1] (jm_nL M_Monitor_brokenResponse) = [some (.int p0), some (va_rf p1), none] := by simp only [jents, jent_r, jent_i, jent_l, jent_a, jent_0]; rfl
  rw [hls]
  clear hls
  unfold f_Monitor_brokenResponse at H
  refine J_iload_n d_Monitor_brokenResponse_0 rfl ?_
  obtain ⟨q2, hq2, H⟩ := Option.bind_eq_some_iff.mp H
  refine J_callS (kc := 0) (ks := 0) (kc' := 0) (ks' := 0) (as := [.int p0]) (st := []) (mf_Bus_restResponse hw) (ms_Monitor_140 hw) d_Monitor_brokenResponse_1 ln_Bus_restResponse (by decide) (by first | exact Nat.le_of_ble_eq_true rfl | (simp only [List.map_cons, List.map_nil, List.sum_cons, List.sum_nil, va_rf_cat]; exact Nat.le_of_ble_eq_true rfl)) rfl (p_Bus_restResponse hw hG hq2) ?_ (fun E h' n' x' e1 => by cases e1.1)
  intro v9 h9 n9 x9 e9
  obtain ⟨e91, e92, e93⟩ := e9
  cases e91
  subst e92
  subst e93
  clear x
  rename Bool => x
  show J _ _ _ _ (_ :: _) _ _ _ _ _ _
  refine J_iconst (v := 1) d_Monitor_brokenResponse_4 (by decide) ?_
  refine J_icmp_ne (tgt := 22) d_Monitor_brokenResponse_5 (by decide) ?_ ?_
  · intro c7
    rw [if_neg c7] at H
    refine J.drop [false, false, false] rfl ?_
    exact p_Monitor_brokenResponse_L22 hw hG  H
  · intro c7
    rw [if_pos c7] at H
    refine J_aload_nO d_Monitor_brokenResponse_8 rfl ?_
    obtain ⟨a3, ha3, H⟩ := Option.bind_eq_some_iff.mp H
    rw [j_rf ha3]
    have g4 : Γ a3 = .inr 0 := by
      apply Classical.byContradiction
      intro q9
      rw [if_neg q9] at H
      cases H
    rw [if_pos g4] at H
    refine F_getL (ci := 0) (k := 0) hG (cf_Burst hw) (fl_Monitor_130 hw) (by decide) (by decide) rfl d_Monitor_brokenResponse_9 g4 ?_
    obtain ⟨q5, hq5, H⟩ := Option.bind_eq_some_iff.mp H
    refine J_callS (kc := 0) (ks := 0) (kc' := 0) (ks' := 0) (as := [.long (q2.2.2.1 a3 0)]) (st := []) (mf_Burst_isExclusive hw) (ms_Monitor_143 hw) d_Monitor_brokenResponse_12 ln_Burst_isExclusive (by decide) (by first | exact Nat.le_of_ble_eq_true rfl | (simp only [List.map_cons, List.map_nil, List.sum_cons, List.sum_nil, va_rf_cat]; exact Nat.le_of_ble_eq_true rfl)) rfl (p_Burst_isExclusive hw hG hq5) ?_ (fun E h' n' x' e1 => by cases e1.1)
    intro v9 h9 n9 x9 e9
    obtain ⟨e91, e92, e93⟩ := e9
    cases e91
    subst e92
    subst e93
    clear x
    rename Bool => x
    show J _ _ _ _ (_ :: _) _ _ _ _ _ _
    refine J_if_ne (tgt := 22) d_Monitor_brokenResponse_15 (by decide) ?_ ?_
    · intro c6
      rw [if_neg c6] at H
      refine J.drop [false, false, false] rfl ?_
      exact p_Monitor_brokenResponse_L22 hw hG  H
    · intro c6
      rw [if_pos c6] at H
      refine J_iconst (v := 1) d_Monitor_brokenResponse_18 (by decide) ?_
      refine J_goto (tgt := 23) d_Monitor_brokenResponse_19 (by decide) ?_
      refine J.drop [false, false, false] rfl ?_
      exact p_Monitor_brokenResponse_L23 hw hG  H
theorem ln_Monitor_brokenAnswer : (parseMethodDescriptor y_Monitor_brokenAnswer.desc).map (fun q => q.parameters.length) = some 1 := by decide +kernel
def f_Monitor_brokenAnswer (Γ : gm_T) (φ : ph_T) (this : Nat) (p0 : Int32) : Option (Int32 × ph_T) :=
  @ite _ (Γ this = .inr 4) _ (
  Option.bind (f_Bus_restId Γ φ p0) fun q2 =>
  Option.bind (φ.2.2 this 0) fun a3 =>
  @ite _ (Γ a3 = .inr 1) _ (
  Option.bind (f_Line_firstAnswerable Γ q2.2 a3 q2.1) fun q5 =>
  Option.bind (f_Line_at Γ q5.2 a3 q5.1) fun q6 =>
  if q6.1 = none then
    some ((9 : Int32), q6.2)
  else
    Option.bind (f_Monitor_brokenResponse Γ q6.2 p0 q6.1) fun q7 =>
    some (q7.1, q7.2)
  ) none
  ) none
set_option maxRecDepth 100000 in
set_option maxHeartbeats 4000000 in
theorem p_Monitor_brokenAnswer {w : jw_T} (hw : jok w) {Γ : gm_T} {n : Nat} (hG : gd w Γ n) {x : Bool} {φ : ph_T} {this : Nat} {p0 : Int32} {q : Int32 × ph_T} (H : f_Monitor_brokenAnswer Γ φ this p0 = some q) : jc w M_Monitor_brokenAnswer [.ref this, .int p0] (pic Γ φ) n x 0 0 (fq Γ n (.inl (some (.int q.1))) q.2) := by
  refine jc.of (by simp only [jent_r, jent_i, jent_l, jent_a, jent_0]; exact Nat.le_of_ble_eq_true rfl) ?_
  have hls : jents [.ref this, .int p0] (jm_nL M_Monitor_brokenAnswer) = [some (.ref this), some (.int p0), none] := by simp only [jents, jent_r, jent_i, jent_l, jent_a, jent_0]; rfl
  rw [hls]
  clear hls
  unfold f_Monitor_brokenAnswer at H
  refine J_aload_n d_Monitor_brokenAnswer_0 rfl ?_
  have g1 : Γ this = .inr 4 := by
    apply Classical.byContradiction
    intro q9
    rw [if_neg q9] at H
    cases H
  rw [if_pos g1] at H
  refine F_getR (ci := 4) (k := 0) hG (cf_Monitor hw) (fl_Monitor_14 hw) (by decide) (by decide) rfl d_Monitor_brokenAnswer_1 g1 ?_
  refine J_aload_n d_Monitor_brokenAnswer_4 rfl ?_
  refine F_getR (ci := 4) (k := 0) hG (cf_Monitor hw) (fl_Monitor_14 hw) (by decide) (by decide) rfl d_Monitor_brokenAnswer_5 g1 ?_
  refine J_iload_n d_Monitor_brokenAnswer_8 rfl ?_
  obtain ⟨q2, hq2, H⟩ := Option.bind_eq_some_iff.mp H
  refine J_callS (kc := 0) (ks := 0) (kc' := 0) (ks' := 0) (as := [.int p0]) (st := [va_rf (φ.2.2 this 0), va_rf (φ.2.2 this 0)]) (mf_Bus_restId hw) (ms_Monitor_110 hw) d_Monitor_brokenAnswer_9 ln_Bus_restId (by decide) (by first | exact Nat.le_of_ble_eq_true rfl | (simp only [List.map_cons, List.map_nil, List.sum_cons, List.sum_nil, va_rf_cat]; exact Nat.le_of_ble_eq_true rfl)) rfl (p_Bus_restId hw hG hq2) ?_ (fun E h' n' x' e1 => by cases e1.1)
  intro v9 h9 n9 x9 e9
  obtain ⟨e91, e92, e93⟩ := e9
  cases e91
  subst e92
  subst e93
  clear x
  rename Bool => x
  show J _ _ _ _ (_ :: _) _ _ _ _ _ _
  obtain ⟨a3, ha3, H⟩ := Option.bind_eq_some_iff.mp H
  rw [j_rf ha3]
  have g4 : Γ a3 = .inr 1 := by
    apply Classical.byContradiction
    intro q9
    rw [if_neg q9] at H
    cases H
  rw [if_pos g4] at H
  obtain ⟨q5, hq5, H⟩ := Option.bind_eq_some_iff.mp H
  refine J_callV (kc := 0) (ks := 0) (kc' := 0) (ks' := 0) (a := a3) (ci := 1) (as := [.int q2.1]) (st := [.ref a3]) (mf_Line_firstAnswerable hw) (mv_Monitor_113 hw) d_Monitor_brokenAnswer_12 ln_Line_firstAnswerable (by decide) (by first | exact Nat.le_of_ble_eq_true rfl | (simp only [List.map_cons, List.map_nil, List.sum_cons, List.sum_nil, va_rf_cat]; exact Nat.le_of_ble_eq_true rfl)) rfl ((hG _).1 _ g4 (by decide)).1 ((hG _).1 _ g4 (by decide)).2 (by unfold pic; rw [g4]; rfl) (jcl_at hw rfl) rfl (p_Line_firstAnswerable hw hG hq5) ?_ (fun E h' n' x' e1 => by cases e1.1)
  intro v9 h9 n9 x9 e9
  obtain ⟨e91, e92, e93⟩ := e9
  cases e91
  subst e92
  subst e93
  clear x
  rename Bool => x
  show J _ _ _ _ (_ :: _) _ _ _ _ _ _
  obtain ⟨q6, hq6, H⟩ := Option.bind_eq_some_iff.mp H
  refine J_callV (kc := 0) (ks := 0) (kc' := 0) (ks' := 0) (a := a3) (ci := 1) (as := [.int q5.1]) (st := []) (mf_Line_at hw) (mv_Monitor_116 hw) d_Monitor_brokenAnswer_15 ln_Line_at (by decide) (by first | exact Nat.le_of_ble_eq_true rfl | (simp only [List.map_cons, List.map_nil, List.sum_cons, List.sum_nil, va_rf_cat]; exact Nat.le_of_ble_eq_true rfl)) rfl ((hG _).1 _ g4 (by decide)).1 ((hG _).1 _ g4 (by decide)).2 (by unfold pic; rw [g4]; rfl) (jcl_at hw rfl) rfl (p_Line_at hw hG hq6) ?_ (fun E h' n' x' e1 => by cases e1.1)
  intro v9 h9 n9 x9 e9
  obtain ⟨e91, e92, e93⟩ := e9
  cases e91
  subst e92
  subst e93
  clear x
  rename Bool => x
  show J _ _ _ _ (_ :: _) _ _ _ _ _ _
  refine J_astore_nO d_Monitor_brokenAnswer_18 (Nat.le_of_ble_eq_true rfl) ?_
  refine J.ls (ls' := [some (.ref this), some (.int p0), some (va_rf q6.1)]) rfl ?_
  refine J_aload_nO d_Monitor_brokenAnswer_19 rfl ?_
  refine J_ifnonnullO (r := q6.1) (tgt := 26) d_Monitor_brokenAnswer_20 (by decide) ?_ ?_
  · intro c8
    rw [if_neg c8] at H
    refine J_iload_n d_Monitor_brokenAnswer_26 rfl ?_
    refine J_aload_nO d_Monitor_brokenAnswer_27 rfl ?_
    obtain ⟨q7, hq7, H⟩ := Option.bind_eq_some_iff.mp H
    refine J_callS (kc := 0) (ks := 0) (kc' := 0) (ks' := 0) (as := [.int p0, va_rf q6.1]) (st := []) (mf_Monitor_brokenResponse hw) (ms_Monitor_120 hw) d_Monitor_brokenAnswer_28 ln_Monitor_brokenResponse (by decide) (by first | exact Nat.le_of_ble_eq_true rfl | (simp only [List.map_cons, List.map_nil, List.sum_cons, List.sum_nil, va_rf_cat]; exact Nat.le_of_ble_eq_true rfl)) rfl (p_Monitor_brokenResponse hw hG hq7) ?_ (fun E h' n' x' e1 => by cases e1.1)
    intro v9 h9 n9 x9 e9
    obtain ⟨e91, e92, e93⟩ := e9
    cases e91
    subst e92
    subst e93
    clear x
    rename Bool => x
    show J _ _ _ _ (_ :: _) _ _ _ _ _ _
    have H := Option.some.inj H
    subst H
    exact J_iret (st := []) d_Monitor_brokenAnswer_31 rfl rfl ⟨rfl, rfl, rfl⟩
  · intro c8
    rw [if_pos c8] at H
    refine J_bipush (v := 9) d_Monitor_brokenAnswer_23 (by decide) ?_
    have H := Option.some.inj H
    subst H
    exact J_iret (st := []) d_Monitor_brokenAnswer_25 rfl rfl ⟨rfl, rfl, rfl⟩
theorem ln_Line_firstWithId : (parseMethodDescriptor y_Line_firstWithId.desc).map (fun q => q.parameters.length) = some 1 := by decide +kernel
def f_Line_firstWithId_L2 (Γ : gm_T)  : Nat → ph_T → Nat → Int32 → Int32 → Option (Int32 × ph_T)
  | 0, _, _, _, _ => none
  | fu + 1, φ, x0, x1, x2 =>
    @ite _ (Γ x0 = .inr 1) _ (
    if (φ.1 x0 1) ≤ x2 then
      some ((-1 : Int32), φ)
    else
      Option.bind (φ.2.2 x0 0) fun a2 =>
      Option.bind (gA Γ a2 5) fun N3 =>
      Option.bind (ix x2 N3) fun k4 =>
      Option.bind (φ.2.2 a2 k4) fun a5 =>
      @ite _ (Γ a5 = .inr 0) _ (
      Option.bind (f_Burst_idOf Γ φ (φ.2.1 a5 0)) fun q7 =>
      if q7.1 = x1 then
        some (x2, q7.2)
      else
        (f_Line_firstWithId_L2 Γ  fu) q7.2 x0 x1 (x2 + (1 : Int32))
      ) none
    ) none
set_option maxRecDepth 100000 in
set_option maxHeartbeats 4000000 in
theorem p_Line_firstWithId_L2 {w : jw_T} (hw : jok w) {Γ : gm_T} {n : Nat} (hG : gd w Γ n)  : ∀ (fu : Nat) {x : Bool} {φ : ph_T} {x0 : Nat} {x1 : Int32} {x2 : Int32} {q : Int32 × ph_T}, f_Line_firstWithId_L2 Γ  fu φ x0 x1 x2 = some q → J w M_Line_firstWithId 2 [some (.ref x0), some (.int x1), some (.int x2)] [] (pic Γ φ) n x 0 0 (fq Γ n (.inl (some (.int q.1))) q.2) := by
  intro fu
  induction fu with
  | zero =>
    intro x φ x0 x1 x2 q H
    cases H
  | succ fu ih =>
    intro x φ x0 x1 x2 q H
    unfold f_Line_firstWithId_L2 at H
    refine J_iload_n d_Line_firstWithId_2 rfl ?_
    refine J_aload_n d_Line_firstWithId_3 rfl ?_
    have g1 : Γ x0 = .inr 1 := by
      apply Classical.byContradiction
      intro q9
      rw [if_neg q9] at H
      cases H
    rw [if_pos g1] at H
    refine F_getI (ci := 1) (k := 1) hG (cf_Line hw) (fl_Line_18 hw) (by decide) (by decide) rfl d_Line_firstWithId_4 g1 ?_
    refine J_icmp_ge (tgt := 34) d_Line_firstWithId_7 (by decide) ?_ ?_
    · intro c9
      rw [if_pos c9] at H
      refine J_iconst (v := -1) d_Line_firstWithId_34 (by decide) ?_
      have H := Option.some.inj H
      subst H
      exact J_iret (st := []) d_Line_firstWithId_35 rfl rfl ⟨rfl, rfl, rfl⟩
    · intro c9
      rw [if_neg c9] at H
      refine J_aload_n d_Line_firstWithId_10 rfl ?_
      refine F_getR (ci := 1) (k := 0) hG (cf_Line hw) (fl_Line_11 hw) (by decide) (by decide) rfl d_Line_firstWithId_11 g1 ?_
      refine J_iload_n d_Line_firstWithId_14 rfl ?_
      obtain ⟨a2, ha2, H⟩ := Option.bind_eq_some_iff.mp H
      rw [j_rf ha2]
      obtain ⟨N3, hN3, H⟩ := Option.bind_eq_some_iff.mp H
      obtain ⟨k4, hk4, H⟩ := Option.bind_eq_some_iff.mp H
      refine F_aald k4 hw hG (t := 5) rfl (by decide) d_Line_firstWithId_15 (gA_some hN3) (ix_some hk4) ?_
      obtain ⟨a5, ha5, H⟩ := Option.bind_eq_some_iff.mp H
      rw [j_rf ha5]
      have g6 : Γ a5 = .inr 0 := by
        apply Classical.byContradiction
        intro q9
        rw [if_neg q9] at H
        cases H
      rw [if_pos g6] at H
      refine F_getL (ci := 0) (k := 0) hG (cf_Burst hw) (fl_Line_30 hw) (by decide) (by decide) rfl d_Line_firstWithId_16 g6 ?_
      obtain ⟨q7, hq7, H⟩ := Option.bind_eq_some_iff.mp H
      refine J_callS (kc := 0) (ks := 0) (kc' := 0) (ks' := 0) (as := [.long (φ.2.1 a5 0)]) (st := []) (mf_Burst_idOf hw) (ms_Line_34 hw) d_Line_firstWithId_19 ln_Burst_idOf (by decide) (by first | exact Nat.le_of_ble_eq_true rfl | (simp only [List.map_cons, List.map_nil, List.sum_cons, List.sum_nil, va_rf_cat]; exact Nat.le_of_ble_eq_true rfl)) rfl (p_Burst_idOf hw hG hq7) ?_ (fun E h' n' x' e1 => by cases e1.1)
      intro v9 h9 n9 x9 e9
      obtain ⟨e91, e92, e93⟩ := e9
      cases e91
      subst e92
      subst e93
      clear x
      rename Bool => x
      show J _ _ _ _ (_ :: _) _ _ _ _ _ _
      refine J_iload_n d_Line_firstWithId_22 rfl ?_
      refine J_icmp_ne (tgt := 28) d_Line_firstWithId_23 (by decide) ?_ ?_
      · intro c8
        rw [if_neg c8] at H
        refine J_iinc (v := x2 + 1) d_Line_firstWithId_28 rfl (by rw [show Int32.ofInt 1 = (1 : Int32) from by decide]) ?_
        refine J.ls (ls' := [some (.ref x0), some (.int x1), some (.int (x2 + (1 : Int32)))]) rfl ?_
        refine J_goto (tgt := 2) d_Line_firstWithId_31 (by decide) ?_
        refine J.drop [true, true, true] rfl ?_
        exact ih H
      · intro c8
        rw [if_pos c8] at H
        refine J_iload_n d_Line_firstWithId_26 rfl ?_
        have H := Option.some.inj H
        subst H
        exact J_iret (st := []) d_Line_firstWithId_27 rfl rfl ⟨rfl, rfl, rfl⟩
def f_Line_firstWithId (Γ : gm_T) (φ : ph_T) (this : Nat) (p0 : Int32) : Option (Int32 × ph_T) :=
  f_Line_firstWithId_L2 Γ  jF φ this p0 (0 : Int32)
set_option maxRecDepth 100000 in
set_option maxHeartbeats 4000000 in
theorem p_Line_firstWithId {w : jw_T} (hw : jok w) {Γ : gm_T} {n : Nat} (hG : gd w Γ n) {x : Bool} {φ : ph_T} {this : Nat} {p0 : Int32} {q : Int32 × ph_T} (H : f_Line_firstWithId Γ φ this p0 = some q) : jc w M_Line_firstWithId [.ref this, .int p0] (pic Γ φ) n x 0 0 (fq Γ n (.inl (some (.int q.1))) q.2) := by
  refine jc.of (by simp only [jent_r, jent_i, jent_l, jent_a, jent_0]; exact Nat.le_of_ble_eq_true rfl) ?_
  have hls : jents [.ref this, .int p0] (jm_nL M_Line_firstWithId) = [some (.ref this), some (.int p0), none] := by simp only [jents, jent_r, jent_i, jent_l, jent_a, jent_0]; rfl
  rw [hls]
  clear hls
  unfold f_Line_firstWithId at H
  refine J_iconst (v := 0) d_Line_firstWithId_0 (by decide) ?_
  refine J_istore_n d_Line_firstWithId_1 (Nat.le_of_ble_eq_true rfl) ?_
  refine J.ls (ls' := [some (.ref this), some (.int p0), some (.int (0 : Int32))]) rfl ?_
  refine J.drop [true, true, true] rfl ?_
  exact p_Line_firstWithId_L2 hw hG  _ H
theorem ln_Bus_restLast : (parseMethodDescriptor y_Bus_restLast.desc).map (fun q => q.parameters.length) = some 1 := by decide +kernel
def f_Bus_restLast_L13 (Γ : gm_T)  (φ : ph_T) (y0 : Int32) : Option (Int32 × ph_T) :=
  @ite _ (y0 = 0 ∨ y0 = 1) _ (
  some (y0, φ)
  ) none
set_option maxRecDepth 100000 in
set_option maxHeartbeats 4000000 in
theorem p_Bus_restLast_L13 {w : jw_T} (hw : jok w) {Γ : gm_T} {n : Nat} (hG : gd w Γ n)  {x : Bool} {φ : ph_T} {y0 : Int32} {q : Int32 × ph_T} (H : f_Bus_restLast_L13 Γ  φ y0 = some q) : J w M_Bus_restLast 13 [none] [.int y0] (pic Γ φ) n x 0 0 (fq Γ n (.inl (some (.int q.1))) q.2) := by
  unfold f_Bus_restLast_L13 at H
  have z1 : y0 = 0 ∨ y0 = 1 := by
    apply Classical.byContradiction
    intro q9
    rw [if_neg q9] at H
    cases H
  rw [if_pos z1] at H
  have H := Option.some.inj H
  subst H
  exact J_iret (st := []) d_Bus_restLast_13 rfl (narrow_z z1).1 ⟨rfl, rfl, rfl⟩
def f_Bus_restLast (Γ : gm_T) (φ : ph_T) (p0 : Int32) : Option (Int32 × ph_T) :=
  if (p0 &&& (256 : Int32)) = 0 then
    f_Bus_restLast_L13 Γ  φ (0 : Int32)
  else
    f_Bus_restLast_L13 Γ  φ (1 : Int32)
set_option maxRecDepth 100000 in
set_option maxHeartbeats 4000000 in
theorem p_Bus_restLast {w : jw_T} (hw : jok w) {Γ : gm_T} {n : Nat} (hG : gd w Γ n) {x : Bool} {φ : ph_T} {p0 : Int32} {q : Int32 × ph_T} (H : f_Bus_restLast Γ φ p0 = some q) : jc w M_Bus_restLast [.int p0] (pic Γ φ) n x 0 0 (fq Γ n (.inl (some (.int q.1))) q.2) := by
  refine jc.of (by simp only [jent_r, jent_i, jent_l, jent_a, jent_0]; exact Nat.le_of_ble_eq_true rfl) ?_
  have hls : jents [.int p0] (jm_nL M_Bus_restLast) = [some (.int p0)] := by simp only [jents, jent_r, jent_i, jent_l, jent_a, jent_0]; rfl
  rw [hls]
  clear hls
  unfold f_Bus_restLast at H
  refine J_iload_n d_Bus_restLast_0 rfl ?_
  refine J_sipush (v := 256) d_Bus_restLast_1 (by decide) ?_
  refine J_iand d_Bus_restLast_4 ?_
  refine J_if_eq (tgt := 12) d_Bus_restLast_5 (by decide) ?_ ?_
  · intro c2
    rw [if_pos c2] at H
    refine J_iconst (v := 0) d_Bus_restLast_12 (by decide) ?_
    refine J.drop [false] rfl ?_
    exact p_Bus_restLast_L13 hw hG  H
  · intro c2
    rw [if_neg c2] at H
    refine J_iconst (v := 1) d_Bus_restLast_8 (by decide) ?_
    refine J_goto (tgt := 13) d_Bus_restLast_9 (by decide) ?_
    refine J.drop [false] rfl ?_
    exact p_Bus_restLast_L13 hw hG  H
theorem ln_Monitor_brokenReadBeat : (parseMethodDescriptor y_Monitor_brokenReadBeat.desc).map (fun q => q.parameters.length) = some 1 := by decide +kernel
def f_Monitor_brokenReadBeat_L47 (Γ : gm_T)  (φ : ph_T) (x1 : Int32) (x2 : Option Nat) (y0 : Int32) : Option (Int32 × ph_T) :=
  Option.bind (f_Bus_restLast Γ φ x1) fun q1 =>
  if y0 = q1.1 then
    Option.bind (f_Monitor_brokenResponse Γ q1.2 x1 x2) fun q2 =>
    some (q2.1, q2.2)
  else
    some ((7 : Int32), q1.2)
set_option maxRecDepth 100000 in
set_option maxHeartbeats 4000000 in
theorem p_Monitor_brokenReadBeat_L47 {w : jw_T} (hw : jok w) {Γ : gm_T} {n : Nat} (hG : gd w Γ n)  {x : Bool} {φ : ph_T} {x1 : Int32} {x2 : Option Nat} {y0 : Int32} {q : Int32 × ph_T} (H : f_Monitor_brokenReadBeat_L47 Γ  φ x1 x2 y0 = some q) : J w M_Monitor_brokenReadBeat 47 [none, some (.int x1), some (va_rf x2), none] [.int y0] (pic Γ φ) n x 0 0 (fq Γ n (.inl (some (.int q.1))) q.2) := by
  unfold f_Monitor_brokenReadBeat_L47 at H
  refine J_istore_n d_Monitor_brokenReadBeat_47 (Nat.le_of_ble_eq_true rfl) ?_
  refine J.ls (ls' := [none, some (.int x1), some (va_rf x2), some (.int y0)]) (jst1_o (i := 2) (r := x2) rfl) ?_
  refine J_iload_n d_Monitor_brokenReadBeat_48 rfl ?_
  refine J_iload_n d_Monitor_brokenReadBeat_49 rfl ?_
  obtain ⟨q1, hq1, H⟩ := Option.bind_eq_some_iff.mp H
  refine J_callS (kc := 0) (ks := 0) (kc' := 0) (ks' := 0) (as := [.int x1]) (st := [.int y0]) (mf_Bus_restLast hw) (ms_Monitor_137 hw) d_Monitor_brokenReadBeat_50 ln_Bus_restLast (by decide) (by first | exact Nat.le_of_ble_eq_true rfl | (simp only [List.map_cons, List.map_nil, List.sum_cons, List.sum_nil, va_rf_cat]; exact Nat.le_of_ble_eq_true rfl)) rfl (p_Bus_restLast hw hG hq1) ?_ (fun E h' n' x' e1 => by cases e1.1)
  intro v9 h9 n9 x9 e9
  obtain ⟨e91, e92, e93⟩ := e9
  cases e91
  subst e92
  subst e93
  clear x
  rename Bool => x
  show J _ _ _ _ (_ :: _) _ _ _ _ _ _
  refine J_icmp_eq (tgt := 59) d_Monitor_brokenReadBeat_53 (by decide) ?_ ?_
  · intro c3
    rw [if_pos c3] at H
    refine J_iload_n d_Monitor_brokenReadBeat_59 rfl ?_
    refine J_aload_nO d_Monitor_brokenReadBeat_60 rfl ?_
    obtain ⟨q2, hq2, H⟩ := Option.bind_eq_some_iff.mp H
    refine J_callS (kc := 0) (ks := 0) (kc' := 0) (ks' := 0) (as := [.int x1, va_rf x2]) (st := []) (mf_Monitor_brokenResponse hw) (ms_Monitor_120 hw) d_Monitor_brokenReadBeat_61 ln_Monitor_brokenResponse (by decide) (by first | exact Nat.le_of_ble_eq_true rfl | (simp only [List.map_cons, List.map_nil, List.sum_cons, List.sum_nil, va_rf_cat]; exact Nat.le_of_ble_eq_true rfl)) rfl (p_Monitor_brokenResponse hw hG hq2) ?_ (fun E h' n' x' e1 => by cases e1.1)
    intro v9 h9 n9 x9 e9
    obtain ⟨e91, e92, e93⟩ := e9
    cases e91
    subst e92
    subst e93
    clear x
    rename Bool => x
    show J _ _ _ _ (_ :: _) _ _ _ _ _ _
    have H := Option.some.inj H
    subst H
    exact J_iret (st := []) d_Monitor_brokenReadBeat_64 rfl rfl ⟨rfl, rfl, rfl⟩
  · intro c3
    rw [if_neg c3] at H
    refine J_bipush (v := 7) d_Monitor_brokenReadBeat_56 (by decide) ?_
    have H := Option.some.inj H
    subst H
    exact J_iret (st := []) d_Monitor_brokenReadBeat_58 rfl rfl ⟨rfl, rfl, rfl⟩
def f_Monitor_brokenReadBeat (Γ : gm_T) (φ : ph_T) (this : Nat) (p0 : Int32) : Option (Int32 × ph_T) :=
  @ite _ (Γ this = .inr 4) _ (
  Option.bind (f_Bus_restId Γ φ p0) fun q5 =>
  Option.bind (φ.2.2 this 1) fun a6 =>
  @ite _ (Γ a6 = .inr 1) _ (
  Option.bind (f_Line_firstWithId Γ q5.2 a6 q5.1) fun q8 =>
  Option.bind (f_Line_at Γ q8.2 a6 q8.1) fun q9 =>
  if q9.1 = none then
    some ((10 : Int32), q9.2)
  else
    Option.bind q9.1 fun a10 =>
    @ite _ (Γ a10 = .inr 0) _ (
    Option.bind (f_Burst_lengthOf Γ q9.2 (q9.2.2.1 a10 0)) fun q12 =>
    if (q9.2.1 a10 3) = (q12.1 - (1 : Int32)) then
      f_Monitor_brokenReadBeat_L47 Γ  q12.2 p0 (some a10) (1 : Int32)
    else
      f_Monitor_brokenReadBeat_L47 Γ  q12.2 p0 (some a10) (0 : Int32)
    ) none
  ) none
  ) none
set_option maxRecDepth 100000 in
set_option maxHeartbeats 4000000 in
theorem p_Monitor_brokenReadBeat {w : jw_T} (hw : jok w) {Γ : gm_T} {n : Nat} (hG : gd w Γ n) {x : Bool} {φ : ph_T} {this : Nat} {p0 : Int32} {q : Int32 × ph_T} (H : f_Monitor_brokenReadBeat Γ φ this p0 = some q) : jc w M_Monitor_brokenReadBeat [.ref this, .int p0] (pic Γ φ) n x 0 0 (fq Γ n (.inl (some (.int q.1))) q.2) := by
  refine jc.of (by simp only [jent_r, jent_i, jent_l, jent_a, jent_0]; exact Nat.le_of_ble_eq_true rfl) ?_
  have hls : jents [.ref this, .int p0] (jm_nL M_Monitor_brokenReadBeat) = [some (.ref this), some (.int p0), none, none] := by simp only [jents, jent_r, jent_i, jent_l, jent_a, jent_0]; rfl
  rw [hls]
  clear hls
  unfold f_Monitor_brokenReadBeat at H
  refine J_aload_n d_Monitor_brokenReadBeat_0 rfl ?_
  have g4 : Γ this = .inr 4 := by
    apply Classical.byContradiction
    intro q9
    rw [if_neg q9] at H
    cases H
  rw [if_pos g4] at H
  refine F_getR (ci := 4) (k := 1) hG (cf_Monitor hw) (fl_Monitor_20 hw) (by decide) (by decide) rfl d_Monitor_brokenReadBeat_1 g4 ?_
  refine J_aload_n d_Monitor_brokenReadBeat_4 rfl ?_
  refine F_getR (ci := 4) (k := 1) hG (cf_Monitor hw) (fl_Monitor_20 hw) (by decide) (by decide) rfl d_Monitor_brokenReadBeat_5 g4 ?_
  refine J_iload_n d_Monitor_brokenReadBeat_8 rfl ?_
  obtain ⟨q5, hq5, H⟩ := Option.bind_eq_some_iff.mp H
  refine J_callS (kc := 0) (ks := 0) (kc' := 0) (ks' := 0) (as := [.int p0]) (st := [va_rf (φ.2.2 this 1), va_rf (φ.2.2 this 1)]) (mf_Bus_restId hw) (ms_Monitor_110 hw) d_Monitor_brokenReadBeat_9 ln_Bus_restId (by decide) (by first | exact Nat.le_of_ble_eq_true rfl | (simp only [List.map_cons, List.map_nil, List.sum_cons, List.sum_nil, va_rf_cat]; exact Nat.le_of_ble_eq_true rfl)) rfl (p_Bus_restId hw hG hq5) ?_ (fun E h' n' x' e1 => by cases e1.1)
  intro v9 h9 n9 x9 e9
  obtain ⟨e91, e92, e93⟩ := e9
  cases e91
  subst e92
  subst e93
  clear x
  rename Bool => x
  show J _ _ _ _ (_ :: _) _ _ _ _ _ _
  obtain ⟨a6, ha6, H⟩ := Option.bind_eq_some_iff.mp H
  rw [j_rf ha6]
  have g7 : Γ a6 = .inr 1 := by
    apply Classical.byContradiction
    intro q9
    rw [if_neg q9] at H
    cases H
  rw [if_pos g7] at H
  obtain ⟨q8, hq8, H⟩ := Option.bind_eq_some_iff.mp H
  refine J_callV (kc := 0) (ks := 0) (kc' := 0) (ks' := 0) (a := a6) (ci := 1) (as := [.int q5.1]) (st := [.ref a6]) (mf_Line_firstWithId hw) (mv_Monitor_124 hw) d_Monitor_brokenReadBeat_12 ln_Line_firstWithId (by decide) (by first | exact Nat.le_of_ble_eq_true rfl | (simp only [List.map_cons, List.map_nil, List.sum_cons, List.sum_nil, va_rf_cat]; exact Nat.le_of_ble_eq_true rfl)) rfl ((hG _).1 _ g7 (by decide)).1 ((hG _).1 _ g7 (by decide)).2 (by unfold pic; rw [g7]; rfl) (jcl_at hw rfl) rfl (p_Line_firstWithId hw hG hq8) ?_ (fun E h' n' x' e1 => by cases e1.1)
  intro v9 h9 n9 x9 e9
  obtain ⟨e91, e92, e93⟩ := e9
  cases e91
  subst e92
  subst e93
  clear x
  rename Bool => x
  show J _ _ _ _ (_ :: _) _ _ _ _ _ _
  obtain ⟨q9, hq9, H⟩ := Option.bind_eq_some_iff.mp H
  refine J_callV (kc := 0) (ks := 0) (kc' := 0) (ks' := 0) (a := a6) (ci := 1) (as := [.int q8.1]) (st := []) (mf_Line_at hw) (mv_Monitor_116 hw) d_Monitor_brokenReadBeat_15 ln_Line_at (by decide) (by first | exact Nat.le_of_ble_eq_true rfl | (simp only [List.map_cons, List.map_nil, List.sum_cons, List.sum_nil, va_rf_cat]; exact Nat.le_of_ble_eq_true rfl)) rfl ((hG _).1 _ g7 (by decide)).1 ((hG _).1 _ g7 (by decide)).2 (by unfold pic; rw [g7]; rfl) (jcl_at hw rfl) rfl (p_Line_at hw hG hq9) ?_ (fun E h' n' x' e1 => by cases e1.1)
  intro v9 h9 n9 x9 e9
  obtain ⟨e91, e92, e93⟩ := e9
  cases e91
  subst e92
  subst e93
  clear x
  rename Bool => x
  show J _ _ _ _ (_ :: _) _ _ _ _ _ _
  refine J_astore_nO d_Monitor_brokenReadBeat_18 (Nat.le_of_ble_eq_true rfl) ?_
  refine J.ls (ls' := [some (.ref this), some (.int p0), some (va_rf q9.1), none]) rfl ?_
  refine J_aload_nO d_Monitor_brokenReadBeat_19 rfl ?_
  refine J_ifnonnullO (r := q9.1) (tgt := 26) d_Monitor_brokenReadBeat_20 (by decide) ?_ ?_
  · intro c14
    rw [if_neg c14] at H
    refine J_aload_nO d_Monitor_brokenReadBeat_26 rfl ?_
    obtain ⟨a10, ha10, H⟩ := Option.bind_eq_some_iff.mp H
    rw [j_rf ha10]
    have g11 : Γ a10 = .inr 0 := by
      apply Classical.byContradiction
      intro q9
      rw [if_neg q9] at H
      cases H
    rw [if_pos g11] at H
    refine F_getI (ci := 0) (k := 3) hG (cf_Burst hw) (fl_Monitor_127 hw) (by decide) (by decide) rfl d_Monitor_brokenReadBeat_27 g11 ?_
    refine J_aload_n d_Monitor_brokenReadBeat_30 rfl ?_
    refine F_getL (ci := 0) (k := 0) hG (cf_Burst hw) (fl_Monitor_130 hw) (by decide) (by decide) rfl d_Monitor_brokenReadBeat_31 g11 ?_
    obtain ⟨q12, hq12, H⟩ := Option.bind_eq_some_iff.mp H
    refine J_callS (kc := 0) (ks := 0) (kc' := 0) (ks' := 0) (as := [.long (q9.2.2.1 a10 0)]) (st := [.int (q9.2.1 a10 3)]) (mf_Burst_lengthOf hw) (ms_Monitor_134 hw) d_Monitor_brokenReadBeat_34 ln_Burst_lengthOf (by decide) (by first | exact Nat.le_of_ble_eq_true rfl | (simp only [List.map_cons, List.map_nil, List.sum_cons, List.sum_nil, va_rf_cat]; exact Nat.le_of_ble_eq_true rfl)) rfl (p_Burst_lengthOf hw hG hq12) ?_ (fun E h' n' x' e1 => by cases e1.1)
    intro v9 h9 n9 x9 e9
    obtain ⟨e91, e92, e93⟩ := e9
    cases e91
    subst e92
    subst e93
    clear x
    rename Bool => x
    show J _ _ _ _ (_ :: _) _ _ _ _ _ _
    refine J_iconst (v := 1) d_Monitor_brokenReadBeat_37 (by decide) ?_
    refine J_isub d_Monitor_brokenReadBeat_38 ?_
    refine J_icmp_ne (tgt := 46) d_Monitor_brokenReadBeat_39 (by decide) ?_ ?_
    · intro c13
      rw [if_neg c13] at H
      refine J_iconst (v := 0) d_Monitor_brokenReadBeat_46 (by decide) ?_
      refine J.drop [false, true, true, false] rfl ?_
      exact p_Monitor_brokenReadBeat_L47 hw hG  H
    · intro c13
      rw [if_pos c13] at H
      refine J_iconst (v := 1) d_Monitor_brokenReadBeat_42 (by decide) ?_
      refine J_goto (tgt := 47) d_Monitor_brokenReadBeat_43 (by decide) ?_
      refine J.drop [false, true, true, false] rfl ?_
      exact p_Monitor_brokenReadBeat_L47 hw hG  H
  · intro c14
    rw [if_pos c14] at H
    refine J_bipush (v := 10) d_Monitor_brokenReadBeat_23 (by decide) ?_
    have H := Option.some.inj H
    subst H
    exact J_iret (st := []) d_Monitor_brokenReadBeat_25 rfl rfl ⟨rfl, rfl, rfl⟩
theorem ln_Monitor_brokenOn : (parseMethodDescriptor y_Monitor_brokenOn.desc).map (fun q => q.parameters.length) = some 2 := by decide +kernel
def f_Monitor_brokenOn_L96 (Γ : gm_T)  (φ : ph_T) : Option (Int32 × ph_T) :=
  some ((0 : Int32), φ)
set_option maxRecDepth 100000 in
set_option maxHeartbeats 4000000 in
theorem p_Monitor_brokenOn_L96 {w : jw_T} (hw : jok w) {Γ : gm_T} {n : Nat} (hG : gd w Γ n)  {x : Bool} {φ : ph_T} {q : Int32 × ph_T} (H : f_Monitor_brokenOn_L96 Γ  φ  = some q) : J w M_Monitor_brokenOn 96 [none, none, none] [] (pic Γ φ) n x 0 0 (fq Γ n (.inl (some (.int q.1))) q.2) := by
  unfold f_Monitor_brokenOn_L96 at H
  refine J_iconst (v := 0) d_Monitor_brokenOn_96 (by decide) ?_
  have H := Option.some.inj H
  subst H
  exact J_iret (st := []) d_Monitor_brokenOn_97 rfl rfl ⟨rfl, rfl, rfl⟩
def f_Monitor_brokenOn_L64 (Γ : gm_T)  (φ : ph_T) (x1 : Option Nat) (x2 : Int32) : Option (Int32 × ph_T) :=
  Option.bind x1 fun a1 =>
  @ite _ (Γ a1 = .inr 5) _ (
  Option.bind (φ.2.2 a1 3) fun a3 =>
  Option.bind (gA Γ a3 1) fun N4 =>
  Option.bind (ix x2 N4) fun k5 =>
  Option.bind (f_Burst_brokenRule Γ φ (φ.2.1 a3 k5)) fun q6 =>
  some (q6.1, q6.2)
  ) none
set_option maxRecDepth 100000 in
set_option maxHeartbeats 4000000 in
theorem p_Monitor_brokenOn_L64 {w : jw_T} (hw : jok w) {Γ : gm_T} {n : Nat} (hG : gd w Γ n)  {x : Bool} {φ : ph_T} {x1 : Option Nat} {x2 : Int32} {q : Int32 × ph_T} (H : f_Monitor_brokenOn_L64 Γ  φ x1 x2 = some q) : J w M_Monitor_brokenOn 64 [none, some (va_rf x1), some (.int x2)] [] (pic Γ φ) n x 0 0 (fq Γ n (.inl (some (.int q.1))) q.2) := by
  unfold f_Monitor_brokenOn_L64 at H
  refine J_aload_nO d_Monitor_brokenOn_64 rfl ?_
  obtain ⟨a1, ha1, H⟩ := Option.bind_eq_some_iff.mp H
  rw [j_rf ha1]
  have g2 : Γ a1 = .inr 5 := by
    apply Classical.byContradiction
    intro q9
    rw [if_neg q9] at H
    cases H
  rw [if_pos g2] at H
  refine F_getR (ci := 5) (k := 3) hG (cf_Port hw) (fl_Monitor_69 hw) (by decide) (by decide) rfl d_Monitor_brokenOn_65 g2 ?_
  refine J_iload_n d_Monitor_brokenOn_68 rfl ?_
  obtain ⟨a3, ha3, H⟩ := Option.bind_eq_some_iff.mp H
  rw [j_rf ha3]
  obtain ⟨N4, hN4, H⟩ := Option.bind_eq_some_iff.mp H
  obtain ⟨k5, hk5, H⟩ := Option.bind_eq_some_iff.mp H
  refine F_lald k5 hw hG d_Monitor_brokenOn_69 (gA_some hN4) (ix_some hk5) ?_
  obtain ⟨q6, hq6, H⟩ := Option.bind_eq_some_iff.mp H
  refine J_callS (kc := 0) (ks := 0) (kc' := 0) (ks' := 0) (as := [.long (φ.2.1 a3 k5)]) (st := []) (mf_Burst_brokenRule hw) (ms_Monitor_99 hw) d_Monitor_brokenOn_70 ln_Burst_brokenRule (by decide) (by first | exact Nat.le_of_ble_eq_true rfl | (simp only [List.map_cons, List.map_nil, List.sum_cons, List.sum_nil, va_rf_cat]; exact Nat.le_of_ble_eq_true rfl)) rfl (p_Burst_brokenRule hw hG hq6) ?_ (fun E h' n' x' e1 => by cases e1.1)
  intro v9 h9 n9 x9 e9
  obtain ⟨e91, e92, e93⟩ := e9
  cases e91
  subst e92
  subst e93
  clear x
  rename Bool => x
  show J _ _ _ _ (_ :: _) _ _ _ _ _ _
  have H := Option.some.inj H
  subst H
  exact J_iret (st := []) d_Monitor_brokenOn_73 rfl rfl ⟨rfl, rfl, rfl⟩
def f_Monitor_brokenOn (Γ : gm_T) (φ : ph_T) (this : Nat) (p0 : Option Nat) (p1 : Int32) : Option (Int32 × ph_T) :=
  @ite _ (Γ this = .inr 4) _ (
  Option.bind (φ.2.2 this 2) fun a8 =>
  Option.bind (gA Γ a8 2) fun N9 =>
  Option.bind (ix p1 N9) fun k10 =>
  if (φ.1 a8 k10) = 0 then
    Option.bind p0 fun a11 =>
    @ite _ (Γ a11 = .inr 5) _ (
    Option.bind (φ.2.2 a11 0) fun a13 =>
    Option.bind (gA Γ a13 2) fun N14 =>
    Option.bind (ix p1 N14) fun k15 =>
    if (φ.1 a13 k15) = 0 then
      some ((0 : Int32), φ)
    else
      if p1 = 0 then
        f_Monitor_brokenOn_L64 Γ  φ (some a11) p1
      else
        if p1 = 1 then
          f_Monitor_brokenOn_L96 Γ  φ 
        else
          if p1 = 2 then
            Option.bind (φ.2.2 a11 4) fun a16 =>
            Option.bind (gA Γ a16 0) fun N17 =>
            Option.bind (ix (2 : Int32) N17) fun k18 =>
            Option.bind (f_Monitor_brokenAnswer Γ φ this (φ.1 a16 k18)) fun q19 =>
            some (q19.1, q19.2)
          else
            if p1 = 3 then
              f_Monitor_brokenOn_L64 Γ  φ (some a11) p1
            else
              if p1 = 4 then
                Option.bind (φ.2.2 a11 4) fun a20 =>
                Option.bind (gA Γ a20 0) fun N21 =>
                Option.bind (ix (4 : Int32) N21) fun k22 =>
                Option.bind (f_Monitor_brokenReadBeat Γ φ this (φ.1 a20 k22)) fun q23 =>
                some (q23.1, q23.2)
              else
                f_Monitor_brokenOn_L96 Γ  φ 
    ) none
  else
    Option.bind (f_Monitor_brokenHeld Γ φ this p0 p1) fun q30 =>
    some (q30.1, q30.2)
  ) none
set_option maxRecDepth 100000 in
set_option maxHeartbeats 4000000 in
theorem p_Monitor_brokenOn {w : jw_T} (hw : jok w) {Γ : gm_T} {n : Nat} (hG : gd w Γ n) {x : Bool} {φ : ph_T} {this : Nat} {p0 : Option Nat} {p1 : Int32} {q : Int32 × ph_T} (H : f_Monitor_brokenOn Γ φ this p0 p1 = some q) : jc w M_Monitor_brokenOn [.ref this, va_rf p0, .int p1] (pic Γ φ) n x 0 0 (fq Γ n (.inl (some (.int q.1))) q.2) := by
  refine jc.of (by simp only [jent_r, jent_i, jent_l, jent_a, jent_0]; exact Nat.le_of_ble_eq_true rfl) ?_
  have hls : jents [.ref this, va_rf p0, .int p1] (jm_nL M_Monitor_brokenOn) = [some (.ref this), some (va_rf p0), some (.int p1)] := by simp only [jents, jent_r, jent_i, jent_l, jent_a, jent_0]; rfl
  rw [hls]
  clear hls
  unfold f_Monitor_brokenOn at H
  refine J_aload_n d_Monitor_brokenOn_0 rfl ?_
  have g7 : Γ this = .inr 4 := by
    apply Classical.byContradiction
    intro q9
    rw [if_neg q9] at H
    cases H
  rw [if_pos g7] at H
  refine F_getR (ci := 4) (k := 2) hG (cf_Monitor hw) (fl_Monitor_23 hw) (by decide) (by decide) rfl d_Monitor_brokenOn_1 g7 ?_
  refine J_iload_n d_Monitor_brokenOn_4 rfl ?_
  obtain ⟨a8, ha8, H⟩ := Option.bind_eq_some_iff.mp H
  rw [j_rf ha8]
  obtain ⟨N9, hN9, H⟩ := Option.bind_eq_some_iff.mp H
  obtain ⟨k10, hk10, H⟩ := Option.bind_eq_some_iff.mp H
  refine F_zald k10 hw hG d_Monitor_brokenOn_5 (gA_some hN9) (ix_some hk10) ?_
  refine J_if_eq (tgt := 16) d_Monitor_brokenOn_6 (by decide) ?_ ?_
  · intro c31
    rw [if_pos c31] at H
    refine J_aload_nO d_Monitor_brokenOn_16 rfl ?_
    obtain ⟨a11, ha11, H⟩ := Option.bind_eq_some_iff.mp H
    rw [j_rf ha11]
    have g12 : Γ a11 = .inr 5 := by
      apply Classical.byContradiction
      intro q9
      rw [if_neg q9] at H
      cases H
    rw [if_pos g12] at H
    refine F_getR (ci := 5) (k := 0) hG (cf_Port hw) (fl_Monitor_90 hw) (by decide) (by decide) rfl d_Monitor_brokenOn_17 g12 ?_
    refine J_iload_n d_Monitor_brokenOn_20 rfl ?_
    obtain ⟨a13, ha13, H⟩ := Option.bind_eq_some_iff.mp H
    rw [j_rf ha13]
    obtain ⟨N14, hN14, H⟩ := Option.bind_eq_some_iff.mp H
    obtain ⟨k15, hk15, H⟩ := Option.bind_eq_some_iff.mp H
    refine F_zald k15 hw hG d_Monitor_brokenOn_21 (gA_some hN14) (ix_some hk15) ?_
    refine J_if_ne (tgt := 27) d_Monitor_brokenOn_22 (by decide) ?_ ?_
    · intro c29
      rw [if_neg c29] at H
      refine J_iload_n d_Monitor_brokenOn_27 rfl ?_
      by_cases c24 : p1 = 0
      · rw [if_pos c24] at H
        refine J_table (off := 36) (tgt := 64) d_Monitor_brokenOn_28 (by rw [c24]; decide) (by decide) ?_
        refine J.drop [false, true, true] rfl ?_
        exact p_Monitor_brokenOn_L64 hw hG  H
      · rw [if_neg c24] at H
        by_cases c25 : p1 = 1
        · rw [if_pos c25] at H
          refine J_table (off := 68) (tgt := 96) d_Monitor_brokenOn_28 (by rw [c25]; decide) (by decide) ?_
          refine J.drop [false, false, false] rfl ?_
          exact p_Monitor_brokenOn_L96 hw hG  H
        · rw [if_neg c25] at H
          by_cases c26 : p1 = 2
          · rw [if_pos c26] at H
            refine J_table (off := 46) (tgt := 74) d_Monitor_brokenOn_28 (by rw [c26]; decide) (by decide) ?_
            refine J_aload_n d_Monitor_brokenOn_74 rfl ?_
            refine J_aload_n d_Monitor_brokenOn_75 rfl ?_
            refine F_getR (ci := 5) (k := 4) hG (cf_Port hw) (fl_Monitor_80 hw) (by decide) (by decide) rfl d_Monitor_brokenOn_76 g12 ?_
            refine J_iconst (v := 2) d_Monitor_brokenOn_79 (by decide) ?_
            obtain ⟨a16, ha16, H⟩ := Option.bind_eq_some_iff.mp H
            rw [j_rf ha16]
            obtain ⟨N17, hN17, H⟩ := Option.bind_eq_some_iff.mp H
            obtain ⟨k18, hk18, H⟩ := Option.bind_eq_some_iff.mp H
            refine F_iald k18 hw hG d_Monitor_brokenOn_80 (gA_some hN17) (ix_some hk18) ?_
            obtain ⟨q19, hq19, H⟩ := Option.bind_eq_some_iff.mp H
            refine J_callV (kc := 0) (ks := 0) (kc' := 0) (ks' := 0) (a := this) (ci := 4) (as := [.int (φ.1 a16 k18)]) (st := []) (mf_Monitor_brokenAnswer hw) (mv_Monitor_104 hw) d_Monitor_brokenOn_81 ln_Monitor_brokenAnswer (by decide) (by first | exact Nat.le_of_ble_eq_true rfl | (simp only [List.map_cons, List.map_nil, List.sum_cons, List.sum_nil, va_rf_cat]; exact Nat.le_of_ble_eq_true rfl)) rfl ((hG _).1 _ g7 (by decide)).1 ((hG _).1 _ g7 (by decide)).2 (by unfold pic; rw [g7]; rfl) (jcl_at hw rfl) rfl (p_Monitor_brokenAnswer hw hG hq19) ?_ (fun E h' n' x' e1 => by cases e1.1)
            intro v9 h9 n9 x9 e9
            obtain ⟨e91, e92, e93⟩ := e9
            cases e91
            subst e92
            subst e93
            clear x
            rename Bool => x
            show J _ _ _ _ (_ :: _) _ _ _ _ _ _
            have H := Option.some.inj H
            subst H
            exact J_iret (st := []) d_Monitor_brokenOn_84 rfl rfl ⟨rfl, rfl, rfl⟩
          · rw [if_neg c26] at H
            by_cases c27 : p1 = 3
            · rw [if_pos c27] at H
              refine J_table (off := 36) (tgt := 64) d_Monitor_brokenOn_28 (by rw [c27]; decide) (by decide) ?_
              refine J.drop [false, true, true] rfl ?_
              exact p_Monitor_brokenOn_L64 hw hG  H
            · rw [if_neg c27] at H
              by_cases c28 : p1 = 4
              · rw [if_pos c28] at H
                refine J_table (off := 57) (tgt := 85) d_Monitor_brokenOn_28 (by rw [c28]; decide) (by decide) ?_
                refine J_aload_n d_Monitor_brokenOn_85 rfl ?_
                refine J_aload_n d_Monitor_brokenOn_86 rfl ?_
                refine F_getR (ci := 5) (k := 4) hG (cf_Port hw) (fl_Monitor_80 hw) (by decide) (by decide) rfl d_Monitor_brokenOn_87 g12 ?_
                refine J_iconst (v := 4) d_Monitor_brokenOn_90 (by decide) ?_
                obtain ⟨a20, ha20, H⟩ := Option.bind_eq_some_iff.mp H
                rw [j_rf ha20]
                obtain ⟨N21, hN21, H⟩ := Option.bind_eq_some_iff.mp H
                obtain ⟨k22, hk22, H⟩ := Option.bind_eq_some_iff.mp H
                refine F_iald k22 hw hG d_Monitor_brokenOn_91 (gA_some hN21) (ix_some hk22) ?_
                obtain ⟨q23, hq23, H⟩ := Option.bind_eq_some_iff.mp H
                refine J_callV (kc := 0) (ks := 0) (kc' := 0) (ks' := 0) (a := this) (ci := 4) (as := [.int (φ.1 a20 k22)]) (st := []) (mf_Monitor_brokenReadBeat hw) (mv_Monitor_107 hw) d_Monitor_brokenOn_92 ln_Monitor_brokenReadBeat (by decide) (by first | exact Nat.le_of_ble_eq_true rfl | (simp only [List.map_cons, List.map_nil, List.sum_cons, List.sum_nil, va_rf_cat]; exact Nat.le_of_ble_eq_true rfl)) rfl ((hG _).1 _ g7 (by decide)).1 ((hG _).1 _ g7 (by decide)).2 (by unfold pic; rw [g7]; rfl) (jcl_at hw rfl) rfl (p_Monitor_brokenReadBeat hw hG hq23) ?_ (fun E h' n' x' e1 => by cases e1.1)
                intro v9 h9 n9 x9 e9
                obtain ⟨e91, e92, e93⟩ := e9
                cases e91
                subst e92
                subst e93
                clear x
                rename Bool => x
                show J _ _ _ _ (_ :: _) _ _ _ _ _ _
                have H := Option.some.inj H
                subst H
                exact J_iret (st := []) d_Monitor_brokenOn_95 rfl rfl ⟨rfl, rfl, rfl⟩
              · rw [if_neg c28] at H
                refine J_table (off := 68) (tgt := 96) d_Monitor_brokenOn_28 (by
                    rw [if_pos (by
                      apply Classical.byContradiction
                      intro h9
                      have h8 : (p1).toInt = 0 ∨ (p1).toInt = 1 ∨ (p1).toInt = 2 ∨ (p1).toInt = 3 ∨ (p1).toInt = 4 := by omega
                      rcases h8 with h8 | h8 | h8 | h8 | h8
                      · exact c24 (j_inj (by rw [h8]; decide))
                      · exact c25 (j_inj (by rw [h8]; decide))
                      · exact c26 (j_inj (by rw [h8]; decide))
                      · exact c27 (j_inj (by rw [h8]; decide))
                      · exact c28 (j_inj (by rw [h8]; decide)))]) (by decide) ?_
                refine J.drop [false, false, false] rfl ?_
                exact p_Monitor_brokenOn_L96 hw hG  H
    · intro c29
      rw [if_pos c29] at H
      refine J_iconst (v := 0) d_Monitor_brokenOn_25 (by decide) ?_
      have H := Option.some.inj H
      subst H
      exact J_iret (st := []) d_Monitor_brokenOn_26 rfl rfl ⟨rfl, rfl, rfl⟩
  · intro c31
    rw [if_neg c31] at H
    refine J_aload_n d_Monitor_brokenOn_9 rfl ?_
    refine J_aload_nO d_Monitor_brokenOn_10 rfl ?_
    refine J_iload_n d_Monitor_brokenOn_11 rfl ?_
    obtain ⟨q30, hq30, H⟩ := Option.bind_eq_some_iff.mp H
    refine J_callV (kc := 0) (ks := 0) (kc' := 0) (ks' := 0) (a := this) (ci := 4) (as := [va_rf p0, .int p1]) (st := []) (mf_Monitor_brokenHeld hw) (mv_Monitor_96 hw) d_Monitor_brokenOn_12 ln_Monitor_brokenHeld (by decide) (by first | exact Nat.le_of_ble_eq_true rfl | (simp only [List.map_cons, List.map_nil, List.sum_cons, List.sum_nil, va_rf_cat]; exact Nat.le_of_ble_eq_true rfl)) rfl ((hG _).1 _ g7 (by decide)).1 ((hG _).1 _ g7 (by decide)).2 (by unfold pic; rw [g7]; rfl) (jcl_at hw rfl) rfl (p_Monitor_brokenHeld hw hG hq30) ?_ (fun E h' n' x' e1 => by cases e1.1)
    intro v9 h9 n9 x9 e9
    obtain ⟨e91, e92, e93⟩ := e9
    cases e91
    subst e92
    subst e93
    clear x
    rename Bool => x
    show J _ _ _ _ (_ :: _) _ _ _ _ _ _
    have H := Option.some.inj H
    subst H
    exact J_iret (st := []) d_Monitor_brokenOn_15 rfl rfl ⟨rfl, rfl, rfl⟩
theorem ln_Monitor_note : (parseMethodDescriptor y_Monitor_note.desc).map (fun q => q.parameters.length) = some 2 := by decide +kernel
def f_Monitor_note_L22 (Γ : gm_T)  (φ : ph_T) : Option (Unit × ph_T) :=
  some ((), φ)
set_option maxRecDepth 100000 in
set_option maxHeartbeats 4000000 in
theorem p_Monitor_note_L22 {w : jw_T} (hw : jok w) {Γ : gm_T} {n : Nat} (hG : gd w Γ n)  {x : Bool} {φ : ph_T} {q : Unit × ph_T} (H : f_Monitor_note_L22 Γ  φ  = some q) : J w M_Monitor_note 22 [none, none, none] [] (pic Γ φ) n x 0 0 (fq Γ n (.inl none) q.2) := by
  unfold f_Monitor_note_L22 at H
  have H := Option.some.inj H
  subst H
  exact J_vret (st := []) d_Monitor_note_22 rfl ⟨rfl, rfl, rfl⟩
def f_Monitor_note (Γ : gm_T) (φ : ph_T) (this : Nat) (p0 : Int32) (p1 : Int32) : Option (Unit × ph_T) :=
  if p0 = 0 then
    f_Monitor_note_L22 Γ  φ 
  else
    @ite _ (Γ this = .inr 4) _ (
    f_Monitor_note_L22 Γ  (uI (uI (uI φ this 5 p0) this 6 p1) this 7 ((uI (uI φ this 5 p0) this 6 p1).1 this 8)) 
    ) none
set_option maxRecDepth 100000 in
set_option maxHeartbeats 4000000 in
theorem p_Monitor_note {w : jw_T} (hw : jok w) {Γ : gm_T} {n : Nat} (hG : gd w Γ n) {x : Bool} {φ : ph_T} {this : Nat} {p0 : Int32} {p1 : Int32} {q : Unit × ph_T} (H : f_Monitor_note Γ φ this p0 p1 = some q) : jc w M_Monitor_note [.ref this, .int p0, .int p1] (pic Γ φ) n x 0 0 (fq Γ n (.inl none) q.2) := by
  refine jc.of (by simp only [jent_r, jent_i, jent_l, jent_a, jent_0]; exact Nat.le_of_ble_eq_true rfl) ?_
  have hls : jents [.ref this, .int p0, .int p1] (jm_nL M_Monitor_note) = [some (.ref this), some (.int p0), some (.int p1)] := by simp only [jents, jent_r, jent_i, jent_l, jent_a, jent_0]; rfl
  rw [hls]
  clear hls
  unfold f_Monitor_note at H
  refine J_iload_n d_Monitor_note_0 rfl ?_
  refine J_if_eq (tgt := 22) d_Monitor_note_1 (by decide) ?_ ?_
  · intro c2
    rw [if_pos c2] at H
    refine J.drop [false, false, false] rfl ?_
    exact p_Monitor_note_L22 hw hG  H
  · intro c2
    rw [if_neg c2] at H
    refine J_aload_n d_Monitor_note_4 rfl ?_
    refine J_iload_n d_Monitor_note_5 rfl ?_
    have g1 : Γ this = .inr 4 := by
      apply Classical.byContradiction
      intro q9
      rw [if_neg q9] at H
      cases H
    rw [if_pos g1] at H
    refine F_putI (ci := 4) (k := 5) hG (cf_Monitor hw) (fl_Monitor_45 hw) (by decide) (by decide) rfl d_Monitor_note_6 rfl rfl rfl g1 ?_
    refine J_aload_n d_Monitor_note_9 rfl ?_
    refine J_iload_n d_Monitor_note_10 rfl ?_
    refine F_putI (ci := 4) (k := 6) hG (cf_Monitor hw) (fl_Monitor_35 hw) (by decide) (by decide) rfl d_Monitor_note_11 rfl rfl rfl g1 ?_
    refine J_aload_n d_Monitor_note_14 rfl ?_
    refine J_aload_n d_Monitor_note_15 rfl ?_
    refine F_getI (ci := 4) (k := 8) hG (cf_Monitor hw) (fl_Monitor_48 hw) (by decide) (by decide) rfl d_Monitor_note_16 g1 ?_
    refine F_putI (ci := 4) (k := 7) hG (cf_Monitor hw) (fl_Monitor_39 hw) (by decide) (by decide) rfl d_Monitor_note_19 rfl rfl rfl g1 ?_
    refine J.drop [false, false, false] rfl ?_
    exact p_Monitor_note_L22 hw hG  H
theorem ln_Port_moves : (parseMethodDescriptor y_Port_moves.desc).map (fun q => q.parameters.length) = some 1 := by decide +kernel
def f_Port_moves_L23 (Γ : gm_T)  (φ : ph_T) (y0 : Int32) : Option (Int32 × ph_T) :=
  @ite _ (y0 = 0 ∨ y0 = 1) _ (
  some (y0, φ)
  ) none
set_option maxRecDepth 100000 in
set_option maxHeartbeats 4000000 in
theorem p_Port_moves_L23 {w : jw_T} (hw : jok w) {Γ : gm_T} {n : Nat} (hG : gd w Γ n)  {x : Bool} {φ : ph_T} {y0 : Int32} {q : Int32 × ph_T} (H : f_Port_moves_L23 Γ  φ y0 = some q) : J w M_Port_moves 23 [none, none] [.int y0] (pic Γ φ) n x 0 0 (fq Γ n (.inl (some (.int q.1))) q.2) := by
  unfold f_Port_moves_L23 at H
  have z1 : y0 = 0 ∨ y0 = 1 := by
    apply Classical.byContradiction
    intro q9
    rw [if_neg q9] at H
    cases H
  rw [if_pos z1] at H
  have H := Option.some.inj H
  subst H
  exact J_iret (st := []) d_Port_moves_23 rfl (narrow_z z1).1 ⟨rfl, rfl, rfl⟩
def f_Port_moves_L22 (Γ : gm_T)  (φ : ph_T) : Option (Int32 × ph_T) :=
  f_Port_moves_L23 Γ  φ (0 : Int32)
set_option maxRecDepth 100000 in
set_option maxHeartbeats 4000000 in
theorem p_Port_moves_L22 {w : jw_T} (hw : jok w) {Γ : gm_T} {n : Nat} (hG : gd w Γ n)  {x : Bool} {φ : ph_T} {q : Int32 × ph_T} (H : f_Port_moves_L22 Γ  φ  = some q) : J w M_Port_moves 22 [none, none] [] (pic Γ φ) n x 0 0 (fq Γ n (.inl (some (.int q.1))) q.2) := by
  unfold f_Port_moves_L22 at H
  refine J_iconst (v := 0) d_Port_moves_22 (by decide) ?_
  refine J.drop [false, false] rfl ?_
  exact p_Port_moves_L23 hw hG  H
def f_Port_moves (Γ : gm_T) (φ : ph_T) (this : Nat) (p0 : Int32) : Option (Int32 × ph_T) :=
  @ite _ (Γ this = .inr 5) _ (
  Option.bind (φ.2.2 this 0) fun a3 =>
  Option.bind (gA Γ a3 2) fun N4 =>
  Option.bind (ix p0 N4) fun k5 =>
  if (φ.1 a3 k5) = 0 then
    f_Port_moves_L22 Γ  φ 
  else
    Option.bind (φ.2.2 this 1) fun a6 =>
    Option.bind (gA Γ a6 2) fun N7 =>
    Option.bind (ix p0 N7) fun k8 =>
    if (φ.1 a6 k8) = 0 then
      f_Port_moves_L22 Γ  φ 
    else
      f_Port_moves_L23 Γ  φ (1 : Int32)
  ) none
set_option maxRecDepth 100000 in
set_option maxHeartbeats 4000000 in
theorem p_Port_moves {w : jw_T} (hw : jok w) {Γ : gm_T} {n : Nat} (hG : gd w Γ n) {x : Bool} {φ : ph_T} {this : Nat} {p0 : Int32} {q : Int32 × ph_T} (H : f_Port_moves Γ φ this p0 = some q) : jc w M_Port_moves [.ref this, .int p0] (pic Γ φ) n x 0 0 (fq Γ n (.inl (some (.int q.1))) q.2) := by
  refine jc.of (by simp only [jent_r, jent_i, jent_l, jent_a, jent_0]; exact Nat.le_of_ble_eq_true rfl) ?_
  have hls : jents [.ref this, .int p0] (jm_nL M_Port_moves) = [some (.ref this), some (.int p0)] := by simp only [jents, jent_r, jent_i, jent_l, jent_a, jent_0]; rfl
  rw [hls]
  clear hls
  unfold f_Port_moves at H
  refine J_aload_n d_Port_moves_0 rfl ?_
  have g2 : Γ this = .inr 5 := by
    apply Classical.byContradiction
    intro q9
    rw [if_neg q9] at H
    cases H
  rw [if_pos g2] at H
  refine F_getR (ci := 5) (k := 0) hG (cf_Port hw) (fl_Port_9 hw) (by decide) (by decide) rfl d_Port_moves_1 g2 ?_
  refine J_iload_n d_Port_moves_4 rfl ?_
  obtain ⟨a3, ha3, H⟩ := Option.bind_eq_some_iff.mp H
  rw [j_rf ha3]
  obtain ⟨N4, hN4, H⟩ := Option.bind_eq_some_iff.mp H
  obtain ⟨k5, hk5, H⟩ := Option.bind_eq_some_iff.mp H
  refine F_zald k5 hw hG d_Port_moves_5 (gA_some hN4) (ix_some hk5) ?_
  refine J_if_eq (tgt := 22) d_Port_moves_6 (by decide) ?_ ?_
  · intro c10
    rw [if_pos c10] at H
    refine J.drop [false, false] rfl ?_
    exact p_Port_moves_L22 hw hG  H
  · intro c10
    rw [if_neg c10] at H
    refine J_aload_n d_Port_moves_9 rfl ?_
    refine F_getR (ci := 5) (k := 1) hG (cf_Port hw) (fl_Port_15 hw) (by decide) (by decide) rfl d_Port_moves_10 g2 ?_
    refine J_iload_n d_Port_moves_13 rfl ?_
    obtain ⟨a6, ha6, H⟩ := Option.bind_eq_some_iff.mp H
    rw [j_rf ha6]
    obtain ⟨N7, hN7, H⟩ := Option.bind_eq_some_iff.mp H
    obtain ⟨k8, hk8, H⟩ := Option.bind_eq_some_iff.mp H
    refine F_zald k8 hw hG d_Port_moves_14 (gA_some hN7) (ix_some hk8) ?_
    refine J_if_eq (tgt := 22) d_Port_moves_15 (by decide) ?_ ?_
    · intro c9
      rw [if_pos c9] at H
      refine J.drop [false, false] rfl ?_
      exact p_Port_moves_L22 hw hG  H
    · intro c9
      rw [if_neg c9] at H
      refine J_iconst (v := 1) d_Port_moves_18 (by decide) ?_
      refine J_goto (tgt := 23) d_Port_moves_19 (by decide) ?_
      refine J.drop [false, false] rfl ?_
      exact p_Port_moves_L23 hw hG  H
