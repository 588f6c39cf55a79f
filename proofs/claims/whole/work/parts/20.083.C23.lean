/-! THE CLASS: the crossbar's wires at a slave; what passes -/
theorem c_tellS_L {Γ : gm_T} {w t ap : Nat} {S : XS} {hd : Nat → Bool} {tr : Nat → Int32} (ht : t < S.ns) (hwp : ap + 7 ≤ w ∨ w + swZ S.nm S.ns ≤ ap) : ∀ (d c fu : Nat) (φ : ph_T) (x : WI), c + d = 5 → d < fu → CSw Γ φ w S → CPt Γ φ ap x hd tr →
    ∃ φ', f_Switch_tellSlave_L2 Γ fu φ w (some ap) (nI t) (nI c) = some ((), φ') ∧ CPt Γ φ' ap ⟨fun k => if c ≤ k ∧ ¬ (k = 2 ∨ k = 4) then (match S.row (5 * (4 + t) + k) with
      | [] => x.w k
      | e :: _ => ⟨true, e.c, e.r⟩) else x.w k, fun k => if c ≤ k ∧ (k = 2 ∨ k = 4) then S.hasRm (5 * (4 + t) + k) else x.rd k⟩ hd tr ∧ Fr ap (ap + 7) φ φ' := by
  intro d
  induction d with
  | zero =>
    intro c fu φ x hd' hfu h hp
    match fu, hfu with
    | fu + 1, _ =>
      unfold f_Switch_tellSlave_L2
      rw [if_pos (by rw [show (5 : Int32) = nI 5 from rfl, zI_le (by omega) (by omega)]; omega)]
      refine ⟨φ, rfl, hp.congr (fun k hk => ?_), Fr.refl _ _ _⟩
      simp only [WI.w_mk, WI.rd_mk, WI.w_w_w, WI.w_w_rd, WI.rd_w_w, WI.rd_w_rd]
      rw [if_neg (by omega), if_neg (by omega)]
      exact ⟨rfl, rfl, trivial⟩
  | succ d ih =>
    intro c fu φ x hd' hfu h hp
    match fu, hfu with
    | fu + 1, hfu =>
      have h4 := h.lay.ns4
      have hrow := h.row (5 * (4 + t) + c) (Or.inr (by omega))
      rw [show (5 * (4 + t) + c) % 5 = c by omega] at hrow
      have hpre : ∀ (φ1 : ph_T), f_Switch_tellRow Γ φ (some ap) (nI c) (some (rA w S.nm (5 * (4 + t) + c))) (bI (decide (c = 2) || decide (c = 4))) = some ((), φ1) → f_Switch_tellSlave_L2 Γ (fu + 1) φ w (some ap) (nI t) (nI c) = f_Switch_tellSlave_L2 Γ fu φ1 w (some ap) (nI t) (nI (c + 1)) := by
        intro φ1 h1
        rw [f_Switch_tellSlave_L2]
        rw [if_neg (by rw [show (5 : Int32) = nI 5 from rfl, zI_le (by omega) (by omega)]; omega), if_pos h.lay.o, c_ofTarget h (by omega) (by omega), Option.bind_some]
        simp only [e_toSlave Γ φ (show c < 5 by omega), Option.bind_some, bI_eqz]
        unfold f_Switch_tellSlave_L27
        by_cases hc : c = 2 ∨ c = 4
        · have hb : (decide (c ≠ 2) && decide (c ≠ 4)) = false := by rcases hc with rfl | rfl <;> rfl
          have hb2 : (decide (c = 2) || decide (c = 4)) = true := by rcases hc with rfl | rfl <;> rfl
          rw [hb2] at h1
          have h1' : f_Switch_tellRow Γ φ (some ap) (nI c) (some (rA w S.nm (5 * (4 + t) + c))) (1 : Int32) = some ((), φ1) := h1
          rw [hb, if_pos rfl, h1', Option.bind_some, zI_1, zI_add]
        · have n1 : c ≠ 2 := fun hh => hc (Or.inl hh)
          have n2 : c ≠ 4 := fun hh => hc (Or.inr hh)
          have hb : (decide (c ≠ 2) && decide (c ≠ 4)) = true := by simp [n1, n2]
          have hb2 : (decide (c = 2) || decide (c = 4)) = false := by simp [n1, n2]
          rw [hb2] at h1
          have h1' : f_Switch_tellRow Γ φ (some ap) (nI c) (some (rA w S.nm (5 * (4 + t) + c))) (0 : Int32) = some ((), φ1) := h1
          rw [hb, if_neg (by decide), h1', Option.bind_some, zI_1, zI_add]
      by_cases hc : c = 2 ∨ c = 4
      · obtain ⟨φ1, s1, s2, s3⟩ := c_tellRowT hrow hp (c := c) (by omega)
        have hb : (decide (c = 2) || decide (c = 4)) = true := by rcases hc with rfl | rfl <;> rfl
        rw [hb] at hpre
        obtain ⟨φ2, t1, t2, t3⟩ := ih (c + 1) fu φ1 _ (by omega) (by omega) (h.sm (s3.sm (by omega))) s2
        refine ⟨φ2, (hpre φ1 s1).trans t1, t2.congr (fun k hk => ?_), s3.trans t3⟩
        simp only [WI.w_mk, WI.rd_mk, WI.w_w_w, WI.w_w_rd, WI.rd_w_w, WI.rd_w_rd, WI.rdy, vz_at]
        by_cases hk2 : k = c
        · subst hk2
          simp only [Nat.le_refl, hc, true_and, if_true, not_true, and_false, if_false, show ¬ (k + 1 ≤ k) by omega, false_and]
          unfold XS.hasRm
          rw [show (5 * (4 + t) + k) % 5 = k by omega]
          simp
        · rw [if_neg hk2]
          by_cases hck : c ≤ k
          · have : c + 1 ≤ k := by omega
            simp only [hck, this, true_and]
          · have : ¬ c + 1 ≤ k := by omega
            simp only [hck, this, false_and, if_false]
            exact ⟨trivial, trivial, trivial⟩
      · obtain ⟨φ1, s1, s2, s3⟩ := c_tellRowF hrow hp (c := c) (by omega)
        have hb : (decide (c = 2) || decide (c = 4)) = false := by
          have h1 : c ≠ 2 := fun hh => hc (Or.inl hh)
          have h2 : c ≠ 4 := fun hh => hc (Or.inr hh)
          simp [h1, h2]
        rw [hb] at hpre
        obtain ⟨φ2, t1, t2, t3⟩ := ih (c + 1) fu φ1 _ (by omega) (by omega) (h.sm (s3.sm (by omega))) s2
        refine ⟨φ2, (hpre φ1 s1).trans t1, t2.congr (fun k hk => ?_), s3.trans t3⟩
        simp only [WI.w_mk, WI.rd_mk, WI.w_w_w, WI.w_w_rd, WI.rd_w_w, WI.rd_w_rd]
        by_cases hk2 : k = c
        · subst hk2
          simp only [Nat.le_refl, hc, true_and, if_true, not_false_iff, and_false, if_false, show ¬ (k + 1 ≤ k) by omega, false_and]
          unfold sndR
          cases hS : S.row (5 * (4 + t) + k) with
          | nil => exact ⟨rfl, rfl, trivial⟩
          | cons e l => simp only [WI.snd', WI.w_mk, WI.rd_mk, WI.w_w_w, WI.w_w_rd, WI.rd_w_w, WI.rd_w_rd, vz_same]; exact ⟨trivial, trivial, trivial⟩
        · have hx : (sndR x c (S.row (5 * (4 + t) + c))).w k = x.w k ∧ (sndR x c (S.row (5 * (4 + t) + c))).rd k = x.rd k := by
            unfold sndR
            cases S.row (5 * (4 + t) + c) with
            | nil => exact ⟨rfl, rfl⟩
            | cons e l => simp only [WI.snd', WI.w_mk, WI.rd_mk, WI.w_w_w, WI.w_w_rd, WI.rd_w_w, WI.rd_w_rd, vz_ne _ hk2]; exact ⟨trivial, trivial⟩
          rw [hx.1, hx.2]
          by_cases hck : c ≤ k
          · have : c + 1 ≤ k := by omega
            simp only [hck, this, true_and]
          · have : ¬ c + 1 ≤ k := by omega
            simp only [hck, this, false_and, if_false]
            exact ⟨trivial, trivial, trivial⟩
/-- what passes at a row -/
theorem c_passRow {Γ : gm_T} {φ : ph_T} {ap a room c : Nat} {tm : Bool} {l : List RE} {x : WI} {hd : Nat → Bool} {tr : Nat → Int32} (hr : CRow Γ φ a room tm l) (hp : CPt Γ φ ap x hd tr) (hc : c < 5) (b : Bool) (time : Nat) (h1 : b = true → l.length < room) (h0 : b = false → l ≠ []) :
    ∃ φ', f_Switch_passRow Γ φ (some ap) (nI c) (some a) (bI b) (nI time) = some ((), φ') ∧ CRow Γ φ' a room tm (if b = true then l ++ [⟨(x.w c).c, (x.w c).r, time⟩] else l.tail) ∧ Fr a (a + 4) φ φ' := by
  obtain ⟨w1, w2, w3, w4⟩ := hp.w c hc
  unfold f_Switch_passRow f_Switch_passRow_L29
  cases b with
  | true =>
    obtain ⟨φ1, s1, s2, s3⟩ := c_put hr (h1 rfl) ⟨(x.w c).c, (x.w c).r, time⟩ (nI time) (fun _ => rfl)
    refine ⟨φ1, ?_, s2, s3⟩
    rw [if_neg (by decide)]
    have s1' : f_Row_put Γ φ a (x.w c).c (x.w c).r (nI time) = some ((), φ1) := s1
    simp (disch := first | assumption | omega) only [Option.bind_some, hp.o, if_true, hp.f3, hp.f4, hp.g3, hp.g4, zix, w3, w4, hr.o, s1']
  | false =>
    obtain ⟨φ1, s1, s2, s3⟩ := c_drop hr (h0 rfl)
    refine ⟨φ1, ?_, s2, s3⟩
    rw [if_pos (by decide)]
    simp only [Option.bind_some, hr.o, if_true, s1]
theorem c_passMaster {Γ : gm_T} {φ : ph_T} {w m c ap : Nat} {S : XS} {x : WI} {hd : Nat → Bool} {tr : Nat → Int32} (h : CSw Γ φ w S) (hp : CPt Γ φ ap x hd tr) (hm : m < S.nm) (hc : c < 5) (h1 : ¬ (c = 2 ∨ c = 4) → S.hasRm (5 * m + c) = true) (h0 : c = 2 ∨ c = 4 → S.row (5 * m + c) ≠ []) :
    ∃ φ', f_Switch_passMaster Γ φ w (some ap) (nI m) (nI c) (nI S.time) = some ((), φ') ∧ CSw Γ φ' w (if c = 2 ∨ c = 4 then S.drop (5 * m + c) else S.put (5 * m + c) ⟨(x.w c).c, (x.w c).r, S.time⟩) ∧ Fr w (w + swZ S.nm S.ns) φ φ' := by
  have h4 := h.lay.nm4
  have hok : okR S.nm S.ns (5 * m + c) := Or.inl (by omega)
  have hrow := h.row (5 * m + c) hok
  have hin := rA_in (w := w) h4.2 hok
  have eA : swA w S.nm S.ns = w + 24 + 20 * S.nm + 20 * S.ns := rfl
  have hb : (decide (c ≠ 2) && decide (c ≠ 4)) = decide (¬ (c = 2 ∨ c = 4)) := by
    by_cases e1 : c = 2 <;> by_cases e2 : c = 4 <;> simp [e1, e2]
  obtain ⟨φ1, s1, s2, s3⟩ := c_passRow hrow hp hc (decide (¬ (c = 2 ∨ c = 4))) S.time (fun hh => by
    have := h1 (by simpa using hh)
    unfold XS.hasRm at this
    simpa using this) (fun hh => h0 (by
    have := of_decide_eq_false hh
    exact Classical.byContradiction (fun hc => this hc)))
  refine ⟨φ1, ?_, ?_, s3.mono (by omega) (by unfold swZ; omega)⟩
  · unfold f_Switch_passMaster
    rw [if_pos h.lay.o, c_ofMaster h hm hc, Option.bind_some]
    simp only [e_toSlave Γ φ hc, Option.bind_some, hb, s1]
  · have := h.rowU hok s3 s2
    by_cases hcc : c = 2 ∨ c = 4
    · rw [if_pos hcc]
      simp only [hcc, not_true, decide_false, Bool.false_eq_true, if_false] at this
      exact this
    · rw [if_neg hcc]
      simp only [hcc, not_false_iff, decide_true, if_true] at this
      exact this
theorem c_passSlave {Γ : gm_T} {φ : ph_T} {w s c ap : Nat} {S : XS} {x : WI} {hd : Nat → Bool} {tr : Nat → Int32} (h : CSw Γ φ w S) (hp : CPt Γ φ ap x hd tr) (hs : s < S.ns) (hc : c < 5) (h1 : c = 2 ∨ c = 4 → S.hasRm (5 * (4 + s) + c) = true) (h0 : ¬ (c = 2 ∨ c = 4) → S.row (5 * (4 + s) + c) ≠ []) :
    ∃ φ', f_Switch_passSlave Γ φ w (some ap) (nI s) (nI c) (nI S.time) = some ((), φ') ∧ CSw Γ φ' w (if c = 2 ∨ c = 4 then S.put (5 * (4 + s) + c) ⟨(x.w c).c, (x.w c).r, S.time⟩ else S.drop (5 * (4 + s) + c)) ∧ Fr w (w + swZ S.nm S.ns) φ φ' := by
  have h4 := h.lay.nm4
  have h5 := h.lay.ns4
  have hok : okR S.nm S.ns (5 * (4 + s) + c) := Or.inr (by omega)
  have hrow := h.row (5 * (4 + s) + c) hok
  have hin := rA_in (w := w) h4.2 hok
  have eA : swA w S.nm S.ns = w + 24 + 20 * S.nm + 20 * S.ns := rfl
  have hb : (decide (c ≠ 2) && decide (c ≠ 4)) = decide (¬ (c = 2 ∨ c = 4)) := by
    by_cases e1 : c = 2 <;> by_cases e2 : c = 4 <;> simp [e1, e2]
  obtain ⟨φ1, s1, s2, s3⟩ := c_passRow hrow hp hc (decide (c = 2 ∨ c = 4)) S.time (fun hh => by
    have := h1 (by simpa using hh)
    unfold XS.hasRm at this
    simpa using this) (fun hh => h0 (by simpa using hh))
  refine ⟨φ1, ?_, ?_, s3.mono (by omega) (by unfold swZ; omega)⟩
  · unfold f_Switch_passSlave f_Switch_passSlave_L20
    rw [if_pos h.lay.o, c_ofTarget h (by omega) hc, Option.bind_some]
    simp only [e_toSlave Γ φ hc, Option.bind_some, hb, bI_eqz]
    by_cases hcc : c = 2 ∨ c = 4
    · simp only [hcc, not_true, decide_false, decide_true, if_true] at s1 ⊢
      have s1' : f_Switch_passRow Γ φ (some ap) (nI c) (some (rA w S.nm (5 * (4 + s) + c))) (1 : Int32) (nI S.time) = some ((), φ1) := s1
      rw [s1', Option.bind_some]
    · simp only [hcc, not_false_iff, decide_true, decide_false, Bool.true_eq_false, if_false] at s1 ⊢
      have s1' : f_Switch_passRow Γ φ (some ap) (nI c) (some (rA w S.nm (5 * (4 + s) + c))) (0 : Int32) (nI S.time) = some ((), φ1) := s1
      rw [s1', Option.bind_some]
  · have := h.rowU hok s3 s2
    by_cases hcc : c = 2 ∨ c = 4
    · rw [if_pos hcc]
      simp only [hcc, decide_true, if_true] at this
      exact this
    · rw [if_neg hcc]
      simp only [hcc, decide_false, Bool.false_eq_true, if_false] at this
      exact this
