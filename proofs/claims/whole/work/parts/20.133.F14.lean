/-! THE FACE: a request, the class's side -/
theorem tix_cnt (l : List TK) (m : Nat) (wr : Bool) : (tix l m wr).length = l.countP (isKey m wr) := by
  unfold tix
  induction l with
  | nil => rfl
  | cons x l ih =>
    rw [List.length_cons, List.range_succ_eq_map, List.filter_cons, List.countP_cons]
    simp only [List.getElem?_cons_zero, Option.any_some]
    rw [List.filter_map]
    have e : ((fun t => Option.any (isKey m wr) (x :: l)[t]?) ∘ Nat.succ) = fun t => Option.any (isKey m wr) l[t]? := by
      funext t
      rfl
    rw [e]
    split
    · rename_i hk
      rw [List.length_cons, List.length_map, ih]
    · rename_i hk
      rw [List.length_map, ih]; rfl
theorem uns_cnt (l : List TK) (m : Nat) (wr : Bool) : l.countP (isUns m wr) + nSent l m wr = (tix l m wr).length := by
  rw [tix_cnt]
  unfold nSent
  induction l with
  | nil => rfl
  | cons x l ih =>
    rw [List.countP_cons, List.countP_cons, List.countP_cons]
    have e : isUns m wr x = (isKey m wr x && decide (x.sent = m1)) := rfl
    rw [e]
    cases isKey m wr x with
    | false => simp only [Bool.false_and, Bool.false_eq_true, if_false]; omega
    | true =>
      cases decide (x.sent = m1) with
      | false => simp only [Bool.true_and, Bool.not_false, Bool.false_eq_true, if_false, if_true]; omega
      | true => simp only [Bool.true_and, Bool.not_true, Bool.false_eq_true, if_false, if_true]; omega
theorem nFed_le (l : List TK) (m : Nat) : nFed l m ≤ (tix l m true).length := by
  rw [tix_cnt]
  unfold nFed
  apply List.countP_mono_left
  intro e _ he
  simp only [Bool.and_eq_true] at he
  exact he.1
/-- a new ticket -/
def newT (m : Nat) (con : Int64) (wr sp : Bool) (seed : Int64) (time : Nat) : TK := ⟨m, con, wr, sp, seed, nI time, m1, m1, 0, 0, fun k => gdat con k (lcgN (k + 1) seed), fun k => grst con k sp (lcgN (k + 1) seed)⟩
theorem TkO.add {l : List TK} (h : TkO l) {e : TK} (h1 : e.sent = m1) (h2 : e.beats < leN e.con) : TkO (l ++ [e]) := by
  have hs : ∀ m wr, nSent (l ++ [e]) m wr = nSent l m wr := by
    intro m wr
    unfold nSent
    rw [List.countP_append, List.countP_cons, List.countP_nil, h1, decide_eq_true rfl]
    simp
  have hf : ∀ m, nFed (l ++ [e]) m = nFed l m := by
    intro m
    unfold nFed
    rw [List.countP_append, List.countP_cons, List.countP_nil, decide_eq_true h2]
    simp
  have key : ∀ m wr i t x, (tix (l ++ [e]) m wr)[i]? = some t → (l ++ [e])[t]? = some x → ((tix l m wr)[i]? = some t ∧ l[t]? = some x) ∨ (x = e ∧ (tix l m wr).length ≤ i) := by
    intro m wr i t x hi hx
    rw [tix_app] at hi
    by_cases hlt : i < (tix l m wr).length
    · rw [List.getElem?_append_left hlt] at hi
      obtain ⟨y, hy, _⟩ := tix_mem hi
      have htl := (List.getElem?_eq_some_iff.mp hy).1
      rw [List.getElem?_append_left htl] at hx
      exact Or.inl ⟨hi, hx⟩
    · rw [List.getElem?_append_right (by omega)] at hi
      split at hi
      · obtain ⟨g1, g2⟩ := List.getElem?_eq_some_iff.mp hi
        have : t = l.length := by
          rw [List.getElem_singleton] at g2
          exact g2.symm
        subst this
        rw [List.getElem?_append_right (Nat.le_refl _), Nat.sub_self] at hx
        have : e = x := by simpa using hx
        exact Or.inr ⟨this.symm, by omega⟩
      · cases hi
  refine ⟨?_, ?_⟩
  · intro m wr i t x hi hx
    rw [hs]
    rcases key m wr i t x hi hx with ⟨g1, g2⟩ | ⟨g1, g2⟩
    · exact h.s m wr i t x g1 g2
    · rw [g1, h1]
      have := nSent_le l m wr
      exact ⟨fun _ => by omega, fun _ => rfl⟩
  · intro m i t x hi hx
    rw [hf]
    rcases key m true i t x hi hx with ⟨g1, g2⟩ | ⟨g1, g2⟩
    · exact h.f m i t x g1 g2
    · rw [g1]
      have := nFed_le l m
      exact ⟨fun _ => by omega, fun _ => h2⟩
theorem c_hasRoomM {Γ : gm_T} {φ : ph_T} {a b m : Nat} {l : List TK} {pt : Nat → Nat} {ea : Bool} (h : CMa Γ φ a b l m pt ea) (hle : l.length ≤ 64) (wr : Bool) : f_Master_hasRoom Γ φ a (bI wr) = some (bI (decide ((tix l m wr).length < 64) && decide (l.countP (isUns m wr) < 8)), φ) := by
  have h1 := tix_len l m wr
  have h2 := uns_cnt l m wr
  have key : f_Master_hasRoom_L31 Γ φ (nI (tix l m wr).length) (nI (nSent l m wr)) = some (bI (decide ((tix l m wr).length < 64) && decide (l.countP (isUns m wr) < 8)), φ) := by
    unfold f_Master_hasRoom_L31 f_Master_hasRoom_L50 f_Master_hasRoom_L51
    by_cases g : (tix l m wr).length < 64
    · rw [if_neg (by rw [show (64 : Int32) = nI 64 from rfl, zI_le (by omega) (by omega)]; omega), zI_sub (by omega), decide_eq_true g]
      by_cases g2 : l.countP (isUns m wr) < 8
      · rw [if_neg (by rw [show (8 : Int32) = nI 8 from rfl, zI_le (by omega) (by omega)]; omega), if_pos (by decide), decide_eq_true g2]; rfl
      · rw [if_pos (by rw [show (8 : Int32) = nI 8 from rfl, zI_le (by omega) (by omega)]; omega), if_pos (by decide), decide_eq_false g2]; rfl
    · rw [if_pos (by rw [show (64 : Int32) = nI 64 from rfl, zI_le (by omega) (by omega)]; omega), if_pos (by decide), decide_eq_false g]; rfl
  unfold f_Master_hasRoom f_Master_hasRoom_L15
  cases wr with
  | false =>
    rw [if_pos (by decide), if_pos h.o, if_pos (by decide), if_pos h.o, h.cr, h.sr]
    exact key
  | true =>
    rw [if_neg (by decide), if_pos h.o, if_neg (by decide), if_pos h.o, h.cw, h.sw]
    exact key
theorem key_new (m m' : Nat) (wr wr' : Bool) (con : Int64) (sp : Bool) (seed : Int64) (time : Nat) : isKey m' wr' (newT m con wr sp seed time) = (decide (m = m') && (wr == wr')) := rfl
/-- a master takes a request -/
theorem c_enqueue {Γ : gm_T} {φ : ph_T} {a b m : Nat} {l : List TK} {pt : Nat → Nat} {ea : Bool} (h : CMa Γ φ a b l m pt ea) (hle : l.length < 64) {wr : Bool} (hu : l.countP (isUns m wr) < 8) (ho : Γ (b + 4 * l.length) = .inr 6) (hw : φ.1 (b + 4 * l.length) 1 = bI wr) (hab : a + 4 ≤ b) {con : Int64} {sp : Bool} {seed : Int64} {time : Nat} :
    ∃ φ', f_Master_enqueue Γ φ a (some (b + 4 * l.length)) = some ((), φ') ∧ CMa Γ φ' a b (l ++ [newT m con wr sp seed time]) m pt ea ∧ Fr a (a + 4) φ φ' := by
  have hl0 := tix_len l m wr
  have hl1 := tix_len l m true
  have hl2 := tix_len l m false
  have hr := c_hasRoomM h (by omega) wr
  rw [decide_eq_true (show (tix l m wr).length < 64 by omega), decide_eq_true hu, Bool.and_self] at hr
  have hopn : nOpn l m ≤ 64 := Nat.le_trans List.countP_le_length (by omega)
  have kt : ∀ wr', tix (l ++ [newT m con wr sp seed time]) m wr' = tix l m wr' ++ (if wr = wr' then [l.length] else []) := by
    intro wr'
    rw [tix_app, key_new, decide_eq_true rfl, Bool.true_and]
    cases wr <;> cases wr' <;> rfl
  have ks : ∀ wr', nSent (l ++ [newT m con wr sp seed time]) m wr' = nSent l m wr' := by
    intro wr'
    unfold nSent
    rw [List.countP_append, List.countP_cons, List.countP_nil]
    have : (isKey m wr' (newT m con wr sp seed time) && !decide ((newT m con wr sp seed time).sent = m1)) = false := by
      rw [show (newT m con wr sp seed time).sent = m1 from rfl, decide_eq_true rfl]
      simp
    rw [this]
    rfl
  have kf : nFed (l ++ [newT m con wr sp seed time]) m = nFed l m := by
    unfold nFed
    rw [List.countP_append, List.countP_cons, List.countP_nil]
    have : (isKey m true (newT m con wr sp seed time) && !decide ((newT m con wr sp seed time).beats < leN (newT m con wr sp seed time).con)) = false := by
      rw [show (newT m con wr sp seed time).beats = 0 from rfl, decide_eq_true (leN_pos _)]
      simp
    rw [this]
    rfl
  have ko : nOpn (l ++ [newT m con wr sp seed time]) m = nOpn l m + 1 := by
    unfold nOpn
    rw [List.countP_append, List.countP_cons, List.countP_nil]
    have : (decide ((newT m con wr sp seed time).m = m) && decide ((newT m con wr sp seed time).done = m1)) = true := by
      rw [show (newT m con wr sp seed time).m = m from rfl, show (newT m con wr sp seed time).done = m1 from rfl, decide_eq_true rfl, decide_eq_true rfl]
      rfl
    rw [this]
    rfl
  cases wr with
  | false =>
    have f : Fr a (a + 4) φ (uI (uI (uR φ (a + 3) (tix l m false).length (some (b + 4 * l.length))) a 5 (nI ((tix l m false).length + 1))) a 9 (nI (nOpn l m + 1))) := fr_uI (fr_uI (fr_uR (Fr.refl _ _ _) (by omega) _ _) (by omega) _ _) (by omega) _ _
    refine ⟨_, ?_, ?_, f⟩
    · unfold f_Master_enqueue f_Master_enqueue_L62
      rw [Option.bind_some, if_pos ho, if_pos h.o, hw, hr, Option.bind_some, if_neg (bt_ne _), if_pos (by show φ.1 (b + 4 * l.length) 1 = 0; rw [hw]; rfl), h.f3, Option.bind_some, h.g3, Option.bind_some, h.cr, zix (by omega), Option.bind_some, if_pos h.o, zI_1, zI_add]
      have e9 : (uI (uR φ (a + 3) (tix l m false).length (some (b + 4 * l.length))) a 5 (nI ((tix l m false).length + 1))).1 a 9 = nI (nOpn l m) := by
        rw [uI_s, vz_ne _ (by decide)]
        exact h.op
      rw [e9, zI_add]
    · refine ⟨h.o, ?_, ?_, ?_, h.g0, h.g2, h.g3, ?_, ?_, ?_, ?_, ?_, ?_, ?_, ?_, ?_, ?_⟩
      · show (uR φ (a + 3) _ _).2.2 a 0 = _
        rw [show (uR φ (a + 3) (tix l m false).length (some (b + 4 * l.length))).2.2 a = φ.2.2 a from if_neg (by omega)]; exact h.f0
      · show (uR φ (a + 3) _ _).2.2 a 2 = _
        rw [show (uR φ (a + 3) (tix l m false).length (some (b + 4 * l.length))).2.2 a = φ.2.2 a from if_neg (by omega)]; exact h.f2
      · show (uR φ (a + 3) _ _).2.2 a 3 = _
        rw [show (uR φ (a + 3) (tix l m false).length (some (b + 4 * l.length))).2.2 a = φ.2.2 a from if_neg (by omega)]; exact h.f3
      · rw [uI_1, if_neg (by omega), uI_1, if_neg (by omega)]; exact h.pt
      · rw [uI_s, uI_s, vz_ne _ (by decide), vz_ne _ (by decide)]; exact h.ea
      · rw [kt true, if_neg (by decide), List.append_nil]
        show ∀ i t, _ → (uR φ (a + 3) _ _).2.2 (a + 2) i = _
        rw [show (uR φ (a + 3) (tix l m false).length (some (b + 4 * l.length))).2.2 (a + 2) = φ.2.2 (a + 2) from if_neg (by omega)]; exact h.wl
      · rw [kt false, if_pos rfl]
        intro i t hi
        show (uR φ (a + 3) _ _).2.2 (a + 3) i = _
        rw [show (uR φ (a + 3) (tix l m false).length (some (b + 4 * l.length))).2.2 (a + 3) = va_up (φ.2.2 (a + 3)) (tix l m false).length (some (b + 4 * l.length)) from if_pos rfl, vz_at]
        by_cases e : i = (tix l m false).length
        · rw [if_pos e]
          rw [e, List.getElem?_append_right (Nat.le_refl _), Nat.sub_self] at hi
          have : l.length = t := by simpa using hi
          rw [this]
        · rw [if_neg e]
          by_cases e2 : i < (tix l m false).length
          · rw [List.getElem?_append_left e2] at hi; exact h.rl i t hi
          · rw [List.getElem?_append_right (by omega)] at hi
            have := (List.getElem?_eq_some_iff.mp hi).1
            rw [List.length_singleton] at this
            omega
      · rw [kt true, if_neg (by decide), List.append_nil, uI_s, uI_s, vz_ne _ (by decide), vz_ne _ (by decide)]; exact h.cw
      · rw [kt false, if_pos rfl, uI_s, uI_s, vz_ne _ (by decide), vz_same, List.length_append]; rfl
      · rw [ks, uI_s, uI_s, vz_ne _ (by decide), vz_ne _ (by decide)]; exact h.sw
      · rw [ks, uI_s, uI_s, vz_ne _ (by decide), vz_ne _ (by decide)]; exact h.sr
      · rw [kf, uI_s, uI_s, vz_ne _ (by decide), vz_ne _ (by decide)]; exact h.fd
      · rw [ko, uI_s, vz_same]
  | true =>
    have f : Fr a (a + 4) φ (uI (uI (uR φ (a + 2) (tix l m true).length (some (b + 4 * l.length))) a 4 (nI ((tix l m true).length + 1))) a 9 (nI (nOpn l m + 1))) := fr_uI (fr_uI (fr_uR (Fr.refl _ _ _) (by omega) _ _) (by omega) _ _) (by omega) _ _
    refine ⟨_, ?_, ?_, f⟩
    · unfold f_Master_enqueue f_Master_enqueue_L62
      rw [Option.bind_some, if_pos ho, if_pos h.o, hw, hr, Option.bind_some, if_neg (bt_ne _), if_neg (by show ¬ φ.1 (b + 4 * l.length) 1 = 0; rw [hw]; decide), h.f2, Option.bind_some, h.g2, Option.bind_some, h.cw, zix (by omega), Option.bind_some, if_pos h.o, zI_1, zI_add]
      have e9 : (uI (uR φ (a + 2) (tix l m true).length (some (b + 4 * l.length))) a 4 (nI ((tix l m true).length + 1))).1 a 9 = nI (nOpn l m) := by
        rw [uI_s, vz_ne _ (by decide)]
        exact h.op
      rw [e9, zI_add]
    · refine ⟨h.o, ?_, ?_, ?_, h.g0, h.g2, h.g3, ?_, ?_, ?_, ?_, ?_, ?_, ?_, ?_, ?_, ?_⟩
      · show (uR φ (a + 2) _ _).2.2 a 0 = _
        rw [show (uR φ (a + 2) (tix l m true).length (some (b + 4 * l.length))).2.2 a = φ.2.2 a from if_neg (by omega)]; exact h.f0
      · show (uR φ (a + 2) _ _).2.2 a 2 = _
        rw [show (uR φ (a + 2) (tix l m true).length (some (b + 4 * l.length))).2.2 a = φ.2.2 a from if_neg (by omega)]; exact h.f2
      · show (uR φ (a + 2) _ _).2.2 a 3 = _
        rw [show (uR φ (a + 2) (tix l m true).length (some (b + 4 * l.length))).2.2 a = φ.2.2 a from if_neg (by omega)]; exact h.f3
      · rw [uI_1, if_neg (by omega), uI_1, if_neg (by omega)]; exact h.pt
      · rw [uI_s, uI_s, vz_ne _ (by decide), vz_ne _ (by decide)]; exact h.ea
      · rw [kt true, if_pos rfl]
        intro i t hi
        show (uR φ (a + 2) _ _).2.2 (a + 2) i = _
        rw [show (uR φ (a + 2) (tix l m true).length (some (b + 4 * l.length))).2.2 (a + 2) = va_up (φ.2.2 (a + 2)) (tix l m true).length (some (b + 4 * l.length)) from if_pos rfl, vz_at]
        by_cases e : i = (tix l m true).length
        · rw [if_pos e]
          rw [e, List.getElem?_append_right (Nat.le_refl _), Nat.sub_self] at hi
          have : l.length = t := by simpa using hi
          rw [this]
        · rw [if_neg e]
          by_cases e2 : i < (tix l m true).length
          · rw [List.getElem?_append_left e2] at hi; exact h.wl i t hi
          · rw [List.getElem?_append_right (by omega)] at hi
            have := (List.getElem?_eq_some_iff.mp hi).1
            rw [List.length_singleton] at this
            omega
      · rw [kt false, if_neg (by decide), List.append_nil]
        show ∀ i t, _ → (uR φ (a + 2) _ _).2.2 (a + 3) i = _
        rw [show (uR φ (a + 2) (tix l m true).length (some (b + 4 * l.length))).2.2 (a + 3) = φ.2.2 (a + 3) from if_neg (by omega)]; exact h.rl
      · rw [kt true, if_pos rfl, uI_s, uI_s, vz_ne _ (by decide), vz_same, List.length_append]; rfl
      · rw [kt false, if_neg (by decide), List.append_nil, uI_s, uI_s, vz_ne _ (by decide), vz_ne _ (by decide)]; exact h.cr
      · rw [ks, uI_s, uI_s, vz_ne _ (by decide), vz_ne _ (by decide)]; exact h.sw
      · rw [ks, uI_s, uI_s, vz_ne _ (by decide), vz_ne _ (by decide)]; exact h.sr
      · rw [kf, uI_s, uI_s, vz_ne _ (by decide), vz_ne _ (by decide)]; exact h.fd
      · rw [ko, uI_s, vz_same]
/-- a burst's beats are made -/
theorem c_fill_L {Γ : gm_T} {x : Nat} {con seed : Int64} {sp : Bool} : ∀ (d k fu : Nat) (φ : ph_T), k + d = leN con → d < fu → CBl Γ φ x → φ.2.1 x 0 = con → (∀ j, j < k → φ.2.1 (x + 1) j = gdat con j (lcgN (j + 1) seed) ∧ φ.1 (x + 2) j = grst con j sp (lcgN (j + 1) seed)) →
    ∃ φ', f_Burst_fillWrite_L15 Γ fu φ x (bI sp) (lcgN k seed) (nI (leN con)) (nI k) = some ((), φ') ∧ (∀ j, j < leN con → φ'.2.1 (x + 1) j = gdat con j (lcgN (j + 1) seed) ∧ φ'.1 (x + 2) j = grst con j sp (lcgN (j + 1) seed)) ∧ Fr (x + 1) (x + 3) φ φ' ∧ φ'.2.2 = φ.2.2 := by
  have hle := leN_le con
  intro d
  induction d with
  | zero =>
    intro k fu φ hd hfu hb hc hp
    match fu, hfu with
    | fu + 1, _ =>
      refine ⟨φ, ?_, fun j hj => hp j (by omega), Fr.refl _ _ _, rfl⟩
      rw [f_Burst_fillWrite_L15, if_pos (by rw [zI_le (by omega) (by omega)]; omega)]
  | succ d ih =>
    intro k fu φ hd hfu hb hc hp
    match fu, hfu with
    | fu + 1, hfu =>
      have hlan : laN (baN con k) (szN con) < 2 ^ 31 := by
        have := laN_lt (baN con k) (szN_cases con)
        omega
      obtain ⟨dd, hdd⟩ : ∃ dd, dd = gdat con k (lcgN (k + 1) seed) := ⟨_, rfl⟩
      obtain ⟨rr, hrr⟩ : ∃ rr, rr = grst con k sp (lcgN (k + 1) seed) := ⟨_, rfl⟩
      have f1 : Fr (x + 1) (x + 3) φ (uI (uL φ (x + 1) k dd) (x + 2) k rr) := fr_uI (fr_uL (Fr.refl _ _ _) (by omega) _ _) (by omega) _ _
      obtain ⟨φ', b1, b2, b3, b4⟩ := ih (k + 1) fu (uI (uL φ (x + 1) k dd) (x + 2) k rr) (by omega) (by omega) (hb.up rfl) (by rw [f1.l (by omega)]; exact hc) (fun j hj => by
        have e1 : (uI (uL φ (x + 1) k dd) (x + 2) k rr).2.1 (x + 1) = va_up (φ.2.1 (x + 1)) k dd := by rw [uI_2, uL_s]
        have e2 : (uI (uL φ (x + 1) k dd) (x + 2) k rr).1 (x + 2) = va_up (φ.1 (x + 2)) k rr := by rw [uI_s]; rfl
        rw [e1, e2, vz_at, vz_at]
        by_cases e : j = k
        · rw [if_pos e, if_pos e, hdd, hrr, e]; exact ⟨rfl, rfl⟩
        · rw [if_neg e, if_neg e]; exact hp j (by omega))
      refine ⟨φ', ?_, b2, f1.trans b3, b4.trans rfl⟩
      rw [f_Burst_fillWrite_L15, if_neg (by rw [zI_le (by omega) (by omega)]; omega), if_pos hb.o, hc, e_Burst_beatLanes Γ φ con (by omega), Option.bind_some, lcg_c, e_top, ← lcgN_c]
      have hL63 : ∀ st : Nat, grst con k sp (lcgN (k + 1) seed) = nI (st + if k = leN con - 1 then 256 else 0) → f_Burst_fillWrite_L63 Γ (f_Burst_fillWrite_L15 Γ fu) φ x (bI sp) (lcgN (k + 1) seed) (nI (leN con)) (nI k) (nI (laN (baN con k) (szN con))) (nI st) = some ((), φ') := by
        intro st hst
        unfold f_Burst_fillWrite_L63 f_Burst_fillWrite_L104
        have hpos := leN_pos con
        rw [if_pos hb.o, e_laneBits Γ φ hlan, Option.bind_some, hb.f6, Option.bind_some, hb.g6, Option.bind_some, zix (by omega), Option.bind_some, zI_1, zI_sub (by omega), hb.f7]
        simp only [Option.bind_some, hb.g7, zix (show k < 16 by omega)]
        have hgd : lcgN (k + 1) seed &&& mskL (laN (baN con k) (szN con)) = dd := hdd.symm
        rw [hgd, zI_add]
        by_cases e : k = leN con - 1
        · rw [if_pos (by rw [zI_eq (by omega) (by omega)]; exact e), show (256 : Int32) = nI 256 from rfl, zI_add]
          rw [if_pos e, ← hrr] at hst
          rw [← hst]
          exact b1
        · rw [if_neg (by rw [zI_eq (by omega) (by omega)]; exact e), zI_0, zI_add]
          rw [if_neg e, ← hrr] at hst
          rw [← hst]
          exact b1
      cases sp with
      | false =>
        rw [if_pos (by decide)]
        refine hL63 _ ?_
        unfold grst
        rw [if_neg (by decide)]
      | true =>
        rw [if_neg (by decide)]
        show f_Burst_fillWrite_L63 Γ (f_Burst_fillWrite_L15 Γ fu) φ x (bI true) (lcgN (k + 1) seed) (nI (leN con)) (nI k) (nI (laN (baN con k) (szN con))) (nI (laN (baN con k) (szN con)) &&& nI (uN (lcgN (k + 1) seed) / 2 ^ 56)) = _
        rw [zI_and]
        refine hL63 _ ?_
        unfold grst
        rw [if_pos rfl]
theorem c_fill {Γ : gm_T} {φ : ph_T} {x : Nat} {con seed : Int64} {sp : Bool} (hb : CBl Γ φ x) (hc : φ.2.1 x 0 = con) :
    ∃ φ', f_Burst_fillWrite Γ φ x seed (bI sp) = some ((), φ') ∧ (∀ j, j < leN con → φ'.2.1 (x + 1) j = gdat con j (lcgN (j + 1) seed) ∧ φ'.1 (x + 2) j = grst con j sp (lcgN (j + 1) seed)) ∧ Fr (x + 1) (x + 3) φ φ' ∧ φ'.2.2 = φ.2.2 := by
  have hle := leN_le con
  obtain ⟨φ', a1, a2, a3, a4⟩ := c_fill_L (seed := seed) (sp := sp) (leN con) 0 jF φ (by omega) (by unfold jF; omega) hb hc (fun j hj => by omega)
  refine ⟨φ', ?_, a2, a3, a4⟩
  unfold f_Burst_fillWrite
  rw [if_pos hb.o, hc, e_Burst_lengthOf, Option.bind_some]
  exact a1
