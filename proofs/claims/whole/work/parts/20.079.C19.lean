/-! THE CLASS: masters pass -/
def qAns (l : List TK) (id : Nat) (t : Nat) : Bool := (l[t]?).any fun e => decide (e.done = m1) && decide (idN e.con = id)
theorem find_cg {α : Type} {f g : α → Bool} : ∀ {l : List α}, (∀ z ∈ l, f z = g z) → l.find? f = l.find? g := by
  intro l
  induction l with
  | nil => intro _; rfl
  | cons x l ih =>
    intro h
    rw [List.find?_cons, List.find?_cons, h x (List.mem_cons_self ..), ih (fun z hz => h z (List.mem_cons_of_mem _ hz))]
theorem ans_tix {l : List TK} (h : TkO l) (m : Nat) (wr : Bool) (id : Nat) : l.findIdx? (isAns m wr id) = ((tix l m wr).take (nSent l m wr)).find? (qAns l id) := by
  rw [find_tix (m := m) (wr := wr) (fun e he => by
    unfold isAns at he
    simp only [Bool.and_eq_true] at he
    unfold isKey
    simp only [Bool.and_eq_true]
    exact he.1.1.1)]
  have hs : ∀ (i t : Nat), (tix l m wr)[i]? = some t → (l[t]?).any (isAns m wr id) = (decide (i < nSent l m wr) && qAns l id t) := by
    intro i t ht
    obtain ⟨e, he, hk⟩ := tix_mem ht
    have := h.s m wr i t e ht he
    unfold qAns
    rw [he]
    simp only [Option.any_some]
    unfold isKey at hk
    simp only [Bool.and_eq_true, decide_eq_true_eq] at hk
    unfold isAns
    by_cases hi : i < nSent l m wr
    · have hn : ¬ e.sent = m1 := fun hh => by have := this.mp hh; omega
      simp [hk.1, show e.wr = wr by simpa using hk.2, hn, hi, Bool.and_comm]
    · have hn : e.sent = m1 := this.mpr (by omega)
      simp [hn, hi]
  have e1 : tix l m wr = (tix l m wr).take (nSent l m wr) ++ (tix l m wr).drop (nSent l m wr) := (List.take_append_drop ..).symm
  conv => lhs; rw [e1]
  rw [List.find?_append]
  have e2 : ((tix l m wr).drop (nSent l m wr)).find? (fun t => (l[t]?).any (isAns m wr id)) = none := by
    rw [List.find?_eq_none]
    intro t ht
    obtain ⟨i, hi, hx⟩ := List.getElem_of_mem ht
    have hx' : (tix l m wr)[nSent l m wr + i]? = some t := by
      rw [← hx, ← List.getElem?_eq_getElem, List.getElem?_drop]
    rw [hs _ t hx']
    simp [show ¬ (nSent l m wr + i < nSent l m wr) by omega]
  rw [e2, Option.or_none]
  apply find_cg
  intro t ht
  obtain ⟨i, hi, hx⟩ := List.getElem_of_mem ht
  have hi2 : i < nSent l m wr := by rw [List.length_take] at hi; omega
  have hx' : (tix l m wr)[i]? = some t := by
    have : ((tix l m wr).take (nSent l m wr))[i]? = some t := by rw [List.getElem?_eq_getElem hi, hx]
    rw [List.getElem?_take, if_pos hi2] at this
    exact this
  rw [hs i t hx']
  simp [hi2]
theorem c_unans_L {Γ : gm_T} {φ : ph_T} {a b id ns : Nat} {l : List TK} {L : List Nat} (g : gA Γ a 6 = some 64) (hl : ∀ (i t : Nat), L[i]? = some t → φ.2.2 a i = some (b + 4 * t)) (ht : CTk Γ φ b l) (hL : ∀ t, t ∈ L → t < l.length) (hle : L.length ≤ 64) (hns : ns ≤ L.length) (hid : id < 64) : ∀ (d i fu : Nat), i + d = ns → d < fu →
    f_Master_unanswered_L2 Γ fu φ (some a) (nI ns) (nI id) (nI i) = some ((((L.take ns).drop i).find? (qAns l id)).map (fun t => b + 4 * t), φ) := by
  intro d
  induction d with
  | zero =>
    intro i fu hd hfu
    match fu, hfu with
    | fu + 1, _ =>
      unfold f_Master_unanswered_L2 f_Master_unanswered_L56
      simp (disch := first | assumption | omega) only [↓zm1, zI_ne_m, zI_m_ne, zI_lit, zI_le, zI_eq, zI_mul, zI_lt, zI_modn, zI_div, zI_sub, zI_add, zN_mod]
      rw [if_pos (by omega), List.drop_eq_nil_of_le (by rw [List.length_take]; omega)]
      rfl
  | succ d ih =>
    intro i fu hd hfu
    match fu, hfu with
    | fu + 1, hfu =>
      have hr := ih (i + 1) fu (by omega) (by omega)
      have hlen : (L.take ns).length = ns := by rw [List.length_take]; omega
      obtain ⟨t, hti, hdr⟩ := drop_cons' (l := L.take ns) (i := i) (by omega)
      have htL : L[i]? = some t := by rw [List.getElem?_take, if_pos (by omega)] at hti; exact hti
      have hlt := hL t (List.mem_of_getElem? htL)
      obtain ⟨e, he⟩ : ∃ e, l[t]? = some e := ⟨_, List.getElem?_eq_getElem hlt⟩
      have h64 := ht.le
      obtain ⟨o1, o2, o3⟩ := ht.o t (by omega)
      obtain ⟨E1, E2, E3, E4, E5, E6, E7, E8, E9⟩ := ht.e t e he
      have hidl := idN_lt e.con
      unfold f_Master_unanswered_L2 f_Master_unanswered_L50 f_Master_unanswered_L56
      simp (disch := first | assumption | omega) only [Option.bind_some, g, zix, hl i t htL, reduceCtorEq, if_false, o1, if_true, E4, o2, o3.o, E6, e_Burst_idOf, ↓zm1, zI_ne_m, zI_m_ne, zI_lit, zI_le, zI_eq, zI_mul, zI_lt, zI_modn, zI_div, zI_sub, zI_add, zN_mod]
      rw [if_neg (by omega), if_neg (by omega), hr, hdr, List.find?_cons]
      have hq : qAns l id t = (decide (e.done = m1) && decide (idN e.con = id)) := by unfold qAns; rw [he]; rfl
      rw [hq]
      by_cases c1 : e.done = m1
      · rw [if_pos c1]
        by_cases c2 : idN e.con = id
        · rw [if_pos c2]; simp [c1, c2]
        · rw [if_neg c2]; simp [c2]
      · rw [if_neg c1]; simp [c1]
theorem c_unans {Γ : gm_T} {φ : ph_T} {a b id m : Nat} {l : List TK} {wr : Bool} (hT : TkO l) (g : gA Γ a 6 = some 64) (hl : ∀ (i t : Nat), (tix l m wr)[i]? = some t → φ.2.2 a i = some (b + 4 * t)) (ht : CTk Γ φ b l) (hid : id < 64) :
    f_Master_unanswered Γ φ (some a) (nI (nSent l m wr)) (nI id) = some ((l.findIdx? (isAns m wr id)).map (fun t => b + 4 * t), φ) := by
  have h1 := tix_len l m wr
  have h2 := ht.le
  have h3 := nSent_le l m wr
  unfold f_Master_unanswered
  rw [zI_0, c_unans_L g hl ht (fun t hm => by
    obtain ⟨i, hi, hx⟩ := List.getElem_of_mem hm
    obtain ⟨e, he, _⟩ := tix_mem (l := l) (m := m) (wr := wr) (i := i) (t := t) (by rw [List.getElem?_eq_getElem hi, hx])
    exact (List.getElem?_eq_some_iff.mp he).1) (by omega) h3 hid (nSent l m wr) 0 jF (by omega) (by unfold jF; omega), List.drop_zero, ← ans_tix hT]
def OthM (l l' : List TK) (m : Nat) : Prop := ∀ m', m' ≠ m → (∀ wr, tix l' m' wr = tix l m' wr ∧ nSent l' m' wr = nSent l m' wr) ∧ nFed l' m' = nFed l m' ∧ nOpn l' m' = nOpn l m'
theorem OthM.refl (l : List TK) (m : Nat) : OthM l l m := fun _ _ => ⟨fun _ => ⟨rfl, rfl⟩, rfl, rfl⟩
theorem CMa.oth {Γ : gm_T} {φ : ph_T} {a b m m' : Nat} {l l' : List TK} {pat : Nat → Nat} {early : Bool} (h : CMa Γ φ a b l m' pat early) (ho : OthM l l' m) (hne : m' ≠ m) : CMa Γ φ a b l' m' pat early := by
  obtain ⟨h1, h2, h3⟩ := ho m' hne
  exact h.cg (fun wr => (h1 wr).1) (fun wr => (h1 wr).2) h2 h3
theorem nOpn_keep {l : List TK} {t m : Nat} {e e' : TK} (he : l[t]? = some e) (h1 : e'.m = e.m) (h2 : e'.done = m1 ↔ e.done = m1) : nOpn (l.set t e') m = nOpn l m := by
  refine countP_same he ?_
  rw [h1]
  by_cases hc : e.done = m1
  · simp [hc, h2.mpr hc]
  · have hc2 : ¬ e'.done = m1 := fun hh => hc (h2.mp hh)
    simp [hc, hc2]
theorem nOpn_ne {l : List TK} {t m : Nat} {e e' : TK} (he : l[t]? = some e) (h1 : e'.m = e.m) (h2 : e.m ≠ m) : nOpn (l.set t e') m = nOpn l m := by
  refine countP_same he ?_
  rw [h1]
  simp [h2]
theorem nOpn_done {l : List TK} {t m : Nat} {e e' : TK} (he : l[t]? = some e) (h1 : e'.m = e.m) (hm : e.m = m) (h2 : e.done = m1) (h3 : e'.done ≠ m1) : nOpn (l.set t e') m + 1 = nOpn l m := by
  have := countP_set (p := fun e => decide (e.m = m) && decide (e.done = m1)) e' he
  simp only [h1, hm, h2, h3, decide_true, decide_false, Bool.true_and, Bool.false_eq_true, if_false, if_true] at this
  unfold nOpn
  omega
/-- masters and tickets: the cells that a pass may change -/
def pMt (a b : Nat) (x : Nat) : Prop := x = a ∨ (b ≤ x ∧ x < b + 256)
/-- an address was sent -/
theorem c_mpassA {Γ : gm_T} {φ : ph_T} {a b ap m time : Nat} {l : List TK} {pat : Nat → Nat} {early wr : Bool} (hab : a + 4 ≤ b ∨ b + 256 ≤ a) (h : CMa Γ φ a b l m pat early) (ht : CTk Γ φ b l) (hT : TkO l) (htm : time < 2 ^ 24) {t : Nat} (hf : l.findIdx? (isUns m wr) = some t) :
    ∃ φ', f_Master_pass Γ φ a (some ap) (nI (if wr = true then 0 else 3)) (nI time) = some ((), φ') ∧ CMa Γ φ' a b (updF (isUns m wr) (fun t => (t.w_sent (nI time))) l) m pat early ∧ CTk Γ φ' b (updF (isUns m wr) (fun t => (t.w_sent (nI time))) l) ∧ TkO (updF (isUns m wr) (fun t => (t.w_sent (nI time))) l) ∧ OthM l (updF (isUns m wr) (fun t => (t.w_sent (nI time))) l) m ∧ FrP (pMt a b) φ φ' := by
  obtain ⟨e, he, _, hu⟩ := fi_some hf
  rw [updF_some hf he]
  have hlt := (List.getElem?_eq_some_iff.mp he).1
  have h64 := ht.le
  have hsne : ((e.w_sent (nI time)) : TK).sent ≠ m1 := zI_ne_m1 (by omega)
  have hme : e.m = m := by unfold isUns at hu; simp at hu; exact hu.1.1
  have hwe : e.wr = wr := by unfold isUns at hu; simp at hu; exact hu.1.2
  obtain ⟨k1, k2, k3, k4⟩ := hT.sent (e' := (e.w_sent (nI time))) hf he rfl rfl hsne rfl rfl
  have hno : ∀ m', nOpn (l.set t (e.w_sent (nI time))) m' = nOpn l m' := fun m' => nOpn_keep he rfl Iff.rfl
  have htx : ∀ m' wr', tix (l.set t (e.w_sent (nI time))) m' wr' = tix l m' wr' := fun m' wr' => tix_set (e' := (e.w_sent (nI time))) he rfl rfl m' wr'
  have lw := tix_len l m true
  have lr := tix_len l m false
  have sw := nSent_le l m true
  have sr := nSent_le l m false
  obtain ⟨o1, o2, o3⟩ := ht.o t (by omega)
  have f1 : Fr (b + 4 * t) (b + 4 * t + 4) φ (uI φ (b + 4 * t) 3 (nI time)) := fr_uI (Fr.refl _ _ _) (by omega) _ _
  have hE := ht.e t e he
  have hE1 : ETk (uI φ (b + 4 * t) 3 (nI time)) (b + 4 * t) (e.w_sent (nI time)) := by
    obtain ⟨E1, E2, E3, E4, E5, E6, E7, E8, E9⟩ := hE
    refine ⟨?_, ?_, ?_, ?_, ?_, E6, ?_, ?_, E9⟩
    · rw [uI_s, vz_ne _ (by decide)]; exact E1
    · rw [uI_s, vz_ne _ (by decide)]; exact E2
    · rw [uI_s, vz_same]
    · rw [uI_s, vz_ne _ (by decide)]; exact E4
    · rw [uI_s, vz_ne _ (by decide)]; exact E5
    · rw [uI_d (show b + 4 * t + 1 ≠ b + 4 * t by omega)]; exact E7
    · rw [uI_d (show b + 4 * t + 3 ≠ b + 4 * t by omega)]; exact E8
  have ht1 := ht.set he f1 rfl hE1
  have h1 : CMa Γ (uI φ (b + 4 * t) 3 (nI time)) a b l m pat early := h.sm (f1.sm (by omega))
  have hO : OthM l (l.set t (e.w_sent (nI time))) m := fun m' hne => ⟨fun wr' => ⟨htx m' wr', k3 m' wr' (fun hh => hne hh.1)⟩, k4 m', hno m'⟩
  cases wr with
  | true =>
    have f2 : Fr a (a + 1) (uI φ (b + 4 * t) 3 (nI time)) (uI (uI φ (b + 4 * t) 3 (nI time)) a 6 (nI (nSent l m true + 1))) := fr_uI (Fr.refl _ _ _) (by omega) _ _
    refine ⟨uI (uI φ (b + 4 * t) 3 (nI time)) a 6 (nI (nSent l m true + 1)), ?_, ?_, ht1.sm (f2.sm (by omega)), k1, hO, (f1.toP (fun x h1 h2 => Or.inr (by omega))).trans (f2.toP (fun x h1 h2 => Or.inl (by omega)))⟩
    · have a1 := c_at (φ := φ) (L := tix l m true) h.g2 h.wl (by omega) (nSent l m true) (by omega)
      rw [← uns_tix hT m true, hf] at a1
      show f_Master_pass Γ φ a (some ap) (nI 0) (nI time) = _
      unfold f_Master_pass f_Master_pass_L176 f_Master_stamp
      rw [if_pos (by rfl), if_pos h.o, h.f2, h.sw, h.cw, a1, Option.bind_some]
      simp only [Option.map_some, reduceCtorEq, if_false, Option.bind_some, o1, if_true, zI_lit, zI_add]
    · refine ⟨h1.o, h1.f0, h1.f2, h1.f3, h1.g0, h1.g2, h1.g3, ?_, ?_, ?_, ?_, ?_, ?_, ?_, ?_, ?_, ?_⟩
      · rw [uI_d (show a + 1 ≠ a by omega)]; exact h1.pt
      · rw [uI_s, vz_ne _ (by decide)]; exact h1.ea
      · rw [htx]; exact h1.wl
      · rw [htx]; exact h1.rl
      · rw [uI_s, vz_ne _ (by decide), htx]; exact h1.cw
      · rw [uI_s, vz_ne _ (by decide), htx]; exact h1.cr
      · rw [uI_s, vz_same, k2]
      · rw [uI_s, vz_ne _ (by decide), k3 m false (by simp)]; exact h1.sr
      · rw [uI_s, vz_ne _ (by decide), k4]; exact h1.fd
      · rw [uI_s, vz_ne _ (by decide), hno]; exact h1.op
  | false =>
    have f2 : Fr a (a + 1) (uI φ (b + 4 * t) 3 (nI time)) (uI (uI φ (b + 4 * t) 3 (nI time)) a 7 (nI (nSent l m false + 1))) := fr_uI (Fr.refl _ _ _) (by omega) _ _
    refine ⟨uI (uI φ (b + 4 * t) 3 (nI time)) a 7 (nI (nSent l m false + 1)), ?_, ?_, ht1.sm (f2.sm (by omega)), k1, hO, (f1.toP (fun x h1 h2 => Or.inr (by omega))).trans (f2.toP (fun x h1 h2 => Or.inl (by omega)))⟩
    · have a1 := c_at (φ := φ) (L := tix l m false) h.g3 h.rl (by omega) (nSent l m false) (by omega)
      rw [← uns_tix hT m false, hf] at a1
      show f_Master_pass Γ φ a (some ap) (nI 3) (nI time) = _
      unfold f_Master_pass f_Master_pass_L176 f_Master_stamp
      rw [if_neg (by decide), if_neg (by decide), if_neg (by decide), if_pos (by decide), if_pos h.o, h.f3, h.sr, h.cr, a1, Option.bind_some]
      simp only [Option.map_some, reduceCtorEq, if_false, Option.bind_some, o1, if_true, zI_lit, zI_add]
    · refine ⟨h1.o, h1.f0, h1.f2, h1.f3, h1.g0, h1.g2, h1.g3, ?_, ?_, ?_, ?_, ?_, ?_, ?_, ?_, ?_, ?_⟩
      · rw [uI_d (show a + 1 ≠ a by omega)]; exact h1.pt
      · rw [uI_s, vz_ne _ (by decide)]; exact h1.ea
      · rw [htx]; exact h1.wl
      · rw [htx]; exact h1.rl
      · rw [uI_s, vz_ne _ (by decide), htx]; exact h1.cw
      · rw [uI_s, vz_ne _ (by decide), htx]; exact h1.cr
      · rw [uI_s, vz_ne _ (by decide), k3 m true (by simp)]; exact h1.sw
      · rw [uI_s, vz_same, k2]
      · rw [uI_s, vz_ne _ (by decide), k4]; exact h1.fd
      · rw [uI_s, vz_ne _ (by decide), hno]; exact h1.op
