/-! THE CLASS: slaves choose and tell -/
def FrP (P : Nat → Prop) (φ φ' : ph_T) : Prop := ∀ b, ¬ P b → φ'.1 b = φ.1 b ∧ φ'.2.1 b = φ.2.1 b ∧ φ'.2.2 b = φ.2.2 b
theorem FrP.refl (P : Nat → Prop) (φ : ph_T) : FrP P φ φ := fun _ _ => ⟨rfl, rfl, rfl⟩
theorem FrP.trans {P : Nat → Prop} {φ φ' φ'' : ph_T} (h : FrP P φ φ') (g : FrP P φ' φ'') : FrP P φ φ'' := fun b hb => ⟨(g b hb).1.trans (h b hb).1, (g b hb).2.1.trans (h b hb).2.1, (g b hb).2.2.trans (h b hb).2.2⟩
theorem FrP.mono {P Q : Nat → Prop} {φ φ' : ph_T} (h : FrP P φ φ') (hq : ∀ b, P b → Q b) : FrP Q φ φ' := fun b hb => h b (fun hp => hb (hq b hp))
theorem Fr.toP {lo hi : Nat} {P : Nat → Prop} {φ φ' : ph_T} (h : Fr lo hi φ φ') (hp : ∀ b, lo ≤ b → b < hi → P b) : FrP P φ φ' := fun b hb => h b (by
  by_cases h1 : b < lo
  · exact Or.inl h1
  · by_cases h2 : hi ≤ b
    · exact Or.inr h2
    · exact absurd (hp b (by omega) (by omega)) hb)
theorem FrP.sm {lo hi : Nat} {P : Nat → Prop} {φ φ' : ph_T} (h : FrP P φ φ') (hp : ∀ b, lo ≤ b → b < hi → ¬ P b) : Sm lo hi φ φ' := fun b h1 h2 => h b (hp b h1 h2)
theorem lstN_0 {p : Nat → Bool} (h : ∀ i, p i = true → i = 0) : ∀ n, lstN p n = if 0 < n ∧ p 0 = true then some 0 else none := by
  intro n
  induction n with
  | zero => simp [lstN]
  | succ n ih =>
    rw [lstN_succ, ih]
    by_cases hp : p n = true
    · have h0 := h n hp
      subst h0
      simp [hp]
    · rw [if_neg hp]
      by_cases hn : 0 < n
      · simp [hn]
      · have h0 : n = 0 := by omega
        subst h0
        simp [hp]
theorem c_isRipe0 {Γ : gm_T} {φ : ph_T} {a : Nat} (t : Int32) : f_Slave_isRipe Γ φ a none t = some (nI 0, φ) := by
  unfold f_Slave_isRipe f_Slave_isRipe_L29 f_Slave_isRipe_L30
  rw [if_pos rfl, if_pos (by decide)]; rfl
theorem c_Lat0 {α : Type} {Γ : gm_T} {φ : ph_T} {a room : Nat} {E : ph_T → Nat → α → Prop} {l : List Nat} {L : List α} (h : CL Γ φ a room E l L) {i : Nat} (hi : L.length ≤ i) (hb : i < 2 ^ 31) : f_Line_at Γ φ a (nI i) = some (none, φ) := by
  have h1 := h.c.rm
  have h2 := h.c.le
  unfold f_Line_at f_Line_at_L12 f_Line_at_L22
  simp (disch := first | assumption | omega) only [h.c.o, if_true, h.c.n, ↓zm1, zI_ne_m, zI_m_ne, zI_lit, zI_le, zI_eq, zI_mul, zI_lt, zI_modn, zI_div, zI_sub, zI_add, zN_mod]
  rw [if_neg (by omega), if_neg (by omega)]
theorem c_chooseW {Γ : gm_T} {φ : ph_T} {a am : Nat} {S : XS} {s : Nat} (h : CSl Γ φ a am S s) (hB : Bd S) : f_Slave_choose Γ φ a (some (a + 2)) (nI 0) (nI S.time) = some (oI (S.chW s) m1, φ) := by
  have hw3 := hB.way s
  obtain ⟨l, hl⟩ := h.sw
  unfold f_Slave_choose f_Slave_choose_L25 f_Slave_choose_L46 f_Slave_choose_L53 f_Slave_chooseLast
  simp (disch := first | assumption | omega) only [h.o, if_true, h.wy, Option.bind_some, hl.c.o, zI_lit, ↓zm1, zI_eq]
  unfold XS.chW
  by_cases h0 : S.way s = 0
  · rw [if_pos h0]
    rw [lstN_0 (p := S.canW s) (fun i hi => by
      unfold XS.canW at hi
      cases he : (S.sw s)[i]? with
      | none => rw [he] at hi; cases hi
      | some e => rw [he] at hi; simp [h0] at hi; exact hi.2)]
    by_cases hn : 0 < (S.sw s).length
    · obtain ⟨e, he⟩ : ∃ e, (S.sw s)[0]? = some e := ⟨_, List.getElem?_eq_getElem hn⟩
      obtain ⟨x, hx, hE, hb, _, _, _⟩ := hl.get he
      have hcan : S.canW s 0 = S.ripeW s e := by unfold XS.canW; rw [he]; simp [h0]
      simp only [c_Lat hl he hx, Option.bind_some, c_isRipeW h hB (lmem he) hb hE, hcan, bI_eq0]
      cases hr : S.ripeW s e
      · simp [oI]
      · simp [hn, oI]
    · rw [if_neg (fun hh => hn hh.1)]
      simp only [c_Lat0 hl (show _ ≤ 0 by omega) (show 0 < 2 ^ 31 by omega), Option.bind_some, c_isRipe0, if_true, oI]
  · have hL := c_lastW_L h hB h0 (S.sw s).length 0 jF (by omega) (by have := hl.c.le; unfold jF; omega)
    have hL' : f_Slave_chooseLast_L6 Γ jF φ a (some (a + 2)) (nI 0) (nI S.time) m1 (nI 0) = some (oI (lstN (S.canW s) (S.sw s).length) m1, φ) := hL
    rw [if_neg h0, hL', Option.bind_some]
    split
    · rfl
    · rfl
theorem c_chooseR {Γ : gm_T} {φ : ph_T} {a am : Nat} {S : XS} {s : Nat} (h : CSl Γ φ a am S s) (hB : Bd S) (hn : ∀ e ∈ S.sr s, ∀ q, S.lat s = some q → (q.1 < e.since ↔ q.2 < e.num)) : f_Slave_choose Γ φ a (some (a + 16)) (nI 1) (nI S.time) = some (oI (S.chR s) m1, φ) := by
  have hw3 := hB.way s
  obtain ⟨l, hl⟩ := h.sr
  unfold f_Slave_choose f_Slave_choose_L25 f_Slave_choose_L46 f_Slave_choose_L53 f_Slave_chooseLast f_Slave_chooseNext
  simp (disch := first | assumption | omega) only [h.o, if_true, h.wy, Option.bind_some, hl.c.o, zI_lit, ↓zm1, zI_eq]
  unfold XS.chR
  by_cases h0 : S.way s = 0
  · rw [if_pos h0, if_neg (by omega), if_neg (by omega)]
    rw [lstN_0 (p := S.canR s) (fun i hi => by
      unfold XS.canR at hi
      cases he : (S.sr s)[i]? with
      | none => rw [he] at hi; cases hi
      | some e => rw [he] at hi; simp [h0] at hi; exact hi.2)]
    by_cases hn : 0 < (S.sr s).length
    · obtain ⟨e, he⟩ : ∃ e, (S.sr s)[0]? = some e := ⟨_, List.getElem?_eq_getElem hn⟩
      obtain ⟨x, hx, hE, hb, _, _, _⟩ := hl.get he
      have hcan : S.canR s 0 = S.ripeR s e := by unfold XS.canR; rw [he]; simp [h0]
      simp only [c_Lat hl he hx, Option.bind_some, c_isRipeR h hB (lmem he) hb hE, hcan, bI_eq0]
      cases hr : S.ripeR s e
      · simp [oI]
      · simp [hn, oI]
    · rw [if_neg (fun hh => hn hh.1)]
      simp only [c_Lat0 hl (show _ ≤ 0 by omega) (show 0 < 2 ^ 31 by omega), Option.bind_some, c_isRipe0, if_true, oI]
  · have hle := hl.c.le
    rw [if_neg h0]
    by_cases h2 : S.way s = 2
    · have hL := c_next_L h hB h0 hn (S.sr s).length 0 jF (by omega) (by unfold jF; omega) rfl
      have hL' : f_Slave_chooseNext_L4 Γ jF φ a (nI S.time) m1 (nI 0) = some (oI ((frsN (S.behind s) (S.sr s).length).or (frsN (S.canR s) (S.sr s).length)) m1, φ) := hL
      rw [if_pos h2, if_pos h2, if_neg (by omega), hL', Option.bind_some]
    · have hL := c_lastR_L h hB h0 (S.sr s).length 0 jF (by omega) (by unfold jF; omega) rfl
      have hL' : f_Slave_chooseLast_L6 Γ jF φ a (some (a + 16)) (nI 1) (nI S.time) m1 (nI 0) = some (oI ((frsN (S.begun s) (S.sr s).length).or (lstN (S.canR s) (S.sr s).length)) m1, φ) := hL
      rw [if_neg h2, if_neg h2, if_pos (by omega), hL', Option.bind_some]
theorem e_answerRest (Γ : gm_T) (φ : ph_T) (id r : Nat) (l : Bool) : f_Bus_answerRest Γ φ (nI id) (nI r) (bI l) = some (nI (ansR id r l), φ) := by
  unfold f_Bus_answerRest f_Bus_answerRest_L17 ansR
  simp only [zI_lit, zI_mul, zI_add, bI_eq0]
  cases l <;> simp
def chBh (S : XS) (s : Nat) (hd : Nat → Bool) : Option Nat := if hd 2 = true then S.chb s else if on (S.spat s 2) S.time = true then S.chW s else none
def chRh (S : XS) (s : Nat) (hd : Nat → Bool) : Option Nat := if hd 4 = true then S.chr s else if on (S.spat s 4) S.time = true then S.chR s else none
def tlB (S : XS) (s : Nat) (hd : Nat → Bool) (x : WI) : WI := if hd 2 = true then x else match (chBh S s hd).bind (fun i => (S.sw s)[i]?) with
  | some e => x.snd' 2 (wvB e)
  | none => x
def tlR (S : XS) (s : Nat) (hd : Nat → Bool) (x : WI) : WI := if hd 4 = true then x else match (chRh S s hd).bind (fun i => (S.sr s)[i]?) with
  | some e => x.snd' 4 (wvR e)
  | none => x
/-- the chosen one is noted -/
theorem CSl.setR {Γ : gm_T} {φ : ph_T} {a am : Nat} {S : XS} {s : Nat} (h : CSl Γ φ a am S s) (o : Option Nat) : CSl Γ (uI φ a 9 (oI o m1)) a am (S.w_chr (va_up S.chr s o)) s := by
  have f : Fr a (a + 1) φ (uI φ a 9 (oI o m1)) := fr_uI (Fr.refl _ _ _) (by omega) _ _
  refine ⟨h.o, h.f0, h.f1, h.f2, h.f3, h.f4, h.f5, h.g1, h.g4, h.g5, ?_, ?_, ?_, ?_, ?_, ?_, ?_, ?_, ?_⟩
  · obtain ⟨l, hl⟩ := h.sw; exact ⟨l, hl.sm (f.sm (by omega))⟩
  · obtain ⟨l, hl⟩ := h.sr; exact ⟨l, hl.sm (f.sm (by omega))⟩
  · rw [f.i (by omega)]; exact h.pt
  · rw [f.i (by omega), f.i (by omega)]; exact h.rg
  · rw [uI_s, vz_ne _ (by decide)]; exact h.dl
  · rw [uI_s, vz_ne _ (by decide)]; exact h.wy
  · rw [uI_s, vz_ne _ (by decide)]; exact h.cb
  · intro i hi
    have hi' : va_up S.chr s o s = some i := hi
    rw [vz_same] at hi'
    rw [uI_s, vz_same, hi']; rfl
  · rw [uI_s, vz_ne _ (by decide)]; exact h.lt
theorem CSl.setB {Γ : gm_T} {φ : ph_T} {a am : Nat} {S : XS} {s : Nat} (h : CSl Γ φ a am S s) (o : Option Nat) : CSl Γ (uI φ a 8 (oI o m1)) a am (S.w_chb (va_up S.chb s o)) s := by
  have f : Fr a (a + 1) φ (uI φ a 8 (oI o m1)) := fr_uI (Fr.refl _ _ _) (by omega) _ _
  refine ⟨h.o, h.f0, h.f1, h.f2, h.f3, h.f4, h.f5, h.g1, h.g4, h.g5, ?_, ?_, ?_, ?_, ?_, ?_, ?_, ?_, ?_⟩
  · obtain ⟨l, hl⟩ := h.sw; exact ⟨l, hl.sm (f.sm (by omega))⟩
  · obtain ⟨l, hl⟩ := h.sr; exact ⟨l, hl.sm (f.sm (by omega))⟩
  · rw [f.i (by omega)]; exact h.pt
  · rw [f.i (by omega), f.i (by omega)]; exact h.rg
  · rw [uI_s, vz_ne _ (by decide)]; exact h.dl
  · rw [uI_s, vz_ne _ (by decide)]; exact h.wy
  · intro i hi
    have hi' : va_up S.chb s o s = some i := hi
    rw [vz_same] at hi'
    rw [uI_s, vz_same, hi']; rfl
  · rw [uI_s, vz_ne _ (by decide)]; exact h.cr
  · rw [uI_s, vz_ne _ (by decide)]; exact h.lt
def pSl (ap a : Nat) (b : Nat) : Prop := (ap ≤ b ∧ b < ap + 7) ∨ b = a
theorem c_stl195 {Γ : gm_T} {φ : ph_T} {a am ap : Nat} {S : XS} {s : Nat} {x : WI} {hd : Nat → Bool} {tr : Nat → Int32} (hap : ap + 7 ≤ a ∨ a + 32 ≤ ap) (h : CSl Γ φ a am S s) (hp : CPt Γ φ ap x hd tr) (hB : Bd S) (o : Option Nat) (ho : ∀ i, o = some i → i < (S.sr s).length) :
    ∃ φ', f_Slave_tell_L195 Γ φ a (some ap) (oI o m1) a = some ((), φ') ∧ CSl Γ φ' a am (S.w_chr (va_up S.chr s o)) s ∧ CPt Γ φ' ap (match o.bind (fun i => (S.sr s)[i]?) with
      | some e => x.snd' 4 (wvR e)
      | none => x) hd tr ∧ FrP (pSl ap a) φ φ' := by
  have h1 := h.setR o
  have f1 : Fr a (a + 1) φ (uI φ a 9 (oI o m1)) := fr_uI (Fr.refl _ _ _) (by omega) _ _
  have fp1 : FrP (pSl ap a) φ (uI φ a 9 (oI o m1)) := f1.toP (fun b hb1 hb2 => by unfold pSl; omega)
  have hp1 : CPt Γ (uI φ a 9 (oI o m1)) ap x hd tr := hp.sm (f1.sm (by omega))
  obtain ⟨l, hl⟩ := h1.sr
  have hl' : CL Γ (uI φ a 9 (oI o m1)) (a + 16) 4 EQe l (S.sr s) := hl
  have e9 : (uI φ a 9 (oI o m1)).1 a 9 = oI o m1 := by rw [uI_s, vz_same]
  unfold f_Slave_tell_L195 f_Slave_tell_L213
  simp only [h.o, if_true, h.f3, Option.bind_some, hl'.c.o, e9]
  cases o with
  | none =>
    simp only [oI, c_Lat_m, Option.bind_some]
    unfold f_Slave_sendReadBeat f_Slave_sendReadBeat_L36
    exact ⟨_, rfl, h1, hp1, fp1⟩
  | some i =>
    have hi := ho i rfl
    obtain ⟨e, he⟩ : ∃ e, (S.sr s)[i]? = some e := ⟨_, List.getElem?_eq_getElem hi⟩
    obtain ⟨y, hy, hE, hb, _, _, _⟩ := hl'.get he
    have hg := (hB.sr s e (lmem he)).2.2.1
    have hle := leN_le e.con
    obtain ⟨d1, d2⟩ := hE.2.2.2 e.got hg
    obtain ⟨φ2, s1, s2, s3⟩ := c_send hp1 (c := 4) (by omega) (e.dat e.got) (nI (ansR (idN e.con) (e.rsp e.got) (decide (e.got = leN e.con - 1))))
    refine ⟨φ2, ?_, h1.sm (s3.sm (by omega)), ?_, fp1.trans (s3.toP (fun b hb1 hb2 => by unfold pSl; omega))⟩
    · have hat : f_Line_at Γ (uI φ a 9 (nI i)) (a + 16) (nI i) = some (some y, uI φ a 9 (nI i)) := c_Lat hl' he hy
      simp only [oI, hat, Option.bind_some]
      unfold f_Slave_sendReadBeat f_Slave_sendReadBeat_L36
      have e3 : (uI φ a 9 (nI i)).1 y 3 = nI e.got := hE.2.1
      have d1' : (uI φ a 9 (nI i)).2.1 (y + 1) e.got = e.dat e.got := d1
      have d2' : (uI φ a 9 (nI i)).1 (y + 2) e.got = nI (ansR (idN e.con) (e.rsp e.got) (decide (e.got = leN e.con - 1))) := d2
      have f6' : (uI φ a 9 (nI i)).2.2 y 6 = some (y + 1) := hb.f6
      have f7' : (uI φ a 9 (nI i)).2.2 y 7 = some (y + 2) := hb.f7
      have s1' : f_Port_send Γ (uI φ a 9 (nI i)) ap (nI 4) (e.dat e.got) (nI (ansR (idN e.con) (e.rsp e.got) (decide (e.got = leN e.con - 1)))) = some ((), φ2) := s1
      simp (disch := first | assumption | omega) only [reduceCtorEq, if_false, Option.bind_some, hb.o, if_true, e3, f6', f7', hb.g6, hb.g7, zix, d1', d2', hp.o, ↓zm1, zI_ne_m, zI_m_ne, zI_lit, zI_le, zI_eq, zI_mul, zI_lt, zI_modn, zI_div, zI_sub, zI_add, zN_mod, s1']
      rw [if_neg (by omega)]
      rfl
    · rw [Option.bind_some, he]
      exact s2
