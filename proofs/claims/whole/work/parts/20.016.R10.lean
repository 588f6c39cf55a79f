/-! THE REFERENCE's slaves choose, on -/
def plW (l : List WE) (o : Option Nat) : Int32 := oI (o.bind fun i => (l[i]?).map WE.place) m1
def plR (l : List QE) (o : Option Nat) : Int32 := oI (o.bind fun i => (l[i]?).map QE.place) m1
theorem lstN_succ (p : Nat → Bool) (n : Nat) : lstN p (n + 1) = if p n = true then some n else lstN p n := rfl
theorem r_chooseW_L {Γ : gm_T} {φ : ph_T} {r : Nat} {S : XS} (h : RV Γ φ r S) (hB : Bd S) {s : Nat} (hs : s < 4) : ∀ d k fu, k + d = (S.sw s).length → d < fu →
    f_Ref_chooseWrite_L4 Γ fu φ r (nI s) (plW (S.sw s) (lstN (S.canW s) k)) (nI k) = some (plW (S.sw s) (lstN (S.canW s) (S.sw s).length), φ) := by
  have hle := h.sw.hle s hs
  have hmm := h.sw.hmany s hs
  intro d
  induction d with
  | zero =>
    intro k fu hd hf
    match fu, hf with
    | fu + 1, _ =>
      unfold f_Ref_chooseWrite_L4
      simp (disch := first | assumption | omega) only [h.rl.o, rf_12 h.rl, rg_12 h.rl, rf_58 h.rl, rg_58 h.rl, rf_59 h.rl, rg_59 h.rl, Option.bind_some, if_true, zix, hmm, ↓zm1, zI_ne_m, zI_m_ne, zI_lit, zI_le, zI_eq, zI_mul, zI_lt, zI_modn, zI_div, zI_sub, zI_add, zN_mod]
      rw [if_pos (show (S.sw s).length ≤ k by omega), show k = (S.sw s).length by omega]
  | succ d ih =>
    intro k fu hd hf
    match fu, hf with
    | fu + 1, hf =>
      obtain ⟨e, he⟩ := lget (l := S.sw s) (t := k) (by omega)
      have h1 := h.sw.hat s k e hs he
      have h3 := hB.way s
      have hcan : S.canW s k = (S.ripeW s e && (if S.way s = 0 then decide (k = 0) else fstId ((S.sw s).map fun e => idN e.con) k)) := by unfold XS.canW; rw [he]
      have ih' := ih (k + 1) fu (by omega) (by omega)
      have e1 : plW (S.sw s) (some k) = nI e.place := by unfold plW; simp [he, oI]
      rw [lstN_succ] at ih'
      unfold f_Ref_chooseWrite_L4 f_Ref_chooseWrite_L62 f_Ref_chooseWrite_L66 f_Ref_chooseWrite_L67 f_Ref_chooseWrite_L80
      simp (disch := first | assumption | omega) only [h.rl.o, rf_12 h.rl, rg_12 h.rl, rf_58 h.rl, rg_58 h.rl, rf_59 h.rl, rg_59 h.rl, Option.bind_some, if_true, zix, hmm, ↓zm1, zI_ne_m, zI_m_ne, zI_lit, zI_le, zI_eq, zI_mul, zI_lt, zI_modn, zI_div, zI_sub, zI_add, zN_mod]
      simp (disch := first | assumption | omega) only [h1, r_wripe h hB hs he, r_firstW h hs he, Option.bind_some, bI_eq0, h.wa s hs, ↓zm1, zI_ne_m, zI_m_ne, zI_lit, zI_le, zI_eq, zI_mul, zI_lt, zI_modn, zI_div, zI_sub, zI_add, zN_mod, h.rl.o, rf_12 h.rl, rg_12 h.rl, rf_58 h.rl, rg_58 h.rl, rf_59 h.rl, rg_59 h.rl, zix]
      rw [if_neg (show ¬ (S.sw s).length ≤ k by omega)]
      cases hr : S.ripeW s e with
      | false =>
        rw [hr] at hcan
        rw [hcan] at ih'
        simpa using ih'
      | true =>
        rw [hr] at hcan
        by_cases hw : S.way s = 0
        · by_cases hk0 : k = 0
          · rw [hcan] at ih'
            simp only [hw, hk0, if_true, decide_true, Bool.and_self] at ih' ⊢
            rw [hk0] at e1
            rw [e1] at ih'
            simpa using ih'
          · rw [hcan] at ih'
            simp only [hw, hk0, if_true, decide_false, Bool.and_false, Bool.false_eq_true, if_false] at ih' ⊢
            simpa using ih'
        · rw [hcan] at ih'
          cases hfi : fstId ((S.sw s).map fun e => idN e.con) k with
          | false =>
            simp only [hw, hfi, Bool.and_false, Bool.false_eq_true, if_false] at ih' ⊢
            simpa using ih'
          | true =>
            simp only [hw, hfi, Bool.and_self, if_true, if_false] at ih' ⊢
            rw [e1] at ih'
            simpa using ih'
theorem r_chooseW {Γ : gm_T} {φ : ph_T} {r : Nat} {S : XS} (h : RV Γ φ r S) (hB : Bd S) {s : Nat} (hs : s < 4) : f_Ref_chooseWrite Γ φ r (nI s) = some (plW (S.sw s) (S.chW s), φ) := by
  have hle := h.sw.hle s hs
  unfold f_Ref_chooseWrite XS.chW
  exact r_chooseW_L h hB hs (S.sw s).length 0 jF (by omega) (by unfold jF; omega)
theorem frsN_succ (p : Nat → Bool) (n : Nat) : frsN p (n + 1) = (frsN p n).or (if p n = true then some n else none) := by
  unfold frsN
  rw [List.range_succ, List.find?_append]
  congr 1
  simp only [List.find?_cons, List.find?_nil]
  cases p n <;> rfl
theorem frsN_lt {p : Nat → Bool} {n i : Nat} (h : frsN p n = some i) : i < n := by
  unfold frsN at h
  exact List.mem_range.mp (List.mem_of_find?_eq_some h)
theorem lstN_lt {p : Nat → Bool} : ∀ {n i : Nat}, lstN p n = some i → i < n := by
  intro n
  induction n with
  | zero => intro i h; cases h
  | succ n ih =>
    intro i h
    unfold lstN at h
    split at h
    · cases h; omega
    · have := ih h; omega
theorem plR_m1 {l : List QE} {o : Option Nat} (hp : ∀ e ∈ l, e.place < 2 ^ 31) (ho : ∀ i, o = some i → i < l.length) : (plR l o = m1) ↔ o = none := by
  unfold plR
  cases o with
  | none => simp [oI]
  | some i =>
    obtain ⟨e, he⟩ := lget (l := l) (t := i) (ho i rfl)
    have := hp e (lmem he)
    simp (disch := first | assumption | omega) [he, oI, zI_ne_m]
theorem r_chooseR_L {Γ : gm_T} {φ : ph_T} {r : Nat} {S : XS} (h : RV Γ φ r S) (hB : Bd S) {s : Nat} (hs : s < 4) : ∀ d k fu, k + d = (S.sr s).length → d < fu →
    f_Ref_chooseRead_L13 Γ fu φ r (nI s) (plR (S.sr s) (lstN (S.canR s) k)) (plR (S.sr s) (frsN (S.begun s) k)) (plR (S.sr s) (frsN (S.canR s) k)) (plR (S.sr s) (frsN (S.behind s) k)) (nI k) = some (plR (S.sr s) (S.chR s), φ) := by
  have hle := h.sr.hle s hs
  have hmm := h.sr.hmany s hs
  have hw := hB.way s
  have hpl : ∀ e ∈ S.sr s, e.place < 2 ^ 31 := by
    intro e he
    obtain ⟨k, hk⟩ := List.getElem?_of_mem he
    have := h.sr.hat s k e hs hk
    omega
  intro d
  induction d with
  | zero =>
    intro k fu hd hf
    match fu, hf with
    | fu + 1, _ =>
      have hk : k = (S.sr s).length := by omega
      subst hk
      have m2 := plR_m1 hpl (o := frsN (S.behind s) (S.sr s).length) (fun i hi => frsN_lt hi)
      have m3 := plR_m1 hpl (o := frsN (S.begun s) (S.sr s).length) (fun i hi => frsN_lt hi)
      unfold f_Ref_chooseRead_L13 f_Ref_chooseRead_L209 f_Ref_chooseRead_L210
      simp (disch := first | assumption | omega) only [h.rl.o, rf_12 h.rl, rg_12 h.rl, rf_67 h.rl, rg_67 h.rl, rf_68 h.rl, rg_68 h.rl, Option.bind_some, if_true, zix, hmm, h.wa s hs, ↓zm1, zI_ne_m, zI_m_ne, zI_lit, zI_le, zI_eq, zI_mul, zI_lt, zI_modn, zI_div, zI_sub, zI_add, zN_mod, m2, m3]
      rw [if_pos (Nat.le_refl _)]
      unfold XS.chR
      by_cases h2 : S.way s = 2
      · simp only [h2, if_true]
        cases frsN (S.behind s) (S.sr s).length <;> simp
      · by_cases h1 : S.way s = 1
        · simp only [h2, h1, if_true, if_false]
          cases frsN (S.begun s) (S.sr s).length <;> simp
        · simp only [h2, h1, if_false]
  | succ d ih =>
    intro k fu hd hf
    match fu, hf with
    | fu + 1, hf =>
      obtain ⟨e, he⟩ := lget (l := S.sr s) (t := k) (by omega)
      have h1 := h.sr.hat s k e hs he
      have h2 := h.sr.hent s k e hs he
      have h3 := hB.sr s e (lmem he)
      have hl16 := leN_le e.con
      have hlat := h.ch.hlat s hs
      have hcan : S.canR s k = (S.ripeR s e && (if S.way s = 0 then decide (k = 0) else fstId ((S.sr s).map fun e => idN e.con) k)) := by unfold XS.canR; rw [he]
      have hbeg : S.begun s k = (S.canR s k && decide (0 < e.got)) := by unfold XS.begun; rw [he]
      have e1 : plR (S.sr s) (some k) = nI e.place := by unfold plR; simp [he, oI]
      have ih' := ih (k + 1) fu (by omega) (by omega)
      rw [frsN_succ, frsN_succ, frsN_succ, lstN_succ] at ih'
      have c1 := plR_m1 hpl (o := frsN (S.canR s) k) (fun i hi => by have := frsN_lt hi; omega)
      have c2 := plR_m1 hpl (o := frsN (S.begun s) k) (fun i hi => by have := frsN_lt hi; omega)
      have c3 := plR_m1 hpl (o := frsN (S.behind s) k) (fun i hi => by have := frsN_lt hi; omega)
      have hbh : (nI e.num ≤ φ.1 (r + 67) s) = (S.canR s k = true → S.behind s k = false) ∨ S.canR s k = false := by
        cases hc : S.canR s k with
        | false => right; rfl
        | true =>
          left
          unfold XS.behind
          rw [hc, he, hlat]
          cases hla : S.lat s with
          | none =>
            simp only [Option.map_none, oI, Bool.true_and]
            simp
            exact zI_m1_lt (by omega)
          | some q =>
            have := hB.lat s q hla
            simp only [Option.map_some, oI, Bool.true_and]
            rw [zI_le (by omega) (by omega)]
            simp
      have key : ∀ b : Bool, b = S.canR s k → f_Ref_chooseRead_L80 Γ (f_Ref_chooseRead_L13 Γ fu) φ r (nI s) (plR (S.sr s) (lstN (S.canR s) k)) (plR (S.sr s) (frsN (S.begun s) k)) (plR (S.sr s) (frsN (S.canR s) k)) (plR (S.sr s) (frsN (S.behind s) k)) (nI k) (nI e.place) (bI b) = some (plR (S.sr s) (S.chR s), φ) := by
        intro b hb
        unfold f_Ref_chooseRead_L80 f_Ref_chooseRead_L158 f_Ref_chooseRead_L103 f_Ref_chooseRead_L125 f_Ref_chooseRead_L126 f_Ref_chooseRead_L154 f_Ref_chooseRead_L156 f_Ref_chooseRead_L158
        simp (disch := first | assumption | omega) only [h.rl.o, rf_71 h.rl, rg_71 h.rl, rf_73 h.rl, rg_73 h.rl, rf_77 h.rl, rg_77 h.rl, Option.bind_some, if_true, zix, ↓zm1, zI_ne_m, zI_m_ne, zI_lit, zI_le, zI_eq, zI_mul, zI_lt, zI_modn, zI_div, zI_sub, zI_add, zN_mod, c1, c2, c3, bI_eq0, h2]
        rw [← hb] at ih' hbh
        cases b with
        | false =>
          have hbeh : S.behind s k = false := by unfold XS.behind; rw [← hb]; rfl
          rw [hbeg, ← hb, hbeh] at ih'
          simpa using ih'
        | true =>
          rw [← hb] at hbeg
          have hbh2 : (nI e.num ≤ φ.1 (r + 67) s) = (S.behind s k = false) := by
            rcases hbh with q | q
            · rw [q]; simp
            · cases q
          simp only [hbh2, Bool.true_eq_false, if_false, if_true] at ih' ⊢
          rw [hbeg] at ih'
          cases hq1 : frsN (S.canR s) k <;> cases hq2 : frsN (S.begun s) k <;> cases hq3 : frsN (S.behind s) k <;> cases hq4 : S.behind s k <;> by_cases hq5 : 0 < e.got
          all_goals
            simp only [hq1, hq2, hq3, hq4, hq5, e1, Option.or_none, Option.none_or, Option.some_or, Bool.true_and, decide_true, decide_false, Bool.false_eq_true, Bool.true_eq_false, if_true, if_false, reduceCtorEq, show (e.got ≤ 0) = ¬ (0 < e.got) by simp, not_true, not_false_eq_true] at ih' ⊢
            exact ih'
      unfold f_Ref_chooseRead_L13 f_Ref_chooseRead_L75 f_Ref_chooseRead_L79
      simp (disch := first | assumption | omega) only [h.rl.o, rf_12 h.rl, rg_12 h.rl, rf_67 h.rl, rg_67 h.rl, rf_68 h.rl, rg_68 h.rl, Option.bind_some, if_true, zix, hmm, ↓zm1, zI_ne_m, zI_m_ne, zI_lit, zI_le, zI_eq, zI_mul, zI_lt, zI_modn, zI_div, zI_sub, zI_add, zN_mod]
      simp (disch := first | assumption | omega) only [h1, r_rripe h hB hs he, r_firstR h hs he, Option.bind_some, bI_eq0, h.wa s hs, ↓zm1, zI_ne_m, zI_m_ne, zI_lit, zI_le, zI_eq, zI_mul, zI_lt, zI_modn, zI_div, zI_sub, zI_add, zN_mod, h.rl.o, rf_12 h.rl, rg_12 h.rl, rf_67 h.rl, rg_67 h.rl, rf_68 h.rl, rg_68 h.rl, zix]
      rw [if_neg (show ¬ (S.sr s).length ≤ k by omega)]
      have kf : false = S.canR s k → _ := key false
      have kt : true = S.canR s k → _ := key true
      cases hr : S.ripeR s e with
      | false =>
        rw [hr] at hcan
        simp only [if_true]
        exact key false (by rw [hcan]; rfl)
      | true =>
        rw [hr] at hcan
        simp only [Bool.true_eq_false, if_false]
        by_cases hw0 : S.way s = 0
        · rw [if_pos hw0]
          by_cases hk0 : k = 0
          · rw [if_pos hk0]
            exact key true (by rw [hcan]; simp [hw0, hk0])
          · rw [if_neg hk0]
            exact key false (by rw [hcan]; simp [hw0, hk0])
        · rw [if_neg hw0]
          cases hfi : fstId ((S.sr s).map fun e => idN e.con) k with
          | false =>
            simp only [if_true]
            exact key false (by rw [hcan]; simp [hw0, hfi])
          | true =>
            simp only [Bool.true_eq_false, if_false]
            exact key true (by rw [hcan]; simp [hw0, hfi])
theorem r_chooseR {Γ : gm_T} {φ : ph_T} {r : Nat} {S : XS} (h : RV Γ φ r S) (hB : Bd S) {s : Nat} (hs : s < 4) : f_Ref_chooseRead Γ φ r (nI s) = some (plR (S.sr s) (S.chR s), φ) := by
  have hle := h.sr.hle s hs
  unfold f_Ref_chooseRead
  exact r_chooseR_L h hB hs (S.sr s).length 0 jF (by omega) (by unfold jF; omega)
