/-! THE REFERENCE's slaves: an address for reading comes -/
def rdD (mem : Nat → Nat) (spo : Nat → Bool) (c : Int64) (k : Nat) : Int64 := if spoR spo c k = true then 0 else nL (ldB mem (baN c k) (laN (baN c k) (szN c)))
def rdR (spo : Nat → Bool) (c : Int64) (k : Nat) : Nat := if spoR spo c k = true then 2 else exN c
theorem sh_8 {y : Nat} (hy : y < 2 ^ 31) : Int32.toInt64 (nI 8 * (nI y - nI y / nI 8 * nI 8)) &&& 63 = nL (8 * (y % 8)) := by
  rw [zI_mod hy (by omega), zI_mul, sh_l (by omega)]
theorem r_rc140 {Γ : gm_T} {φ : ph_T} {r : Nat} {mem : Nat → Nat} {spo : Nat → Bool} (hl : RL Γ φ r) (hm : VMem (φ.1 (r + 7)) (φ.1 (r + 8)) mem spo) (hmb : ∀ y, mem y < 256) {x n : Nat} (hx : x < 65536) (hn : n = 1 ∨ n = 2 ∨ n = 4 ∨ n = 8) (K : ph_T → Nat → Int32 → Int64 → Int32 → Int32 → Int32 → Option (Unit × ph_T)) (s : Int32) (c : Int64) (p ok k : Int32) : ∀ d y a fu, y + d = x - x % n + n → x ≤ y → (d ≠ 0 → a < 2 ^ (8 * (y % 8))) → d < fu →
    f_Ref_readComes_L140 Γ K fu φ r s c p ok k (nI 0) (nI x) (nI n) (nL a) (nI y) = f_Ref_readComes_L189 Γ K φ r s c p ok k (nI 0) (nL (ldS mem d y a)) := by
  have he := la_end x hn
  have hxm : x - x % n + n ≤ 65536 ∧ x < x - x % n + n := by rcases hn with hn | hn | hn | hn <;> subst hn <;> omega
  intro d
  induction d with
  | zero =>
    intro y a fu hd hxy ha hfu
    match fu, hfu with
    | fu + 1, _ =>
      rw [f_Ref_readComes_L140, if_neg (by rw [zI_0, zI_eq (by omega) (by omega)]; omega), zI_mod (by omega) (by omega), zI_sub (Nat.mod_le _ _), zI_add, if_pos (by rw [zI_le (by omega) (by omega)]; omega), ldS]
  | succ d ih =>
    intro y a fu hd hxy ha hfu
    match fu, hfu with
    | fu + 1, hfu =>
      have hy := (hm y (by omega)).1
      have hb := hmb y
      have hlt : a + mem y * 2 ^ (8 * (y % 8)) < 2 ^ (8 * (y % 8) + 8) := by
        have h1 := ha (by omega)
        have h2 : mem y * 2 ^ (8 * (y % 8)) ≤ 255 * 2 ^ (8 * (y % 8)) := Nat.mul_le_mul_right _ (by omega)
        rw [Nat.pow_add]
        omega
      rw [f_Ref_readComes_L140, if_neg (by rw [zI_0, zI_eq (by omega) (by omega)]; omega), zI_mod (show x < 2 ^ 31 by omega) (show n < 2 ^ 31 by omega), zI_sub (Nat.mod_le _ _), zI_add, if_neg (by rw [zI_le (by omega) (by omega)]; omega), if_pos (by rfl), if_pos hl.o, rf_13 hl, Option.bind_some, rg_13 hl, Option.bind_some, zix (by omega), Option.bind_some, if_neg (by decide), z8, sh_8 (by omega), hy, nI_L (by omega), nL_shl (by omega), nL_or, or_add (ha (by omega)), zI_1, zI_add, ldS]
      refine ih (y + 1) _ fu (by omega) (by omega) (fun hd0 => ?_) (by omega)
      have : (y + 1) % 8 = y % 8 + 1 := by
        rcases hn with hn | hn | hn | hn <;> subst hn <;> omega
      rw [this]
      exact hlt
theorem r_rc189 {Γ : gm_T} {φ : ph_T} {r : Nat} (hl : RL Γ φ r) (K : ph_T → Nat → Int32 → Int64 → Int32 → Int32 → Int32 → Option (Unit × ph_T)) (s : Int32) (c : Int64) {p k : Nat} (hp : p < 16) (hk : k < 16) (ok bad : Bool) (v : Int64) :
    f_Ref_readComes_L189 Γ K φ r s c (nI p) (bI ok) (nI k) (bI bad) v = K (uI (uL φ (r + 64) (16 * p + k) v) (r + 65) (16 * p + k) (nI (if bad = true then 2 else exN c))) r s c (nI p) (bI (ok && !bad)) (nI (k + 1)) := by
  have hx := exN_lt c
  unfold f_Ref_readComes_L189 f_Ref_readComes_L237 f_Ref_readComes_L252 f_Ref_readComes_L253
  simp only [hl.o, if_true, rf_74 hl, rg_74 hl, rf_75 hl, rg_75 hl, Option.bind_some, zI_lit, zI_mul, zI_add, zix (show 16 * p + k < 256 by omega), e_Ref_isAlone, bI_eq0]
  cases bad with
  | true =>
    cases ok <;> rfl
  | false =>
    have hex : exN c = 0 ∨ exN c = 1 := by omega
    rcases hex with hex | hex <;> rw [hex] <;> cases ok <;> rfl
theorem r_rc101 {Γ : gm_T} {r : Nat} {mem : Nat → Nat} {spo : Nat → Bool} (hmb : ∀ y, mem y < 256) {s p : Nat} {c : Int64} (hr : ruN c = 0) (hp : p < 16) : ∀ (d k : Nat) (b : Bool) (fu : Nat) (φ : ph_T), k + d = leN c → d < fu → RL Γ φ r → VMem (φ.1 (r + 7)) (φ.1 (r + 8)) mem spo →
    ∃ φ', f_Ref_readComes_L101 Γ fu φ r (nI s) c (nI p) (bI b) (nI k) = f_Ref_readComes_L101 Γ 1 φ' r (nI s) c (nI p) (bI (b && !((List.range' k d).any fun k => spoR spo c k))) (nI (leN c)) ∧ RFr r [64, 65] φ φ' ∧
      (∀ j, φ'.2.1 (r + 64) j = if 16 * p + k ≤ j ∧ j < 16 * p + leN c then rdD mem spo c (j - 16 * p) else φ.2.1 (r + 64) j) ∧
      (∀ j, φ'.1 (r + 65) j = if 16 * p + k ≤ j ∧ j < 16 * p + leN c then nI (rdR spo c (j - 16 * p)) else φ.1 (r + 65) j) := by
  have hle := leN_le c
  intro d
  induction d with
  | zero =>
    intro k b fu φ hd hfu hl hm
    match fu, hfu with
    | fu + 1, _ =>
      have hk : k = leN c := by omega
      subst hk
      refine ⟨φ, ?_, RFr.refl _ _ _, fun j => by rw [if_neg (by omega)], fun j => by rw [if_neg (by omega)]⟩
      rw [f_Ref_readComes_L101, f_Ref_readComes_L101, e_Ref_lengthOf, Option.bind_some, Option.bind_some, if_pos (Int32.le_refl _), if_pos (Int32.le_refl _), List.range'_zero]
      simp only [List.any_nil, Bool.not_false, Bool.and_true]
  | succ d ih =>
    intro k b fu φ hd hfu hl hm
    match fu, hfu with
    | fu + 1, hfu =>
      have hk : k < leN c := by omega
      have hx := ba_ok hr hk
      have hn := szN_cases c
      have hpos := szN_pos c
      have hmo := Nat.mod_lt (baN c k) hpos
      have hml := Nat.mod_le (baN c k) (szN c)
      have hs8 := szN_le c
      have f1 : RFr r [64, 65] φ (uI (uL φ (r + 64) (16 * p + k) (rdD mem spo c k)) (r + 65) (16 * p + k) (nI (rdR spo c k))) := by repeat (first | exact RFr.refl _ _ _ | refine RFr.uI ?_ (by decide) _ _ | refine RFr.uL ?_ (by decide) _ _ | refine rfr_uO ?_ (by decide) _ _)
      have hst : f_Ref_readComes_L101 Γ (fu + 1) φ r (nI s) c (nI p) (bI b) (nI k) = f_Ref_readComes_L101 Γ fu (uI (uL φ (r + 64) (16 * p + k) (rdD mem spo c k)) (r + 65) (16 * p + k) (nI (rdR spo c k))) r (nI s) c (nI p) (bI (b && !spoR spo c k)) (nI (k + 1)) := by
        rw [f_Ref_readComes_L101, e_Ref_lengthOf, Option.bind_some, if_neg (by rw [zI_le (by omega) (by omega)]; omega), if_pos hl.o, e_isSpoilt hl hm hr hk, Option.bind_some, e_Ref_beatAt Γ φ c (by omega) (ru_kind hr), Option.bind_some, e_Ref_sizeOf, Option.bind_some]
        unfold rdD rdR
        cases hsp : spoR spo c k with
        | true =>
          have h1 := r_rc189 hl (f_Ref_readComes_L101 Γ fu) (nI s) c hp (show k < 16 by omega) b true 0
          refine Eq.trans ?_ h1
          show f_Ref_readComes_L140 Γ _ (99999 + 1) _ _ _ _ _ _ _ _ _ _ _ _ = _
          rw [f_Ref_readComes_L140, if_neg (by rw [zI_0, zI_eq (by omega) (by omega)]; omega), zI_mod (by omega) (by omega), zI_sub (Nat.mod_le _ _), zI_add, if_neg (by rw [zI_le (by omega) (by omega)]; omega), if_neg (show ¬ bI true = 0 by decide)]
        | false =>
          have h1 := r_rc189 hl (f_Ref_readComes_L101 Γ fu) (nI s) c hp (show k < 16 by omega) b false (nL (ldB mem (baN c k) (laN (baN c k) (szN c))))
          have h2 := r_rc140 hl hm hmb hx hn (f_Ref_readComes_L101 Γ fu) (nI s) c (nI p) (bI b) (nI k) (szN c - baN c k % szN c) (baN c k) 0 jF (by omega) (Nat.le_refl _) (fun _ => Nat.two_pow_pos _) (by unfold jF; omega)
          rw [← ldB_la mem _ hn] at h2
          exact h2.trans h1
      obtain ⟨φ', a1, a2, a3, a4⟩ := ih (k + 1) (b && !spoR spo c k) fu _ (by omega) (by omega) (hl.up (congrFun f1.1 r)) (by rw [f1.i 7 (by decide), f1.i 8 (by decide)]; exact hm)
      refine ⟨φ', ?_, f1.trans a2, fun j => ?_, fun j => ?_⟩
      · rw [hst, a1, List.range'_succ, List.any_cons, Bool.not_or, Bool.and_assoc]
      · rw [a3 j, uI_2, uL_s, vz_at]
        by_cases hj : j = 16 * p + k
        · subst hj
          rw [if_neg (by omega), if_pos rfl, if_pos (by omega), show 16 * p + k - 16 * p = k by omega]
        · rw [if_neg hj]
          by_cases hj2 : 16 * p + (k + 1) ≤ j ∧ j < 16 * p + leN c
          · rw [if_pos hj2, if_pos (by omega)]
          · rw [if_neg hj2, if_neg (by omega)]
      · rw [a4 j, uI_s, uL_1, vz_at]
        by_cases hj : j = 16 * p + k
        · subst hj
          rw [if_neg (by omega), if_pos rfl, if_pos (by omega), show 16 * p + k - 16 * p = k by omega]
        · rw [if_neg hj]
          by_cases hj2 : 16 * p + (k + 1) ≤ j ∧ j < 16 * p + leN c
          · rw [if_pos hj2, if_pos (by omega)]
          · rw [if_neg hj2, if_neg (by omega)]
theorem VSr.add {many at_ used : aI} {bur : aL} {bea cam num : aI} {dat dat' : aL} {rsp rsp' : aI} {sr : Nat → List QE} (h : VSr many at_ used bur bea cam num dat rsp sr) {s : Nat} (hs : s < 4) (e : QE) (hg : e.got = 0) (hp : 4 * s ≤ e.place ∧ e.place < 4 * s + 4) (hf : e.place ∉ (sr s).map QE.place) (hl : (sr s).length < 4)
    (d1 : ∀ j, ¬ (16 * e.place ≤ j ∧ j < 16 * e.place + leN e.con) → dat' j = dat j ∧ rsp' j = rsp j) (d2 : ∀ i, i < leN e.con → dat' (16 * e.place + i) = e.dat i ∧ rsp' (16 * e.place + i) = nI (e.rsp i)) :
    VSr (va_up many s (nI ((sr s).length + 1))) (va_up at_ (4 * s + (sr s).length) (nI e.place)) (va_up used e.place (nI 1)) (va_up bur e.place e.con) (va_up bea e.place (nI 0)) (va_up cam e.place (nI e.since)) (va_up num e.place (nI e.num)) dat' rsp' (va_up sr s (sr s ++ [e])) := by
  have hle := leN_le e.con
  have hne : ∀ (q k : Nat) (x : QE), q < 4 → (sr q)[k]? = some x → x.place ≠ e.place := by
    intro q k x hq hx hc
    by_cases hqs : q = s
    · subst hqs
      exact hf (hc ▸ List.mem_map_of_mem (lmem hx))
    · have := h.hat q k x hq hx
      omega
  have hcs : ∀ (P : Nat → Nat → QE → Prop), (∀ q k x, q < 4 → (sr q)[k]? = some x → P q k x) → P s (sr s).length e → ∀ q k x, q < 4 → (va_up sr s (sr s ++ [e]) q)[k]? = some x → P q k x := by
    intro P p1 p2 q k x hq hx
    rw [vz_at] at hx
    by_cases hqs : q = s
    · subst hqs
      rw [if_pos rfl] at hx
      by_cases hk : k < (sr q).length
      · rw [List.getElem?_append_left hk] at hx
        exact p1 q k x hq hx
      · have hk2 : k = (sr q).length := by
          have := llt hx
          simp at this
          omega
        subst hk2
        simp at hx
        subst hx
        exact p2
    · rw [if_neg hqs] at hx
      exact p1 q k x hq hx
  refine ⟨fun q hq => ?_, fun q hq => ?_, hcs _ (fun q k x hq hx => ?_) ?_, fun q p hq hp1 hp2 => ?_, fun q hq => ?_, hcs _ (fun q k x hq hx => ?_) ?_, hcs _ (fun q k x hq hx i hi => ?_) d2⟩
  · rw [vz_at]
    split
    · simp; omega
    · exact h.hle q hq
  · rw [vz_at, vz_at]
    split
    · simp
    · exact h.hmany q hq
  · have h1 := h.hat q k x hq hx
    have h2 := h.hle q hq
    have h3 := llt hx
    rw [vz_at, if_neg]
    · exact h1
    · intro hc
      by_cases hqs : q = s
      · subst hqs; omega
      · omega
  · exact ⟨vz_same _ _ _, hp.1, hp.2⟩
  · rw [vz_at, vz_at]
    by_cases hpe : p = e.place
    · have hqs : q = s := by omega
      rw [if_pos hpe, if_pos hqs, decide_eq_true (by rw [List.map_append, List.mem_append]; right; simp [hpe])]
      rfl
    · rw [if_neg hpe, h.hused q p hq hp1 hp2]
      by_cases hqs : q = s
      · rw [if_pos hqs, hqs]
        congr 2
        rw [List.map_append, List.mem_append]
        simp [hpe]
      · rw [if_neg hqs]
  · rw [vz_at]
    split
    · rename_i hqs
      rw [List.map_append, List.nodup_append]
      refine ⟨h.hnd s hs, by simp, ?_⟩
      intro a ha b hb
      simp at hb
      subst hb
      intro hc
      exact hf (hc ▸ ha)
    · exact h.hnd q hq
  · have h1 := h.hent q k x hq hx
    have h2 := hne q k x hq hx
    rw [vz_ne _ h2, vz_ne _ h2, vz_ne _ h2, vz_ne _ h2]
    exact h1
  · exact ⟨vz_same _ _ _, by rw [vz_same, hg], vz_same _ _ _, vz_same _ _ _⟩
  · have h2 := hne q k x hq hx
    have h3 := leN_le x.con
    have h4 := d1 (16 * x.place + i) (by omega)
    rw [h4.1, h4.2]
    exact h.hdat q k x hq hx i hi
theorem VRg.some {at_ sz : aI} {g : Nat → Nat → Option (Nat × Nat)} (h : VRg at_ sz g) {s j : Nat} (hj : j < 64) (a b : Nat) : VRg (va_up at_ (64 * s + j) (nI a)) (va_up sz (64 * s + j) (nI b)) (va_up g s (va_up (g s) j (some (a, b)))) := by
  intro q k hq hk
  have h1 := h q k hq hk
  by_cases hqs : q = s
  · subst hqs
    rw [vz_same]
    by_cases hkj : k = j
    · subst hkj
      rw [vz_same, vz_same, vz_same]
      exact ⟨rfl, fun z hz => by cases hz; rfl⟩
    · rw [vz_ne _ hkj, vz_ne _ (show 64 * q + k ≠ 64 * q + j by omega), vz_ne _ (show 64 * q + k ≠ 64 * q + j by omega)]
      exact h1
  · rw [vz_ne _ hqs, vz_ne _ (show 64 * q + k ≠ 64 * s + j by omega), vz_ne _ (show 64 * q + k ≠ 64 * s + j by omega)]
    exact h1
