/-! THE REFERENCE's slaves: a write is done -/
theorem VSw.upd {many at_ used : aI} {bur : aL} {bea don res bea' don' res' : aI} {dat dat' : aL} {str str' : aI} {sw : Nat → List WE} (h : VSw many at_ used bur bea don res dat str sw) {s i : Nat} {e e' : WE} (hs : s < 4) (he : (sw s)[i]? = some e) (q1 : e'.place = e.place) (q2 : e'.con = e.con)
    (b1 : ∀ p, p ≠ e.place → bea' p = bea p ∧ don' p = don p ∧ res' p = res p) (b2 : bea' e.place = nI e'.got) (b3 : don' e.place = if e'.got = leN e'.con then nI e'.since else m1) (b4 : e'.got = leN e'.con → res' e.place = nI e'.resp)
    (d1 : ∀ p k, p ≠ e.place → k < 16 → dat' (16 * p + k) = dat (16 * p + k) ∧ str' (16 * p + k) = str (16 * p + k)) (d2 : ∀ k, k < e'.got → k < 16 → dat' (16 * e.place + k) = e'.dat k ∧ str' (16 * e.place + k) = nI (rSt (e'.rst k))) :
    VSw many at_ used bur bea' don' res' dat' str' (va_up sw s ((sw s).set i e')) := by
  have hne : ∀ q k x, q < 4 → (sw q)[k]? = some x → (q ≠ s ∨ k ≠ i) → x.place ≠ e.place := by
    intro q k x hq hx hd hc
    have h1 := h.hat q k x hq hx
    have h2 := h.hat s i e hs he
    by_cases hqs : q = s
    · subst hqs
      have := nd_pl (h.hnd q hs) hx he hc
      rcases hd with hd | hd <;> omega
    · omega
  have hcs : ∀ (P : Nat → Nat → WE → Prop), (∀ q k x, q < 4 → (sw q)[k]? = some x → (q ≠ s ∨ k ≠ i) → P q k x) → P s i e' → ∀ q k x, q < 4 → (va_up sw s ((sw s).set i e') q)[k]? = some x → P q k x := by
    intro P p1 p2 q k x hq hx
    rw [vz_at] at hx
    by_cases hqs : q = s
    · subst hqs
      rw [if_pos rfl] at hx
      rcases set_at hx with ⟨a, b, _⟩ | ⟨a, b⟩
      · rw [a, b]; exact p2
      · exact p1 q k x hq b (Or.inr a)
    · rw [if_neg hqs] at hx
      exact p1 q k x hq hx (Or.inl hqs)
  have hmp : ((sw s).set i e').map WE.place = (sw s).map WE.place := by
    rw [List.map_set]
    apply List.ext_getElem?
    intro k
    by_cases hk : i = k
    · subst hk
      have hl := llt he
      rw [List.getElem?_set_self (by simpa using hl)]
      simp [he, q1]
    · rw [List.getElem?_set_ne hk]
  refine ⟨fun q hq => ?_, fun q hq => ?_, hcs _ (fun q k x hq hx hd => h.hat q k x hq hx) ?_, fun q p hq hp1 hp2 => ?_, fun q hq => ?_, hcs _ (fun q k x hq hx hd => ?_) ?_, hcs _ (fun q k x hq hx hd j hj hj6 => ?_) ?_⟩
  · rw [vz_at]
    split
    · rw [List.length_set]; exact h.hle s hs
    · exact h.hle q hq
  · rw [vz_at]
    split
    · rename_i hqs
      rw [List.length_set, hqs]; exact h.hmany s hs
    · exact h.hmany q hq
  · rw [q1]; exact h.hat s i e hs he
  · rw [h.hused q p hq hp1 hp2, vz_at]
    split
    · rename_i hqs
      rw [hmp, hqs]
    · rfl
  · rw [vz_at]
    split
    · rw [hmp]; exact h.hnd s hs
    · exact h.hnd q hq
  · have h1 := h.hent q k x hq hx
    have h2 := b1 x.place (hne q k x hq hx hd)
    rw [h2.1, h2.2.1, h2.2.2]
    exact h1
  · have h1 := h.hent s i e hs he
    rw [q1]
    exact ⟨by rw [q2]; exact h1.1, b2, b3, b4⟩
  · have h2 := d1 x.place j (hne q k x hq hx hd) hj6
    rw [h2.1, h2.2]
    exact h.hdat q k x hq hx j hj hj6
  · rw [q1]; exact d2
theorem z8 : (8 : Int32) = nI 8 := rfl
/-- is a byte of it spoilt -/
def spF2 (spo : Nat → Bool) (x st : Nat) : Nat → Nat → Bool → Bool
  | 0, _, b => b
  | d + 1, i, b => spF2 spo x st d (i + 1) (b || (Nat.testBit st i && spo (x - x % 8 + i)))
theorem spF2_8 (spo : Nat → Bool) (x st : Nat) (b : Bool) : spF2 spo x st 8 0 b = (b || spoB spo x st) := by
  unfold spoB
  simp [spF2, List.range, List.range.loop, Bool.or_assoc]
def bdF (spo : Nat → Bool) (e : WE) : Nat → Nat → Bool → Bool
  | 0, _, b => b
  | d + 1, k, b => bdF spo e d (k + 1) (b || spoB spo (baN e.con k) (rSt (e.rst k)))
theorem bdF_eq (spo : Nat → Bool) (e : WE) : ∀ d k b, bdF spo e d k b = (b || (List.range' k d).any fun k => spoB spo (baN e.con k) (rSt (e.rst k))) := by
  intro d
  induction d with
  | zero => intro k b; simp [bdF]
  | succ d ih =>
    intro k b
    rw [bdF, ih, List.range'_succ, List.any_cons, Bool.or_assoc]
theorem badW_eq (spo : Nat → Bool) (e : WE) : bdF spo e (leN e.con) 0 false = badW spo e := by
  rw [bdF_eq, Bool.false_or, badW, List.range_eq_range']
theorem r_dw29 {Γ : gm_T} {φ : ph_T} {r : Nat} {S : XS} (h : RV Γ φ r S) {s : Nat} {c : Int64} {p k st : Nat} (hr : ruN c = 0) (hp : p < 16) (hk : k < leN c) (hst : φ.1 (r + 56) (16 * p + k) = nI st) (hst2 : st < 256) (K : ph_T → Nat → Int32 → Int32 → Int64 → Int32 → Int32 → Int32 → Option (Unit × ph_T)) (len : Int32) : ∀ d i b fu, i + d = 8 → d < fu →
    f_Ref_doWrite_L29 Γ K fu φ r (nI s) (nI p) c len (bI b) (nI k) (nI i) = K φ r (nI s) (nI p) c len (bI (spF2 S.spo (baN c k) st d i b)) (nI (k + 1)) := by
  have hle := leN_le c
  have hba := ba_ok hr hk
  intro d
  induction d with
  | zero =>
    intro i b fu hd hfu
    match fu, hfu with
    | fu + 1, _ =>
      unfold f_Ref_doWrite_L29 spF2
      rw [if_pos (by rw [z8, zI_le (by omega) (by omega)]; omega), zI_1, zI_add]
  | succ d ih =>
    intro i b fu hd hfu
    match fu, hfu with
    | fu + 1, hfu =>
      unfold f_Ref_doWrite_L29 spF2
      rw [if_neg (by rw [z8, zI_le (by omega) (by omega)]; omega)]
      unfold f_Ref_doWrite_L82 f_Ref_doWrite_L78 f_Ref_doWrite_L83
      simp only [zI_lit, zI_add, bI_eq0]
      have i0 := ih (i + 1) false fu (by omega) (by omega)
      have i1 := ih (i + 1) true fu (by omega) (by omega)
      rw [bI_f] at i0
      rw [bI_t] at i1
      cases b with
      | true =>
        rw [if_neg (by decide), i1, Bool.true_or]
      | false =>
        have hy := (h.me (baN c k - baN c k % 8 + i) (by omega)).2
        rw [if_pos rfl, if_pos h.rl.o, rf_66 h.rl, Option.bind_some, rg_66 h.rl, Option.bind_some, zI_mul, zI_add, zix (show 16 * p + k < 256 by omega), Option.bind_some, hst]
        rw [Bool.false_or]
        by_cases hb : Nat.testBit st i = true
        · rw [if_pos ((st_bit hst2 (by omega)).mpr hb), e_byteAt Γ φ (by omega) (ru_kind hr) (by omega), Option.bind_some, rf_14 h.rl, Option.bind_some, rg_14 h.rl, Option.bind_some, zix (by omega), Option.bind_some, hy, hb, Bool.true_and]
          cases S.spo (baN c k - baN c k % 8 + i) with
          | true => rw [if_neg (by decide), i1]
          | false => rw [if_pos (by rfl), i0]
        · have hb' : Nat.testBit st i = false := by simpa using hb
          rw [if_neg (fun hc => hb ((st_bit hst2 (by omega)).mp hc)), i0, hb', Bool.false_and]
theorem r_dw19 {Γ : gm_T} {φ : ph_T} {r : Nat} {S : XS} (h : RV Γ φ r S) {s i : Nat} {e : WE} (hs : s < 4) (he : (S.sw s)[i]? = some e) (hg : e.got = leN e.con) (hr : ruN e.con = 0) : ∀ d k b fu, k + d = leN e.con → d < fu →
    f_Ref_doWrite_L19 Γ fu φ r (nI s) (nI e.place) e.con (nI (leN e.con)) (bI b) (nI k) = f_Ref_doWrite_L19 Γ 1 φ r (nI s) (nI e.place) e.con (nI (leN e.con)) (bI (bdF S.spo e d k b)) (nI (leN e.con)) := by
  have hle := leN_le e.con
  have hat := h.sw.hat s i e hs he
  intro d
  induction d with
  | zero =>
    intro k b fu hd hfu
    match fu, hfu with
    | fu + 1, _ =>
      have hk : k = leN e.con := by omega
      subst hk
      rw [f_Ref_doWrite_L19, f_Ref_doWrite_L19, bdF, if_pos (Int32.le_refl _), if_pos (Int32.le_refl _)]
  | succ d ih =>
    intro k b fu hd hfu
    match fu, hfu with
    | fu + 1, hfu =>
      have hdat := (h.sw.hdat s i e hs he k (by omega) (by omega)).2
      rw [f_Ref_doWrite_L19, bdF, if_neg (by rw [zI_le (by omega) (by omega)]; omega), zI_0, r_dw29 h hr (by omega) (by omega) hdat (rSt_lt _) _ _ 8 0 b jF rfl (by unfold jF; omega), spF2_8]
      exact ih (k + 1) _ fu (by omega) (by omega)
