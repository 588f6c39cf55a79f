/-! THE REFERENCE's slaves: an address for writing comes -/
theorem free_ex {l : List Nat} {b : Nat} (hl : l.length < 4) : ∃ q, b ≤ q ∧ q < b + 4 ∧ q ∉ l := by
  by_cases h0 : b ∈ l
  · by_cases h1 : b + 1 ∈ l
    · by_cases h2 : b + 2 ∈ l
      · by_cases h3 : b + 3 ∈ l
        · exfalso
          match l, hl with
          | [], _ => cases h0
          | [x], _ => simp at h0 h1; omega
          | [x, y], _ => simp at h0 h1 h2; omega
          | [x, y, z], _ => simp at h0 h1 h2 h3; omega
        · exact ⟨b + 3, by omega, by omega, h3⟩
      · exact ⟨b + 2, by omega, by omega, h2⟩
    · exact ⟨b + 1, by omega, by omega, h1⟩
  · exact ⟨b, by omega, by omega, h0⟩
theorem freeP_ok {l : List Nat} : ∀ d p, (∃ q, p ≤ q ∧ q < p + d ∧ q ∉ l) → p ≤ freeP l p d ∧ freeP l p d < p + d ∧ freeP l p d ∉ l := by
  intro d
  induction d with
  | zero => rintro p ⟨q, h1, h2, _⟩; omega
  | succ d ih =>
    rintro p ⟨q, h1, h2, h3⟩
    unfold freeP
    by_cases hp : p ∈ l
    · rw [if_pos hp]
      have hne : q ≠ p := fun e => h3 (e ▸ hp)
      obtain ⟨a, b, c⟩ := ih (p + 1) ⟨q, by omega, by omega, h3⟩
      exact ⟨by omega, by omega, c⟩
    · rw [if_neg hp]
      exact ⟨by omega, by omega, hp⟩
theorem r_free {Γ : gm_T} {φ : ph_T} {r : Nat} {l : List Nat} {c s : Nat} (hs : s < 4) (hg : gA Γ (r + c) 2 = some 16) (hu : ∀ p, 4 * s ≤ p → p < 4 * s + 4 → φ.1 (r + c) p = bI (decide (p ∈ l))) : ∀ d p fu, 4 * s ≤ p → p + d = 4 * s + 4 → (∃ q, p ≤ q ∧ q < p + d ∧ q ∉ l) → d < fu →
    f_Ref_freePlace_L4 Γ fu φ (some (r + c)) (nI p) = some (nI (freeP l p d), φ) := by
  intro d
  induction d with
  | zero => rintro p fu _ _ ⟨q, h1, h2, _⟩ _; omega
  | succ d ih =>
    rintro p fu hp hd ⟨q, h1, h2, h3⟩ hf
    match fu, hf with
    | fu + 1, hf =>
      have hup := hu p hp (by omega)
      unfold f_Ref_freePlace_L4 freeP
      rw [Option.bind_some, hg, Option.bind_some, zix (show p < 16 by omega), Option.bind_some, hup]
      by_cases hpl : p ∈ l
      · have hne : q ≠ p := fun e => h3 (e ▸ hpl)
        rw [if_neg (by rw [decide_eq_true hpl]; decide), if_pos hpl, zI_1, zI_add]
        exact ih (p + 1) fu (by omega) (by omega) ⟨q, by omega, by omega, h3⟩ (by omega)
      · rw [if_pos (by rw [decide_eq_false hpl]; rfl), if_neg hpl]
theorem VSw.add {many at_ used : aI} {bur : aL} {bea don res : aI} {dat : aL} {str : aI} {sw : Nat → List WE} (h : VSw many at_ used bur bea don res dat str sw) {s : Nat} (hs : s < 4) (e : WE) (hg : e.got = 0) (hp : 4 * s ≤ e.place ∧ e.place < 4 * s + 4) (hf : e.place ∉ (sw s).map WE.place) (hl : (sw s).length < 4) :
    VSw (va_up many s (nI ((sw s).length + 1))) (va_up at_ (4 * s + (sw s).length) (nI e.place)) (va_up used e.place (nI 1)) (va_up bur e.place e.con) (va_up bea e.place (nI 0)) (va_up don e.place m1) res dat str (va_up sw s (sw s ++ [e])) := by
  have hpos := leN_pos e.con
  have hne : ∀ (q k : Nat) (x : WE), q < 4 → (sw q)[k]? = some x → x.place ≠ e.place := by
    intro q k x hq hx hc
    by_cases hqs : q = s
    · subst hqs
      exact hf (hc ▸ List.mem_map_of_mem (lmem hx))
    · have := h.hat q k x hq hx
      omega
  have hcs : ∀ (P : Nat → Nat → WE → Prop), (∀ q k x, q < 4 → (sw q)[k]? = some x → P q k x) → P s (sw s).length e → ∀ q k x, q < 4 → (va_up sw s (sw s ++ [e]) q)[k]? = some x → P q k x := by
    intro P p1 p2 q k x hq hx
    rw [vz_at] at hx
    by_cases hqs : q = s
    · subst hqs
      rw [if_pos rfl] at hx
      by_cases hk : k < (sw q).length
      · rw [List.getElem?_append_left hk] at hx
        exact p1 q k x hq hx
      · have hk2 : k = (sw q).length := by
          have := llt hx
          simp at this
          omega
        subst hk2
        simp at hx
        subst hx
        exact p2
    · rw [if_neg hqs] at hx
      exact p1 q k x hq hx
  refine ⟨fun q hq => ?_, fun q hq => ?_, hcs _ (fun q k x hq hx => ?_) ?_, fun q p hq hp1 hp2 => ?_, fun q hq => ?_, hcs _ (fun q k x hq hx => ?_) ?_, hcs _ (fun q k x hq hx i hi hi6 => h.hdat q k x hq hx i hi hi6) (fun i hi => by omega)⟩
  · rw [vz_at]
    split
    · simp; omega
    · exact h.hle q hq
  · rw [vz_at, vz_at]
    split
    · simp
    · exact h.hmany q hq
  · have h1 := h.hat q k x hq hx
    have h2 := h.hle q hq
    have h3 := llt hx
    rw [vz_at, if_neg]
    · exact h1
    · intro hc
      by_cases hqs : q = s
      · subst hqs; omega
      · omega
  · exact ⟨vz_same _ _ _, hp.1, hp.2⟩
  · rw [vz_at, vz_at]
    by_cases hpe : p = e.place
    · have hqs : q = s := by omega
      rw [if_pos hpe, if_pos hqs, decide_eq_true (by rw [List.map_append, List.mem_append]; right; simp [hpe])]
      rfl
    · rw [if_neg hpe, h.hused q p hq hp1 hp2]
      by_cases hqs : q = s
      · rw [if_pos hqs, hqs]
        congr 2
        rw [List.map_append, List.mem_append]
        simp [hpe]
      · rw [if_neg hqs]
  · rw [vz_at]
    split
    · rename_i hqs
      rw [List.map_append, List.nodup_append]
      refine ⟨h.hnd s hs, by simp, ?_⟩
      intro a ha b hb
      simp at hb
      subst hb
      intro hc
      exact hf (hc ▸ ha)
    · exact h.hnd q hq
  · have h1 := h.hent q k x hq hx
    have h2 := hne q k x hq hx
    rw [vz_ne _ h2, vz_ne _ h2, vz_ne _ h2]
    exact h1
  · refine ⟨vz_same _ _ _, by rw [vz_same, hg], by rw [vz_same, if_neg (by omega)], fun hc => by omega⟩
theorem VCh.sw {nums lat chb chr : aI} {S S' : XS} (h : VCh nums lat chb chr S) (q1 : S'.rnum = S.rnum) (q2 : S'.lat = S.lat) (q3 : S'.chb = S.chb) (q4 : S'.chr = S.chr) (q5 : ∀ s i e, s < 4 → S.chb s = some i → (S.sw s)[i]? = some e → ∃ e', (S'.sw s)[i]? = some e' ∧ e'.place = e.place) (q6 : ∀ s i e, s < 4 → S.chr s = some i → (S.sr s)[i]? = some e → ∃ e', (S'.sr s)[i]? = some e' ∧ e'.place = e.place) : VCh nums lat chb chr S' := by
  refine ⟨fun s hs => ?_, fun s hs => ?_, fun s i hs hi => ?_, fun s i hs hi => ?_⟩
  · rw [q1]; exact h.hnums s hs
  · rw [q2]; exact h.hlat s hs
  · rw [q3] at hi
    obtain ⟨e, he, hc⟩ := h.hchb s i hs hi
    obtain ⟨e', he', hp⟩ := q5 s i e hs hi he
    exact ⟨e', he', by rw [hc, hp]⟩
  · rw [q4] at hi
    obtain ⟨e, he, hc⟩ := h.hchr s i hs hi
    obtain ⟨e', he', hp⟩ := q6 s i e hs hi he
    exact ⟨e', he', by rw [hc, hp]⟩
def newW (c : Int64) (p : Nat) : WE := ⟨c, 0, fun _ => 0, fun _ => 0, 0, 0, p⟩
theorem r_writeCame {Γ : gm_T} {φ : ph_T} {r : Nat} {S : XS} (h : RV Γ φ r S) {s : Nat} (hs : s < 4) (c : Int64) (hl : (S.sw s).length < 4) :
    ∃ φ', f_Ref_writeCame Γ φ r (nI s) c = some ((), φ') ∧ RV Γ φ' r (S.w_sw (va_up S.sw s (S.sw s ++ [newW c (freeP ((S.sw s).map WE.place) (4 * s) 4)]))) ∧ RFr r [48, 49, 50, 51, 52, 53] φ φ' := by
  have hex := free_ex (l := (S.sw s).map WE.place) (b := 4 * s) (by simpa using hl)
  have hfr := r_free (Γ := Γ) (φ := φ) (r := r) (l := (S.sw s).map WE.place) (c := 50) hs (rg_60 h.rl) (fun p h1 h2 => h.sw.hused s p hs h1 h2) 4 (4 * s) jF (Nat.le_refl _) rfl hex (by unfold jF; omega)
  obtain ⟨p1, p2, p3⟩ := freeP_ok 4 (4 * s) hex
  generalize hq : freeP ((S.sw s).map WE.place) (4 * s) 4 = q at *
  have hmm := h.sw.hmany s hs
  have hv := VSw.add h.sw hs (newW c q) rfl ⟨p1, p2⟩ p3 hl
  have f : RFr r [48, 49, 50, 51, 52, 53] φ (uI (uI (uL (uI (uI (uI φ (r + 50) q (nI 1)) (r + 49) (4 * s + (S.sw s).length) (nI q)) (r + 48) s (nI ((S.sw s).length + 1))) (r + 51) q c) (r + 52) q (nI 0)) (r + 53) q m1) := by repeat (first | exact RFr.refl _ _ _ | refine RFr.uI ?_ (by decide) _ _ | refine RFr.uL ?_ (by decide) _ _ | refine rfr_uO ?_ (by decide) _ _)
  refine ⟨_, ?_, ?_, f⟩
  · unfold f_Ref_writeCame f_Ref_freePlace
    simp only [h.rl.o, if_true, rf_60 h.rl, zI_lit, zI_mul, hfr, Option.bind_some, rg_60 h.rl, zix (show q < 16 by omega), z_or1, rf_58 h.rl, rg_58 h.rl, zix hs, rf_59 h.rl, rg_59 h.rl, rf_61 h.rl, rg_61 h.rl, rf_62 h.rl, rg_62 h.rl, rf_63 h.rl, rg_63 h.rl, ↓zm1]
    simp (disch := first | assumption | omega) only [uI_s, uI_d, uI_2, uI_3, uL_1, uL_s, uL_d, uL_3, hmm, zI_add, zix, Option.bind_some, or_true, if_true]
  · have hch : VCh (φ.1 (r + 66)) (φ.1 (r + 67)) (φ.1 (r + 68)) (φ.1 (r + 69)) (S.w_sw (va_up S.sw s (S.sw s ++ [newW c q]))) := by
      refine VCh.sw h.ch rfl rfl rfl rfl (fun s' i e hs' _ he => ⟨e, ?_, rfl⟩) (fun s' i e hs' _ he => ⟨e, he, rfl⟩)
      show (va_up S.sw s (S.sw s ++ [newW c q]) s')[i]? = some e
      rw [vz_at]
      split
      · rename_i hss
        subst hss
        rw [List.getElem?_append_left (llt he)]
        exact he
      · exact he
    exact ⟨(RL.up h.rl (congrFun f.1 r)), (by rw [f.o (by decide)]; exact ⟨h.sc.nm, h.sc.ns, h.sc.lim, h.sc.pol, h.sc.whole, h.sc.time, h.sc.tk, h.sc.wm, h.sc.rm, h.sc.db, h.sc.er⟩), (by rw [f.i 1 (by decide)]; exact h.pg), (by rw [f.i 2 (by decide)]; exact h.mp), (by rw [f.i 3 (by decide)]; exact h.sp), (by rw [f.i 4 (by decide)]; exact h.ea), (by rw [f.i 5 (by decide)]; exact h.de), (by rw [f.i 6 (by decide)]; exact h.wa), (by rw [f.i 7 (by decide), f.i 8 (by decide)]; exact h.me), (by rw [f.i 9 (by decide), f.i 10 (by decide), f.i 11 (by decide), f.i 12 (by decide), f.i 13 (by decide), f.i 14 (by decide), f.i 15 (by decide), f.i 16 (by decide), f.i 17 (by decide), f.i 18 (by decide), f.i 20 (by decide), f.i 21 (by decide), f.i 22 (by decide), f.i 23 (by decide), f.i 24 (by decide), f.l 19 (by decide), f.l 25 (by decide)]; exact h.tk), (by rw [f.i 26 (by decide), f.i 27 (by decide), f.l 28 (by decide), f.i 29 (by decide)]; exact h.wi), (by rw [f.i 31 (by decide)]; exact h.tr), (by rw [f.l 32 (by decide), f.i 33 (by decide), f.i 34 (by decide), f.i 35 (by decide)]; exact h.row), (by rw [f.i 36 (by decide), f.i 37 (by decide), f.i 38 (by decide), f.i 39 (by decide)]; exact h.uw), (by rw [f.i 40 (by decide), f.i 41 (by decide), f.i 42 (by decide)]; exact h.ur), (by rw [f.i 43 (by decide), f.i 44 (by decide), f.i 45 (by decide), f.i 46 (by decide), f.i 47 (by decide)]; exact ⟨h.la.haw, h.la.har, h.la.hb, h.la.hg, h.la.hinn⟩), (by simp (disch := first | assumption | omega) only [uI_s, uI_d, uI_2, uI_3, uL_1, uL_s, uL_d, uL_3]; exact hv), (by rw [f.i 57 (by decide), f.i 58 (by decide), f.i 59 (by decide), f.l 60 (by decide), f.i 61 (by decide), f.i 62 (by decide), f.i 63 (by decide), f.l 64 (by decide), f.i 65 (by decide)]; exact h.sr), (by rw [f.i 66 (by decide), f.i 67 (by decide), f.i 68 (by decide), f.i 69 (by decide)]; exact hch), (by rw [f.i 70 (by decide), f.i 71 (by decide)]; exact h.rg), (by unfold maOf; rw [f.i 72 (by decide), f.l 73 (by decide), f.i 74 (by decide), f.i 75 (by decide), f.i 76 (by decide), f.i 77 (by decide), f.i 78 (by decide), f.i 79 (by decide), f.i 80 (by decide), f.i 81 (by decide), f.l 82 (by decide), f.i 83 (by decide), f.i 84 (by decide), f.i 85 (by decide), f.l 86 (by decide), f.i 87 (by decide)]; exact h.mo), (by rw [f.i 88 (by decide), f.i 89 (by decide), f.l 90 (by decide), f.i 91 (by decide)]; exact h.wt)⟩
