/-! THE CLASS: the crossbar moves data -/
theorem fi_filter {α : Type} (p q : α → Bool) : ∀ l : List α, (l.filter p).findIdx? q = (l.findIdx? (fun x => p x && q x)).map fun k => (l.take k).countP p := by
  intro l
  induction l with
  | nil => rfl
  | cons x l ih =>
    rw [List.filter_cons, List.findIdx?_cons]
    cases hp : p x with
    | true =>
      simp only [if_true, Bool.true_and]
      rw [List.findIdx?_cons]
      cases hq : q x with
      | true => simp
      | false =>
        simp only [Bool.false_eq_true, if_false]
        rw [ih, Option.map_map, Option.map_map]
        congr 1
        funext k
        simp only [Function.comp, List.take_succ_cons, List.countP_cons, hp, if_true]
    | false =>
      simp only [Bool.false_eq_true, if_false, Bool.false_and]
      rw [ih, Option.map_map]
      congr 1
      funext k
      simp only [Function.comp, List.take_succ_cons, List.countP_cons, hp, Bool.false_eq_true, if_false, Nat.add_zero]
theorem get_filter {α : Type} {p : α → Bool} : ∀ {l : List α} {k : Nat} {u : α}, l[k]? = some u → p u = true → (l.filter p)[(l.take k).countP p]? = some u := by
  intro l
  induction l with
  | nil => intro k u h; simp at h
  | cons x l ih =>
    intro k u h hp
    cases k with
    | zero =>
      simp at h
      subst h
      rw [List.filter_cons, if_pos hp]
      rfl
    | succ k =>
      have h' : l[k]? = some u := h
      rw [List.filter_cons, List.take_succ_cons, List.countP_cons]
      have := ih h' hp
      by_cases hx : p x = true
      · rw [if_pos hx, if_pos hx, List.getElem?_cons_succ]; exact this
      · rw [if_neg hx, if_neg hx, Nat.add_zero]; exact this
theorem set_filter {α : Type} {p : α → Bool} : ∀ {l : List α} {k : Nat} {u u' : α}, l[k]? = some u → p u = true → p u' = true → (l.set k u').filter p = (l.filter p).set ((l.take k).countP p) u' := by
  intro l
  induction l with
  | nil => intro k u u' h; simp at h
  | cons x l ih =>
    intro k u u' h hp hp'
    cases k with
    | zero =>
      simp at h
      subst h
      rw [List.set_cons_zero, List.filter_cons, List.filter_cons, if_pos hp, if_pos hp']
      rfl
    | succ k =>
      have h' : l[k]? = some u := h
      rw [List.set_cons_succ, List.filter_cons, List.filter_cons, List.take_succ_cons, List.countP_cons, ih h' hp hp']
      by_cases hx : p x = true
      · rw [if_pos hx, if_pos hx, if_pos hx, List.set_cons_succ]
      · rw [if_neg hx, if_neg hx, if_neg hx, Nat.add_zero]
theorem set_filter_ne {α : Type} {p : α → Bool} : ∀ {l : List α} {k : Nat} {u u' : α}, l[k]? = some u → p u = false → p u' = false → (l.set k u').filter p = l.filter p := by
  intro l
  induction l with
  | nil => intro k u u' h; simp at h
  | cons x l ih =>
    intro k u u' h hp hp'
    cases k with
    | zero =>
      simp at h
      subst h
      rw [List.set_cons_zero, List.filter_cons, List.filter_cons, hp, hp']
      simp
    | succ k =>
      have h' : l[k]? = some u := h
      rw [List.set_cons_succ, List.filter_cons, List.filter_cons, ih h' hp hp']
/-- nobody waits before -/
theorem c_next_Lp {Γ : gm_T} {φ : ph_T} {w t q : Nat} {S : XS} (h : CSw Γ φ w S) (ht : t < 8) (hq : q < 2 ^ 30) : ∀ (d i fu : Nat), i + d = S.nm → d < fu →
    f_Switch_isNextFor_L2 Γ fu φ w (nI t) (nI q) (nI i) = some (bI (!(List.range d).any fun k => (S.uw.filter (isM (i + k))).any (isWB q t)), φ) := by
  have h4 := h.lay.nm4
  intro d
  induction d with
  | zero =>
    intro i fu hd hfu
    match fu, hfu with
    | fu + 1, _ =>
      unfold f_Switch_isNextFor_L2
      simp (disch := first | assumption | omega) only [h.lay.o, if_true, h.ob.nm, zI_le]
      rw [if_pos (by omega), if_pos (by decide)]
      rfl
  | succ d ih =>
    intro i fu hd hfu
    match fu, hfu with
    | fu + 1, hfu =>
      have hr := ih (i + 1) fu (by omega) (by omega)
      have hu := h.uw i (by omega)
      have hw := c_waits hu hq ht
      have hany : ((List.range (d + 1)).any fun k => (S.uw.filter (isM (i + k))).any (isWB q t)) = ((S.uw.filter (isM i)).any (isWB q t) || (List.range d).any fun k => (S.uw.filter (isM (i + 1 + k))).any (isWB q t)) := by
        rw [List.range_succ_eq_map, List.any_cons, List.any_map]
        congr 2
        funext k
        simp only [Function.comp]
        rw [show i + (k + 1) = i + 1 + k by omega]
      rw [hany]
      unfold f_Switch_isNextFor_L2
      simp (disch := first | assumption | omega) only [h.lay.o, if_true, h.ob.nm, zI_le, h.lay.f6, h.lay.g6, Option.bind_some, zix, h.lay.uw i (show i < S.nm by omega), hu.o, hw, bI_eqz]
      rw [if_neg (by omega), show nI i + (1 : Int32) = nI (i + 1) from by rw [zI_1, zI_add], hr]
      cases hc : (S.uw.filter (isM i)).any (isWB q t) with
      | false => simp
      | true => simp [bI_f]; rfl
theorem next_iff {l : List UE} {k t nm : Nat} {u : UE} (hs : l.Pairwise (fun a b => a.num < b.num)) (hm : ∀ x ∈ l, x.m < nm) (hk : l[k]? = some u) (ht : u.tg = t) (hl : 0 < u.left) : (((List.range nm).any fun m => (l.filter (isM m)).any (isWB u.num t)) = false) ↔ l.findIdx? (fun x => decide (x.tg = t) && decide (0 < x.left)) = some k := by
  have hlt := (List.getElem?_eq_some_iff.mp hk).1
  have huk := (List.getElem?_eq_some_iff.mp hk).2
  have hA : ((List.range nm).any fun m => (l.filter (isM m)).any (isWB u.num t)) = l.any (isWB u.num t) := by
    rw [Bool.eq_iff_iff, List.any_eq_true, List.any_eq_true]
    constructor
    · rintro ⟨m, _, h2⟩
      rw [List.any_eq_true] at h2
      obtain ⟨x, hx, hw⟩ := h2
      exact ⟨x, (List.mem_filter.mp hx).1, hw⟩
    · rintro ⟨x, hx, hw⟩
      refine ⟨x.m, List.mem_range.mpr (hm x hx), ?_⟩
      rw [List.any_eq_true]
      exact ⟨x, List.mem_filter.mpr ⟨hx, by unfold isM; simp⟩, hw⟩
  rw [hA, List.any_eq_false, List.findIdx?_eq_some_iff_getElem]
  rw [List.pairwise_iff_getElem] at hs
  constructor
  · intro h
    refine ⟨hlt, ?_, ?_⟩
    · rw [huk]; simp [ht, hl]
    · intro j hj hc
      have hjl : j < l.length := by omega
      have hn := hs j k hjl hlt hj
      rw [huk] at hn
      have := h l[j] (List.getElem_mem hjl)
      unfold isWB at this
      simp only [Bool.and_eq_true, decide_eq_true_eq] at hc this
      exact this ⟨hc, hn⟩
  · rintro ⟨_, _, h3⟩ x hx hw
    obtain ⟨j, hj, ej⟩ := List.getElem_of_mem hx
    unfold isWB at hw
    simp only [Bool.and_eq_true, decide_eq_true_eq] at hw
    have hjk : j < k := by
      by_cases e1 : j < k
      · exact e1
      · by_cases e2 : j = k
        · subst e2
          rw [huk] at ej
          rw [← ej] at hw
          exact absurd hw.2 (Nat.lt_irrefl _)
        · have := hs k j hlt hj (by omega)
          rw [huk, ej] at this
          omega
    have := h3 j hjk
    rw [ej] at this
    simp [hw.1.1, hw.1.2] at this
theorem c_movD {Γ : gm_T} {φ : ph_T} {w m : Nat} {S : XS} (h : CSw Γ φ w S) (hB : Bd S) (hm : m < S.nm) (hs : S.uw.Pairwise (fun a b => a.num < b.num)) (hU : ∀ u ∈ S.uw, u.m < S.nm ∧ u.tg < S.ns + 1) :
    ∃ φ', f_Switch_moveData Γ φ w (nI m) = some ((), φ') ∧ CSw Γ φ' w (S.movD m) ∧ Fr w (w + swZ S.nm S.ns) φ φ' := by
  have h4 := h.lay.nm4
  have h5 := h.lay.ns4
  have eA : swA w S.nm S.ns = w + 24 + 20 * S.nm + 20 * S.ns := rfl
  have eZ : swZ S.nm S.ns = 31 + 30 * S.nm + 20 * S.ns := rfl
  have hokM : okR S.nm S.ns (5 * m + 1) := Or.inl (by omega)
  have hrM := h.row (5 * m + 1) hokM
  have hu := h.uw m hm
  have hle8 := hu.le
  have hfi := c_firstWD hu
  rw [fi_filter] at hfi
  have hp1 : (fun x : UE => isM m x && decide (0 < x.left)) = (fun e => decide (e.m = m) && decide (0 < e.left)) := rfl
  rw [hp1] at hfi
  have hone : (1 : Int32) = nI 1 := rfl
  unfold f_Switch_moveData f_Switch_moveData_L33 f_Switch_moveData_L76
  rw [if_pos h.lay.o, hone, c_ofMaster h hm (by omega), Option.bind_some]
  dsimp only
  rw [h.lay.f6, Option.bind_some, h.lay.g6, Option.bind_some, zix (by omega), Option.bind_some, h.lay.uw m hm, Option.bind_some, if_pos hu.o, hfi, Option.bind_some]
  dsimp only
  simp only [Option.bind_some, hrM.o, if_true, c_holds hrM, bI_eqz]
  unfold XS.movD
  cases hk : S.uw.findIdx? (fun e => decide (e.m = m) && decide (0 < e.left)) with
  | none =>
    refine ⟨φ, ?_, ?_, Fr.refl _ _ _⟩
    · rfl
    · cases S.row (5 * m + 1) <;> exact h
  | some k =>
    obtain ⟨u, hu1, _, hu2⟩ := fi_some hk
    simp only [Bool.and_eq_true, decide_eq_true_eq] at hu2
    have hil : (S.uw.take k).countP (isM m) < (S.uw.filter (isM m)).length := by
      have := get_filter (p := isM m) hu1 (by unfold isM; simp [hu2.1])
      exact (List.getElem?_eq_some_iff.mp this).1
    rw [if_neg (show ¬ oI (Option.map (fun k => (S.uw.take k).countP (isM m)) (some k)) m1 = (-nI 1 : Int32) from zI_ne_m1 (show (S.uw.take k).countP (isM m) < 2 ^ 31 by omega))]
    simp only [Option.map_some, oI]
    cases hr : S.row (5 * m + 1) with
    | nil =>
      refine ⟨φ, ?_, h, Fr.refl _ _ _⟩
      simp
    | cons e l =>
      rw [hr] at hrM
      have hgf := get_filter (p := isM m) hu1 (by unfold isM; simp [hu2.1])
      generalize hi : (S.uw.take k).countP (isM m) = i at *
      obtain ⟨e0, e1, e2, e3⟩ := hu.e i u hgf
      obtain ⟨bb0, bb1, bb2, bb3⟩ := hu.b i u hgf
      have htg := (hU u (lmem hu1)).2
      have hokT : okR S.nm S.ns (5 * (4 + u.tg) + 1) := Or.inr (by omega)
      have hrT := h.row (5 * (4 + u.tg) + 1) hokT
      have hroom : f_Row_hasRoom Γ φ (rA w S.nm (5 * (4 + u.tg) + 1)) = some (bI (S.hasRm (5 * (4 + u.tg) + 1)), φ) := c_hasRoom hrT
      have hnx : f_Switch_isNextFor Γ φ w (nI u.tg) (nI u.num) = some (bI (!(List.range S.nm).any fun k => (S.uw.filter (isM k)).any (isWB u.num u.tg)), φ) := by
        unfold f_Switch_isNextFor
        rw [zI_0, c_next_Lp h (by omega) bb3 S.nm 0 jF (by omega) (by unfold jF; omega)]
        simp only [Nat.zero_add]
      have hnxt := next_iff (nm := S.nm) hs (fun x hx => (hU x hx).1) hu1 rfl hu2.2
      have hTo : f_Switch_ofTarget Γ φ w (nI u.tg) (nI 1) = some (some (rA w S.nm (5 * (4 + u.tg) + 1)), φ) := c_ofTarget h htg (by omega)
      simp (disch := first | assumption | omega) only [List.length_cons, Nat.zero_lt_succ, decide_true, Bool.true_eq_false, if_false, hu.f1, hu.g1, Option.bind_some, zix, e1, hTo, hrT.o, if_true, hroom, bI_eqz, hu.f3, hu.g3, e3, hnx, Bool.not_eq_false']
      rw [hu1]
      dsimp only
      cases hrm : S.hasRm (5 * (4 + u.tg) + 1) with
      | false =>
        simp only [if_true, Bool.false_eq_true, false_and, if_false]
        exact ⟨φ, rfl, h, Fr.refl _ _ _⟩
      | true =>
        simp only [Bool.true_eq_false, if_false, true_and]
        cases hany : ((List.range S.nm).any fun k => (S.uw.filter (isM k)).any (isWB u.num u.tg)) with
        | true =>
          have hnn : ¬ S.uw.findIdx? (fun x => decide (x.tg = u.tg) && decide (0 < x.left)) = some k := fun hh => by
            rw [hnxt.mpr hh] at hany; cases hany
          rw [if_neg hnn]
          refine ⟨φ, ?_, h, Fr.refl _ _ _⟩
          simp
        | false =>
          have hyy := hnxt.mp hany
          rw [if_pos hyy]
          obtain ⟨φ1, φ2, b1, b2, b3, b4, b5⟩ := c_mvRow (i := 5 * m + 1) (j := 5 * (4 + u.tg) + 1) (e := e) (l := l) (x := ⟨e.c, e.r, S.time⟩) h hokM hokT (by omega) hr hrm (nI 0) (fun hh => by
            have : tmF (5 * (4 + u.tg) + 1) = false := by unfold tmF; rw [decide_eq_false (show ¬ 5 * (4 + u.tg) + 1 < 20 by omega)]; rfl
            rw [this] at hh; cases hh)
          have b1' : f_Row_put Γ φ (rA w S.nm (5 * (4 + u.tg) + 1)) e.c e.r (nI 0) = some ((), φ1) := b1
          have hu' : CUw Γ φ2 (swA w S.nm S.ns + 2 + 10 * m) (S.uw.filter (isM m)) := hu.sm (b4.sm (by omega))
          have e2' : φ2.1 (swA w S.nm S.ns + 2 + 10 * m + 3) i = nI u.left := (hu'.e i u hgf).2.2.1
          have f3 : Fr (swA w S.nm S.ns + 2 + 10 * m) (swA w S.nm S.ns + 7 + 10 * m) φ2 (uI φ2 (swA w S.nm S.ns + 2 + 10 * m + 3) i (nI (u.left - 1))) := fr_uI (Fr.refl _ _ _) (by omega) _ _
          have hmf : ∀ m', isM m' (u.w_left (u.left - 1)) = isM m' u := fun m' => rfl
          have hum : isM m u = true := by unfold isM; simp [hu2.1]
          have hcu : CUw Γ (uI φ2 (swA w S.nm S.ns + 2 + 10 * m + 3) i (nI (u.left - 1))) (swA w S.nm S.ns + 2 + 10 * m) ((S.uw.set k (u.w_left (u.left - 1))).filter (isM m)) := by
            rw [set_filter hu1 hum (by rw [hmf]; exact hum), hi]
            refine ⟨hu'.o, hu'.f0, hu'.f1, hu'.f2, hu'.f3, hu'.g0, hu'.g1, hu'.g2, hu'.g3, ?_, by rw [List.length_set]; exact hu'.le, ?_, ?_⟩
            · rw [uI_d (by omega), List.length_set]; exact hu'.n
            · intro j x hx
              by_cases hji : j = i
              · subst hji
                rw [List.getElem?_set_self hil] at hx
                cases hx
                obtain ⟨v0, v1, v2, v3⟩ := hu'.e j u hgf
                simp (disch := first | assumption | omega) only [uI_1, uI_2, uI_3, uL_1, uL_2, uL_3, vz_at, Nat.add_left_cancel_iff, Nat.reduceEqDiff, if_false, zr1, zr2, if_true]
                exact ⟨v0, v1, trivial, v3⟩
              · rw [List.getElem?_set_ne (fun hh => hji hh.symm)] at hx
                obtain ⟨v0, v1, v2, v3⟩ := hu'.e j x hx
                simp (disch := first | assumption | omega) only [uI_1, uI_2, uI_3, uL_1, uL_2, uL_3, vz_at, Nat.add_left_cancel_iff, Nat.reduceEqDiff, if_false, zr1, zr2, if_true]
                rw [if_neg hji]
                exact ⟨v0, v1, v2, v3⟩
            · intro j x hx
              by_cases hji : j = i
              · subst hji
                rw [List.getElem?_set_self hil] at hx
                cases hx
                exact ⟨bb0, bb1, by show u.left - 1 ≤ 16; omega, bb3⟩
              · rw [List.getElem?_set_ne (fun hh => hji hh.symm)] at hx
                exact hu'.b j x hx
          have h3 := b3.uwU (l := S.uw.set k (u.w_left (u.left - 1))) hm f3 hcu (fun m' hne => by
            refine set_filter_ne hu1 ?_ ?_
            · unfold isM; simp [hu2.1, fun hh : m = m' => hne hh.symm]; intro hh; exact hne hh.symm
            · rw [hmf]; unfold isM; simp [hu2.1]; intro hh; exact hne hh.symm)
          refine ⟨uI φ2 (swA w S.nm S.ns + 2 + 10 * m + 3) i (nI (u.left - 1)), ?_, ?_, (b4.mono (by omega) (by omega)).trans (f3.mono (by omega) (by omega))⟩
          · have hf2 : φ2.2.2 (swA w S.nm S.ns + 2 + 10 * m) 2 = some (swA w S.nm S.ns + 2 + 10 * m + 3) := hu'.f2
            simp (disch := first | assumption | omega) only [Bool.false_eq_true, if_false, c_firstContent hrM, c_firstRest hrM, Option.bind_some, b1', b2, hf2, hu.g2, zix, e2', zI_lit, zI_sub]
          · refine h3.cg rfl rfl rfl rfl rfl rfl rfl rfl ?_ rfl rfl rfl rfl rfl rfl rfl
            show va_up (va_up S.row (5 * (4 + u.tg) + 1) (S.row (5 * (4 + u.tg) + 1) ++ [(⟨e.c, e.r, S.time⟩ : RE)])) (5 * m + 1) (va_up S.row (5 * (4 + u.tg) + 1) (S.row (5 * (4 + u.tg) + 1) ++ [(⟨e.c, e.r, S.time⟩ : RE)]) (5 * m + 1)).tail = va_up (va_up S.row (5 * m + 1) (S.row (5 * m + 1)).tail) (5 * (4 + u.tg) + 1) (va_up S.row (5 * m + 1) (S.row (5 * m + 1)).tail (5 * (4 + u.tg) + 1) ++ [(⟨e.c, e.r, S.time⟩ : RE)])
            rw [vz_ne _ (show 5 * m + 1 ≠ 5 * (4 + u.tg) + 1 by omega), vz_ne _ (show 5 * (4 + u.tg) + 1 ≠ 5 * m + 1 by omega), row_comm _ (by omega)]
