/-! THE FACE: a request, the reference's side -/
theorem r_rq162 {Γ : gm_T} {φ : ph_T} {r : Nat} {S : XS} (h : RV Γ φ r S) {m : Nat} (hm : m < 4) (wr : Bool) (X2 X3 X4 : Int32) (X5 : Int64) (X7 : Int32) (X8 : Int64) : ∀ (d t n fu : Nat), t + d = S.tk.length → d < fu →
    f_Ref_request_L162 Γ fu φ r (nI m) X2 X3 X4 X5 X7 X8 (bI wr) (nI n) (nI t) = f_Ref_request_L162 Γ 1 φ r (nI m) X2 X3 X4 X5 X7 X8 (bI wr) (nI (n + (S.tk.drop t).countP (isUns m wr))) (nI S.tk.length) := by
  have hle := h.tk.hle
  intro d
  induction d with
  | zero =>
    intro t n fu hd hfu
    match fu, hfu with
    | fu + 1, _ =>
      have ht : t = S.tk.length := by omega
      subst ht
      rw [List.drop_length, List.countP_nil, Nat.add_zero]
      show f_Ref_request_L162 Γ (fu + 1) φ r (nI m) X2 X3 X4 X5 X7 X8 (bI wr) (nI n) (nI S.tk.length) = f_Ref_request_L162 Γ (0 + 1) φ r (nI m) X2 X3 X4 X5 X7 X8 (bI wr) (nI n) (nI S.tk.length)
      simp only [f_Ref_request_L162]
      rw [if_pos h.rl.o, if_pos h.rl.o, h.sc.tk, if_pos (Int32.le_refl _), if_pos (Int32.le_refl _)]
  | succ d ih =>
    intro t n fu hd hfu
    match fu, hfu with
    | fu + 1, hfu =>
      obtain ⟨e, he⟩ : ∃ e, S.tk[t]? = some e := ⟨S.tk[t]'(by omega), List.getElem?_eq_getElem _⟩
      have hdr : S.tk.drop t = e :: S.tk.drop (t + 1) := by
        rw [List.drop_eq_getElem_cons (by omega : t < S.tk.length)]
        congr 1
        rw [List.getElem?_eq_getElem (by omega)] at he
        exact Option.some.inj he
      have hb := h.tk.hbd t e he
      have stepA : ∀ k : Nat, f_Ref_request_L212 Γ (f_Ref_request_L162 Γ fu) φ r (nI m) X2 X3 X4 X5 X7 X8 (bI wr) (nI t) (nI k) (nI n) = f_Ref_request_L162 Γ 1 φ r (nI m) X2 X3 X4 X5 X7 X8 (bI wr) (nI (n + k + (S.tk.drop (t + 1)).countP (isUns m wr))) (nI S.tk.length) := by
        intro k
        unfold f_Ref_request_L212
        rw [zI_add, show nI t + (1 : Int32) = nI (t + 1) from by rw [zI_1, zI_add]]
        exact ih (t + 1) (n + k) fu (by omega) (by omega)
      have step0 : f_Ref_request_L211 Γ (f_Ref_request_L162 Γ fu) φ r (nI m) X2 X3 X4 X5 X7 X8 (bI wr) (nI t) (nI n) = f_Ref_request_L162 Γ 1 φ r (nI m) X2 X3 X4 X5 X7 X8 (bI wr) (nI (n + (S.tk.drop (t + 1)).countP (isUns m wr))) (nI S.tk.length) := by
        unfold f_Ref_request_L211
        exact stepA 0
      have stepA1 : f_Ref_request_L212 Γ (f_Ref_request_L162 Γ fu) φ r (nI m) X2 X3 X4 X5 X7 X8 (bI wr) (nI t) (1 : Int32) (nI n) = f_Ref_request_L162 Γ 1 φ r (nI m) X2 X3 X4 X5 X7 X8 (bI wr) (nI (n + 1 + (S.tk.drop (t + 1)).countP (isUns m wr))) (nI S.tk.length) := stepA 1
      rw [f_Ref_request_L162, if_pos h.rl.o, h.sc.tk, if_neg (by rw [zI_le (by omega) (by omega)]; omega), rf_16 h.rl, Option.bind_some, rg_16 h.rl, Option.bind_some, zix (by omega), Option.bind_some, h.tk.hmas t e he, rf_20 h.rl, Option.bind_some, rg_20 h.rl, Option.bind_some, zix (by omega), Option.bind_some, h.tk.hwri t e he, rf_28 h.rl, Option.bind_some, rg_28 h.rl, Option.bind_some, zix (by omega), Option.bind_some, h.tk.hsen t e he, step0, stepA1, hdr, List.countP_cons]
      have hbI : (bI e.wr = bI wr) ↔ e.wr = wr := by cases e.wr <;> cases wr <;> decide
      by_cases q1 : e.m = m
      · rw [if_pos (by rw [q1])]
        by_cases q2 : e.wr = wr
        · rw [if_pos (hbI.mpr q2)]
          by_cases q3 : e.sent = -1
          · rw [if_pos q3, show isUns m wr e = true from isUns_iff.mpr ⟨q1, q2, q3⟩, if_pos rfl, show n + 1 + (S.tk.drop (t + 1)).countP (isUns m wr) = n + ((S.tk.drop (t + 1)).countP (isUns m wr) + 1) by omega]
          · rw [if_neg q3, show isUns m wr e = false from by
              cases hx : isUns m wr e with
              | false => rfl
              | true => exact absurd (isUns_iff.mp hx).2.2 q3]
            rfl
        · rw [if_neg (fun hh => q2 (hbI.mp hh)), show isUns m wr e = false from by
            cases hx : isUns m wr e with
            | false => rfl
            | true => exact absurd (isUns_iff.mp hx).2.1 q2]
          rfl
      · rw [if_neg (by rw [zI_eq (by omega) (by omega)]; exact q1), show isUns m wr e = false from by
          cases hx : isUns m wr e with
          | false => rfl
          | true => exact absurd (isUns_iff.mp hx).1 q1]
        rfl
theorem app_last {α : Type} {l : List α} {e x : α} {t : Nat} (h : (l ++ [e])[t]? = some x) : (t < l.length ∧ l[t]? = some x) ∨ (t = l.length ∧ x = e) := by
  by_cases g : t < l.length
  · rw [List.getElem?_append_left g] at h; exact Or.inl ⟨g, h⟩
  · have := (List.getElem?_eq_some_iff.mp h).1
    rw [List.length_append, List.length_singleton] at this
    have ht : t = l.length := by omega
    subst ht
    rw [List.getElem?_append_right (Nat.le_refl _), Nat.sub_self] at h
    right
    exact ⟨rfl, by simpa using h.symm⟩
theorem VTk.add {mas len siz kin wri alo spa urg adr idd ask sen don bea res : aI} {see dat : aL} {l : List TK} (h : VTk mas len siz kin wri alo spa urg adr idd ask sen don bea res see dat l) (hl : l.length < 64) {m : Nat} (hm : m < 4) {con : Int64} (hc : uN con < 2 ^ 35) (hru : ruN con = 0) (wr sp : Bool) (seed : Int64) (time : Nat) : VTk (va_up mas l.length (nI m)) (va_up len l.length (nI (leN con))) (va_up siz l.length (nI (seN con))) (va_up kin l.length (nI (kiN con))) (va_up wri l.length (bI wr)) (va_up alo l.length (nI (exN con))) (va_up spa l.length (bI sp)) (va_up urg l.length (nI (urN con))) (va_up adr l.length (nI (adN con))) (va_up idd l.length (nI (idN con))) (va_up ask l.length (nI time)) (va_up sen l.length (m1)) (va_up don l.length (m1)) (va_up bea l.length (nI 0)) (va_up res l.length (nI 0)) (va_up see l.length seed) dat (l ++ [newT m con wr sp seed time]) := by
  refine ⟨by rw [List.length_append, List.length_singleton]; omega, ?_, ?_, ?_, ?_, ?_, ?_, ?_, ?_, ?_, ?_, ?_, ?_, ?_, ?_, ?_, ?_, ?_, ?_, ?_⟩
  · intro t x hx
    rcases app_last hx with ⟨g1, g2⟩ | ⟨g1, g2⟩
    · exact h.hbd t x g2
    · rw [g2]; exact ⟨hm, Nat.zero_le _, hc, hru⟩
  · intro t x hx
    rcases app_last hx with ⟨g1, g2⟩ | ⟨g1, g2⟩
    · exact h.hgen t x g2
    · rw [g2]
      intro _ k _
      show gdat con (0 + k) (lcgN (0 + k + 1) seed) = gdat con (0 + k) (lcgN (k + 1) seed) ∧ grst con (0 + k) sp (lcgN (0 + k + 1) seed) = grst con (0 + k) sp (lcgN (k + 1) seed)
      rw [Nat.zero_add]
      exact ⟨rfl, rfl⟩
  · intro t x hx
    rcases app_last hx with ⟨g1, g2⟩ | ⟨g1, g2⟩
    · rw [vz_ne _ (by omega)]; exact h.hmas t x g2
    · rw [g2, g1, vz_same]; rfl
  · intro t x hx
    rcases app_last hx with ⟨g1, g2⟩ | ⟨g1, g2⟩
    · rw [vz_ne _ (by omega)]; exact h.hlen t x g2
    · rw [g2, g1, vz_same]; rfl
  · intro t x hx
    rcases app_last hx with ⟨g1, g2⟩ | ⟨g1, g2⟩
    · rw [vz_ne _ (by omega)]; exact h.hsiz t x g2
    · rw [g2, g1, vz_same]; rfl
  · intro t x hx
    rcases app_last hx with ⟨g1, g2⟩ | ⟨g1, g2⟩
    · rw [vz_ne _ (by omega)]; exact h.hkin t x g2
    · rw [g2, g1, vz_same]; rfl
  · intro t x hx
    rcases app_last hx with ⟨g1, g2⟩ | ⟨g1, g2⟩
    · rw [vz_ne _ (by omega)]; exact h.hwri t x g2
    · rw [g2, g1, vz_same]; rfl
  · intro t x hx
    rcases app_last hx with ⟨g1, g2⟩ | ⟨g1, g2⟩
    · rw [vz_ne _ (by omega)]; exact h.halo t x g2
    · rw [g2, g1, vz_same]; rfl
  · intro t x hx
    rcases app_last hx with ⟨g1, g2⟩ | ⟨g1, g2⟩
    · rw [vz_ne _ (by omega)]; exact h.hspa t x g2
    · rw [g2, g1, vz_same]; rfl
  · intro t x hx
    rcases app_last hx with ⟨g1, g2⟩ | ⟨g1, g2⟩
    · rw [vz_ne _ (by omega)]; exact h.hurg t x g2
    · rw [g2, g1, vz_same]; rfl
  · intro t x hx
    rcases app_last hx with ⟨g1, g2⟩ | ⟨g1, g2⟩
    · rw [vz_ne _ (by omega)]; exact h.hadr t x g2
    · rw [g2, g1, vz_same]; rfl
  · intro t x hx
    rcases app_last hx with ⟨g1, g2⟩ | ⟨g1, g2⟩
    · rw [vz_ne _ (by omega)]; exact h.hidd t x g2
    · rw [g2, g1, vz_same]; rfl
  · intro t x hx
    rcases app_last hx with ⟨g1, g2⟩ | ⟨g1, g2⟩
    · rw [vz_ne _ (by omega)]; exact h.hask t x g2
    · rw [g2, g1, vz_same]; rfl
  · intro t x hx
    rcases app_last hx with ⟨g1, g2⟩ | ⟨g1, g2⟩
    · rw [vz_ne _ (by omega)]; exact h.hsen t x g2
    · rw [g2, g1, vz_same]; rfl
  · intro t x hx
    rcases app_last hx with ⟨g1, g2⟩ | ⟨g1, g2⟩
    · rw [vz_ne _ (by omega)]; exact h.hdon t x g2
    · rw [g2, g1, vz_same]; rfl
  · intro t x hx
    rcases app_last hx with ⟨g1, g2⟩ | ⟨g1, g2⟩
    · rw [vz_ne _ (by omega)]; exact h.hbea t x g2
    · rw [g2, g1, vz_same]; rfl
  · intro t x hx
    rcases app_last hx with ⟨g1, g2⟩ | ⟨g1, g2⟩
    · rw [vz_ne _ (by omega)]; exact h.hres t x g2
    · rw [g2, g1, vz_same]; rfl
  · intro t x hx
    rcases app_last hx with ⟨g1, g2⟩ | ⟨g1, g2⟩
    · rw [vz_ne _ (by omega)]; exact h.hsee t x g2
    · rw [g2, g1, vz_same]; rfl
  · intro t x hx
    rcases app_last hx with ⟨g1, g2⟩ | ⟨g1, g2⟩
    · exact h.hdat t x g2
    · rw [g2]
      intro k hk
      exact absurd hk (Nat.not_lt_zero k)
def rqφ (φ : ph_T) (r t m : Nat) (con : Int64) (wr sp : Bool) (seed : Int64) (time : Nat) : ph_T :=
  uI (uI (uI (uI (uI (uI (uL (uI (uI (uI (uI (uI (uI (uI (uI (uI (uI φ (r + 9) t (nI m)) (r + 10) t (nI (leN con))) (r + 11) t (nI (seN con))) (r + 12) t (nI (kiN con))) (r + 13) t (bI wr)) (r + 14) t (nI (exN con))) (r + 15) t (bI sp)) (r + 16) t (nI (urN con))) (r + 17) t (nI (adN con))) (r + 18) t (nI (idN con))) (r + 19) t seed) (r + 20) t (nI time)) (r + 21) t m1) (r + 22) t m1) (r + 23) t (nI 0)) (r + 24) t (nI 0)) r 15 (nI (t + 1))
theorem r_rqV {Γ : gm_T} {φ : ph_T} {r : Nat} {S : XS} (h : RV Γ φ r S) {m : Nat} (hm : m < 4) {con : Int64} (hc : uN con < 2 ^ 35) (hru : ruN con = 0) (wr sp : Bool) (seed : Int64) (hl : S.tk.length < 64) : RV Γ (rqφ φ r S.tk.length m con wr sp seed S.time) r (S.w_tk (S.tk ++ [newT m con wr sp seed S.time])) ∧ RFr r [0, 9, 10, 11, 12, 13, 14, 15, 16, 17, 18, 19, 20, 21, 22, 23, 24] φ (rqφ φ r S.tk.length m con wr sp seed S.time) := by
  have f : RFr r [0, 9, 10, 11, 12, 13, 14, 15, 16, 17, 18, 19, 20, 21, 22, 23, 24] φ (rqφ φ r S.tk.length m con wr sp seed S.time) := by unfold rqφ; repeat (first | exact RFr.refl _ _ _ | refine RFr.uI ?_ (by decide) _ _ | refine RFr.uL ?_ (by decide) _ _ | refine rfr_uO ?_ (by decide) _ _)
  refine ⟨?_, f⟩
  have hsc := h.sc
  have hT := h.tk
  generalize hφ : rqφ φ r S.tk.length m con wr sp seed S.time = φ' at f
  have e9 : φ'.1 (r + 9) = va_up (φ.1 (r + 9)) S.tk.length (nI m) := by
    rw [← hφ]
    unfold rqφ
    rw [uI_1, if_neg (by omega), uI_1, if_neg (by omega), uI_1, if_neg (by omega), uI_1, if_neg (by omega), uI_1, if_neg (by omega), uI_1, if_neg (by omega), uL_1, uI_1, if_neg (by omega), uI_1, if_neg (by omega), uI_1, if_neg (by omega), uI_1, if_neg (by omega), uI_1, if_neg (by omega), uI_1, if_neg (by omega), uI_1, if_neg (by omega), uI_1, if_neg (by omega), uI_1, if_neg (by omega), uI_s]
  have e10 : φ'.1 (r + 10) = va_up (φ.1 (r + 10)) S.tk.length (nI (leN con)) := by
    rw [← hφ]
    unfold rqφ
    rw [uI_1, if_neg (by omega), uI_1, if_neg (by omega), uI_1, if_neg (by omega), uI_1, if_neg (by omega), uI_1, if_neg (by omega), uI_1, if_neg (by omega), uL_1, uI_1, if_neg (by omega), uI_1, if_neg (by omega), uI_1, if_neg (by omega), uI_1, if_neg (by omega), uI_1, if_neg (by omega), uI_1, if_neg (by omega), uI_1, if_neg (by omega), uI_1, if_neg (by omega), uI_s, uI_1, if_neg (by omega)]
  have e11 : φ'.1 (r + 11) = va_up (φ.1 (r + 11)) S.tk.length (nI (seN con)) := by
    rw [← hφ]
    unfold rqφ
    rw [uI_1, if_neg (by omega), uI_1, if_neg (by omega), uI_1, if_neg (by omega), uI_1, if_neg (by omega), uI_1, if_neg (by omega), uI_1, if_neg (by omega), uL_1, uI_1, if_neg (by omega), uI_1, if_neg (by omega), uI_1, if_neg (by omega), uI_1, if_neg (by omega), uI_1, if_neg (by omega), uI_1, if_neg (by omega), uI_1, if_neg (by omega), uI_s, uI_1, if_neg (by omega), uI_1, if_neg (by omega)]
  have e12 : φ'.1 (r + 12) = va_up (φ.1 (r + 12)) S.tk.length (nI (kiN con)) := by
    rw [← hφ]
    unfold rqφ
    rw [uI_1, if_neg (by omega), uI_1, if_neg (by omega), uI_1, if_neg (by omega), uI_1, if_neg (by omega), uI_1, if_neg (by omega), uI_1, if_neg (by omega), uL_1, uI_1, if_neg (by omega), uI_1, if_neg (by omega), uI_1, if_neg (by omega), uI_1, if_neg (by omega), uI_1, if_neg (by omega), uI_1, if_neg (by omega), uI_s, uI_1, if_neg (by omega), uI_1, if_neg (by omega), uI_1, if_neg (by omega)]
  have e13 : φ'.1 (r + 13) = va_up (φ.1 (r + 13)) S.tk.length (bI wr) := by
    rw [← hφ]
    unfold rqφ
    rw [uI_1, if_neg (by omega), uI_1, if_neg (by omega), uI_1, if_neg (by omega), uI_1, if_neg (by omega), uI_1, if_neg (by omega), uI_1, if_neg (by omega), uL_1, uI_1, if_neg (by omega), uI_1, if_neg (by omega), uI_1, if_neg (by omega), uI_1, if_neg (by omega), uI_1, if_neg (by omega), uI_s, uI_1, if_neg (by omega), uI_1, if_neg (by omega), uI_1, if_neg (by omega), uI_1, if_neg (by omega)]
  have e14 : φ'.1 (r + 14) = va_up (φ.1 (r + 14)) S.tk.length (nI (exN con)) := by
    rw [← hφ]
    unfold rqφ
    rw [uI_1, if_neg (by omega), uI_1, if_neg (by omega), uI_1, if_neg (by omega), uI_1, if_neg (by omega), uI_1, if_neg (by omega), uI_1, if_neg (by omega), uL_1, uI_1, if_neg (by omega), uI_1, if_neg (by omega), uI_1, if_neg (by omega), uI_1, if_neg (by omega), uI_s, uI_1, if_neg (by omega), uI_1, if_neg (by omega), uI_1, if_neg (by omega), uI_1, if_neg (by omega), uI_1, if_neg (by omega)]
  have e15 : φ'.1 (r + 15) = va_up (φ.1 (r + 15)) S.tk.length (bI sp) := by
    rw [← hφ]
    unfold rqφ
    rw [uI_1, if_neg (by omega), uI_1, if_neg (by omega), uI_1, if_neg (by omega), uI_1, if_neg (by omega), uI_1, if_neg (by omega), uI_1, if_neg (by omega), uL_1, uI_1, if_neg (by omega), uI_1, if_neg (by omega), uI_1, if_neg (by omega), uI_s, uI_1, if_neg (by omega), uI_1, if_neg (by omega), uI_1, if_neg (by omega), uI_1, if_neg (by omega), uI_1, if_neg (by omega), uI_1, if_neg (by omega)]
  have e16 : φ'.1 (r + 16) = va_up (φ.1 (r + 16)) S.tk.length (nI (urN con)) := by
    rw [← hφ]
    unfold rqφ
    rw [uI_1, if_neg (by omega), uI_1, if_neg (by omega), uI_1, if_neg (by omega), uI_1, if_neg (by omega), uI_1, if_neg (by omega), uI_1, if_neg (by omega), uL_1, uI_1, if_neg (by omega), uI_1, if_neg (by omega), uI_s, uI_1, if_neg (by omega), uI_1, if_neg (by omega), uI_1, if_neg (by omega), uI_1, if_neg (by omega), uI_1, if_neg (by omega), uI_1, if_neg (by omega), uI_1, if_neg (by omega)]
  have e17 : φ'.1 (r + 17) = va_up (φ.1 (r + 17)) S.tk.length (nI (adN con)) := by
    rw [← hφ]
    unfold rqφ
    rw [uI_1, if_neg (by omega), uI_1, if_neg (by omega), uI_1, if_neg (by omega), uI_1, if_neg (by omega), uI_1, if_neg (by omega), uI_1, if_neg (by omega), uL_1, uI_1, if_neg (by omega), uI_s, uI_1, if_neg (by omega), uI_1, if_neg (by omega), uI_1, if_neg (by omega), uI_1, if_neg (by omega), uI_1, if_neg (by omega), uI_1, if_neg (by omega), uI_1, if_neg (by omega), uI_1, if_neg (by omega)]
  have e18 : φ'.1 (r + 18) = va_up (φ.1 (r + 18)) S.tk.length (nI (idN con)) := by
    rw [← hφ]
    unfold rqφ
    rw [uI_1, if_neg (by omega), uI_1, if_neg (by omega), uI_1, if_neg (by omega), uI_1, if_neg (by omega), uI_1, if_neg (by omega), uI_1, if_neg (by omega), uL_1, uI_s, uI_1, if_neg (by omega), uI_1, if_neg (by omega), uI_1, if_neg (by omega), uI_1, if_neg (by omega), uI_1, if_neg (by omega), uI_1, if_neg (by omega), uI_1, if_neg (by omega), uI_1, if_neg (by omega), uI_1, if_neg (by omega)]
  have e20 : φ'.1 (r + 20) = va_up (φ.1 (r + 20)) S.tk.length (nI S.time) := by
    rw [← hφ]
    unfold rqφ
    rw [uI_1, if_neg (by omega), uI_1, if_neg (by omega), uI_1, if_neg (by omega), uI_1, if_neg (by omega), uI_1, if_neg (by omega), uI_s, uL_1, uI_1, if_neg (by omega), uI_1, if_neg (by omega), uI_1, if_neg (by omega), uI_1, if_neg (by omega), uI_1, if_neg (by omega), uI_1, if_neg (by omega), uI_1, if_neg (by omega), uI_1, if_neg (by omega), uI_1, if_neg (by omega), uI_1, if_neg (by omega)]
  have e21 : φ'.1 (r + 21) = va_up (φ.1 (r + 21)) S.tk.length (m1) := by
    rw [← hφ]
    unfold rqφ
    rw [uI_1, if_neg (by omega), uI_1, if_neg (by omega), uI_1, if_neg (by omega), uI_1, if_neg (by omega), uI_s, uI_1, if_neg (by omega), uL_1, uI_1, if_neg (by omega), uI_1, if_neg (by omega), uI_1, if_neg (by omega), uI_1, if_neg (by omega), uI_1, if_neg (by omega), uI_1, if_neg (by omega), uI_1, if_neg (by omega), uI_1, if_neg (by omega), uI_1, if_neg (by omega), uI_1, if_neg (by omega)]
  have e22 : φ'.1 (r + 22) = va_up (φ.1 (r + 22)) S.tk.length (m1) := by
    rw [← hφ]
    unfold rqφ
    rw [uI_1, if_neg (by omega), uI_1, if_neg (by omega), uI_1, if_neg (by omega), uI_s, uI_1, if_neg (by omega), uI_1, if_neg (by omega), uL_1, uI_1, if_neg (by omega), uI_1, if_neg (by omega), uI_1, if_neg (by omega), uI_1, if_neg (by omega), uI_1, if_neg (by omega), uI_1, if_neg (by omega), uI_1, if_neg (by omega), uI_1, if_neg (by omega), uI_1, if_neg (by omega), uI_1, if_neg (by omega)]
  have e23 : φ'.1 (r + 23) = va_up (φ.1 (r + 23)) S.tk.length (nI 0) := by
    rw [← hφ]
    unfold rqφ
    rw [uI_1, if_neg (by omega), uI_1, if_neg (by omega), uI_s, uI_1, if_neg (by omega), uI_1, if_neg (by omega), uI_1, if_neg (by omega), uL_1, uI_1, if_neg (by omega), uI_1, if_neg (by omega), uI_1, if_neg (by omega), uI_1, if_neg (by omega), uI_1, if_neg (by omega), uI_1, if_neg (by omega), uI_1, if_neg (by omega), uI_1, if_neg (by omega), uI_1, if_neg (by omega), uI_1, if_neg (by omega)]
  have e24 : φ'.1 (r + 24) = va_up (φ.1 (r + 24)) S.tk.length (nI 0) := by
    rw [← hφ]
    unfold rqφ
    rw [uI_1, if_neg (by omega), uI_s, uI_1, if_neg (by omega), uI_1, if_neg (by omega), uI_1, if_neg (by omega), uI_1, if_neg (by omega), uL_1, uI_1, if_neg (by omega), uI_1, if_neg (by omega), uI_1, if_neg (by omega), uI_1, if_neg (by omega), uI_1, if_neg (by omega), uI_1, if_neg (by omega), uI_1, if_neg (by omega), uI_1, if_neg (by omega), uI_1, if_neg (by omega), uI_1, if_neg (by omega)]
  have e19 : φ'.2.1 (r + 19) = va_up (φ.2.1 (r + 19)) S.tk.length seed := by
    rw [← hφ]
    unfold rqφ
    rw [uI_2, uI_2, uI_2, uI_2, uI_2, uI_2, uL_s]
    rfl
  have e0 : φ'.1 r = va_up (φ.1 r) 15 (nI (S.tk.length + 1)) := by
    rw [← hφ]
    unfold rqφ
    rw [uI_s, uI_1, if_neg (by omega), uI_1, if_neg (by omega), uI_1, if_neg (by omega), uI_1, if_neg (by omega), uI_1, if_neg (by omega), uL_1, uI_1, if_neg (by omega), uI_1, if_neg (by omega), uI_1, if_neg (by omega), uI_1, if_neg (by omega), uI_1, if_neg (by omega), uI_1, if_neg (by omega), uI_1, if_neg (by omega), uI_1, if_neg (by omega), uI_1, if_neg (by omega), uI_1, if_neg (by omega)]
  refine ⟨(RL.up h.rl (congrFun f.1 r)), ?_, (by rw [f.i 1 (by decide)]; exact h.pg), (by rw [f.i 2 (by decide)]; exact h.mp), (by rw [f.i 3 (by decide)]; exact h.sp), (by rw [f.i 4 (by decide)]; exact h.ea), (by rw [f.i 5 (by decide)]; exact h.de), (by rw [f.i 6 (by decide)]; exact h.wa), (by rw [f.i 7 (by decide), f.i 8 (by decide)]; exact h.me), ?_, (by rw [f.i 26 (by decide), f.i 27 (by decide), f.l 28 (by decide), f.i 29 (by decide)]; exact h.wi), (by rw [f.i 31 (by decide)]; exact h.tr), (by rw [f.l 32 (by decide), f.i 33 (by decide), f.i 34 (by decide), f.i 35 (by decide)]; exact h.row), (by rw [f.i 36 (by decide), f.i 37 (by decide), f.i 38 (by decide), f.i 39 (by decide)]; exact h.uw), (by rw [f.i 40 (by decide), f.i 41 (by decide), f.i 42 (by decide)]; exact h.ur), (by rw [f.i 43 (by decide), f.i 44 (by decide), f.i 45 (by decide), f.i 46 (by decide), f.i 47 (by decide)]; exact ⟨h.la.haw, h.la.har, h.la.hb, h.la.hg, h.la.hinn⟩), (by rw [f.i 48 (by decide), f.i 49 (by decide), f.i 50 (by decide), f.l 51 (by decide), f.i 52 (by decide), f.i 53 (by decide), f.i 54 (by decide), f.l 55 (by decide), f.i 56 (by decide)]; exact h.sw), (by rw [f.i 57 (by decide), f.i 58 (by decide), f.i 59 (by decide), f.l 60 (by decide), f.i 61 (by decide), f.i 62 (by decide), f.i 63 (by decide), f.l 64 (by decide), f.i 65 (by decide)]; exact h.sr), (by rw [f.i 66 (by decide), f.i 67 (by decide), f.i 68 (by decide), f.i 69 (by decide)]; exact ⟨h.ch.hnums, h.ch.hlat, h.ch.hchb, h.ch.hchr⟩), (by rw [f.i 70 (by decide), f.i 71 (by decide)]; exact h.rg), (by unfold maOf; rw [f.i 72 (by decide), f.l 73 (by decide), f.i 74 (by decide), f.i 75 (by decide), f.i 76 (by decide), f.i 77 (by decide), f.i 78 (by decide), f.i 79 (by decide), f.i 80 (by decide), f.i 81 (by decide), f.l 82 (by decide), f.i 83 (by decide), f.i 84 (by decide), f.i 85 (by decide), f.l 86 (by decide), f.i 87 (by decide)]; exact h.mo), (by rw [f.i 88 (by decide), f.i 89 (by decide), f.l 90 (by decide), f.i 91 (by decide)]; exact h.wt)⟩
  · rw [e0]
    refine ⟨?_, ?_, ?_, ?_, ?_, ?_, ?_, ?_, ?_, ?_, ?_⟩
    · rw [vz_ne _ (by decide)]; exact hsc.nm
    · rw [vz_ne _ (by decide)]; exact hsc.ns
    · rw [vz_ne _ (by decide)]; exact hsc.lim
    · rw [vz_ne _ (by decide)]; exact hsc.pol
    · rw [vz_ne _ (by decide)]; exact hsc.whole
    · rw [vz_ne _ (by decide)]; exact hsc.time
    · rw [vz_same]
      show _ = nI (S.tk ++ [_]).length
      rw [List.length_append]; rfl
    · rw [vz_ne _ (by decide)]; exact hsc.wm
    · rw [vz_ne _ (by decide)]; exact hsc.rm
    · rw [vz_ne _ (by decide)]; exact hsc.db
    · rw [vz_ne _ (by decide)]; exact hsc.er
  · rw [e9, e10, e11, e12, e13, e14, e15, e16, e17, e18, e19, e20, e21, e22, e23, e24, f.l 25 (by decide)]
    exact hT.add hl hm hc hru wr sp seed S.time
