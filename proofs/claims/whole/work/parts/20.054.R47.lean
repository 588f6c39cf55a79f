/-! THE REFERENCE: what goes over at a slave's port -/
def PrS (S : XS) (s c : Nat) : Prop := (∀ x ∈ S.sw s, x.got ≤ leN x.con ∧ ruN x.con = 0) ∧ (∀ j q, S.rgt s j = some q → q.1 < 65536 ∧ q.2 < 129) ∧ (∀ y, S.mem y < 256) ∧ (c = 0 ∨ c = 1 ∨ c = 3 → S.row (5 * (4 + s) + c) ≠ []) ∧ (c = 2 ∨ c = 4 → S.hasRm (5 * (4 + s) + c) = true) ∧ (c = 0 → (S.sw s).length < 4) ∧ (c = 1 → ∃ i, (S.sw s).findIdx? lackP = some i) ∧ (c = 2 → ∃ i, S.chb s = some i) ∧ (c = 3 → (S.sr s).length < 4 ∧ ruN ((S.wi (4 + s)).w 3).c = 0) ∧ (c = 4 → ∃ i e, S.chr s = some i ∧ (S.sr s)[i]? = some e ∧ rLa ((S.wi (4 + s)).w 4).r = decide (e.got + 1 = leN e.con))
theorem PrS.sw {S : XS} {s c : Nat} (h : PrS S s c) : ∀ x ∈ S.sw s, x.got ≤ leN x.con ∧ ruN x.con = 0 := h.1
theorem PrS.rg {S : XS} {s c : Nat} (h : PrS S s c) : ∀ j q, S.rgt s j = some q → q.1 < 65536 ∧ q.2 < 129 := h.2.1
theorem PrS.mem {S : XS} {s c : Nat} (h : PrS S s c) : ∀ y, S.mem y < 256 := h.2.2.1
theorem PrS.row {S : XS} {s c : Nat} (h : PrS S s c) : c = 0 ∨ c = 1 ∨ c = 3 → S.row (5 * (4 + s) + c) ≠ [] := h.2.2.2.1
theorem PrS.room {S : XS} {s c : Nat} (h : PrS S s c) : c = 2 ∨ c = 4 → S.hasRm (5 * (4 + s) + c) = true := h.2.2.2.2.1
theorem PrS.c0 {S : XS} {s c : Nat} (h : PrS S s c) : c = 0 → (S.sw s).length < 4 := h.2.2.2.2.2.1
theorem PrS.c1 {S : XS} {s c : Nat} (h : PrS S s c) : c = 1 → ∃ i, (S.sw s).findIdx? lackP = some i := h.2.2.2.2.2.2.1
theorem PrS.c2 {S : XS} {s c : Nat} (h : PrS S s c) : c = 2 → ∃ i, S.chb s = some i := h.2.2.2.2.2.2.2.1
theorem PrS.c3 {S : XS} {s c : Nat} (h : PrS S s c) : c = 3 → (S.sr s).length < 4 ∧ ruN ((S.wi (4 + s)).w 3).c = 0 := h.2.2.2.2.2.2.2.2.1
theorem PrS.c4 {S : XS} {s c : Nat} (h : PrS S s c) : c = 4 → ∃ i e, S.chr s = some i ∧ (S.sr s)[i]? = some e ∧ rLa ((S.wi (4 + s)).w 4).r = decide (e.got + 1 = leN e.con) := h.2.2.2.2.2.2.2.2.2
theorem passS_0 (S : XS) (s : Nat) : S.passS s 0 = (S.drop (5 * (4 + s) + 0)).w_sw (va_up S.sw s (S.sw s ++ [newW ((S.wi (4 + s)).w 0).c (freeP ((S.sw s).map WE.place) (4 * s) 4)])) := rfl
theorem passS_3 (S : XS) (s : Nat) : S.passS s 3 = (S.drop (5 * (4 + s) + 3)).rcm s ((S.wi (4 + s)).w 3).c := rfl
theorem passS_1 {S : XS} {s i : Nat} {e : WE} (hi : (S.sw s).findIdx? lackP = some i) (he : (S.sw s)[i]? = some e) : S.passS s 1 = (S.drop (5 * (4 + s) + 1)).bc s i e ((S.wi (4 + s)).w 1).c ((S.wi (4 + s)).w 1).r := by
  obtain ⟨e2, he2, hf, hp⟩ := fi_some hi
  rw [he] at he2
  cases he2
  have h1 : S.passS s 1 = match (S.sw s).find? (fun e => decide (e.got < leN e.con)) with
    | none => S.drop (5 * (4 + s) + 1)
    | some e =>
      if e.got + 1 = leN e.con then
        ((S.drop (5 * (4 + s) + 1)).doWrite s (e.beat ((S.wi (4 + s)).w 1).c ((S.wi (4 + s)).w 1).r)).1.w_sw (va_up S.sw s (updF (fun e => decide (e.got < leN e.con)) (fun _ => ((((e.beat ((S.wi (4 + s)).w 1).c ((S.wi (4 + s)).w 1).r)).w_since (S.time)).w_resp (((S.drop (5 * (4 + s) + 1)).doWrite s (e.beat ((S.wi (4 + s)).w 1).c ((S.wi (4 + s)).w 1).r)).2))) (S.sw s)))
      else (S.drop (5 * (4 + s) + 1)).w_sw (va_up S.sw s (updF (fun e => decide (e.got < leN e.con)) (fun _ => e.beat ((S.wi (4 + s)).w 1).c ((S.wi (4 + s)).w 1).r) (S.sw s))) := rfl
  rw [h1, show (S.sw s).find? (fun e => decide (e.got < leN e.con)) = some e from hf]
  have hu : ∀ f : WE → WE, updF (fun e => decide (e.got < leN e.con)) f (S.sw s) = (S.sw s).set i (f e) := fun f => updF_some hi he
  simp only [hu]
  unfold XS.bc XS.swAt
  rfl
theorem r_goSlave {Γ : gm_T} {φ : ph_T} {r : Nat} {S : XS} (h : RV Γ φ r S) {s c : Nat} (hs : s < 4) (hc : c < 5) (hp : PrS S s c) :
    ∃ φ', f_Ref_goSlave Γ φ r (nI s) (nI c) = some ((), φ') ∧ RV Γ φ' r (S.passS s c) ∧ RFr r [7, 32, 33, 34, 35, 48, 49, 50, 51, 52, 53, 54, 55, 56, 57, 58, 59, 60, 61, 62, 63, 64, 65, 66, 67, 70, 71] φ φ' := by
  have hcs : c = 0 ∨ c = 1 ∨ c = 2 ∨ c = 3 ∨ c = 4 := by omega
  unfold f_Ref_goSlave f_Ref_goSlave_L99
  rcases hcs with rfl | rfl | rfl | rfl | rfl
  · obtain ⟨φ1, a1, a2, a3⟩ := r_take h (i := 5 * (4 + s) + 0) (by omega) (hp.row (Or.inl rfl))
    have hw := (a2.wi (4 + s) 0 (by omega) (by omega)).2.2.1
    obtain ⟨φ2, b1, b2, b3⟩ := r_writeCame a2 hs ((S.wi (4 + s)).w 0).c (hp.c0 rfl)
    refine ⟨φ2, ?_, b2, (a3.mono (by decide)).trans (b3.mono (by decide))⟩
    rw [if_neg (by decide), if_neg (by decide), if_pos h.rl.o, zI_1, e_rowOf1, Option.bind_some, a1, Option.bind_some, if_pos (by rfl), rf_35 a2.rl, Option.bind_some, rg_35 a2.rl, Option.bind_some, show ((5 : Int32) * ((4 : Int32) + nI s)) + nI 0 = nI (5 * (4 + s) + 0) from by rw [show (5 : Int32) = nI 5 from rfl, z4, zI_add, zI_mul, zI_add], zix (by omega), Option.bind_some]
    simp only
    rw [hw]
    have b1' : f_Ref_writeCame Γ φ1 r (nI s) (((S.drop (5 * (4 + s) + 0)).wi (4 + s)).w 0).c = some ((), φ2) := b1
    rw [b1', Option.bind_some]
  · obtain ⟨φ1, a1, a2, a3⟩ := r_take h (i := 5 * (4 + s) + 1) (by omega) (hp.row (Or.inr (Or.inl rfl)))
    have hw := (a2.wi (4 + s) 1 (by omega) (by omega)).2.2
    obtain ⟨i, hi⟩ := hp.c1 rfl
    obtain ⟨e, he, _, _⟩ := fi_some hi
    obtain ⟨φ2, b1, b2, b3⟩ := r_beatCame a2 hs hp.sw hp.rg hi he ((S.wi (4 + s)).w 1).c ((S.wi (4 + s)).w 1).r
    rw [passS_1 hi he]
    refine ⟨φ2, ?_, b2, (a3.mono (by decide)).trans (b3.mono (by decide))⟩
    rw [if_neg (by decide), if_neg (by decide), if_pos h.rl.o, show f_Ref_rowOf Γ φ r 1 (nI s) (nI 1) = some (nI (5 * (4 + s) + 1), φ) from e_rowOf1 Γ φ r s 1, Option.bind_some, a1, Option.bind_some, if_neg (by decide), if_pos (by rfl), rf_35 a2.rl, Option.bind_some, rg_35 a2.rl, Option.bind_some, show ((5 : Int32) * ((4 : Int32) + nI s)) + nI 1 = nI (5 * (4 + s) + 1) from by rw [show (5 : Int32) = nI 5 from rfl, z4, zI_add, zI_mul, zI_add], zix (by omega), Option.bind_some, rf_36 a2.rl, Option.bind_some, rg_36 a2.rl, Option.bind_some, zix (by omega), Option.bind_some]
    simp only
    rw [hw.1, hw.2]
    have b1' : f_Ref_beatCame Γ φ1 r (nI s) (((S.drop (5 * (4 + s) + 1)).wi (4 + s)).w 1).c (((S.drop (5 * (4 + s) + 1)).wi (4 + s)).w 1).r = some ((), φ2) := b1
    rw [b1', Option.bind_some]
  · obtain ⟨i, hi⟩ := hp.c2 rfl
    have hrm : (S.row (5 * (4 + s) + 2)).length < roomN ((5 * (4 + s) + 2) % 5) := by simpa [XS.hasRm] using hp.room (Or.inl rfl)
    obtain ⟨φ', a1, a2, a3⟩ := r_writeGoes h hs hi hrm
    refine ⟨φ', ?_, a2, a3.mono (by decide)⟩
    rw [if_pos (by rfl), if_pos h.rl.o, a1, Option.bind_some]
  · obtain ⟨φ1, a1, a2, a3⟩ := r_take h (i := 5 * (4 + s) + 3) (by omega) (hp.row (Or.inr (Or.inr rfl)))
    have hw := (a2.wi (4 + s) 3 (by omega) (by omega)).2.2.1
    obtain ⟨q1, q2⟩ := hp.c3 rfl
    obtain ⟨φ2, b1, b2, b3⟩ := r_readComes a2 hs ((S.wi (4 + s)).w 3).c q2 q1 hp.mem
    rw [passS_3]
    refine ⟨φ2, ?_, b2, (a3.mono (by decide)).trans (b3.mono (by decide))⟩
    rw [if_neg (by decide), if_neg (by decide), if_pos h.rl.o, show f_Ref_rowOf Γ φ r 1 (nI s) (nI 3) = some (nI (5 * (4 + s) + 3), φ) from e_rowOf1 Γ φ r s 3, Option.bind_some, a1, Option.bind_some, if_neg (by decide), if_neg (by decide), rf_35 a2.rl, Option.bind_some, rg_35 a2.rl, Option.bind_some, show ((5 : Int32) * ((4 : Int32) + nI s)) + nI 3 = nI (5 * (4 + s) + 3) from by rw [show (5 : Int32) = nI 5 from rfl, z4, zI_add, zI_mul, zI_add], zix (by omega), Option.bind_some]
    simp only
    rw [hw]
    have b1' : f_Ref_readComes Γ φ1 r (nI s) (((S.drop (5 * (4 + s) + 3)).wi (4 + s)).w 3).c = some ((), φ2) := b1
    rw [b1', Option.bind_some]
  · obtain ⟨i, e, hi, he, hL⟩ := hp.c4 rfl
    have hrm : (S.row (5 * (4 + s) + 4)).length < roomN ((5 * (4 + s) + 4) % 5) := by simpa [XS.hasRm] using hp.room (Or.inr rfl)
    obtain ⟨φ', a1, a2, a3⟩ := r_readGoes h hs hi he hL hrm
    refine ⟨φ', ?_, a2, a3.mono (by decide)⟩
    rw [if_neg (by decide), if_pos (by rfl), if_pos h.rl.o, a1, Option.bind_some]
