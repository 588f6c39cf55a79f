/-! THE CLASS: the loops of goOver -/
def GoC (I : Nat → XS → Prop) : Prop := ∀ j S, j < 40 → I j S → Bd S ∧ PreG S j ∧ (S.mvP j = true → 20 ≤ j → PrC S (j / 5 - 4) (j % 5)) ∧ I (j + 1) (S.go1 j)
theorem iterN_add (f : XS → Nat → XS) : ∀ a c i S, iterN f (a + c) i S = iterN f c (i + a) (iterN f a i S) := by
  intro a
  induction a with
  | zero => intro c i S; rw [Nat.zero_add]; rfl
  | succ a ih =>
    intro c i S
    rw [show a + 1 + c = (a + c) + 1 by omega]
    show iterN f (a + c) (i + 1) (f S i) = iterN f c (i + (a + 1)) (iterN f a (i + 1) (f S i))
    rw [ih, show i + 1 + a = i + (a + 1) by omega]
theorem cnQ_add (q : Nat → Bool) : ∀ a c i n, cnQ q (a + c) i n = cnQ q c (i + a) (cnQ q a i n) := by
  intro a
  induction a with
  | zero => intro c i n; rw [Nat.zero_add]; rfl
  | succ a ih =>
    intro c i n
    rw [show a + 1 + c = (a + c) + 1 by omega]
    show cnQ q (a + c) (i + 1) _ = cnQ q c (i + (a + 1)) (cnQ q a (i + 1) _)
    rw [ih, show i + 1 + a = i + (a + 1) by omega]
/-- ports that are not there -/
theorem go_idle {I : Nat → XS → Prop} (hI : GoC I) : ∀ d j S n, j + d ≤ 40 → I j S → (∀ k, j ≤ k → k < j + d → S.mvP k = false) → iterN XS.go1 d j S = S ∧ I (j + d) S ∧ cnQ S.mvP d j n = n := by
  intro d
  induction d with
  | zero => intro j S n _ h _; exact ⟨rfl, h, rfl⟩
  | succ d ih =>
    intro j S n hj h hn
    have h0 : S.go1 j = S := by unfold XS.go1; rw [if_neg (by rw [hn j (by omega) (by omega)]; decide)]
    obtain ⟨_, _, _, h1⟩ := hI j S (by omega) h
    rw [h0] at h1
    obtain ⟨k1, k2, k3⟩ := ih (j + 1) S n (by omega) h1 (fun k h1 h2 => hn k (by omega) (by omega))
    refine ⟨?_, ?_, ?_⟩
    · show iterN XS.go1 d (j + 1) (S.go1 j) = S
      rw [h0]; exact k1
    · rw [show j + (d + 1) = j + 1 + d by omega]; exact k2
    · show cnQ S.mvP d (j + 1) (if S.mvP j = true then n + 1 else n) = n
      rw [hn j (by omega) (by omega), if_neg (by decide)]
      exact k3
theorem go1_mv (S : XS) (j : Nat) : (S.go1 j).mvP = S.mvP ∧ (S.go1 j).nm = S.nm ∧ (S.go1 j).ns = S.ns := ⟨(go1_P S j).2.1, (go1_fr S j).2.1, (go1_fr S j).2.2.1⟩
theorem c_go15 {Γ : gm_T} {b m : Nat} {I : Nat → XS → Prop} (hI : GoC I) (K : ph_T → Nat → Int32 → Int32 → Option (Int32 × ph_T)) : ∀ (d c fu n : Nat) (φ : ph_T) (S : XS), c + d = 5 → d < fu → m < S.nm → CV Γ φ b S → I (5 * m + c) S →
    ∃ φ', f_Bus_goOver_L15 Γ K fu φ b (nI n) (nI m) (nI c) = K φ' b (nI (cnQ S.mvP d (5 * m + c) n)) (nI (m + 1)) ∧ CV Γ φ' b (iterN XS.go1 d (5 * m + c) S) ∧ I (5 * m + 5) (iterN XS.go1 d (5 * m + c) S) ∧ (iterN XS.go1 d (5 * m + c) S).mvP = S.mvP ∧ (iterN XS.go1 d (5 * m + c) S).nm = S.nm ∧ (iterN XS.go1 d (5 * m + c) S).ns = S.ns ∧ Fr b (tAd b S.nm S.ns + 256) φ φ' := by
  intro d
  induction d with
  | zero =>
    intro c fu n φ S hd hfu hm h hS
    match fu, hfu with
    | fu + 1, _ =>
      refine ⟨φ, ?_, h, ?_, rfl, rfl, rfl, Fr.refl _ _ _⟩
      · rw [f_Bus_goOver_L15, if_pos (by rw [show (5 : Int32) = nI 5 from rfl, zI_le (by omega) (by omega)]; omega), zI_1, zI_add]
        rfl
      · rw [show 5 * m + 5 = 5 * m + c by omega]; exact hS
  | succ d ih =>
    intro c fu n φ S hd hfu hm h hS
    have n4 := h.lay.nm4
    have n5 := h.lay.ns4
    match fu, hfu with
    | fu + 1, hfu =>
      obtain ⟨hB, hG, _, hN⟩ := hI (5 * m + c) S (by omega) hS
      obtain ⟨e1, e2, e3⟩ := go1_mv S (5 * m + c)
      have hj5 : (5 * m + c) / 5 = m := by omega
      have hjc : (5 * m + c) % 5 = c := by omega
      have hisP : S.isP m = true := by unfold XS.isP; rw [if_neg (by omega)]; simpa using hm
      have hmvP : S.mvP (5 * m + c) = mvW (S.wi m) c := by unfold XS.mvP; rw [hj5, hjc, hisP]; rfl
      have hN' : I (5 * m + (c + 1)) (S.go1 (5 * m + c)) := by rw [show 5 * m + (c + 1) = 5 * m + c + 1 by omega]; exact hN
      have hcn : cnQ S.mvP (d + 1) (5 * m + c) n = cnQ S.mvP d (5 * m + (c + 1)) (if S.mvP (5 * m + c) = true then n + 1 else n) := rfl
      have hit : iterN XS.go1 (d + 1) (5 * m + c) S = iterN XS.go1 d (5 * m + (c + 1)) (S.go1 (5 * m + c)) := rfl
      cases hmv : mvW (S.wi m) c with
      | true =>
        have hmv2 : S.mvP (5 * m + c) = true := hmvP.trans hmv
        obtain ⟨hPM, _⟩ := hG hmv2
        have hPM' := hPM (by omega)
        rw [hj5, hjc] at hPM'
        obtain ⟨φ1, a1, a2, a3⟩ := c_goM (x1 := n) h hB hm (show c < 5 by omega) hmv hPM' K fu
        have hgo : S.go1 (5 * m + c) = (S.bump m c).passM m c := by
          unfold XS.go1 XS.pas
          rw [if_pos hmv2, if_neg (by omega), hj5, hjc]
        rw [← hgo] at a2
        obtain ⟨φ2, b1, b2, b3, b4, b5, b6, b7⟩ := ih (c + 1) fu (n + 1) φ1 _ (by omega) (by omega) (by rw [e2]; exact hm) a2 hN'
        rw [hcn, hit, if_pos hmv2]
        rw [e1] at b1 b4
        rw [e2, e3] at b7
        exact ⟨φ2, a1.trans b1, b2, b3, b4, b5.trans e2, b6.trans e3, a3.trans b7⟩
      | false =>
        have hmv2 : S.mvP (5 * m + c) = false := hmvP.trans hmv
        have hgo : S.go1 (5 * m + c) = S := by unfold XS.go1; rw [if_neg (by rw [hmv2]; decide)]
        rw [hgo] at hN'
        obtain ⟨hd0, p0⟩ := h.po m (Or.inl hm)
        obtain ⟨φ2, b1, b2, b3, b4, b5, b6, b7⟩ := ih (c + 1) fu n φ S (by omega) (by omega) hm h hN'
        rw [hcn, hit, hgo, if_neg (by rw [hmv2]; decide)]
        refine ⟨φ2, ?_, b2, b3, b4, b5, b6, b7⟩
        rw [f_Bus_goOver_L15, if_neg (by rw [show (5 : Int32) = nI 5 from rfl, zI_le (by omega) (by omega)]; omega), if_pos h.lay.o, h.lay.f4, Option.bind_some, h.lay.g4, Option.bind_some, zix (by omega), Option.bind_some, h.lay.mp m hm, Option.bind_some, if_pos p0.o, c_moves p0 (by omega), Option.bind_some]
        dsimp only
        rw [hmv, if_pos (by decide)]
        unfold f_Bus_goOver_L85
        rw [zI_1, zI_add]
        exact b1
theorem c_go110 {Γ : gm_T} {b s : Nat} {I : Nat → XS → Prop} (hI : GoC I) (K : ph_T → Nat → Int32 → Int32 → Option (Int32 × ph_T)) : ∀ (d c fu n : Nat) (φ : ph_T) (S : XS), c + d = 5 → d < fu → s < S.ns → CV Γ φ b S → I (20 + 5 * s + c) S →
    ∃ φ', f_Bus_goOver_L110 Γ K fu φ b (nI n) (nI s) (nI c) = K φ' b (nI (cnQ S.mvP d (20 + 5 * s + c) n)) (nI (s + 1)) ∧ CV Γ φ' b (iterN XS.go1 d (20 + 5 * s + c) S) ∧ I (20 + 5 * s + 5) (iterN XS.go1 d (20 + 5 * s + c) S) ∧ (iterN XS.go1 d (20 + 5 * s + c) S).mvP = S.mvP ∧ (iterN XS.go1 d (20 + 5 * s + c) S).nm = S.nm ∧ (iterN XS.go1 d (20 + 5 * s + c) S).ns = S.ns ∧ Fr b (tAd b S.nm S.ns + 256) φ φ' := by
  intro d
  induction d with
  | zero =>
    intro c fu n φ S hd hfu hs h hS
    match fu, hfu with
    | fu + 1, _ =>
      refine ⟨φ, ?_, h, ?_, rfl, rfl, rfl, Fr.refl _ _ _⟩
      · rw [f_Bus_goOver_L110, if_pos (by rw [show (5 : Int32) = nI 5 from rfl, zI_le (by omega) (by omega)]; omega), zI_1, zI_add]
        rfl
      · rw [show 20 + 5 * s + 5 = 20 + 5 * s + c by omega]; exact hS
  | succ d ih =>
    intro c fu n φ S hd hfu hs h hS
    have n4 := h.lay.nm4
    have n5 := h.lay.ns4
    match fu, hfu with
    | fu + 1, hfu =>
      obtain ⟨hB, hG, hC, hN⟩ := hI (20 + 5 * s + c) S (by omega) hS
      obtain ⟨e1, e2, e3⟩ := go1_mv S (20 + 5 * s + c)
      have hj5 : (20 + 5 * s + c) / 5 = 4 + s := by omega
      have hjc : (20 + 5 * s + c) % 5 = c := by omega
      have hisP : S.isP (4 + s) = true := by unfold XS.isP; rw [if_pos (by omega)]; simp; omega
      have hmvP : S.mvP (20 + 5 * s + c) = mvW (S.wi (4 + s)) c := by unfold XS.mvP; rw [hj5, hjc, hisP]; rfl
      have hN' : I (20 + 5 * s + (c + 1)) (S.go1 (20 + 5 * s + c)) := by rw [show 20 + 5 * s + (c + 1) = 20 + 5 * s + c + 1 by omega]; exact hN
      have hcn : cnQ S.mvP (d + 1) (20 + 5 * s + c) n = cnQ S.mvP d (20 + 5 * s + (c + 1)) (if S.mvP (20 + 5 * s + c) = true then n + 1 else n) := rfl
      have hit : iterN XS.go1 (d + 1) (20 + 5 * s + c) S = iterN XS.go1 d (20 + 5 * s + (c + 1)) (S.go1 (20 + 5 * s + c)) := rfl
      cases hmv : mvW (S.wi (4 + s)) c with
      | true =>
        have hmv2 : S.mvP (20 + 5 * s + c) = true := hmvP.trans hmv
        obtain ⟨_, hPS⟩ := hG hmv2
        have hPS' := hPS (by omega)
        have hC' := hC hmv2 (by omega)
        rw [hj5, hjc, show 4 + s - 4 = s by omega] at hPS' hC'
        obtain ⟨φ1, a1, a2, a3⟩ := c_goS (x1 := n) h hB hs (show c < 5 by omega) hmv hPS' hC' K fu
        have hgo : S.go1 (20 + 5 * s + c) = (S.bump (4 + s) c).passS s c := by
          unfold XS.go1 XS.pas
          rw [if_pos hmv2, if_pos (by omega), hj5, hjc, show 4 + s - 4 = s by omega]
        rw [← hgo] at a2
        obtain ⟨φ2, b1, b2, b3, b4, b5, b6, b7⟩ := ih (c + 1) fu (n + 1) φ1 _ (by omega) (by omega) (by rw [e3]; exact hs) a2 hN'
        rw [hcn, hit, if_pos hmv2]
        rw [e1] at b1 b4
        rw [e2, e3] at b7
        exact ⟨φ2, a1.trans b1, b2, b3, b4, b5.trans e2, b6.trans e3, a3.trans b7⟩
      | false =>
        have hmv2 : S.mvP (20 + 5 * s + c) = false := hmvP.trans hmv
        have hgo : S.go1 (20 + 5 * s + c) = S := by unfold XS.go1; rw [if_neg (by rw [hmv2]; decide)]
        rw [hgo] at hN'
        obtain ⟨hd0, p0⟩ := h.po (4 + s) (Or.inr (Or.inl (by omega)))
        obtain ⟨φ2, b1, b2, b3, b4, b5, b6, b7⟩ := ih (c + 1) fu n φ S (by omega) (by omega) hs h hN'
        rw [hcn, hit, hgo, if_neg (by rw [hmv2]; decide)]
        refine ⟨φ2, ?_, b2, b3, b4, b5, b6, b7⟩
        rw [f_Bus_goOver_L110, if_neg (by rw [show (5 : Int32) = nI 5 from rfl, zI_le (by omega) (by omega)]; omega), if_pos h.lay.o, h.lay.f5, Option.bind_some, h.lay.g5, Option.bind_some, zix (by omega), Option.bind_some, h.lay.sp s hs, Option.bind_some, if_pos p0.o, c_moves p0 (by omega), Option.bind_some]
        dsimp only
        rw [hmv, if_pos (by decide)]
        unfold f_Bus_goOver_L180
        rw [zI_1, zI_add]
        exact b1
theorem c_go99 {Γ : gm_T} {b : Nat} {I : Nat → XS → Prop} (hI : GoC I) : ∀ (d s fu n : Nat) (φ : ph_T) (S : XS), s + d = S.ns → d < fu → CV Γ φ b S → I (20 + 5 * s) S →
    ∃ φ', f_Bus_goOver_L99 Γ fu φ b (nI n) (nI s) = some (nI (cnQ S.mvP (5 * d) (20 + 5 * s) n), φ') ∧ CV Γ φ' b (iterN XS.go1 (5 * d) (20 + 5 * s) S) ∧ I (20 + 5 * S.ns) (iterN XS.go1 (5 * d) (20 + 5 * s) S) ∧ (iterN XS.go1 (5 * d) (20 + 5 * s) S).mvP = S.mvP ∧ (iterN XS.go1 (5 * d) (20 + 5 * s) S).nm = S.nm ∧ (iterN XS.go1 (5 * d) (20 + 5 * s) S).ns = S.ns ∧ Fr b (tAd b S.nm S.ns + 256) φ φ' := by
  intro d
  induction d with
  | zero =>
    intro s fu n φ S hd hfu h hS
    have n5 := h.lay.ns4
    match fu, hfu with
    | fu + 1, _ =>
      refine ⟨φ, ?_, h, ?_, rfl, rfl, rfl, Fr.refl _ _ _⟩
      · rw [f_Bus_goOver_L99, if_pos h.lay.o, h.lay.f3, Option.bind_some, h.lay.g3, Option.bind_some, if_pos (by rw [zI_le (by omega) (by omega)]; omega)]
        rfl
      · rw [show S.ns = s by omega]; exact hS
  | succ d ih =>
    intro s fu n φ S hd hfu h hS
    have n5 := h.lay.ns4
    match fu, hfu with
    | fu + 1, hfu =>
      obtain ⟨φ1, a1, a2, a3, a4, a5, a6, a7⟩ := c_go110 (s := s) hI (f_Bus_goOver_L99 Γ fu) 5 0 jF n φ S (by omega) (by unfold jF; omega) (by omega) h hS
      have a3' : I (20 + 5 * (s + 1)) (iterN XS.go1 5 (20 + 5 * s + 0) S) := by rw [show 20 + 5 * (s + 1) = 20 + 5 * s + 5 by omega]; exact a3
      obtain ⟨φ2, b1, b2, b3, b4, b5, b6, b7⟩ := ih (s + 1) fu (cnQ S.mvP 5 (20 + 5 * s + 0) n) φ1 _ (by rw [a6]; omega) (by omega) a2 a3'
      have hit : iterN XS.go1 (5 * (d + 1)) (20 + 5 * s) S = iterN XS.go1 (5 * d) (20 + 5 * (s + 1)) (iterN XS.go1 5 (20 + 5 * s + 0) S) := by
        rw [show 5 * (d + 1) = 5 + 5 * d by omega, iterN_add, show 20 + 5 * s + 5 = 20 + 5 * (s + 1) by omega]
        rfl
      have hcn : cnQ S.mvP (5 * (d + 1)) (20 + 5 * s) n = cnQ S.mvP (5 * d) (20 + 5 * (s + 1)) (cnQ S.mvP 5 (20 + 5 * s + 0) n) := by
        rw [show 5 * (d + 1) = 5 + 5 * d by omega, cnQ_add, show 20 + 5 * s + 5 = 20 + 5 * (s + 1) by omega]
        rfl
      rw [hit, hcn]
      rw [a4] at b1 b4
      rw [a6] at b3
      rw [a5, a6] at b7
      refine ⟨φ2, ?_, b2, b3, b4, b5.trans a5, b6.trans a6, a7.trans b7⟩
      rw [f_Bus_goOver_L99, if_pos h.lay.o, h.lay.f3, Option.bind_some, h.lay.g3, Option.bind_some, if_neg (by rw [zI_le (by omega) (by omega)]; omega)]
      exact a1.trans b1
theorem c_go4 {Γ : gm_T} {b : Nat} {I : Nat → XS → Prop} (hI : GoC I) : ∀ (d m fu n : Nat) (φ : ph_T) (S : XS), m + d = S.nm → d < fu → CV Γ φ b S → I (5 * m) S →
    ∃ φ', f_Bus_goOver_L4 Γ fu φ b (nI n) (nI m) = f_Bus_goOver_L99 Γ jF φ' b (nI (cnQ S.mvP (5 * d) (5 * m) n)) (nI 0) ∧ CV Γ φ' b (iterN XS.go1 (5 * d) (5 * m) S) ∧ I (5 * S.nm) (iterN XS.go1 (5 * d) (5 * m) S) ∧ (iterN XS.go1 (5 * d) (5 * m) S).mvP = S.mvP ∧ (iterN XS.go1 (5 * d) (5 * m) S).nm = S.nm ∧ (iterN XS.go1 (5 * d) (5 * m) S).ns = S.ns ∧ Fr b (tAd b S.nm S.ns + 256) φ φ' := by
  intro d
  induction d with
  | zero =>
    intro m fu n φ S hd hfu h hS
    have n5 := h.lay.nm4
    match fu, hfu with
    | fu + 1, _ =>
      refine ⟨φ, ?_, h, ?_, rfl, rfl, rfl, Fr.refl _ _ _⟩
      · rw [f_Bus_goOver_L4, if_pos h.lay.o, h.lay.f2, Option.bind_some, h.lay.g2, Option.bind_some, if_pos (by rw [zI_le (by omega) (by omega)]; omega)]
        rfl
      · rw [show S.nm = m by omega]; exact hS
  | succ d ih =>
    intro m fu n φ S hd hfu h hS
    have n5 := h.lay.nm4
    match fu, hfu with
    | fu + 1, hfu =>
      obtain ⟨φ1, a1, a2, a3, a4, a5, a6, a7⟩ := c_go15 (m := m) hI (f_Bus_goOver_L4 Γ fu) 5 0 jF n φ S (by omega) (by unfold jF; omega) (by omega) h hS
      have a3' : I (5 * (m + 1)) (iterN XS.go1 5 (5 * m + 0) S) := by rw [show 5 * (m + 1) = 5 * m + 5 by omega]; exact a3
      obtain ⟨φ2, b1, b2, b3, b4, b5, b6, b7⟩ := ih (m + 1) fu (cnQ S.mvP 5 (5 * m + 0) n) φ1 _ (by rw [a5]; omega) (by omega) a2 a3'
      have hit : iterN XS.go1 (5 * (d + 1)) (5 * m) S = iterN XS.go1 (5 * d) (5 * (m + 1)) (iterN XS.go1 5 (5 * m + 0) S) := by
        rw [show 5 * (d + 1) = 5 + 5 * d by omega, iterN_add, show 5 * m + 5 = 5 * (m + 1) by omega]
        rfl
      have hcn : cnQ S.mvP (5 * (d + 1)) (5 * m) n = cnQ S.mvP (5 * d) (5 * (m + 1)) (cnQ S.mvP 5 (5 * m + 0) n) := by
        rw [show 5 * (d + 1) = 5 + 5 * d by omega, cnQ_add, show 5 * m + 5 = 5 * (m + 1) by omega]
        rfl
      rw [hit, hcn]
      rw [a4] at b1 b4
      rw [a5] at b3
      rw [a5, a6] at b7
      refine ⟨φ2, ?_, b2, b3, b4, b5.trans a5, b6.trans a6, a7.trans b7⟩
      rw [f_Bus_goOver_L4, if_pos h.lay.o, h.lay.f2, Option.bind_some, h.lay.g2, Option.bind_some, if_neg (by rw [zI_le (by omega) (by omega)]; omega)]
      exact a1.trans b1
theorem c_goOver {Γ : gm_T} {φ : ph_T} {b : Nat} {S : XS} {I : Nat → XS → Prop} (hI : GoC I) (h : CV Γ φ b S) (hS : I 0 S) :
    ∃ φ', f_Bus_goOver Γ φ b = some (nI (cnQ S.mvP 40 0 0), φ') ∧ CV Γ φ' b S.goA ∧ I 40 S.goA ∧ Fr b (tAd b S.nm S.ns + 256) φ φ' := by
  have n4 := h.lay.nm4
  have n5 := h.lay.ns4
  obtain ⟨φ1, a1, a2, a3, a4, a5, a6, a7⟩ := c_go4 hI S.nm 0 jF 0 φ S (by omega) (by unfold jF; omega) h hS
  generalize hU : iterN XS.go1 (5 * S.nm) (5 * 0) S = U at *
  -- masters that are not there
  obtain ⟨i1, i2, i3⟩ := go_idle hI (20 - 5 * S.nm) (5 * S.nm) U (cnQ S.mvP (5 * S.nm) 0 0) (by omega) a3 (fun k h1 h2 => by
    rw [a4]
    unfold XS.mvP XS.isP
    rw [if_neg (by omega), decide_eq_false (by omega)]
    rfl)
  rw [show 5 * S.nm + (20 - 5 * S.nm) = 20 by omega] at i2
  obtain ⟨φ2, b1, b2, b3, b4, b5, b6, b7⟩ := c_go99 hI S.ns 0 jF (cnQ S.mvP (5 * S.nm) 0 0) φ1 U (by rw [a6]; omega) (by unfold jF; omega) a2 i2
  generalize hV : iterN XS.go1 (5 * S.ns) (20 + 5 * 0) U = V at *
  rw [a6] at b3
  obtain ⟨k1, k2, k3⟩ := go_idle hI (20 - 5 * S.ns) (20 + 5 * S.ns) V (cnQ S.mvP (5 * S.ns) 20 (cnQ S.mvP (5 * S.nm) 0 0)) (by omega) b3 (fun k h1 h2 => by
    rw [b4, a4]
    unfold XS.mvP XS.isP
    rw [if_pos (by omega), decide_eq_false (by omega)]
    rfl)
  rw [show 20 + 5 * S.ns + (20 - 5 * S.ns) = 40 by omega] at k2
  rw [b4, a4] at k3
  rw [a4] at i3 b1
  have hA : S.goA = V := by
    unfold XS.goA
    rw [show 40 = 5 * S.nm + ((20 - 5 * S.nm) + (5 * S.ns + (20 - 5 * S.ns))) by omega, iterN_add, iterN_add, iterN_add, show iterN XS.go1 (5 * S.nm) 0 S = U from hU, show 0 + 5 * S.nm = 5 * S.nm by omega, i1, show 5 * S.nm + (20 - 5 * S.nm) = 20 by omega, show iterN XS.go1 (5 * S.ns) 20 U = V from hV, k1]
  have hN : cnQ S.mvP 40 0 0 = cnQ S.mvP (5 * S.ns) 20 (cnQ S.mvP (5 * S.nm) 0 0) := by
    conv => lhs; rw [show 40 = 5 * S.nm + ((20 - 5 * S.nm) + (5 * S.ns + (20 - 5 * S.ns))) by omega]
    rw [cnQ_add, cnQ_add, cnQ_add, show 0 + 5 * S.nm = 5 * S.nm by omega, i3, show 5 * S.nm + (20 - 5 * S.nm) = 20 by omega, k3]
  rw [a5, a6] at b7
  refine ⟨φ2, ?_, by rw [hA]; exact b2, by rw [hA]; exact k2, a7.trans b7⟩
  unfold f_Bus_goOver
  have a1' : f_Bus_goOver_L4 Γ jF φ b (0 : Int32) (0 : Int32) = f_Bus_goOver_L99 Γ jF φ1 b (nI (cnQ S.mvP (5 * S.nm) 0 0)) (nI 0) := a1
  rw [a1', b1, hN]
