/-! FROM THE J LAYER TO THE CLAIM: the world at the law's entry; the claim out of the law's walk in J. -/
theorem js_prim {args : Array Value} {s : State} {t : FieldType} (h : (Cond.arrayClass t).before args s = true) (ho : ∀ C, t ≠ .object C) : ∃ c : ClassId, ArrOfT s c t ∧ va_RA s c t := by
  obtain ⟨c, k, comp, h1, h2, h3⟩ := Cond.arrayClass_spec h
  refine ⟨c, fun N z => ⟨(fun q hq => by cases hq), k, h2, comp, h3⟩, ?_⟩
  cases t with
  | object C => exact absurd rfl (ho C)
  | _ => exact h1
theorem js_obj {args : Array Value} {s : State} {C : String} (h : (Cond.arrayOver (.object C)).before args s = true) : ∃ c : ClassId, ArrOfT s c (.object C) ∧ va_RA s c (.object C) := by
  obtain ⟨comp, c, k, h1, -, h3, h4, h5⟩ := Cond.arrayOver_spec h
  exact ⟨c, fun N z => ⟨(fun q hq => by cases hq), k, h3, comp, h4⟩, k, comp, h3, h4, h1, h5⟩
theorem js_stat {a : Array Value} {s : State} {C f d : String} (hl : (Cond.laysStatic C f d).before a s = true) (h : (Cond.isRef (.static C f d)).before a s = true) : jz C f d s.heap.size s s.heap := by
  obtain ⟨c, k, i, fd, q, cell, h1, h2, h3, h4, h5, h6, h7, h8, h9⟩ := Cond.laysStatic_spec hl
  cases hv : cell.slots[fd.slot]? with
  | none => exact absurd (Array.getElem?_eq_none_iff.mp hv) (by omega)
  | some v =>
    have he : (Term.static C f d).eval a s none [] s = some v := by
      simp [Term.eval, State.fieldNamed?, h2, h3, h4, h5, h6, hv]
    have hr : v.isRef = true := by
      simp only [Cond.before, Cond.holds, Cond.value, he] at h
      cases v <;> simp_all [Value.isRef]
    exact ⟨c, i, k, fd, q, cell, v, h1, h2, h3, h4, h5, h6, h7, h8, h9, hv, hr, (Array.getElem?_eq_some_iff.mp h5).1⟩
theorem js_cls {s : State} {args : Array Value} (hts : ∀ w ∈ lw_tbl, w.before args s = true) (ci : Nat) (q : vw_C) (hq : jcl[ci]? = some q) : ∃ (d : ClassId × (Nat → Nat)), u_Kn s q.1 q.2.1 q.2.2 d.1 d.2 := by
  have go : ∀ (C : String) (T : u_T) (N : Nat) (ps : List Nat) (i : Nat), (u_ws C T N = ps.filterMap (fun i => lw_tbl[i]?)) → lw_tbl[i]? = some (Cond.instantiable C N) → ∃ (d : ClassId × (Nat → Nat)), u_Kn s C T N d.1 d.2 := by
    intro C T N ps i hp hi
    have hin : ∀ w ∈ u_ws C T N, w ∈ lw_tbl := by
      intro c hc
      rw [hp] at hc
      obtain ⟨i, -, hi⟩ := List.mem_filterMap.mp hc
      exact List.mem_of_getElem? hi
    obtain ⟨cC, iS, h⟩ := u_known hts hin (hts _ (List.mem_of_getElem? hi))
    exact ⟨(cC, iS), h⟩
  match ci, hq with
  | 0, hq => cases hq; exact go _ _ _ [396, 398, 400, 402, 404, 406, 408, 410] 361 (by decide +kernel) (by decide +kernel)
  | 1, hq => cases hq; exact go _ _ _ [419, 421] 354 (by decide +kernel) (by decide +kernel)
  | 2, hq => cases hq; exact go _ _ _ [167, 169] 160 (by decide +kernel) (by decide +kernel)
  | 3, hq => cases hq; exact go _ _ _ [194, 196, 198, 200] 184 (by decide +kernel) (by decide +kernel)
  | 4, hq => cases hq; exact go _ _ _ [437, 439, 441, 443, 445, 447, 449, 451, 453] 348 (by decide +kernel) (by decide +kernel)
  | 5, hq => cases hq; exact go _ _ _ [484, 486, 488, 490, 492, 494, 496] 342 (by decide +kernel) (by decide +kernel)
  | 6, hq => cases hq; exact go _ _ _ [574, 576, 578, 580, 582, 584] 551 (by decide +kernel) (by decide +kernel)
  | 7, hq => cases hq; exact go _ _ _ [321, 323, 325, 327, 329, 331, 333, 335, 337, 339] 299 (by decide +kernel) (by decide +kernel)
  | 8, hq => cases hq; exact go _ _ _ [527, 529, 531, 533, 535, 537, 539, 541, 543, 545, 547] 501 (by decide +kernel) (by decide +kernel)
  | 9, hq => cases hq; exact go _ _ _ [220, 222, 224, 226, 228] 206 (by decide +kernel) (by decide +kernel)
  | 10, hq => cases hq; exact go _ _ _ [259, 261, 263, 265, 267, 269, 271, 273, 275, 277, 279, 281, 283, 285, 287, 289, 291] 174 (by decide +kernel) (by decide +kernel)
  | 11, hq => cases hq; exact go _ _ _ [597, 599, 601, 603, 605, 607, 609, 611, 613, 615] 143 (by decide +kernel) (by decide +kernel)
  | 12, hq => cases hq; exact go _ _ _ [1663, 1665, 1667, 1669, 1671, 1673, 1675, 1677, 1679, 1681, 1683, 1685, 1687, 1689, 1691, 1693, 1695, 1697, 1699, 1701, 1703, 1705, 1707, 1709, 1711, 1713, 1715, 1717, 1719, 1721, 1723, 1725, 1727, 1729, 1731, 1733, 1735, 1737, 1739, 1741, 1743, 1745, 1747, 1749, 1751, 1753, 1755, 1757, 1759, 1761, 1763, 1765, 1767, 1769, 1771, 1773, 1775, 1777, 1779, 1781, 1783, 1785, 1787, 1789, 1791, 1793, 1795, 1797, 1799, 1801, 1803, 1805, 1807, 1809, 1811, 1813, 1815, 1817, 1819, 1821, 1823, 1825, 1827, 1829, 1831, 1833, 1835, 1837, 1839, 1841, 1843, 1845, 1847, 1849, 1851, 1853, 1855, 1857, 1859, 1861, 1863, 1865] 1535 (by decide +kernel) (by decide +kernel)
  | k + 13, hq => cases hq
theorem js_arr {s : State} {args : Array Value} (hts : ∀ w ∈ lw_tbl, w.before args s = true) (t : Nat) (ty : FieldType) (hq : jty[t]? = some ty) : ∃ c : ClassId, ArrOfT s c ty ∧ va_RA s c ty := by
  match t, hq with
  | 0, hq => cases hq; exact js_prim (hts _ (List.mem_of_getElem? (i := 203) (by decide +kernel))) (fun C h => by cases h)
  | 1, hq => cases hq; exact js_prim (hts _ (List.mem_of_getElem? (i := 172) (by decide +kernel))) (fun C h => by cases h)
  | 2, hq => cases hq; exact js_prim (hts _ (List.mem_of_getElem? (i := 294) (by decide +kernel))) (fun C h => by cases h)
  | 3, hq => cases hq; exact js_obj (hts _ (List.mem_of_getElem? (i := 183) (by decide +kernel)))
  | 4, hq => cases hq; exact js_obj (hts _ (List.mem_of_getElem? (i := 205) (by decide +kernel)))
  | 5, hq => cases hq; exact js_obj (hts _ (List.mem_of_getElem? (i := 360) (by decide +kernel)))
  | 6, hq => cases hq; exact js_obj (hts _ (List.mem_of_getElem? (i := 305) (by decide +kernel)))
  | 7, hq => cases hq; exact js_obj (hts _ (List.mem_of_getElem? (i := 298) (by decide +kernel)))
  | 8, hq => cases hq; exact js_obj (hts _ (List.mem_of_getElem? (i := 296) (by decide +kernel)))
  | 9, hq => cases hq; exact js_obj (hts _ (List.mem_of_getElem? (i := 500) (by decide +kernel)))
  | k + 10, hq => cases hq
theorem js_sr {s : State} {args : Array Value} (hts : ∀ w ∈ lw_tbl, w.before args s = true) : ∀ q ∈ jsr, ∃ sa, vk_R q.1 q.2.1 q.2.2 sa s := by
  obtain ⟨cC, kC, hfc, -⟩ := Cond.instantiable_spec (hts (.instantiable "BusCrossbar" 10) (List.mem_of_getElem? (i := 143) (by decide +kernel)))
  have go : ∀ (i : Nat) (tx : String), (Cond.stringRef "BusCrossbar" i tx).before args s = true → ∃ sa, vk_R "BusCrossbar" i tx sa s := by
    intro i tx h
    obtain ⟨k, cf, i, a, -, -, -, -, -, he⟩ := Cond.stringRef_spec hfc h
    exact ⟨a, vk_R.of h he⟩
  intro q hq
  simp only [jsr, List.mem_cons, List.not_mem_nil, or_false] at hq
  rcases hq with rfl | rfl | rfl | rfl | rfl | rfl
  · exact go _ _ (hts _ (List.mem_of_getElem? (i := 727) (by decide +kernel)))
  · exact go _ _ (hts _ (List.mem_of_getElem? (i := 763) (by decide +kernel)))
  · exact go _ _ (hts _ (List.mem_of_getElem? (i := 790) (by decide +kernel)))
  · exact go _ _ (hts _ (List.mem_of_getElem? (i := 837) (by decide +kernel)))
  · exact go _ _ (hts _ (List.mem_of_getElem? (i := 927) (by decide +kernel)))
  · exact go _ _ (hts _ (List.mem_of_getElem? (i := 941) (by decide +kernel)))
theorem js_nc {s : State} {args : Array Value} (hg : (Jvm.Cond.and given_1 narrow_1).before args s = true) : ∀ q ∈ jnc, va_Nc q.1 q.2 s := by
  have hs := flat_of_before _ hg
  intro q hq
  simp only [jnc, List.mem_cons, List.not_mem_nil, or_false] at hq
  rcases hq with rfl | rfl | rfl | rfl | rfl | rfl | rfl | rfl | rfl | rfl | rfl | rfl
  · exact va_Nc.of (hs _ (by decide +kernel))
  · exact va_Nc.of (hs _ (by decide +kernel))
  · exact va_Nc.of (hs _ (by decide +kernel))
  · exact va_Nc.of (hs _ (by decide +kernel))
  · exact va_Nc.of (hs _ (by decide +kernel))
  · exact va_Nc.of (hs _ (by decide +kernel))
  · exact va_Nc.of (hs _ (by decide +kernel))
  · exact va_Nc.of (hs _ (by decide +kernel))
  · exact va_Nc.of (hs _ (by decide +kernel))
  · exact va_Nc.of (hs _ (by decide +kernel))
  · exact va_Nc.of (hs _ (by decide +kernel))
  · exact va_Nc.of (hs _ (by decide +kernel))
theorem js_start (hlaw : LawOk) {p : Program} {e : Env} {s : State} {m : MethodId} {below : List Frame} {meth : Method} {c : Code} (l : Launch) (hl : l.stackTraces = false) {b L : Nat} {xs : Nat → Int32} (hL : L ≤ 3587) (hx : p.tables.exec = Jvm.exec) (hb : c.code = code) (hr : meth.sig.returnType = ret) (hml : c.maxLocals = 8) (hown : s.vm.findClass "BusCrossbarLaw" = some m.cls) (hts : ∀ w ∈ lw_tbl, w.before #[Value.ref b] s = true)
    (hX : va_X b L xs s s.heap) (hbl : b < s.heap.size) (hlocks : meth.locks = false) (hg : (Jvm.Cond.and given_1 narrow_1).before #[Value.ref b] s = true) (hnm : meth.name = "law") (hxt : c.exceptionTable = #[]) :
    W p l e room_1 s m #[Value.ref b] below meth c s.heap [] 0 0 (fun t => ∃ o, t.status = .running ∧ Ended t below o ∧ o = .returned (some (.int 1)) ∧ Framed s o t [] 601024 7293000) (entryFrame m ([Value.ref b] : List Value).toArray 8) := by
  have hD : ∀ ci : Nat, ∃ d : ClassId × (Nat → Nat), ∀ q : vw_C, jcl[ci]? = some q → u_Kn s q.1 q.2.1 q.2.2 d.1 d.2 := by
    intro ci
    cases hq : jcl[ci]? with
    | none => exact ⟨(0, fun _ => 0), fun q h => by cases h⟩
    | some q =>
      obtain ⟨d, h⟩ := js_cls hts ci q hq
      exact ⟨d, fun q' h' => by cases h'; exact h⟩
  have hA : ∀ t : Nat, ∃ d : ClassId, ∀ ty : FieldType, jty[t]? = some ty → ArrOfT s d ty ∧ va_RA s d ty := by
    intro t
    cases hq : jty[t]? with
    | none => exact ⟨0, fun q h => by cases h⟩
    | some ty =>
      obtain ⟨d, h⟩ := js_arr hts t ty hq
      exact ⟨d, fun q' h' => by cases h'; exact h⟩
  obtain ⟨w, hwe⟩ : ∃ w : jw_T, w = (l, jprog, (fun ci => (Classical.choose (hD ci)).1, fun ci => (Classical.choose (hD ci)).2), (fun t => Classical.choose (hA t)), s.heap.size, b, L, xs) := ⟨_, rfl⟩
  have hw : jok w := by rw [hwe]; rfl
  have hk : jk w s := by
    rw [hwe]
    refine ⟨fun c hc hgc a => jg_at hgc (State.WarmedH.refl s) (hts c hc), ⟨fun ci q hq => Classical.choose_spec (hD ci) q hq, fun t q hq => ?_⟩, hX, hbl, Nat.le_refl _, hl, ?_, ?_, js_sr hts, fun a ha cell hc => ?_, js_nc hg⟩
    · simp only [jtys, List.getElem?_map, List.getElem?_zipIdx, Option.map_eq_some_iff] at hq
      obtain ⟨y, hy, rfl⟩ := hq
      obtain ⟨ty, h1, rfl⟩ := hy
      simpa using Classical.choose_spec (hA t) ty h1
    · exact js_stat (hts _ (List.mem_of_getElem? (i := 712) (by decide +kernel))) (flat_of_before _ hg _ (by decide +kernel))
    · exact js_stat (hts _ (List.mem_of_getElem? (i := 714) (by decide +kernel))) (flat_of_before _ hg _ (by decide +kernel))
    · have h9 := (Array.getElem?_eq_some_iff.mp hc).1
      have h8 : s.heap.size ≤ a := ha
      omega
  have hz : jw_z w = s.heap.size := by rw [hwe]
  have hbb : jw_b w = b := by rw [hwe]
  have hll : jw_l w = l := by rw [hwe]
  have hJ := hlaw w hw (by rw [hwe]; exact hL) p e room_1 s m #[Value.ref b] below meth c 601024 7293000 s.heap [] 0 0 _
    ⟨hx, hb, hml, hr, hlocks, by unfold jxt; rw [hxt]; rfl, hown, hnm, Nat.le_refl _, Nat.le_refl _, hk⟩
    ⟨⟨by rw [hz]; exact Nat.le_refl _, fun a h1 h2 => absurd h2 (by omega)⟩, fun _ => hz, Nat.le_refl _, fun _ _ => rfl, fun q hq => (by cases hq), Nat.le_refl _, hk.2.2.2.2.2.2.2.2.2.1⟩ (jents_v [.ref (jw_b w)] (nL := 8) (by simp only [jent_r, jent_i, jent_l, jent_a, jent_0]; exact Nat.le_of_ble_eq_true rfl)) ⟨Nat.le_refl _, Nat.le_refl _, Nat.le_refl _, Nat.le_refl _⟩
  rw [lg_entry_eq]
  rw [hbb, hll] at hJ
  refine W.mono ?_ hJ
  intro t ⟨o, r, h', n', x', L', t1, t2, t3, t4, t5, t6, t7⟩
  subst t7
  have ho : o = .returned (some (.int 1)) := t5
  refine ⟨o, t1, t2, ho, ⟨_, ho⟩, t3, ?_⟩
  exact t4.weaken (fun y hy hlt => absurd hlt (Nat.not_lt.mpr (Nat.le_trans (Nat.le_of_eq hz.symm) (t6.2.2.2.2.1 y hy)))) (Nat.le_refl _) (Nat.le_refl _)
def R_law : String := "BusCrossbarLaw"
def lw_P (b : Addr) (xs : List Int32) (args : Array Value) (s : State) : Prop := args = #[.ref b] ∧ s.IntsAt b xs ∧ xs.length ≤ 3587 ∧ (Jvm.Cond.and given_1 narrow_1).before args s = true
def lw_Q (_ : Array Value) (s : State) (o : Outcome) (t : State) : Prop := o = .returned (some (.int 1)) ∧ Framed s o t [] 601024 7293000
def lw_Z (below : List Frame) (a : Array Value) (s : State) : State → Prop := fun t => ∃ o, t.status = .running ∧ Ended t below o ∧ lw_Q a s o t
set_option maxHeartbeats 4000000 in
theorem lw_walk (hlaw : LawOk) (l : Launch) (hl : l.stackTraces = false) (b : Addr) (xs : List Int32) : MetFree l x (headSpec (Jvm.Cond.code x code maxLocals ret :: tables_1) room_1) (lw_P b xs) (fun _ _ _ _ _ => True) lw_Q := by
  refine MetFree.of_bodyS (code := code) (maxLocals := maxLocals) (ret := ret) (by decide) ?_ ?_
  · intro args s m h hn
    obtain ⟨meth, c, h1, h2, h3, h4, h5, h6, -, -⟩ := Cond.code_spec hn (atoms_spec (ws := Jvm.Cond.code x code maxLocals ret :: tables_1) h _ List.mem_cons_self)
    exact ⟨meth, c, h1, h2, h3, h4, h5, h6⟩
  · intro p e s m args below meth c s₁ B hml0 hP _
    obtain ⟨rfl, hx, hbd, hgv⟩ := hP
    obtain ⟨scr, harrAt, hlist, hof, hsmall⟩ := hx
    obtain ⟨hcb, hkn, -, -⟩ := State.arrayAt?_spec harrAt
    have hown : s.vm.findClass R_law = some m.cls := findClass_of_methodNamed B.named
    have hts0 : ∀ c ∈ (Jvm.Cond.code x code maxLocals ret :: tables_1), c.before #[Value.ref b] s = true := atoms_spec (ws := Jvm.Cond.code x code maxLocals ret :: tables_1) B.pre
    have hts : ∀ w ∈ lw_tbl, w.before #[Value.ref b] s = true := k2_hts_sels lw_privs (fun w hw => hts0 w (List.mem_cons_of_mem _ hw)) lw_privs_ok
    have hml : c.maxLocals = 8 := B.maxLocals_eq (hts0 _ List.mem_cons_self)
    have X₀ : Stand p l e room_1 s m #[Value.ref b] below meth c s₁ [] 0 0 := Stand.of_body B
    have hh0 : s₁.heap = s.heap := by rw [B.state]; rfl
    have hsz : scr.slots.size = xs.length := by rw [← Array.length_toList, hlist, List.length_map]
    have hval : ∀ j : Nat, j < xs.length → scr.slots[j]? = some (.int (xs.getD j 0)) := fun j hj => by
      rw [← Array.getElem?_toList, hlist]
      simp [hj]
    have hbl : b < s.heap.size := (Array.getElem?_eq_some_iff.mp hcb).1
    have hX : va_X b xs.length (fun j => xs.getD j 0) s s.heap := ⟨scr, hcb, hof, hkn, hsz, hval⟩
    have K : W p l e room_1 s m #[Value.ref b] below meth c s₁.heap [] 0 0 (lw_Z below #[Value.ref b] s) (entryFrame m ([Value.ref b] : List Value).toArray 8) := by
      rw [hh0]
      exact js_start hlaw l hl hbd B.exec B.bytes B.returns hml hown hts hX hbl B.notSynchronized hgv (name_of_methodNamed B.named B.method).1 (Array.isEmpty_iff.mp (B.noHandlers (hts0 _ List.mem_cons_self)))
    obtain ⟨t, a1, o, b1, b2, b3⟩ := K s₁ rfl X₀
    exact ⟨t, o, a1, b1, b2, b3⟩
theorem lw_pre_spec {args : Array Value} {s : State} (h : (Jvm.Cond.and given_1 narrow_1).before args s = true) (hr : rest_1_c.before args s = true) : ∃ (b : Addr) (xs : List Int32), lw_P b xs args s := by
  have hs := flat_of_before _ h
  have hq := flat_of_before _ hr
  have hc : (Cond.count 1).before args s = true := hs _ (by decide +kernel)
  have harr : (Cond.arrayOf (.arg 0) .int).before args s = true := hs _ (by decide +kernel)
  have hle : (Cond.le (.length (.arg 0)) (.int 3587)).before args s = true := hs _ (by decide +kernel)
  have hlen : (Cond.isInt (.length (.arg 0))).before args s = true := hq _ (by decide +kernel)
  have hall : (Cond.all (.arg 0) (.isInt (.elem (.arg 0) (.index 0)))).before args s = true := hq _ (by decide +kernel)
  obtain ⟨b, xs, hb, hx⟩ := State.ints_of_pre rfl harr hlen hall
  have hsm : xs.length < 2 ^ 31 := hx.choose_spec.2.2.2
  have hev : (Term.length (.arg 0)).eval args s none [] s = some (.int xs.length.toInt32) := hx.length_eval hb
  have hv := Cond.le_ints hev (show (Term.int 3587).eval args s none [] s = some (.int 3587) from rfl)
  have hd : xs.length.toInt32 ≤ 3587 := by
    simpa [Cond.before, Cond.holds, hv] using hle
  have hN : xs.length ≤ 3587 := (Int32.ofNat_le_ofNat hsm (by decide)).mp (show Int32.ofNat xs.length ≤ Int32.ofNat 3587 from hd)
  exact ⟨b, xs, Cond.one_arg hc (show args[0]? = some (.ref b) from hb), hx, hN, h⟩
theorem lw_comes (hlaw : LawOk) (l : Launch) (hl : l.stackTraces = false) : Comes l x (Jvm.Cond.code x code maxLocals ret :: tables_1) room_1 (fun tb e args s => Calls_1 tb e args s ∧ rest_1 tb e args s ∧ Pre_1 tb e args s)
    (fun _ _ args s o t => lw_Q args s o t) := by
  intro p e ha hc hk s m args below hf hfit hheap happ hpre
  obtain ⟨b, xs, hP⟩ := lw_pre_spec hpre.2.2 hpre.2.1
  obtain ⟨k, o, h1, h2, h3, hQ⟩ := lw_walk hlaw l hl b xs p e ha hc hk s m args below hf ((Spec.applies_iff_loose hf).mp happ).1 hP trivial
  exact ⟨k, o, h1, h2, h3, hQ⟩
theorem lw_frame {s t : State} {o : Outcome} {args : Array Value} (h : Framed s o t [] 601024 7293000) :
    Framed s o t (fieldLocs frame_1_writes args s ++ arrayLocs frame_1_arrays args s ++ staticLocs frame_1_statics s) 601024 7293000 := h
theorem lw_limb (hlaw : LawOk) (L : Cond) (hL : ∀ (args : Array Value) (s t : State), L.after args s (.returned (some (.int 1))) t = true) :
    ArmFor flags0 classFile x code maxLocals ret World_1 tables_1 room_1 Calls_1 rest_1 Pre_1
      (fun tb e a s o t => postC L tb e a s o t ∧ Framed s o t (fieldLocs frame_1_writes a s ++ arrayLocs frame_1_arrays a s ++ staticLocs frame_1_statics s) 601024 7293000) := by
  intro l hfl _ _ p e ha hc hk s m args below hf hfit hheap happ hpre
  obtain ⟨k, o, h1, h2, h3, rfl, hF⟩ := lw_comes hlaw l (by unfold Launch.stackTraces; rw [hfl]; decide +kernel) p e ha hc hk s m args below hf hfit hheap happ hpre
  exact ⟨k, _, h1, h2, h3, hL args s _, lw_frame hF⟩
theorem i_vc_of (hlaw : LawOk) : Claimed_1_1 ∧ Claimed_1_2 := ⟨lw_limb hlaw limb_1_1 (fun args s t => by simp [limb_1_1, Cond.after, Cond.holds, Cond.value]), lw_limb hlaw limb_1_2 (fun args s t => Cond.after_iff.mpr (by
  first | (rw [show limb_1_2 = Cond.eq .result (.int 1) from rfl, Cond.eq_ints (x := 1) (y := 1) rfl rfl]; simp; done) | (simp [limb_1_2, Cond.value, Term.eval]; done)))⟩
