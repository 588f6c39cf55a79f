theorem J_iconst {w : jw_T} {M : jm_T} {pc : Nat} {ls : jl_T} {st : List Value} {h : jh_T} {n : Nat} {xx : Bool} {kc ks : Nat} {Q : jr_T → jh_T → Nat → Bool → Prop} {i : Int} {v : Int32} (d : decode (jm_cod M) pc = .ok (.iconst i, 1)) (hv : Int32.ofInt i = v) (k : J w M (pc + 1) ls (.int v :: st) h n xx kc ks Q) : J w M pc ls st h n xx kc ks Q := by
  intro p e R s m args below meth c mc ms H locs cells slots arr X Y V K
  exact lv_iconst X.1 X.2.1 d hv (k p e R s m args below meth c mc ms H locs cells slots arr X Y V K)
theorem J_bipush {w : jw_T} {M : jm_T} {pc : Nat} {ls : jl_T} {st : List Value} {h : jh_T} {n : Nat} {xx : Bool} {kc ks : Nat} {Q : jr_T → jh_T → Nat → Bool → Prop} {i : Int} {v : Int32} (d : decode (jm_cod M) pc = .ok (.bipush i, 2)) (hv : (Int8.ofInt i).toInt32 = v) (k : J w M (pc + 2) ls (.int v :: st) h n xx kc ks Q) : J w M pc ls st h n xx kc ks Q := by
  intro p e R s m args below meth c mc ms H locs cells slots arr X Y V K
  exact lv_bipush X.1 X.2.1 d hv (k p e R s m args below meth c mc ms H locs cells slots arr X Y V K)
theorem J_sipush {w : jw_T} {M : jm_T} {pc : Nat} {ls : jl_T} {st : List Value} {h : jh_T} {n : Nat} {xx : Bool} {kc ks : Nat} {Q : jr_T → jh_T → Nat → Bool → Prop} {i : Int} {v : Int32} (d : decode (jm_cod M) pc = .ok (.sipush i, 3)) (hv : (Int16.ofInt i).toInt32 = v) (k : J w M (pc + 3) ls (.int v :: st) h n xx kc ks Q) : J w M pc ls st h n xx kc ks Q := by
  intro p e R s m args below meth c mc ms H locs cells slots arr X Y V K
  exact lv_sipush X.1 X.2.1 d hv (k p e R s m args below meth c mc ms H locs cells slots arr X Y V K)
theorem J_lconst {w : jw_T} {M : jm_T} {pc : Nat} {ls : jl_T} {st : List Value} {h : jh_T} {n : Nat} {xx : Bool} {kc ks : Nat} {Q : jr_T → jh_T → Nat → Bool → Prop} {i : Fin 2} {v : Int64} (d : decode (jm_cod M) pc = .ok (.lconst i, 1)) (hv : Int64.ofNat (i : Nat) = v) (k : J w M (pc + 1) ls (.long v :: st) h n xx kc ks Q) : J w M pc ls st h n xx kc ks Q := by
  intro p e R s m args below meth c mc ms H locs cells slots arr X Y V K
  exact lv_lconst X.1 X.2.1 d hv (k p e R s m args below meth c mc ms H locs cells slots arr X Y V K)
theorem J_null {w : jw_T} {M : jm_T} {pc : Nat} {ls : jl_T} {st : List Value} {h : jh_T} {n : Nat} {xx : Bool} {kc ks : Nat} {Q : jr_T → jh_T → Nat → Bool → Prop}  (d : decode (jm_cod M) pc = .ok (.aconst_null, 1)) (k : J w M (pc + 1) ls (.null :: st) h n xx kc ks Q) : J w M pc ls st h n xx kc ks Q := by
  intro p e R s m args below meth c mc ms H locs cells slots arr X Y V K
  exact lv_null X.1 X.2.1 d (k p e R s m args below meth c mc ms H locs cells slots arr X Y V K)
theorem J_ldc {w : jw_T} {M : jm_T} {pc : Nat} {ls : jl_T} {st : List Value} {h : jh_T} {n : Nat} {xx : Bool} {kc ks : Nat} {Q : jr_T → jh_T → Nat → Bool → Prop} {i : Nat} {v : Int32} (d : decode (jm_cod M) pc = .ok (.ldc i, 2)) (hm : Cond.constant (jm_own M) i v ∈ jw_Ts w) (k : J w M (pc + 2) ls (.int v :: st) h n xx kc ks Q) : J w M pc ls st h n xx kc ks Q := by
  intro p e R s m args below meth c mc ms H locs cells slots arr X Y V K
  exact lv_ldc X.1 X.2.1 X.2.2.2.2.2.2.1 (X.2.2.2.2.2.2.2.2.2.2.1 _ hm rfl _) d (k p e R s m args below meth c mc ms H locs cells slots arr X Y V K)
theorem J_ldcw {w : jw_T} {M : jm_T} {pc : Nat} {ls : jl_T} {st : List Value} {h : jh_T} {n : Nat} {xx : Bool} {kc ks : Nat} {Q : jr_T → jh_T → Nat → Bool → Prop} {i : Nat} {v : Int32} (d : decode (jm_cod M) pc = .ok (.ldc_w i, 3)) (hm : Cond.constant (jm_own M) i v ∈ jw_Ts w) (k : J w M (pc + 3) ls (.int v :: st) h n xx kc ks Q) : J w M pc ls st h n xx kc ks Q := by
  intro p e R s m args below meth c mc ms H locs cells slots arr X Y V K
  exact lv_ldcw X.1 X.2.1 X.2.2.2.2.2.2.1 (X.2.2.2.2.2.2.2.2.2.2.1 _ hm rfl _) d (k p e R s m args below meth c mc ms H locs cells slots arr X Y V K)
theorem J_ldc2 {w : jw_T} {M : jm_T} {pc : Nat} {ls : jl_T} {st : List Value} {h : jh_T} {n : Nat} {xx : Bool} {kc ks : Nat} {Q : jr_T → jh_T → Nat → Bool → Prop} {i : Nat} {v : Int64} (d : decode (jm_cod M) pc = .ok (.ldc2_w i, 3)) (hm : Cond.constantLong (jm_own M) i v ∈ jw_Ts w) (k : J w M (pc + 3) ls (.long v :: st) h n xx kc ks Q) : J w M pc ls st h n xx kc ks Q := by
  intro p e R s m args below meth c mc ms H locs cells slots arr X Y V K
  exact lv_ldc2 X.1 X.2.1 X.2.2.2.2.2.2.1 (X.2.2.2.2.2.2.2.2.2.2.1 _ hm rfl _) d (k p e R s m args below meth c mc ms H locs cells slots arr X Y V K)
theorem J_iload_n {w : jw_T} {M : jm_T} {pc : Nat} {ls : jl_T} {st : List Value} {h : jh_T} {n : Nat} {xx : Bool} {kc ks : Nat} {Q : jr_T → jh_T → Nat → Bool → Prop} {i : Fin 4} {x : Int32} (d : decode (jm_cod M) pc = .ok (.iload_n i, 1)) (hl : ls[(i : Nat)]? = some (some (.int x))) (k : J w M (pc + 1) ls (.int x :: st) h n xx kc ks Q) : J w M pc ls st h n xx kc ks Q := by
  intro p e R s m args below meth c mc ms H locs cells slots arr X Y V K
  exact lv_iload_n X.1 X.2.1 d rfl (V.2.2 _ _ hl) (k p e R s m args below meth c mc ms H locs cells slots arr X Y V K)
theorem J_iload {w : jw_T} {M : jm_T} {pc : Nat} {ls : jl_T} {st : List Value} {h : jh_T} {n : Nat} {xx : Bool} {kc ks : Nat} {Q : jr_T → jh_T → Nat → Bool → Prop} {i : Nat} {x : Int32} (d : decode (jm_cod M) pc = .ok (.iload i, 2)) (hl : ls[i]? = some (some (.int x))) (k : J w M (pc + 2) ls (.int x :: st) h n xx kc ks Q) : J w M pc ls st h n xx kc ks Q := by
  intro p e R s m args below meth c mc ms H locs cells slots arr X Y V K
  exact lv_iload X.1 X.2.1 d (V.2.2 _ _ hl) (k p e R s m args below meth c mc ms H locs cells slots arr X Y V K)
theorem J_lload_n {w : jw_T} {M : jm_T} {pc : Nat} {ls : jl_T} {st : List Value} {h : jh_T} {n : Nat} {xx : Bool} {kc ks : Nat} {Q : jr_T → jh_T → Nat → Bool → Prop} {i : Fin 4} {x : Int64} (d : decode (jm_cod M) pc = .ok (.lload_n i, 1)) (hl : ls[(i : Nat)]? = some (some (.long x))) (k : J w M (pc + 1) ls (.long x :: st) h n xx kc ks Q) : J w M pc ls st h n xx kc ks Q := by
  intro p e R s m args below meth c mc ms H locs cells slots arr X Y V K
  exact lv_lload_n X.1 X.2.1 d rfl (V.2.2 _ _ hl) (k p e R s m args below meth c mc ms H locs cells slots arr X Y V K)
theorem J_lload {w : jw_T} {M : jm_T} {pc : Nat} {ls : jl_T} {st : List Value} {h : jh_T} {n : Nat} {xx : Bool} {kc ks : Nat} {Q : jr_T → jh_T → Nat → Bool → Prop} {i : Nat} {x : Int64} (d : decode (jm_cod M) pc = .ok (.lload i, 2)) (hl : ls[i]? = some (some (.long x))) (k : J w M (pc + 2) ls (.long x :: st) h n xx kc ks Q) : J w M pc ls st h n xx kc ks Q := by
  intro p e R s m args below meth c mc ms H locs cells slots arr X Y V K
  exact lv_lload X.1 X.2.1 d (V.2.2 _ _ hl) (k p e R s m args below meth c mc ms H locs cells slots arr X Y V K)
theorem J_aload_n {w : jw_T} {M : jm_T} {pc : Nat} {ls : jl_T} {st : List Value} {h : jh_T} {n : Nat} {xx : Bool} {kc ks : Nat} {Q : jr_T → jh_T → Nat → Bool → Prop} {i : Fin 4} {x : Nat} (d : decode (jm_cod M) pc = .ok (.aload_n i, 1)) (hl : ls[(i : Nat)]? = some (some (.ref x))) (k : J w M (pc + 1) ls (.ref x :: st) h n xx kc ks Q) : J w M pc ls st h n xx kc ks Q := by
  intro p e R s m args below meth c mc ms H locs cells slots arr X Y V K
  exact lv_aload_n X.1 X.2.1 d rfl (V.2.2 _ _ hl) (k p e R s m args below meth c mc ms H locs cells slots arr X Y V K)
theorem J_aload {w : jw_T} {M : jm_T} {pc : Nat} {ls : jl_T} {st : List Value} {h : jh_T} {n : Nat} {xx : Bool} {kc ks : Nat} {Q : jr_T → jh_T → Nat → Bool → Prop} {i : Nat} {x : Nat} (d : decode (jm_cod M) pc = .ok (.aload i, 2)) (hl : ls[i]? = some (some (.ref x))) (k : J w M (pc + 2) ls (.ref x :: st) h n xx kc ks Q) : J w M pc ls st h n xx kc ks Q := by
  intro p e R s m args below meth c mc ms H locs cells slots arr X Y V K
  exact lv_aload X.1 X.2.1 d (V.2.2 _ _ hl) (k p e R s m args below meth c mc ms H locs cells slots arr X Y V K)
theorem J_aload_nN {w : jw_T} {M : jm_T} {pc : Nat} {ls : jl_T} {st : List Value} {h : jh_T} {n : Nat} {xx : Bool} {kc ks : Nat} {Q : jr_T → jh_T → Nat → Bool → Prop} {i : Fin 4} (d : decode (jm_cod M) pc = .ok (.aload_n i, 1)) (hl : ls[(i : Nat)]? = some (some .null)) (k : J w M (pc + 1) ls (.null :: st) h n xx kc ks Q) : J w M pc ls st h n xx kc ks Q := by
  intro p e R s m args below meth c mc ms H locs cells slots arr X Y V K
  exact lv_aload_nN X.1 X.2.1 d rfl (V.2.2 _ _ hl) (k p e R s m args below meth c mc ms H locs cells slots arr X Y V K)
theorem J_aloadN {w : jw_T} {M : jm_T} {pc : Nat} {ls : jl_T} {st : List Value} {h : jh_T} {n : Nat} {xx : Bool} {kc ks : Nat} {Q : jr_T → jh_T → Nat → Bool → Prop} {i : Nat} (d : decode (jm_cod M) pc = .ok (.aload i, 2)) (hl : ls[i]? = some (some .null)) (k : J w M (pc + 2) ls (.null :: st) h n xx kc ks Q) : J w M pc ls st h n xx kc ks Q := by
  intro p e R s m args below meth c mc ms H locs cells slots arr X Y V K
  exact lv_aloadN X.1 X.2.1 d (V.2.2 _ _ hl) (k p e R s m args below meth c mc ms H locs cells slots arr X Y V K)
theorem J_istore_n {w : jw_T} {M : jm_T} {pc : Nat} {ls : jl_T} {st : List Value} {h : jh_T} {n : Nat} {xx : Bool} {kc ks : Nat} {Q : jr_T → jh_T → Nat → Bool → Prop} {i : Fin 4} {x : Int32} (d : decode (jm_cod M) pc = .ok (.istore_n i, 1)) (hn : (i : Nat) < ls.length) (k : J w M (pc + 1) (jst1 ls (i : Nat) (.int x)) st h n xx kc ks Q) : J w M pc ls (.int x :: st) h n xx kc ks Q := by
  intro p e R s m args below meth c mc ms H locs cells slots arr X Y V K
  exact lv_istore_n X.1 X.2.1 d rfl V.has hn rfl (fun arr' V' => k p e R s m args below meth c mc ms H locs cells slots arr' X Y (jv.st1 V') K)
theorem J_istore {w : jw_T} {M : jm_T} {pc : Nat} {ls : jl_T} {st : List Value} {h : jh_T} {n : Nat} {xx : Bool} {kc ks : Nat} {Q : jr_T → jh_T → Nat → Bool → Prop} {i : Nat} {x : Int32} (d : decode (jm_cod M) pc = .ok (.istore i, 2)) (hn : i < ls.length) (k : J w M (pc + 2) (jst1 ls i (.int x)) st h n xx kc ks Q) : J w M pc ls (.int x :: st) h n xx kc ks Q := by
  intro p e R s m args below meth c mc ms H locs cells slots arr X Y V K
  exact lv_istore X.1 X.2.1 d V.has hn rfl (fun arr' V' => k p e R s m args below meth c mc ms H locs cells slots arr' X Y (jv.st1 V') K)
theorem J_lstore_n {w : jw_T} {M : jm_T} {pc : Nat} {ls : jl_T} {st : List Value} {h : jh_T} {n : Nat} {xx : Bool} {kc ks : Nat} {Q : jr_T → jh_T → Nat → Bool → Prop} {i : Fin 4} {x : Int64} (d : decode (jm_cod M) pc = .ok (.lstore_n i, 1)) (hn : (i : Nat) + 1 < ls.length) (k : J w M (pc + 1) (jst2 ls (i : Nat) (.long x)) st h n xx kc ks Q) : J w M pc ls (.long x :: st) h n xx kc ks Q := by
  intro p e R s m args below meth c mc ms H locs cells slots arr X Y V K
  exact lv_lstore_n X.1 X.2.1 d rfl V.has hn rfl (fun arr' V' => k p e R s m args below meth c mc ms H locs cells slots arr' X Y (jv.st2 V') K)
theorem J_lstore {w : jw_T} {M : jm_T} {pc : Nat} {ls : jl_T} {st : List Value} {h : jh_T} {n : Nat} {xx : Bool} {kc ks : Nat} {Q : jr_T → jh_T → Nat → Bool → Prop} {i : Nat} {x : Int64} (d : decode (jm_cod M) pc = .ok (.lstore i, 2)) (hn : i + 1 < ls.length) (k : J w M (pc + 2) (jst2 ls i (.long x)) st h n xx kc ks Q) : J w M pc ls (.long x :: st) h n xx kc ks Q := by
  intro p e R s m args below meth c mc ms H locs cells slots arr X Y V K
  exact lv_lstore X.1 X.2.1 d V.has hn rfl (fun arr' V' => k p e R s m args below meth c mc ms H locs cells slots arr' X Y (jv.st2 V') K)
theorem J_astore_n {w : jw_T} {M : jm_T} {pc : Nat} {ls : jl_T} {st : List Value} {h : jh_T} {n : Nat} {xx : Bool} {kc ks : Nat} {Q : jr_T → jh_T → Nat → Bool → Prop} {i : Fin 4} {x : Nat} (d : decode (jm_cod M) pc = .ok (.astore_n i, 1)) (hn : (i : Nat) < ls.length) (k : J w M (pc + 1) (jst1 ls (i : Nat) (.ref x)) st h n xx kc ks Q) : J w M pc ls (.ref x :: st) h n xx kc ks Q := by
  intro p e R s m args below meth c mc ms H locs cells slots arr X Y V K
  exact lv_astore_n X.1 X.2.1 d rfl V.has hn rfl (fun arr' V' => k p e R s m args below meth c mc ms H locs cells slots arr' X Y (jv.st1 V') K)
theorem J_astore {w : jw_T} {M : jm_T} {pc : Nat} {ls : jl_T} {st : List Value} {h : jh_T} {n : Nat} {xx : Bool} {kc ks : Nat} {Q : jr_T → jh_T → Nat → Bool → Prop} {i : Nat} {x : Nat} (d : decode (jm_cod M) pc = .ok (.astore i, 2)) (hn : i < ls.length) (k : J w M (pc + 2) (jst1 ls i (.ref x)) st h n xx kc ks Q) : J w M pc ls (.ref x :: st) h n xx kc ks Q := by
  intro p e R s m args below meth c mc ms H locs cells slots arr X Y V K
  exact lv_astore X.1 X.2.1 d V.has hn rfl (fun arr' V' => k p e R s m args below meth c mc ms H locs cells slots arr' X Y (jv.st1 V') K)
theorem J_astore_nN {w : jw_T} {M : jm_T} {pc : Nat} {ls : jl_T} {st : List Value} {h : jh_T} {n : Nat} {xx : Bool} {kc ks : Nat} {Q : jr_T → jh_T → Nat → Bool → Prop} {i : Fin 4} (d : decode (jm_cod M) pc = .ok (.astore_n i, 1)) (hn : (i : Nat) < ls.length) (k : J w M (pc + 1) (jst1 ls (i : Nat) (.null)) st h n xx kc ks Q) : J w M pc ls (.null :: st) h n xx kc ks Q := by
  intro p e R s m args below meth c mc ms H locs cells slots arr X Y V K
  exact lv_astore_nN X.1 X.2.1 d rfl V.has hn rfl (fun arr' V' => k p e R s m args below meth c mc ms H locs cells slots arr' X Y (jv.st1 V') K)
theorem J_astoreN {w : jw_T} {M : jm_T} {pc : Nat} {ls : jl_T} {st : List Value} {h : jh_T} {n : Nat} {xx : Bool} {kc ks : Nat} {Q : jr_T → jh_T → Nat → Bool → Prop} {i : Nat} (d : decode (jm_cod M) pc = .ok (.astore i, 2)) (hn : i < ls.length) (k : J w M (pc + 2) (jst1 ls i (.null)) st h n xx kc ks Q) : J w M pc ls (.null :: st) h n xx kc ks Q := by
  intro p e R s m args below meth c mc ms H locs cells slots arr X Y V K
  exact lv_astoreN X.1 X.2.1 d V.has hn rfl (fun arr' V' => k p e R s m args below meth c mc ms H locs cells slots arr' X Y (jv.st1 V') K)
theorem J_iinc {w : jw_T} {M : jm_T} {pc : Nat} {ls : jl_T} {st : List Value} {h : jh_T} {n : Nat} {xx : Bool} {kc ks : Nat} {Q : jr_T → jh_T → Nat → Bool → Prop} {i : Nat} {a : Int} {x v : Int32} (d : decode (jm_cod M) pc = .ok (.iinc i a, 3)) (hl : ls[i]? = some (some (.int x))) (hv : x + Int32.ofInt a = v) (k : J w M (pc + 3) (jst1 ls i (.int v)) st h n xx kc ks Q) : J w M pc ls st h n xx kc ks Q := by
  intro p e R s m args below meth c mc ms H locs cells slots arr X Y V K
  obtain ⟨q, hq⟩ := List.getElem?_of_mem (jal_mem.mpr hl)
  exact lv_iinc X.1 X.2.1 d V.has hq hv (List.getElem?_eq_some_iff.mp hl).1 rfl (fun arr' V' => k p e R s m args below meth c mc ms H locs cells slots arr' X Y (jv.st1 V') K)
theorem J_iadd {w : jw_T} {M : jm_T} {pc : Nat} {ls : jl_T} {st : List Value} {h : jh_T} {n : Nat} {xx : Bool} {kc ks : Nat} {Q : jr_T → jh_T → Nat → Bool → Prop} {x y : Int32} (d : decode (jm_cod M) pc = .ok (.iadd, 1)) (k : J w M (pc + 1) ls (.int (x + y) :: st) h n xx kc ks Q) : J w M pc ls (.int y :: .int x :: st) h n xx kc ks Q := by
  intro p e R s m args below meth c mc ms H locs cells slots arr X Y V K
  exact lv_iadd X.1 X.2.1 d (k p e R s m args below meth c mc ms H locs cells slots arr X Y V K)
theorem J_isub {w : jw_T} {M : jm_T} {pc : Nat} {ls : jl_T} {st : List Value} {h : jh_T} {n : Nat} {xx : Bool} {kc ks : Nat} {Q : jr_T → jh_T → Nat → Bool → Prop} {x y : Int32} (d : decode (jm_cod M) pc = .ok (.isub, 1)) (k : J w M (pc + 1) ls (.int (x - y) :: st) h n xx kc ks Q) : J w M pc ls (.int y :: .int x :: st) h n xx kc ks Q := by
  intro p e R s m args below meth c mc ms H locs cells slots arr X Y V K
  exact lv_isub X.1 X.2.1 d (k p e R s m args below meth c mc ms H locs cells slots arr X Y V K)
theorem J_imul {w : jw_T} {M : jm_T} {pc : Nat} {ls : jl_T} {st : List Value} {h : jh_T} {n : Nat} {xx : Bool} {kc ks : Nat} {Q : jr_T → jh_T → Nat → Bool → Prop} {x y : Int32} (d : decode (jm_cod M) pc = .ok (.imul, 1)) (k : J w M (pc + 1) ls (.int (x * y) :: st) h n xx kc ks Q) : J w M pc ls (.int y :: .int x :: st) h n xx kc ks Q := by
  intro p e R s m args below meth c mc ms H locs cells slots arr X Y V K
  exact lv_imul X.1 X.2.1 d (k p e R s m args below meth c mc ms H locs cells slots arr X Y V K)
theorem J_iand {w : jw_T} {M : jm_T} {pc : Nat} {ls : jl_T} {st : List Value} {h : jh_T} {n : Nat} {xx : Bool} {kc ks : Nat} {Q : jr_T → jh_T → Nat → Bool → Prop} {x y : Int32} (d : decode (jm_cod M) pc = .ok (.iand, 1)) (k : J w M (pc + 1) ls (.int (x &&& y) :: st) h n xx kc ks Q) : J w M pc ls (.int y :: .int x :: st) h n xx kc ks Q := by
  intro p e R s m args below meth c mc ms H locs cells slots arr X Y V K
  exact lv_iand X.1 X.2.1 d (k p e R s m args below meth c mc ms H locs cells slots arr X Y V K)
theorem J_ior {w : jw_T} {M : jm_T} {pc : Nat} {ls : jl_T} {st : List Value} {h : jh_T} {n : Nat} {xx : Bool} {kc ks : Nat} {Q : jr_T → jh_T → Nat → Bool → Prop} {x y : Int32} (d : decode (jm_cod M) pc = .ok (.ior, 1)) (k : J w M (pc + 1) ls (.int (x ||| y) :: st) h n xx kc ks Q) : J w M pc ls (.int y :: .int x :: st) h n xx kc ks Q := by
  intro p e R s m args below meth c mc ms H locs cells slots arr X Y V K
  exact lv_ior X.1 X.2.1 d (k p e R s m args below meth c mc ms H locs cells slots arr X Y V K)
theorem J_ixor {w : jw_T} {M : jm_T} {pc : Nat} {ls : jl_T} {st : List Value} {h : jh_T} {n : Nat} {xx : Bool} {kc ks : Nat} {Q : jr_T → jh_T → Nat → Bool → Prop} {x y : Int32} (d : decode (jm_cod M) pc = .ok (.ixor, 1)) (k : J w M (pc + 1) ls (.int (x ^^^ y) :: st) h n xx kc ks Q) : J w M pc ls (.int y :: .int x :: st) h n xx kc ks Q := by
  intro p e R s m args below meth c mc ms H locs cells slots arr X Y V K
  exact lv_ixor X.1 X.2.1 d (k p e R s m args below meth c mc ms H locs cells slots arr X Y V K)
theorem J_ladd {w : jw_T} {M : jm_T} {pc : Nat} {ls : jl_T} {st : List Value} {h : jh_T} {n : Nat} {xx : Bool} {kc ks : Nat} {Q : jr_T → jh_T → Nat → Bool → Prop} {x y : Int64} (d : decode (jm_cod M) pc = .ok (.ladd, 1)) (k : J w M (pc + 1) ls (.long (x + y) :: st) h n xx kc ks Q) : J w M pc ls (.long y :: .long x :: st) h n xx kc ks Q := by
  intro p e R s m args below meth c mc ms H locs cells slots arr X Y V K
  exact lv_ladd X.1 X.2.1 d (k p e R s m args below meth c mc ms H locs cells slots arr X Y V K)
theorem J_lsub {w : jw_T} {M : jm_T} {pc : Nat} {ls : jl_T} {st : List Value} {h : jh_T} {n : Nat} {xx : Bool} {kc ks : Nat} {Q : jr_T → jh_T → Nat → Bool → Prop} {x y : Int64} (d : decode (jm_cod M) pc = .ok (.lsub, 1)) (k : J w M (pc + 1) ls (.long (x - y) :: st) h n xx kc ks Q) : J w M pc ls (.long y :: .long x :: st) h n xx kc ks Q := by
  intro p e R s m args below meth c mc ms H locs cells slots arr X Y V K
  exact lv_lsub X.1 X.2.1 d (k p e R s m args below meth c mc ms H locs cells slots arr X Y V K)
theorem J_lmul {w : jw_T} {M : jm_T} {pc : Nat} {ls : jl_T} {st : List Value} {h : jh_T} {n : Nat} {xx : Bool} {kc ks : Nat} {Q : jr_T → jh_T → Nat → Bool → Prop} {x y : Int64} (d : decode (jm_cod M) pc = .ok (.lmul, 1)) (k : J w M (pc + 1) ls (.long (x * y) :: st) h n xx kc ks Q) : J w M pc ls (.long y :: .long x :: st) h n xx kc ks Q := by
  intro p e R s m args below meth c mc ms H locs cells slots arr X Y V K
  exact lv_lmul X.1 X.2.1 d (k p e R s m args below meth c mc ms H locs cells slots arr X Y V K)
theorem J_land {w : jw_T} {M : jm_T} {pc : Nat} {ls : jl_T} {st : List Value} {h : jh_T} {n : Nat} {xx : Bool} {kc ks : Nat} {Q : jr_T → jh_T → Nat → Bool → Prop} {x y : Int64} (d : decode (jm_cod M) pc = .ok (.land, 1)) (k : J w M (pc + 1) ls (.long (x &&& y) :: st) h n xx kc ks Q) : J w M pc ls (.long y :: .long x :: st) h n xx kc ks Q := by
  intro p e R s m args below meth c mc ms H locs cells slots arr X Y V K
  exact lv_land X.1 X.2.1 d (k p e R s m args below meth c mc ms H locs cells slots arr X Y V K)
theorem J_lor {w : jw_T} {M : jm_T} {pc : Nat} {ls : jl_T} {st : List Value} {h : jh_T} {n : Nat} {xx : Bool} {kc ks : Nat} {Q : jr_T → jh_T → Nat → Bool → Prop} {x y : Int64} (d : decode (jm_cod M) pc = .ok (.lor, 1)) (k : J w M (pc + 1) ls (.long (x ||| y) :: st) h n xx kc ks Q) : J w M pc ls (.long y :: .long x :: st) h n xx kc ks Q := by
  intro p e R s m args below meth c mc ms H locs cells slots arr X Y V K
  exact lv_lor X.1 X.2.1 d (k p e R s m args below meth c mc ms H locs cells slots arr X Y V K)
theorem J_lxor {w : jw_T} {M : jm_T} {pc : Nat} {ls : jl_T} {st : List Value} {h : jh_T} {n : Nat} {xx : Bool} {kc ks : Nat} {Q : jr_T → jh_T → Nat → Bool → Prop} {x y : Int64} (d : decode (jm_cod M) pc = .ok (.lxor, 1)) (k : J w M (pc + 1) ls (.long (x ^^^ y) :: st) h n xx kc ks Q) : J w M pc ls (.long y :: .long x :: st) h n xx kc ks Q := by
  intro p e R s m args below meth c mc ms H locs cells slots arr X Y V K
  exact lv_lxor X.1 X.2.1 d (k p e R s m args below meth c mc ms H locs cells slots arr X Y V K)
theorem J_idiv {w : jw_T} {M : jm_T} {pc : Nat} {ls : jl_T} {st : List Value} {h : jh_T} {n : Nat} {xx : Bool} {kc ks : Nat} {Q : jr_T → jh_T → Nat → Bool → Prop} {x y : Int32} (d : decode (jm_cod M) pc = .ok (.idiv, 1)) (hne : ¬ y = 0) (k : J w M (pc + 1) ls (.int (x / y) :: st) h n xx kc ks Q) : J w M pc ls (.int y :: .int x :: st) h n xx kc ks Q := by
  intro p e R s m args below meth c mc ms H locs cells slots arr X Y V K
  exact lv_idiv X.1 X.2.1 d hne (k p e R s m args below meth c mc ms H locs cells slots arr X Y V K)
theorem J_irem {w : jw_T} {M : jm_T} {pc : Nat} {ls : jl_T} {st : List Value} {h : jh_T} {n : Nat} {xx : Bool} {kc ks : Nat} {Q : jr_T → jh_T → Nat → Bool → Prop} {x y : Int32} (d : decode (jm_cod M) pc = .ok (.irem, 1)) (hne : ¬ y = 0) (k : J w M (pc + 1) ls (.int (x - x / y * y) :: st) h n xx kc ks Q) : J w M pc ls (.int y :: .int x :: st) h n xx kc ks Q := by
  intro p e R s m args below meth c mc ms H locs cells slots arr X Y V K
  exact lv_irem X.1 X.2.1 d hne (k p e R s m args below meth c mc ms H locs cells slots arr X Y V K)
theorem J_ishl {w : jw_T} {M : jm_T} {pc : Nat} {ls : jl_T} {st : List Value} {h : jh_T} {n : Nat} {xx : Bool} {kc ks : Nat} {Q : jr_T → jh_T → Nat → Bool → Prop} {x y : Int32} (d : decode (jm_cod M) pc = .ok (.ishl, 1)) (k : J w M (pc + 1) ls (.int (x <<< (y &&& 31)) :: st) h n xx kc ks Q) : J w M pc ls (.int y :: .int x :: st) h n xx kc ks Q := by
  intro p e R s m args below meth c mc ms H locs cells slots arr X Y V K
  exact lv_ishl X.1 X.2.1 d (k p e R s m args below meth c mc ms H locs cells slots arr X Y V K)
theorem J_ishr {w : jw_T} {M : jm_T} {pc : Nat} {ls : jl_T} {st : List Value} {h : jh_T} {n : Nat} {xx : Bool} {kc ks : Nat} {Q : jr_T → jh_T → Nat → Bool → Prop} {x y : Int32} (d : decode (jm_cod M) pc = .ok (.ishr, 1)) (k : J w M (pc + 1) ls (.int (x >>> (y &&& 31)) :: st) h n xx kc ks Q) : J w M pc ls (.int y :: .int x :: st) h n xx kc ks Q := by
  intro p e R s m args below meth c mc ms H locs cells slots arr X Y V K
  exact lv_ishr X.1 X.2.1 d (k p e R s m args below meth c mc ms H locs cells slots arr X Y V K)
theorem J_iushr {w : jw_T} {M : jm_T} {pc : Nat} {ls : jl_T} {st : List Value} {h : jh_T} {n : Nat} {xx : Bool} {kc ks : Nat} {Q : jr_T → jh_T → Nat → Bool → Prop} {x y : Int32} (d : decode (jm_cod M) pc = .ok (.iushr, 1)) (k : J w M (pc + 1) ls (.int ((x.toUInt32 >>> (y.toUInt32 &&& Int32.toUInt32 31)).toInt32) :: st) h n xx kc ks Q) : J w M pc ls (.int y :: .int x :: st) h n xx kc ks Q := by
  intro p e R s m args below meth c mc ms H locs cells slots arr X Y V K
  exact lv_iushr X.1 X.2.1 d rfl (k p e R s m args below meth c mc ms H locs cells slots arr X Y V K)
theorem J_lshl {w : jw_T} {M : jm_T} {pc : Nat} {ls : jl_T} {st : List Value} {h : jh_T} {n : Nat} {xx : Bool} {kc ks : Nat} {Q : jr_T → jh_T → Nat → Bool → Prop} {x : Int64} {y : Int32} (d : decode (jm_cod M) pc = .ok (.lshl, 1)) (k : J w M (pc + 1) ls (.long (x <<< (y.toInt64 &&& 63)) :: st) h n xx kc ks Q) : J w M pc ls (.int y :: .long x :: st) h n xx kc ks Q := by
  intro p e R s m args below meth c mc ms H locs cells slots arr X Y V K
  exact lv_lshl X.1 X.2.1 d rfl (k p e R s m args below meth c mc ms H locs cells slots arr X Y V K)
theorem J_lshr {w : jw_T} {M : jm_T} {pc : Nat} {ls : jl_T} {st : List Value} {h : jh_T} {n : Nat} {xx : Bool} {kc ks : Nat} {Q : jr_T → jh_T → Nat → Bool → Prop} {x : Int64} {y : Int32} (d : decode (jm_cod M) pc = .ok (.lshr, 1)) (k : J w M (pc + 1) ls (.long (x >>> (y.toInt64 &&& 63)) :: st) h n xx kc ks Q) : J w M pc ls (.int y :: .long x :: st) h n xx kc ks Q := by
  intro p e R s m args below meth c mc ms H locs cells slots arr X Y V K
  exact lv_lshr X.1 X.2.1 d rfl (k p e R s m args below meth c mc ms H locs cells slots arr X Y V K)
theorem J_lushr {w : jw_T} {M : jm_T} {pc : Nat} {ls : jl_T} {st : List Value} {h : jh_T} {n : Nat} {xx : Bool} {kc ks : Nat} {Q : jr_T → jh_T → Nat → Bool → Prop} {x : Int64} {y : Int32} (d : decode (jm_cod M) pc = .ok (.lushr, 1)) (k : J w M (pc + 1) ls (.long ((x.toUInt64 >>> (y.toInt64.toUInt64 &&& Int64.toUInt64 63)).toInt64) :: st) h n xx kc ks Q) : J w M pc ls (.int y :: .long x :: st) h n xx kc ks Q := by
  intro p e R s m args below meth c mc ms H locs cells slots arr X Y V K
  exact lv_lushr X.1 X.2.1 d rfl (k p e R s m args below meth c mc ms H locs cells slots arr X Y V K)
theorem J_i2l {w : jw_T} {M : jm_T} {pc : Nat} {ls : jl_T} {st : List Value} {h : jh_T} {n : Nat} {xx : Bool} {kc ks : Nat} {Q : jr_T → jh_T → Nat → Bool → Prop} {x : Int32} (d : decode (jm_cod M) pc = .ok (.i2l, 1)) (k : J w M (pc + 1) ls (.long x.toInt64 :: st) h n xx kc ks Q) : J w M pc ls (.int x :: st) h n xx kc ks Q := by
  intro p e R s m args below meth c mc ms H locs cells slots arr X Y V K
  exact lv_i2l X.1 X.2.1 d rfl (k p e R s m args below meth c mc ms H locs cells slots arr X Y V K)
theorem J_l2i {w : jw_T} {M : jm_T} {pc : Nat} {ls : jl_T} {st : List Value} {h : jh_T} {n : Nat} {xx : Bool} {kc ks : Nat} {Q : jr_T → jh_T → Nat → Bool → Prop} {x : Int64} (d : decode (jm_cod M) pc = .ok (.l2i, 1)) (k : J w M (pc + 1) ls (.int x.toInt32 :: st) h n xx kc ks Q) : J w M pc ls (.long x :: st) h n xx kc ks Q := by
  intro p e R s m args below meth c mc ms H locs cells slots arr X Y V K
  exact lv_l2i X.1 X.2.1 d rfl (k p e R s m args below meth c mc ms H locs cells slots arr X Y V K)
theorem J_lcmp {w : jw_T} {M : jm_T} {pc : Nat} {ls : jl_T} {st : List Value} {h : jh_T} {n : Nat} {xx : Bool} {kc ks : Nat} {Q : jr_T → jh_T → Nat → Bool → Prop} {x y : Int64} (d : decode (jm_cod M) pc = .ok (.lcmp, 1)) (k : J w M (pc + 1) ls (.int (lg_cmp x y) :: st) h n xx kc ks Q) : J w M pc ls (.long y :: .long x :: st) h n xx kc ks Q := by
  intro p e R s m args below meth c mc ms H locs cells slots arr X Y V K
  exact W.lcmp X.1 X.2.1 d (k p e R s m args below meth c mc ms H locs cells slots arr X Y V K)
theorem J_dup {w : jw_T} {M : jm_T} {pc : Nat} {ls : jl_T} {st : List Value} {h : jh_T} {n : Nat} {xx : Bool} {kc ks : Nat} {Q : jr_T → jh_T → Nat → Bool → Prop} {u : Value} (d : decode (jm_cod M) pc = .ok (.dup, 1)) (hu : u.category = 1) (k : J w M (pc + 1) ls (u :: u :: st) h n xx kc ks Q) : J w M pc ls (u :: st) h n xx kc ks Q := by
  intro p e R s m args below meth c mc ms H locs cells slots arr X Y V K
  exact lv_dup X.1 X.2.1 d hu (k p e R s m args below meth c mc ms H locs cells slots arr X Y V K)
theorem J_pop {w : jw_T} {M : jm_T} {pc : Nat} {ls : jl_T} {st : List Value} {h : jh_T} {n : Nat} {xx : Bool} {kc ks : Nat} {Q : jr_T → jh_T → Nat → Bool → Prop} {u : Value} (d : decode (jm_cod M) pc = .ok (.pop, 1)) (hu : u.category = 1) (k : J w M (pc + 1) ls st h n xx kc ks Q) : J w M pc ls (u :: st) h n xx kc ks Q := by
  intro p e R s m args below meth c mc ms H locs cells slots arr X Y V K
  exact lv_pop X.1 X.2.1 d hu (k p e R s m args below meth c mc ms H locs cells slots arr X Y V K)
theorem J_dup2 {w : jw_T} {M : jm_T} {pc : Nat} {ls : jl_T} {st : List Value} {h : jh_T} {n : Nat} {xx : Bool} {kc ks : Nat} {Q : jr_T → jh_T → Nat → Bool → Prop} {u v : Value} (d : decode (jm_cod M) pc = .ok (.dup2, 1)) (hu : u.category = 1) (hv : v.category = 1) (k : J w M (pc + 1) ls (u :: v :: u :: v :: st) h n xx kc ks Q) : J w M pc ls (u :: v :: st) h n xx kc ks Q := by
  intro p e R s m args below meth c mc ms H locs cells slots arr X Y V K
  exact lv_dup2_11 X.1 X.2.1 d hu hv (k p e R s m args below meth c mc ms H locs cells slots arr X Y V K)
theorem J_if_eq {w : jw_T} {M : jm_T} {pc : Nat} {ls : jl_T} {st : List Value} {h : jh_T} {n : Nat} {xx : Bool} {kc ks : Nat} {Q : jr_T → jh_T → Nat → Bool → Prop} {x : Int32} {off : Int} {tgt : Nat} (d : decode (jm_cod M) pc = .ok (.ifCond .eq off, 3)) (ht : (pc : Int) + off = (tgt : Int)) (kt : x = 0 → J w M tgt ls st h n xx kc ks Q) (kf : ¬ x = 0 → J w M (pc + 3) ls st h n xx kc ks Q) : J w M pc ls (.int x :: st) h n xx kc ks Q := by
  intro p e R s m args below meth c mc ms H locs cells slots arr X Y V K
  exact lv_if_eq X.1 X.2.1 d ht (fun q => kt q p e R s m args below meth c mc ms H locs cells slots arr X Y V K) (fun q => kf q p e R s m args below meth c mc ms H locs cells slots arr X Y V K)
theorem J_icmp_eq {w : jw_T} {M : jm_T} {pc : Nat} {ls : jl_T} {st : List Value} {h : jh_T} {n : Nat} {xx : Bool} {kc ks : Nat} {Q : jr_T → jh_T → Nat → Bool → Prop} {x y : Int32} {off : Int} {tgt : Nat} (d : decode (jm_cod M) pc = .ok (.if_icmp .eq off, 3)) (ht : (pc : Int) + off = (tgt : Int)) (kt : x = y → J w M tgt ls st h n xx kc ks Q) (kf : ¬ x = y → J w M (pc + 3) ls st h n xx kc ks Q) : J w M pc ls (.int y :: .int x :: st) h n xx kc ks Q := by
  intro p e R s m args below meth c mc ms H locs cells slots arr X Y V K
  exact lv_icmp_eq X.1 X.2.1 d ht (fun q => kt q p e R s m args below meth c mc ms H locs cells slots arr X Y V K) (fun q => kf q p e R s m args below meth c mc ms H locs cells slots arr X Y V K)
theorem J_if_ne {w : jw_T} {M : jm_T} {pc : Nat} {ls : jl_T} {st : List Value} {h : jh_T} {n : Nat} {xx : Bool} {kc ks : Nat} {Q : jr_T → jh_T → Nat → Bool → Prop} {x : Int32} {off : Int} {tgt : Nat} (d : decode (jm_cod M) pc = .ok (.ifCond .ne off, 3)) (ht : (pc : Int) + off = (tgt : Int)) (kt : ¬ x = 0 → J w M tgt ls st h n xx kc ks Q) (kf : x = 0 → J w M (pc + 3) ls st h n xx kc ks Q) : J w M pc ls (.int x :: st) h n xx kc ks Q := by
  intro p e R s m args below meth c mc ms H locs cells slots arr X Y V K
  exact lv_if_ne X.1 X.2.1 d ht (fun q => kt q p e R s m args below meth c mc ms H locs cells slots arr X Y V K) (fun q => kf q p e R s m args below meth c mc ms H locs cells slots arr X Y V K)
theorem J_icmp_ne {w : jw_T} {M : jm_T} {pc : Nat} {ls : jl_T} {st : List Value} {h : jh_T} {n : Nat} {xx : Bool} {kc ks : Nat} {Q : jr_T → jh_T → Nat → Bool → Prop} {x y : Int32} {off : Int} {tgt : Nat} (d : decode (jm_cod M) pc = .ok (.if_icmp .ne off, 3)) (ht : (pc : Int) + off = (tgt : Int)) (kt : ¬ x = y → J w M tgt ls st h n xx kc ks Q) (kf : x = y → J w M (pc + 3) ls st h n xx kc ks Q) : J w M pc ls (.int y :: .int x :: st) h n xx kc ks Q := by
  intro p e R s m args below meth c mc ms H locs cells slots arr X Y V K
  exact lv_icmp_ne X.1 X.2.1 d ht (fun q => kt q p e R s m args below meth c mc ms H locs cells slots arr X Y V K) (fun q => kf q p e R s m args below meth c mc ms H locs cells slots arr X Y V K)
theorem J_if_lt {w : jw_T} {M : jm_T} {pc : Nat} {ls : jl_T} {st : List Value} {h : jh_T} {n : Nat} {xx : Bool} {kc ks : Nat} {Q : jr_T → jh_T → Nat → Bool → Prop} {x : Int32} {off : Int} {tgt : Nat} (d : decode (jm_cod M) pc = .ok (.ifCond .lt off, 3)) (ht : (pc : Int) + off = (tgt : Int)) (kt : x < 0 → J w M tgt ls st h n xx kc ks Q) (kf : ¬ x < 0 → J w M (pc + 3) ls st h n xx kc ks Q) : J w M pc ls (.int x :: st) h n xx kc ks Q := by
  intro p e R s m args below meth c mc ms H locs cells slots arr X Y V K
  exact lv_if_lt X.1 X.2.1 d ht (fun q => kt q p e R s m args below meth c mc ms H locs cells slots arr X Y V K) (fun q => kf q p e R s m args below meth c mc ms H locs cells slots arr X Y V K)
theorem J_icmp_lt {w : jw_T} {M : jm_T} {pc : Nat} {ls : jl_T} {st : List Value} {h : jh_T} {n : Nat} {xx : Bool} {kc ks : Nat} {Q : jr_T → jh_T → Nat → Bool → Prop} {x y : Int32} {off : Int} {tgt : Nat} (d : decode (jm_cod M) pc = .ok (.if_icmp .lt off, 3)) (ht : (pc : Int) + off = (tgt : Int)) (kt : x < y → J w M tgt ls st h n xx kc ks Q) (kf : ¬ x < y → J w M (pc + 3) ls st h n xx kc ks Q) : J w M pc ls (.int y :: .int x :: st) h n xx kc ks Q := by
  intro p e R s m args below meth c mc ms H locs cells slots arr X Y V K
  exact lv_icmp_lt X.1 X.2.1 d ht (fun q => kt q p e R s m args below meth c mc ms H locs cells slots arr X Y V K) (fun q => kf q p e R s m args below meth c mc ms H locs cells slots arr X Y V K)
theorem J_if_ge {w : jw_T} {M : jm_T} {pc : Nat} {ls : jl_T} {st : List Value} {h : jh_T} {n : Nat} {xx : Bool} {kc ks : Nat} {Q : jr_T → jh_T → Nat → Bool → Prop} {x : Int32} {off : Int} {tgt : Nat} (d : decode (jm_cod M) pc = .ok (.ifCond .ge off, 3)) (ht : (pc : Int) + off = (tgt : Int)) (kt : 0 ≤ x → J w M tgt ls st h n xx kc ks Q) (kf : ¬ 0 ≤ x → J w M (pc + 3) ls st h n xx kc ks Q) : J w M pc ls (.int x :: st) h n xx kc ks Q := by
  intro p e R s m args below meth c mc ms H locs cells slots arr X Y V K
  exact lv_if_ge X.1 X.2.1 d ht (fun q => kt q p e R s m args below meth c mc ms H locs cells slots arr X Y V K) (fun q => kf q p e R s m args below meth c mc ms H locs cells slots arr X Y V K)
theorem J_icmp_ge {w : jw_T} {M : jm_T} {pc : Nat} {ls : jl_T} {st : List Value} {h : jh_T} {n : Nat} {xx : Bool} {kc ks : Nat} {Q : jr_T → jh_T → Nat → Bool → Prop} {x y : Int32} {off : Int} {tgt : Nat} (d : decode (jm_cod M) pc = .ok (.if_icmp .ge off, 3)) (ht : (pc : Int) + off = (tgt : Int)) (kt : y ≤ x → J w M tgt ls st h n xx kc ks Q) (kf : ¬ y ≤ x → J w M (pc + 3) ls st h n xx kc ks Q) : J w M pc ls (.int y :: .int x :: st) h n xx kc ks Q := by
  intro p e R s m args below meth c mc ms H locs cells slots arr X Y V K
  exact lv_icmp_ge X.1 X.2.1 d ht (fun q => kt q p e R s m args below meth c mc ms H locs cells slots arr X Y V K) (fun q => kf q p e R s m args below meth c mc ms H locs cells slots arr X Y V K)
theorem J_if_gt {w : jw_T} {M : jm_T} {pc : Nat} {ls : jl_T} {st : List Value} {h : jh_T} {n : Nat} {xx : Bool} {kc ks : Nat} {Q : jr_T → jh_T → Nat → Bool → Prop} {x : Int32} {off : Int} {tgt : Nat} (d : decode (jm_cod M) pc = .ok (.ifCond .gt off, 3)) (ht : (pc : Int) + off = (tgt : Int)) (kt : 0 < x → J w M tgt ls st h n xx kc ks Q) (kf : ¬ 0 < x → J w M (pc + 3) ls st h n xx kc ks Q) : J w M pc ls (.int x :: st) h n xx kc ks Q := by
  intro p e R s m args below meth c mc ms H locs cells slots arr X Y V K
  exact lv_if_gt X.1 X.2.1 d ht (fun q => kt q p e R s m args below meth c mc ms H locs cells slots arr X Y V K) (fun q => kf q p e R s m args below meth c mc ms H locs cells slots arr X Y V K)
theorem J_icmp_gt {w : jw_T} {M : jm_T} {pc : Nat} {ls : jl_T} {st : List Value} {h : jh_T} {n : Nat} {xx : Bool} {kc ks : Nat} {Q : jr_T → jh_T → Nat → Bool → Prop} {x y : Int32} {off : Int} {tgt : Nat} (d : decode (jm_cod M) pc = .ok (.if_icmp .gt off, 3)) (ht : (pc : Int) + off = (tgt : Int)) (kt : y < x → J w M tgt ls st h n xx kc ks Q) (kf : ¬ y < x → J w M (pc + 3) ls st h n xx kc ks Q) : J w M pc ls (.int y :: .int x :: st) h n xx kc ks Q := by
  intro p e R s m args below meth c mc ms H locs cells slots arr X Y V K
  exact lv_icmp_gt X.1 X.2.1 d ht (fun q => kt q p e R s m args below meth c mc ms H locs cells slots arr X Y V K) (fun q => kf q p e R s m args below meth c mc ms H locs cells slots arr X Y V K)
theorem J_if_le {w : jw_T} {M : jm_T} {pc : Nat} {ls : jl_T} {st : List Value} {h : jh_T} {n : Nat} {xx : Bool} {kc ks : Nat} {Q : jr_T → jh_T → Nat → Bool → Prop} {x : Int32} {off : Int} {tgt : Nat} (d : decode (jm_cod M) pc = .ok (.ifCond .le off, 3)) (ht : (pc : Int) + off = (tgt : Int)) (kt : x ≤ 0 → J w M tgt ls st h n xx kc ks Q) (kf : ¬ x ≤ 0 → J w M (pc + 3) ls st h n xx kc ks Q) : J w M pc ls (.int x :: st) h n xx kc ks Q := by
  intro p e R s m args below meth c mc ms H locs cells slots arr X Y V K
  exact lv_if_le X.1 X.2.1 d ht (fun q => kt q p e R s m args below meth c mc ms H locs cells slots arr X Y V K) (fun q => kf q p e R s m args below meth c mc ms H locs cells slots arr X Y V K)
theorem J_icmp_le {w : jw_T} {M : jm_T} {pc : Nat} {ls : jl_T} {st : List Value} {h : jh_T} {n : Nat} {xx : Bool} {kc ks : Nat} {Q : jr_T → jh_T → Nat → Bool → Prop} {x y : Int32} {off : Int} {tgt : Nat} (d : decode (jm_cod M) pc = .ok (.if_icmp .le off, 3)) (ht : (pc : Int) + off = (tgt : Int)) (kt : x ≤ y → J w M tgt ls st h n xx kc ks Q) (kf : ¬ x ≤ y → J w M (pc + 3) ls st h n xx kc ks Q) : J w M pc ls (.int y :: .int x :: st) h n xx kc ks Q := by
  intro p e R s m args below meth c mc ms H locs cells slots arr X Y V K
  exact lv_icmp_le X.1 X.2.1 d ht (fun q => kt q p e R s m args below meth c mc ms H locs cells slots arr X Y V K) (fun q => kf q p e R s m args below meth c mc ms H locs cells slots arr X Y V K)
theorem J_goto {w : jw_T} {M : jm_T} {pc : Nat} {ls : jl_T} {st : List Value} {h : jh_T} {n : Nat} {xx : Bool} {kc ks : Nat} {Q : jr_T → jh_T → Nat → Bool → Prop} {off : Int} {tgt : Nat} (d : decode (jm_cod M) pc = .ok (.goto off, 3)) (ht : (pc : Int) + off = (tgt : Int)) (k : J w M tgt ls st h n xx kc ks Q) : J w M pc ls st h n xx kc ks Q := by
  intro p e R s m args below meth c mc ms H locs cells slots arr X Y V K
  exact lv_goto X.1 X.2.1 d ht (k p e R s m args below meth c mc ms H locs cells slots arr X Y V K)
theorem J_ifnonnull {w : jw_T} {M : jm_T} {pc : Nat} {ls : jl_T} {st : List Value} {h : jh_T} {n : Nat} {xx : Bool} {kc ks : Nat} {Q : jr_T → jh_T → Nat → Bool → Prop} {off : Int} {tgt x : Nat} (d : decode (jm_cod M) pc = .ok (.ifnonnull off, 3)) (ht : (pc : Int) + off = (tgt : Int)) (k : J w M tgt ls st h n xx kc ks Q) : J w M pc ls (.ref x :: st) h n xx kc ks Q := by
  intro p e R s m args below meth c mc ms H locs cells slots arr X Y V K
  exact lv_ifnonnull X.1 X.2.1 d ht (k p e R s m args below meth c mc ms H locs cells slots arr X Y V K)
theorem J_ifnonnullN {w : jw_T} {M : jm_T} {pc : Nat} {ls : jl_T} {st : List Value} {h : jh_T} {n : Nat} {xx : Bool} {kc ks : Nat} {Q : jr_T → jh_T → Nat → Bool → Prop} {off : Int} (d : decode (jm_cod M) pc = .ok (.ifnonnull off, 3)) (k : J w M (pc + 3) ls st h n xx kc ks Q) : J w M pc ls (.null :: st) h n xx kc ks Q := by
  intro p e R s m args below meth c mc ms H locs cells slots arr X Y V K
  exact lv_ifnonnullN X.1 X.2.1 d (k p e R s m args below meth c mc ms H locs cells slots arr X Y V K)
theorem J_ifnull {w : jw_T} {M : jm_T} {pc : Nat} {ls : jl_T} {st : List Value} {h : jh_T} {n : Nat} {xx : Bool} {kc ks : Nat} {Q : jr_T → jh_T → Nat → Bool → Prop} {off : Int} {x : Nat} (d : decode (jm_cod M) pc = .ok (.ifnull off, 3)) (k : J w M (pc + 3) ls st h n xx kc ks Q) : J w M pc ls (.ref x :: st) h n xx kc ks Q := by
  intro p e R s m args below meth c mc ms H locs cells slots arr X Y V K
  exact lv_ifnull X.1 X.2.1 d (k p e R s m args below meth c mc ms H locs cells slots arr X Y V K)
theorem J_ifnullN {w : jw_T} {M : jm_T} {pc : Nat} {ls : jl_T} {st : List Value} {h : jh_T} {n : Nat} {xx : Bool} {kc ks : Nat} {Q : jr_T → jh_T → Nat → Bool → Prop} {off : Int} {tgt : Nat} (d : decode (jm_cod M) pc = .ok (.ifnull off, 3)) (ht : (pc : Int) + off = (tgt : Int)) (k : J w M tgt ls st h n xx kc ks Q) : J w M pc ls (.null :: st) h n xx kc ks Q := by
  intro p e R s m args below meth c mc ms H locs cells slots arr X Y V K
  exact lv_ifnullN X.1 X.2.1 d ht (k p e R s m args below meth c mc ms H locs cells slots arr X Y V K)
theorem J_table {w : jw_T} {M : jm_T} {pc : Nat} {ls : jl_T} {st : List Value} {h : jh_T} {n : Nat} {xx : Bool} {kc ks : Nat} {Q : jr_T → jh_T → Nat → Bool → Prop} {dflt lo hi off : Int} {offs : Array Int} {len tgt : Nat} {x : Int32} (d : decode (jm_cod M) pc = .ok (.tableswitch dflt lo hi offs, len)) (ho : (if x.toInt < lo ∨ hi < x.toInt then some dflt else offs[(x.toInt - lo).toNat]?) = some off) (ht : (pc : Int) + off = (tgt : Int)) (k : J w M tgt ls st h n xx kc ks Q) : J w M pc ls (.int x :: st) h n xx kc ks Q := by
  intro p e R s m args below meth c mc ms H locs cells slots arr X Y V K
  by_cases hq : x.toInt < lo ∨ hi < x.toInt
  · rw [if_pos hq] at ho
    cases ho
    exact lv_tableOut X.1 X.2.1 d hq ht (k p e R s m args below meth c mc ms H locs cells slots arr X Y V K)
  · rw [if_neg hq] at ho
    exact lv_tableIn X.1 X.2.1 d (fun q => hq (Or.inl q)) (fun q => hq (Or.inr q)) ho ht (k p e R s m args below meth c mc ms H locs cells slots arr X Y V K)
theorem J_lookup {w : jw_T} {M : jm_T} {pc : Nat} {ls : jl_T} {st : List Value} {h : jh_T} {n : Nat} {xx : Bool} {kc ks : Nat} {Q : jr_T → jh_T → Nat → Bool → Prop} {dflt off : Int} {ps : Array (Int × Int)} {len tgt : Nat} {x : Int32} (d : decode (jm_cod M) pc = .ok (.lookupswitch dflt ps, len)) (hp : (ps.toList.zip (ps.toList.drop 1)).all (fun (a, next) => a.1 < next.1) = true) (ho : Op.lookupswitch.offset ps.toList dflt x.toInt = off) (ht : (pc : Int) + off = (tgt : Int)) (k : J w M tgt ls st h n xx kc ks Q) : J w M pc ls (.int x :: st) h n xx kc ks Q := by
  intro p e R s m args below meth c mc ms H locs cells slots arr X Y V K
  exact lv_lookup X.1 X.2.1 d hp ho ht (k p e R s m args below meth c mc ms H locs cells slots arr X Y V K)
theorem J_iret {w : jw_T} {M : jm_T} {pc : Nat} {ls : jl_T} {st : List Value} {h : jh_T} {n : Nat} {xx : Bool} {kc ks : Nat} {Q : jr_T → jh_T → Nat → Bool → Prop} {v : Int32} {ty : FieldType} (d : decode (jm_cod M) pc = .ok (.ireturn, 1)) (hr : jm_ret M = some ty) (hn : narrow ty (.int v) = .int v) (hq : Q (.inl (some (.int v))) h n xx) : J w M pc ls [.int v] h n xx kc ks Q := by
  intro p e R s m args below meth c mc ms H locs cells slots arr X Y V K
  refine W.widen (k := mc) (n := ms) (by omega) (by omega) (W.mono ?_ (W.zret (Qc := fun _ _ o t => o = .returned (some (.int v)) ∧ t.heap = H) (free := fun q => jw_z w ≤ q) X.1 X.2.1 (X.2.2.2.1.trans hr) hn (fun t ht _ => ⟨rfl, ht⟩) Y.2.2.2.2.1 d X.2.2.2.2.1))
  intro t ⟨o, h1, h2, ⟨h3, h4⟩, L, ⟨_, h5, h6⟩, h7⟩
  exact ⟨o, .inl (some (.int v)), h, n, xx, L, h1, h2, h5, h6, h3, by rw [h4]; exact ⟨Y.1, Y.2.1, Y.2.2.1, Y.2.2.2.1, h7, Y.2.2.2.2.2⟩, hq⟩
theorem J_lret {w : jw_T} {M : jm_T} {pc : Nat} {ls : jl_T} {st : List Value} {h : jh_T} {n : Nat} {xx : Bool} {kc ks : Nat} {Q : jr_T → jh_T → Nat → Bool → Prop} {v : Int64} (d : decode (jm_cod M) pc = .ok (.lreturn, 1)) (hr : jm_ret M = some .long) (hq : Q (.inl (some (.long v))) h n xx) : J w M pc ls [.long v] h n xx kc ks Q := by
  intro p e R s m args below meth c mc ms H locs cells slots arr X Y V K
  refine W.widen (k := mc) (n := ms) (by omega) (by omega) (W.mono ?_ (W.lret (Qc := fun _ _ o t => o = .returned (some (.long v)) ∧ t.heap = H) (free := fun q => jw_z w ≤ q) X.1 X.2.1 (X.2.2.2.1.trans hr) (fun t ht _ => ⟨rfl, ht⟩) Y.2.2.2.2.1 d X.2.2.2.2.1))
  intro t ⟨o, h1, h2, ⟨h3, h4⟩, L, ⟨_, h5, h6⟩, h7⟩
  exact ⟨o, .inl (some (.long v)), h, n, xx, L, h1, h2, h5, h6, h3, by rw [h4]; exact ⟨Y.1, Y.2.1, Y.2.2.1, Y.2.2.2.1, h7, Y.2.2.2.2.2⟩, hq⟩
theorem J_aret {w : jw_T} {M : jm_T} {pc : Nat} {ls : jl_T} {st : List Value} {h : jh_T} {n : Nat} {xx : Bool} {kc ks : Nat} {Q : jr_T → jh_T → Nat → Bool → Prop} {v : Value} {rt : FieldType} (d : decode (jm_cod M) pc = .ok (.areturn, 1)) (hr : jm_ret M = some rt) (hrt : (∃ n, rt = .object n) ∨ ∃ t, rt = .array t) (hv : v = .null ∨ ∃ a, v = .ref a) (hq : Q (.inl (some v)) h n xx) : J w M pc ls [v] h n xx kc ks Q := by
  intro p e R s m args below meth c mc ms H locs cells slots arr X Y V K
  refine W.widen (k := mc) (n := ms) (by omega) (by omega) (W.mono ?_ (W.aret (Qc := fun _ _ o t => o = .returned (some v) ∧ t.heap = H) (free := fun q => jw_z w ≤ q) X.1 X.2.1 (X.2.2.2.1.trans hr) hrt hv (fun t ht _ => ⟨rfl, ht⟩) Y.2.2.2.2.1 d X.2.2.2.2.1))
  intro t ⟨o, h1, h2, ⟨h3, h4⟩, L, ⟨_, h5, h6⟩, h7⟩
  exact ⟨o, .inl (some v), h, n, xx, L, h1, h2, h5, h6, h3, by rw [h4]; exact ⟨Y.1, Y.2.1, Y.2.2.1, Y.2.2.2.1, h7, Y.2.2.2.2.2⟩, hq⟩
theorem J_vret {w : jw_T} {M : jm_T} {pc : Nat} {ls : jl_T} {st : List Value} {h : jh_T} {n : Nat} {xx : Bool} {kc ks : Nat} {Q : jr_T → jh_T → Nat → Bool → Prop}  (d : decode (jm_cod M) pc = .ok (.return_, 1)) (hr : jm_ret M = none) (hq : Q (.inl none) h n xx) : J w M pc ls [] h n xx kc ks Q := by
  intro p e R s m args below meth c mc ms H locs cells slots arr X Y V K
  refine W.widen (k := mc) (n := ms) (by omega) (by omega) (W.mono ?_ (W.vret (Qc := fun _ _ o t => o = .returned none ∧ t.heap = H) (free := fun q => jw_z w ≤ q) X.1 X.2.1 (X.2.2.2.1.trans hr) (fun t ht _ => ⟨rfl, ht⟩) Y.2.2.2.2.1 d X.2.2.2.2.1))
  intro t ⟨o, h1, h2, ⟨h3, h4⟩, L, ⟨_, h5, h6⟩, h7⟩
  exact ⟨o, .inl none, h, n, xx, L, h1, h2, h5, h6, h3, by rw [h4]; exact ⟨Y.1, Y.2.1, Y.2.2.1, Y.2.2.2.1, h7, Y.2.2.2.2.2⟩, hq⟩
