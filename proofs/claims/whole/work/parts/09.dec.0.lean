theorem j_tab {cod : ByteArray} {tab : List (Nat × Instr × Nat)} {r0 : Nat × Instr × Nat} (h : (r0 :: tab).all (fun r => decide (decode cod r.1 = .ok (r.2.1, r.2.2))) = true) (i : Nat) : decode cod (tab.getD i r0).1 = .ok ((tab.getD i r0).2.1, (tab.getD i r0).2.2) := by
  have hm : tab.getD i r0 ∈ r0 :: tab := by
    by_cases hi : i < tab.length
    · rw [List.getD_eq_getElem?_getD, List.getElem?_eq_getElem hi]
      exact List.mem_cons_of_mem _ (List.getElem_mem hi)
    · rw [List.getD_eq_getElem?_getD, List.getElem?_eq_none (by omega)]
      exact List.mem_cons_self
  exact of_decide_eq_true (List.all_eq_true.mp h _ hm)
