/-! THE PROGRAM in the J layer: its words by their places, classes, fields, methods, calls. Printed by wip/gen/names.py. -/
def jprog : List Cond × List vw_C × List FieldType × List (String × Nat × String) × List (String × String) := (lw_tbl, jcl, jty, jsr, jnc)
/-- a world of this program -/
def jok (w : jw_T) : Prop := w.2.1 = jprog
theorem jmem {w : jw_T} (hw : jok w) {c : Cond} {i : Nat} (h : lw_tbl[i]? = some c) : c ∈ jw_Ts w := by
  show c ∈ w.2.1.1
  rw [show w.2.1 = jprog from hw]
  exact List.mem_of_getElem? h
theorem jcl_at {w : jw_T} (hw : jok w) {i : Nat} {q : vw_C} (h : jcl[i]? = some q) : (jw_cl w)[i]? = some q := by
  show w.2.1.2.1[i]? = some q
  rw [show w.2.1 = jprog from hw]
  exact h
theorem jty_at {w : jw_T} (hw : jok w) {i : Nat} {q : FieldType} (h : jty[i]? = some q) : (jw_ty w)[i]? = some q := by
  show w.2.1.2.2.1[i]? = some q
  rw [show w.2.1 = jprog from hw]
  exact h
theorem jws {w : jw_T} (hw : jok w) (ws : List Cond) (ps : List Nat) (hp : ws = ps.filterMap (fun i => lw_tbl[i]?)) (hg : ws.all jg = true) : ∀ c ∈ ws, c ∈ jw_Ts w ∧ jg c = true := by
  intro c hc
  refine ⟨?_, List.all_eq_true.mp hg c hc⟩
  rw [hp] at hc
  obtain ⟨i, -, hi⟩ := List.mem_filterMap.mp hc
  exact jmem hw hi
theorem tb1 {w : jw_T} (hw : jok w) {c : Cond} {i : Nat} (h : tables_1_1[i]? = some c) : c ∈ jw_Ts w := by
  show c ∈ w.2.1.1
  rw [show w.2.1 = jprog from hw]
  exact List.mem_append_right _ (List.mem_append_left _ (List.mem_of_getElem? h))
theorem tb2 {w : jw_T} (hw : jok w) {c : Cond} {i : Nat} (h : tables_1_2[i]? = some c) : c ∈ jw_Ts w := by
  show c ∈ w.2.1.1
  rw [show w.2.1 = jprog from hw]
  exact List.mem_append_right _ (List.mem_append_right _ (List.mem_append_left _ (List.mem_of_getElem? h)))
theorem tb3 {w : jw_T} (hw : jok w) {c : Cond} {i : Nat} (h : tables_1_3[i]? = some c) : c ∈ jw_Ts w := by
  show c ∈ w.2.1.1
  rw [show w.2.1 = jprog from hw]
  exact List.mem_append_right _ (List.mem_append_right _ (List.mem_append_right _ (List.mem_append_left _ (List.mem_of_getElem? h))))
theorem tb4 {w : jw_T} (hw : jok w) {c : Cond} {i : Nat} (h : tables_1_4[i]? = some c) : c ∈ jw_Ts w := by
  show c ∈ w.2.1.1
  rw [show w.2.1 = jprog from hw]
  exact List.mem_append_right _ (List.mem_append_right _ (List.mem_append_right _ (List.mem_append_right _ (List.mem_append_left _ (List.mem_of_getElem? h)))))
theorem tb5 {w : jw_T} (hw : jok w) {c : Cond} {i : Nat} (h : tables_1_5[i]? = some c) : c ∈ jw_Ts w := by
  show c ∈ w.2.1.1
  rw [show w.2.1 = jprog from hw]
  exact List.mem_append_right _ (List.mem_append_right _ (List.mem_append_right _ (List.mem_append_right _ (List.mem_append_right _ (List.mem_append_left _ (List.mem_of_getElem? h))))))
theorem tb6 {w : jw_T} (hw : jok w) {c : Cond} {i : Nat} (h : tables_1_6[i]? = some c) : c ∈ jw_Ts w := by
  show c ∈ w.2.1.1
  rw [show w.2.1 = jprog from hw]
  exact List.mem_append_right _ (List.mem_append_right _ (List.mem_append_right _ (List.mem_append_right _ (List.mem_append_right _ (List.mem_append_right _ (List.mem_append_left _ (List.mem_of_getElem? h)))))))
theorem tb7 {w : jw_T} (hw : jok w) {c : Cond} {i : Nat} (h : tables_1_7[i]? = some c) : c ∈ jw_Ts w := by
  show c ∈ w.2.1.1
  rw [show w.2.1 = jprog from hw]
  exact List.mem_append_right _ (List.mem_append_right _ (List.mem_append_right _ (List.mem_append_right _ (List.mem_append_right _ (List.mem_append_right _ (List.mem_append_right _ (List.mem_append_left _ (List.mem_of_getElem? h))))))))
theorem tb8 {w : jw_T} (hw : jok w) {c : Cond} {i : Nat} (h : tables_1_8[i]? = some c) : c ∈ jw_Ts w := by
  show c ∈ w.2.1.1
  rw [show w.2.1 = jprog from hw]
  exact List.mem_append_right _ (List.mem_append_right _ (List.mem_append_right _ (List.mem_append_right _ (List.mem_append_right _ (List.mem_append_right _ (List.mem_append_right _ (List.mem_append_right _ (List.mem_append_left _ (List.mem_of_getElem? h)))))))))
theorem tb9 {w : jw_T} (hw : jok w) {c : Cond} {i : Nat} (h : tables_1_9[i]? = some c) : c ∈ jw_Ts w := by
  show c ∈ w.2.1.1
  rw [show w.2.1 = jprog from hw]
  exact List.mem_append_right _ (List.mem_append_right _ (List.mem_append_right _ (List.mem_append_right _ (List.mem_append_right _ (List.mem_append_right _ (List.mem_append_right _ (List.mem_append_right _ (List.mem_append_right _ (List.mem_append_left _ (List.mem_of_getElem? h))))))))))
theorem tb10 {w : jw_T} (hw : jok w) {c : Cond} {i : Nat} (h : tables_1_10[i]? = some c) : c ∈ jw_Ts w := by
  show c ∈ w.2.1.1
  rw [show w.2.1 = jprog from hw]
  exact List.mem_append_right _ (List.mem_append_right _ (List.mem_append_right _ (List.mem_append_right _ (List.mem_append_right _ (List.mem_append_right _ (List.mem_append_right _ (List.mem_append_right _ (List.mem_append_right _ (List.mem_append_right _ (List.mem_of_getElem? h))))))))))
theorem cf_Burst {w : jw_T} (hw : jok w) : jcf w 0 "BusCrossbar$Burst" T_Burst 8 t_Burst := ⟨jcl_at hw rfl, jws hw _ [396, 398, 400, 402, 404, 406, 408, 410] (by decide +kernel) (by decide +kernel), by decide +kernel, by decide +kernel⟩
theorem cf_Line {w : jw_T} (hw : jok w) : jcf w 1 "BusCrossbar$Line" T_Line 2 t_Line := ⟨jcl_at hw rfl, jws hw _ [419, 421] (by decide +kernel) (by decide +kernel), by decide +kernel, by decide +kernel⟩
theorem cf_Memory {w : jw_T} (hw : jok w) : jcf w 2 "BusCrossbar$Memory" T_Memory 2 t_Memory := ⟨jcl_at hw rfl, jws hw _ [167, 169] (by decide +kernel) (by decide +kernel), by decide +kernel, by decide +kernel⟩
theorem cf_Row {w : jw_T} (hw : jok w) : jcf w 3 "BusCrossbar$Row" T_Row 4 t_Row := ⟨jcl_at hw rfl, jws hw _ [194, 196, 198, 200] (by decide +kernel) (by decide +kernel), by decide +kernel, by decide +kernel⟩
theorem cf_Monitor {w : jw_T} (hw : jok w) : jcf w 4 "BusCrossbar$Monitor" T_Monitor 9 t_Monitor := ⟨jcl_at hw rfl, jws hw _ [437, 439, 441, 443, 445, 447, 449, 451, 453] (by decide +kernel) (by decide +kernel), by decide +kernel, by decide +kernel⟩
theorem cf_Port {w : jw_T} (hw : jok w) : jcf w 5 "BusCrossbar$Port" T_Port 7 t_Port := ⟨jcl_at hw rfl, jws hw _ [484, 486, 488, 490, 492, 494, 496] (by decide +kernel) (by decide +kernel), by decide +kernel, by decide +kernel⟩
theorem cf_Request {w : jw_T} (hw : jok w) : jcf w 6 "BusCrossbar$Request" T_Request 6 t_Request := ⟨jcl_at hw rfl, jws hw _ [574, 576, 578, 580, 582, 584] (by decide +kernel) (by decide +kernel), by decide +kernel, by decide +kernel⟩
theorem cf_Master {w : jw_T} (hw : jok w) : jcf w 7 "BusCrossbar$Master" T_Master 10 t_Master := ⟨jcl_at hw rfl, jws hw _ [321, 323, 325, 327, 329, 331, 333, 335, 337, 339] (by decide +kernel) (by decide +kernel), by decide +kernel, by decide +kernel⟩
theorem cf_Slave {w : jw_T} (hw : jok w) : jcf w 8 "BusCrossbar$Slave" T_Slave 11 t_Slave := ⟨jcl_at hw rfl, jws hw _ [527, 529, 531, 533, 535, 537, 539, 541, 543, 545, 547] (by decide +kernel) (by decide +kernel), by decide +kernel, by decide +kernel⟩
theorem cf_UnderWay {w : jw_T} (hw : jok w) : jcf w 9 "BusCrossbar$UnderWay" T_UnderWay 5 t_UnderWay := ⟨jcl_at hw rfl, jws hw _ [220, 222, 224, 226, 228] (by decide +kernel) (by decide +kernel), by decide +kernel, by decide +kernel⟩
theorem cf_Switch {w : jw_T} (hw : jok w) : jcf w 10 "BusCrossbar$Switch" T_Switch 17 t_Switch := ⟨jcl_at hw rfl, jws hw _ [259, 261, 263, 265, 267, 269, 271, 273, 275, 277, 279, 281, 283, 285, 287, 289, 291] (by decide +kernel) (by decide +kernel), by decide +kernel, by decide +kernel⟩
theorem cf_Bus {w : jw_T} (hw : jok w) : jcf w 11 "BusCrossbar" T_Bus 10 t_Bus := ⟨jcl_at hw rfl, jws hw _ [597, 599, 601, 603, 605, 607, 609, 611, 613, 615] (by decide +kernel) (by decide +kernel), by decide +kernel, by decide +kernel⟩
theorem cf_Ref {w : jw_T} (hw : jok w) : jcf w 12 "BusCrossbarModel" T_Ref 102 t_Ref := ⟨jcl_at hw rfl, jws hw _ [1663, 1665, 1667, 1669, 1671, 1673, 1675, 1677, 1679, 1681, 1683, 1685, 1687, 1689, 1691, 1693, 1695, 1697, 1699, 1701, 1703, 1705, 1707, 1709, 1711, 1713, 1715, 1717, 1719, 1721, 1723, 1725, 1727, 1729, 1731, 1733, 1735, 1737, 1739, 1741, 1743, 1745, 1747, 1749, 1751, 1753, 1755, 1757, 1759, 1761, 1763, 1765, 1767, 1769, 1771, 1773, 1775, 1777, 1779, 1781, 1783, 1785, 1787, 1789, 1791, 1793, 1795, 1797, 1799, 1801, 1803, 1805, 1807, 1809, 1811, 1813, 1815, 1817, 1819, 1821, 1823, 1825, 1827, 1829, 1831, 1833, 1835, 1837, 1839, 1841, 1843, 1845, 1847, 1849, 1851, 1853, 1855, 1857, 1859, 1861, 1863, 1865] (by decide +kernel) (by decide +kernel), by decide +kernel, by decide +kernel⟩
theorem fl_Memory_9 {w : jw_T} (hw : jok w) : jfl w "BusCrossbar$Memory" 9 T_Memory 0 := Or.inl (tb1 hw (i := 48) (by decide +kernel))
theorem fl_Memory_15 {w : jw_T} (hw : jok w) : jfl w "BusCrossbar$Memory" 15 T_Memory 1 := Or.inl (tb1 hw (i := 49) (by decide +kernel))
theorem fl_Row_7 {w : jw_T} (hw : jok w) : jfl w "BusCrossbar$Row" 7 T_Row 0 := Or.inl (tb1 hw (i := 72) (by decide +kernel))
theorem fl_Row_13 {w : jw_T} (hw : jok w) : jfl w "BusCrossbar$Row" 13 T_Row 1 := Or.inl (tb1 hw (i := 73) (by decide +kernel))
theorem fl_Row_17 {w : jw_T} (hw : jok w) : jfl w "BusCrossbar$Row" 17 T_Row 2 := Or.inl (tb1 hw (i := 74) (by decide +kernel))
theorem fl_Row_20 {w : jw_T} (hw : jok w) : jfl w "BusCrossbar$Row" 20 T_Row 3 := Or.inl (tb1 hw (i := 75) (by decide +kernel))
theorem fl_Switch_70 {w : jw_T} (hw : jok w) : jfl w "BusCrossbar$Switch" 70 T_Row 3 := Or.inr ⟨"BusCrossbar", tb1 hw (i := 76) (by decide +kernel)⟩
theorem fl_UnderWay_9 {w : jw_T} (hw : jok w) : jfl w "BusCrossbar$UnderWay" 9 T_UnderWay 0 := Or.inl (tb1 hw (i := 94) (by decide +kernel))
theorem fl_UnderWay_15 {w : jw_T} (hw : jok w) : jfl w "BusCrossbar$UnderWay" 15 T_UnderWay 1 := Or.inl (tb1 hw (i := 95) (by decide +kernel))
theorem fl_Switch_221 {w : jw_T} (hw : jok w) : jfl w "BusCrossbar$Switch" 221 T_UnderWay 1 := Or.inr ⟨"BusCrossbar", tb1 hw (i := 96) (by decide +kernel)⟩
theorem fl_UnderWay_18 {w : jw_T} (hw : jok w) : jfl w "BusCrossbar$UnderWay" 18 T_UnderWay 2 := Or.inl (tb1 hw (i := 97) (by decide +kernel))
theorem fl_Switch_231 {w : jw_T} (hw : jok w) : jfl w "BusCrossbar$Switch" 231 T_UnderWay 2 := Or.inr ⟨"BusCrossbar", tb1 hw (i := 98) (by decide +kernel)⟩
theorem fl_UnderWay_21 {w : jw_T} (hw : jok w) : jfl w "BusCrossbar$UnderWay" 21 T_UnderWay 3 := Or.inl (tb1 hw (i := 99) (by decide +kernel))
theorem fl_Switch_224 {w : jw_T} (hw : jok w) : jfl w "BusCrossbar$Switch" 224 T_UnderWay 3 := Or.inr ⟨"BusCrossbar", tb1 hw (i := 100) (by decide +kernel)⟩
theorem fl_UnderWay_24 {w : jw_T} (hw : jok w) : jfl w "BusCrossbar$UnderWay" 24 T_UnderWay 4 := Or.inl (tb1 hw (i := 101) (by decide +kernel))
theorem fl_Switch_73 {w : jw_T} (hw : jok w) : jfl w "BusCrossbar$Switch" 73 T_UnderWay 4 := Or.inr ⟨"BusCrossbar", tb1 hw (i := 102) (by decide +kernel)⟩
theorem fl_Switch_15 {w : jw_T} (hw : jok w) : jfl w "BusCrossbar$Switch" 15 T_Switch 0 := Or.inl (tb1 hw (i := 121) (by decide +kernel))
theorem fl_Switch_19 {w : jw_T} (hw : jok w) : jfl w "BusCrossbar$Switch" 19 T_Switch 1 := Or.inl (tb1 hw (i := 122) (by decide +kernel))
theorem fl_Switch_22 {w : jw_T} (hw : jok w) : jfl w "BusCrossbar$Switch" 22 T_Switch 2 := Or.inl (tb1 hw (i := 123) (by decide +kernel))
theorem fl_Bus_261 {w : jw_T} (hw : jok w) : jfl w "BusCrossbar" 261 T_Switch 2 := Or.inr ⟨"BusCrossbar", tb1 hw (i := 124) (by decide +kernel)⟩
theorem fl_Switch_9 {w : jw_T} (hw : jok w) : jfl w "BusCrossbar$Switch" 9 T_Switch 3 := Or.inl (tb1 hw (i := 125) (by decide +kernel))
theorem fl_Bus_80 {w : jw_T} (hw : jok w) : jfl w "BusCrossbar" 80 T_Switch 3 := Or.inr ⟨"BusCrossbar", tb1 hw (i := 126) (by decide +kernel)⟩
theorem fl_Switch_29 {w : jw_T} (hw : jok w) : jfl w "BusCrossbar$Switch" 29 T_Switch 4 := Or.inl (tb1 hw (i := 127) (by decide +kernel))
theorem fl_Switch_33 {w : jw_T} (hw : jok w) : jfl w "BusCrossbar$Switch" 33 T_Switch 5 := Or.inl (tb1 hw (i := 128) (by decide +kernel))
theorem fl_Switch_38 {w : jw_T} (hw : jok w) : jfl w "BusCrossbar$Switch" 38 T_Switch 6 := Or.inl (tb1 hw (i := 129) (by decide +kernel))
theorem fl_Switch_42 {w : jw_T} (hw : jok w) : jfl w "BusCrossbar$Switch" 42 T_Switch 7 := Or.inl (tb1 hw (i := 130) (by decide +kernel))
theorem fl_Switch_46 {w : jw_T} (hw : jok w) : jfl w "BusCrossbar$Switch" 46 T_Switch 8 := Or.inl (tb1 hw (i := 131) (by decide +kernel))
theorem fl_Switch_49 {w : jw_T} (hw : jok w) : jfl w "BusCrossbar$Switch" 49 T_Switch 9 := Or.inl (tb1 hw (i := 132) (by decide +kernel))
theorem fl_Switch_52 {w : jw_T} (hw : jok w) : jfl w "BusCrossbar$Switch" 52 T_Switch 10 := Or.inl (tb1 hw (i := 133) (by decide +kernel))
theorem fl_Switch_55 {w : jw_T} (hw : jok w) : jfl w "BusCrossbar$Switch" 55 T_Switch 11 := Or.inl (tb1 hw (i := 134) (by decide +kernel))
theorem fl_Switch_58 {w : jw_T} (hw : jok w) : jfl w "BusCrossbar$Switch" 58 T_Switch 12 := Or.inl (tb1 hw (i := 135) (by decide +kernel))
theorem fl_Bus_87 {w : jw_T} (hw : jok w) : jfl w "BusCrossbar" 87 T_Switch 13 := Or.inr ⟨"BusCrossbar", tb1 hw (i := 136) (by decide +kernel)⟩
theorem fl_Switch_80 {w : jw_T} (hw : jok w) : jfl w "BusCrossbar$Switch" 80 T_Switch 13 := Or.inl (tb1 hw (i := 137) (by decide +kernel))
theorem fl_Bus_91 {w : jw_T} (hw : jok w) : jfl w "BusCrossbar" 91 T_Switch 14 := Or.inr ⟨"BusCrossbar", tb1 hw (i := 138) (by decide +kernel)⟩
theorem fl_Switch_83 {w : jw_T} (hw : jok w) : jfl w "BusCrossbar$Switch" 83 T_Switch 14 := Or.inl (tb1 hw (i := 139) (by decide +kernel))
theorem fl_Switch_87 {w : jw_T} (hw : jok w) : jfl w "BusCrossbar$Switch" 87 T_Switch 15 := Or.inl (tb1 hw (i := 140) (by decide +kernel))
theorem fl_Switch_90 {w : jw_T} (hw : jok w) : jfl w "BusCrossbar$Switch" 90 T_Switch 16 := Or.inl (tb1 hw (i := 141) (by decide +kernel))
theorem fl_Master_9 {w : jw_T} (hw : jok w) : jfl w "BusCrossbar$Master" 9 T_Master 0 := Or.inl (tb1 hw (i := 191) (by decide +kernel))
theorem fl_Bus_95 {w : jw_T} (hw : jok w) : jfl w "BusCrossbar" 95 T_Master 0 := Or.inr ⟨"BusCrossbar", tb1 hw (i := 192) (by decide +kernel)⟩
theorem fl_Master_31 {w : jw_T} (hw : jok w) : jfl w "BusCrossbar$Master" 31 T_Master 1 := Or.inl (tb1 hw (i := 193) (by decide +kernel))
theorem fl_Bus_102 {w : jw_T} (hw : jok w) : jfl w "BusCrossbar" 102 T_Master 1 := Or.inr ⟨"BusCrossbar", tb1 hw (i := 194) (by decide +kernel)⟩
theorem fl_Master_17 {w : jw_T} (hw : jok w) : jfl w "BusCrossbar$Master" 17 T_Master 2 := Or.inl (tb1 hw (i := 195) (by decide +kernel))
theorem fl_Master_21 {w : jw_T} (hw : jok w) : jfl w "BusCrossbar$Master" 21 T_Master 3 := Or.inl (tb1 hw (i := 196) (by decide +kernel))
theorem fl_Master_35 {w : jw_T} (hw : jok w) : jfl w "BusCrossbar$Master" 35 T_Master 4 := Or.inl (tb1 hw (i := 197) (by decide +kernel))
theorem fl_Master_39 {w : jw_T} (hw : jok w) : jfl w "BusCrossbar$Master" 39 T_Master 5 := Or.inl (tb1 hw (i := 198) (by decide +kernel))
theorem fl_Master_42 {w : jw_T} (hw : jok w) : jfl w "BusCrossbar$Master" 42 T_Master 6 := Or.inl (tb1 hw (i := 199) (by decide +kernel))
theorem fl_Master_45 {w : jw_T} (hw : jok w) : jfl w "BusCrossbar$Master" 45 T_Master 7 := Or.inl (tb1 hw (i := 200) (by decide +kernel))
theorem fl_Master_48 {w : jw_T} (hw : jok w) : jfl w "BusCrossbar$Master" 48 T_Master 8 := Or.inl (tb1 hw (i := 201) (by decide +kernel))
theorem fl_Master_51 {w : jw_T} (hw : jok w) : jfl w "BusCrossbar$Master" 51 T_Master 9 := Or.inl (tb1 hw (i := 202) (by decide +kernel))
theorem fl_Bus_334 {w : jw_T} (hw : jok w) : jfl w "BusCrossbar" 334 T_Master 9 := Or.inr ⟨"BusCrossbar", tb1 hw (i := 203) (by decide +kernel)⟩
theorem fl_Burst_19 {w : jw_T} (hw : jok w) : jfl w "BusCrossbar$Burst" 19 T_Burst 0 := Or.inl (tb2 hw (i := 9) (by decide +kernel))
theorem fl_Slave_99 {w : jw_T} (hw : jok w) : jfl w "BusCrossbar$Slave" 99 T_Burst 0 := Or.inr ⟨"BusCrossbar", tb2 hw (i := 10) (by decide +kernel)⟩
theorem fl_Line_30 {w : jw_T} (hw : jok w) : jfl w "BusCrossbar$Line" 30 T_Burst 0 := Or.inr ⟨"BusCrossbar", tb2 hw (i := 11) (by decide +kernel)⟩
theorem fl_Master_90 {w : jw_T} (hw : jok w) : jfl w "BusCrossbar$Master" 90 T_Burst 0 := Or.inr ⟨"BusCrossbar", tb2 hw (i := 12) (by decide +kernel)⟩
theorem fl_Monitor_130 {w : jw_T} (hw : jok w) : jfl w "BusCrossbar$Monitor" 130 T_Burst 0 := Or.inr ⟨"BusCrossbar", tb2 hw (i := 13) (by decide +kernel)⟩
theorem fl_Bus_200 {w : jw_T} (hw : jok w) : jfl w "BusCrossbar" 200 T_Burst 0 := Or.inr ⟨"BusCrossbar", tb2 hw (i := 14) (by decide +kernel)⟩
theorem fl_Burst_23 {w : jw_T} (hw : jok w) : jfl w "BusCrossbar$Burst" 23 T_Burst 1 := Or.inl (tb2 hw (i := 15) (by decide +kernel))
theorem fl_Line_38 {w : jw_T} (hw : jok w) : jfl w "BusCrossbar$Line" 38 T_Burst 1 := Or.inr ⟨"BusCrossbar", tb2 hw (i := 16) (by decide +kernel)⟩
theorem fl_Monitor_157 {w : jw_T} (hw : jok w) : jfl w "BusCrossbar$Monitor" 157 T_Burst 1 := Or.inr ⟨"BusCrossbar", tb2 hw (i := 17) (by decide +kernel)⟩
theorem fl_Burst_27 {w : jw_T} (hw : jok w) : jfl w "BusCrossbar$Burst" 27 T_Burst 2 := Or.inl (tb2 hw (i := 18) (by decide +kernel))
theorem fl_Line_42 {w : jw_T} (hw : jok w) : jfl w "BusCrossbar$Line" 42 T_Burst 2 := Or.inr ⟨"BusCrossbar", tb2 hw (i := 19) (by decide +kernel)⟩
theorem fl_Slave_187 {w : jw_T} (hw : jok w) : jfl w "BusCrossbar$Slave" 187 T_Burst 2 := Or.inr ⟨"BusCrossbar", tb2 hw (i := 20) (by decide +kernel)⟩
theorem fl_Monitor_172 {w : jw_T} (hw : jok w) : jfl w "BusCrossbar$Monitor" 172 T_Burst 2 := Or.inr ⟨"BusCrossbar", tb2 hw (i := 21) (by decide +kernel)⟩
theorem fl_Burst_30 {w : jw_T} (hw : jok w) : jfl w "BusCrossbar$Burst" 30 T_Burst 3 := Or.inl (tb2 hw (i := 22) (by decide +kernel))
theorem fl_Slave_120 {w : jw_T} (hw : jok w) : jfl w "BusCrossbar$Slave" 120 T_Burst 3 := Or.inr ⟨"BusCrossbar", tb2 hw (i := 23) (by decide +kernel)⟩
theorem fl_Master_103 {w : jw_T} (hw : jok w) : jfl w "BusCrossbar$Master" 103 T_Burst 3 := Or.inr ⟨"BusCrossbar", tb2 hw (i := 24) (by decide +kernel)⟩
theorem fl_Monitor_127 {w : jw_T} (hw : jok w) : jfl w "BusCrossbar$Monitor" 127 T_Burst 3 := Or.inr ⟨"BusCrossbar", tb2 hw (i := 25) (by decide +kernel)⟩
theorem fl_Bus_197 {w : jw_T} (hw : jok w) : jfl w "BusCrossbar" 197 T_Burst 3 := Or.inr ⟨"BusCrossbar", tb2 hw (i := 26) (by decide +kernel)⟩
theorem fl_Burst_34 {w : jw_T} (hw : jok w) : jfl w "BusCrossbar$Burst" 34 T_Burst 4 := Or.inl (tb2 hw (i := 27) (by decide +kernel))
theorem fl_Slave_149 {w : jw_T} (hw : jok w) : jfl w "BusCrossbar$Slave" 149 T_Burst 4 := Or.inr ⟨"BusCrossbar", tb2 hw (i := 28) (by decide +kernel)⟩
theorem fl_Burst_37 {w : jw_T} (hw : jok w) : jfl w "BusCrossbar$Burst" 37 T_Burst 5 := Or.inl (tb2 hw (i := 29) (by decide +kernel))
theorem fl_Slave_109 {w : jw_T} (hw : jok w) : jfl w "BusCrossbar$Slave" 109 T_Burst 5 := Or.inr ⟨"BusCrossbar", tb2 hw (i := 30) (by decide +kernel)⟩
theorem fl_Burst_9 {w : jw_T} (hw : jok w) : jfl w "BusCrossbar$Burst" 9 T_Burst 6 := Or.inl (tb2 hw (i := 31) (by decide +kernel))
theorem fl_Slave_123 {w : jw_T} (hw : jok w) : jfl w "BusCrossbar$Slave" 123 T_Burst 6 := Or.inr ⟨"BusCrossbar", tb2 hw (i := 32) (by decide +kernel)⟩
theorem fl_Master_106 {w : jw_T} (hw : jok w) : jfl w "BusCrossbar$Master" 106 T_Burst 6 := Or.inr ⟨"BusCrossbar", tb2 hw (i := 33) (by decide +kernel)⟩
theorem fl_Bus_207 {w : jw_T} (hw : jok w) : jfl w "BusCrossbar" 207 T_Burst 6 := Or.inr ⟨"BusCrossbar", tb2 hw (i := 34) (by decide +kernel)⟩
theorem fl_Burst_15 {w : jw_T} (hw : jok w) : jfl w "BusCrossbar$Burst" 15 T_Burst 7 := Or.inl (tb2 hw (i := 35) (by decide +kernel))
theorem fl_Slave_127 {w : jw_T} (hw : jok w) : jfl w "BusCrossbar$Slave" 127 T_Burst 7 := Or.inr ⟨"BusCrossbar", tb2 hw (i := 36) (by decide +kernel)⟩
theorem fl_Master_110 {w : jw_T} (hw : jok w) : jfl w "BusCrossbar$Master" 110 T_Burst 7 := Or.inr ⟨"BusCrossbar", tb2 hw (i := 37) (by decide +kernel)⟩
theorem fl_Monitor_175 {w : jw_T} (hw : jok w) : jfl w "BusCrossbar$Monitor" 175 T_Burst 7 := Or.inr ⟨"BusCrossbar", tb2 hw (i := 38) (by decide +kernel)⟩
theorem fl_Line_11 {w : jw_T} (hw : jok w) : jfl w "BusCrossbar$Line" 11 T_Line 0 := Or.inl (tb2 hw (i := 56) (by decide +kernel))
theorem fl_Slave_145 {w : jw_T} (hw : jok w) : jfl w "BusCrossbar$Slave" 145 T_Line 0 := Or.inr ⟨"BusCrossbar", tb2 hw (i := 57) (by decide +kernel)⟩
theorem fl_Line_18 {w : jw_T} (hw : jok w) : jfl w "BusCrossbar$Line" 18 T_Line 1 := Or.inl (tb2 hw (i := 58) (by decide +kernel))
theorem fl_Monitor_42 {w : jw_T} (hw : jok w) : jfl w "BusCrossbar$Monitor" 42 T_Line 1 := Or.inr ⟨"BusCrossbar", tb2 hw (i := 59) (by decide +kernel)⟩
theorem fl_Slave_54 {w : jw_T} (hw : jok w) : jfl w "BusCrossbar$Slave" 54 T_Line 1 := Or.inr ⟨"BusCrossbar", tb2 hw (i := 60) (by decide +kernel)⟩
theorem fl_Bus_250 {w : jw_T} (hw : jok w) : jfl w "BusCrossbar" 250 T_Line 1 := Or.inr ⟨"BusCrossbar", tb2 hw (i := 61) (by decide +kernel)⟩
theorem fl_Monitor_14 {w : jw_T} (hw : jok w) : jfl w "BusCrossbar$Monitor" 14 T_Monitor 0 := Or.inl (tb2 hw (i := 67) (by decide +kernel))
theorem fl_Bus_284 {w : jw_T} (hw : jok w) : jfl w "BusCrossbar" 284 T_Monitor 0 := Or.inr ⟨"BusCrossbar", tb2 hw (i := 68) (by decide +kernel)⟩
theorem fl_Monitor_20 {w : jw_T} (hw : jok w) : jfl w "BusCrossbar$Monitor" 20 T_Monitor 1 := Or.inl (tb2 hw (i := 69) (by decide +kernel))
theorem fl_Bus_285 {w : jw_T} (hw : jok w) : jfl w "BusCrossbar" 285 T_Monitor 1 := Or.inr ⟨"BusCrossbar", tb2 hw (i := 70) (by decide +kernel)⟩
theorem fl_Monitor_23 {w : jw_T} (hw : jok w) : jfl w "BusCrossbar$Monitor" 23 T_Monitor 2 := Or.inl (tb2 hw (i := 71) (by decide +kernel))
theorem fl_Monitor_27 {w : jw_T} (hw : jok w) : jfl w "BusCrossbar$Monitor" 27 T_Monitor 3 := Or.inl (tb2 hw (i := 72) (by decide +kernel))
theorem fl_Monitor_31 {w : jw_T} (hw : jok w) : jfl w "BusCrossbar$Monitor" 31 T_Monitor 4 := Or.inl (tb2 hw (i := 73) (by decide +kernel))
theorem fl_Monitor_45 {w : jw_T} (hw : jok w) : jfl w "BusCrossbar$Monitor" 45 T_Monitor 5 := Or.inl (tb2 hw (i := 74) (by decide +kernel))
theorem fl_Bus_278 {w : jw_T} (hw : jok w) : jfl w "BusCrossbar" 278 T_Monitor 5 := Or.inr ⟨"BusCrossbar", tb2 hw (i := 75) (by decide +kernel)⟩
theorem fl_Monitor_35 {w : jw_T} (hw : jok w) : jfl w "BusCrossbar$Monitor" 35 T_Monitor 6 := Or.inl (tb2 hw (i := 76) (by decide +kernel))
theorem fl_Monitor_39 {w : jw_T} (hw : jok w) : jfl w "BusCrossbar$Monitor" 39 T_Monitor 7 := Or.inl (tb2 hw (i := 77) (by decide +kernel))
theorem fl_Monitor_48 {w : jw_T} (hw : jok w) : jfl w "BusCrossbar$Monitor" 48 T_Monitor 8 := Or.inl (tb2 hw (i := 78) (by decide +kernel))
theorem fl_Bus_281 {w : jw_T} (hw : jok w) : jfl w "BusCrossbar" 281 T_Monitor 8 := Or.inr ⟨"BusCrossbar", tb2 hw (i := 79) (by decide +kernel)⟩
theorem fl_Port_9 {w : jw_T} (hw : jok w) : jfl w "BusCrossbar$Port" 9 T_Port 0 := Or.inl (tb2 hw (i := 99) (by decide +kernel))
theorem fl_Monitor_90 {w : jw_T} (hw : jok w) : jfl w "BusCrossbar$Monitor" 90 T_Port 0 := Or.inr ⟨"BusCrossbar", tb2 hw (i := 100) (by decide +kernel)⟩
theorem fl_Bus_218 {w : jw_T} (hw : jok w) : jfl w "BusCrossbar" 218 T_Port 0 := Or.inr ⟨"BusCrossbar", tb2 hw (i := 101) (by decide +kernel)⟩
theorem fl_Port_15 {w : jw_T} (hw : jok w) : jfl w "BusCrossbar$Port" 15 T_Port 1 := Or.inl (tb2 hw (i := 102) (by decide +kernel))
theorem fl_Slave_63 {w : jw_T} (hw : jok w) : jfl w "BusCrossbar$Slave" 63 T_Port 1 := Or.inr ⟨"BusCrossbar", tb2 hw (i := 103) (by decide +kernel)⟩
theorem fl_Monitor_93 {w : jw_T} (hw : jok w) : jfl w "BusCrossbar$Monitor" 93 T_Port 1 := Or.inr ⟨"BusCrossbar", tb2 hw (i := 104) (by decide +kernel)⟩
theorem fl_Master_73 {w : jw_T} (hw : jok w) : jfl w "BusCrossbar$Master" 73 T_Port 1 := Or.inr ⟨"BusCrossbar", tb2 hw (i := 105) (by decide +kernel)⟩
theorem fl_Switch_122 {w : jw_T} (hw : jok w) : jfl w "BusCrossbar$Switch" 122 T_Port 1 := Or.inr ⟨"BusCrossbar", tb2 hw (i := 106) (by decide +kernel)⟩
theorem fl_Bus_222 {w : jw_T} (hw : jok w) : jfl w "BusCrossbar" 222 T_Port 1 := Or.inr ⟨"BusCrossbar", tb2 hw (i := 107) (by decide +kernel)⟩
theorem fl_Port_18 {w : jw_T} (hw : jok w) : jfl w "BusCrossbar$Port" 18 T_Port 2 := Or.inl (tb2 hw (i := 108) (by decide +kernel))
theorem fl_Slave_81 {w : jw_T} (hw : jok w) : jfl w "BusCrossbar$Slave" 81 T_Port 2 := Or.inr ⟨"BusCrossbar", tb2 hw (i := 109) (by decide +kernel)⟩
theorem fl_Master_83 {w : jw_T} (hw : jok w) : jfl w "BusCrossbar$Master" 83 T_Port 2 := Or.inr ⟨"BusCrossbar", tb2 hw (i := 110) (by decide +kernel)⟩
theorem fl_Port_21 {w : jw_T} (hw : jok w) : jfl w "BusCrossbar$Port" 21 T_Port 3 := Or.inl (tb2 hw (i := 111) (by decide +kernel))
theorem fl_Monitor_69 {w : jw_T} (hw : jok w) : jfl w "BusCrossbar$Monitor" 69 T_Port 3 := Or.inr ⟨"BusCrossbar", tb2 hw (i := 112) (by decide +kernel)⟩
theorem fl_Slave_155 {w : jw_T} (hw : jok w) : jfl w "BusCrossbar$Slave" 155 T_Port 3 := Or.inr ⟨"BusCrossbar", tb2 hw (i := 113) (by decide +kernel)⟩
theorem fl_Switch_150 {w : jw_T} (hw : jok w) : jfl w "BusCrossbar$Switch" 150 T_Port 3 := Or.inr ⟨"BusCrossbar", tb2 hw (i := 114) (by decide +kernel)⟩
theorem fl_Master_157 {w : jw_T} (hw : jok w) : jfl w "BusCrossbar$Master" 157 T_Port 3 := Or.inr ⟨"BusCrossbar", tb2 hw (i := 115) (by decide +kernel)⟩
theorem fl_Bus_228 {w : jw_T} (hw : jok w) : jfl w "BusCrossbar" 228 T_Port 3 := Or.inr ⟨"BusCrossbar", tb2 hw (i := 116) (by decide +kernel)⟩
theorem fl_Port_25 {w : jw_T} (hw : jok w) : jfl w "BusCrossbar$Port" 25 T_Port 4 := Or.inl (tb2 hw (i := 117) (by decide +kernel))
theorem fl_Monitor_80 {w : jw_T} (hw : jok w) : jfl w "BusCrossbar$Monitor" 80 T_Port 4 := Or.inr ⟨"BusCrossbar", tb2 hw (i := 118) (by decide +kernel)⟩
theorem fl_Master_121 {w : jw_T} (hw : jok w) : jfl w "BusCrossbar$Master" 121 T_Port 4 := Or.inr ⟨"BusCrossbar", tb2 hw (i := 119) (by decide +kernel)⟩
theorem fl_Slave_183 {w : jw_T} (hw : jok w) : jfl w "BusCrossbar$Slave" 183 T_Port 4 := Or.inr ⟨"BusCrossbar", tb2 hw (i := 120) (by decide +kernel)⟩
theorem fl_Switch_154 {w : jw_T} (hw : jok w) : jfl w "BusCrossbar$Switch" 154 T_Port 4 := Or.inr ⟨"BusCrossbar", tb2 hw (i := 121) (by decide +kernel)⟩
theorem fl_Bus_225 {w : jw_T} (hw : jok w) : jfl w "BusCrossbar" 225 T_Port 4 := Or.inr ⟨"BusCrossbar", tb2 hw (i := 122) (by decide +kernel)⟩
theorem fl_Port_29 {w : jw_T} (hw : jok w) : jfl w "BusCrossbar$Port" 29 T_Port 5 := Or.inl (tb2 hw (i := 123) (by decide +kernel))
theorem fl_Bus_231 {w : jw_T} (hw : jok w) : jfl w "BusCrossbar" 231 T_Port 5 := Or.inr ⟨"BusCrossbar", tb2 hw (i := 124) (by decide +kernel)⟩
theorem fl_Port_35 {w : jw_T} (hw : jok w) : jfl w "BusCrossbar$Port" 35 T_Port 6 := Or.inl (tb2 hw (i := 125) (by decide +kernel))
theorem fl_Bus_234 {w : jw_T} (hw : jok w) : jfl w "BusCrossbar" 234 T_Port 6 := Or.inr ⟨"BusCrossbar", tb2 hw (i := 126) (by decide +kernel)⟩
theorem fl_Slave_43 {w : jw_T} (hw : jok w) : jfl w "BusCrossbar$Slave" 43 T_Slave 0 := Or.inl (tb2 hw (i := 153) (by decide +kernel))
theorem fl_Slave_9 {w : jw_T} (hw : jok w) : jfl w "BusCrossbar$Slave" 9 T_Slave 1 := Or.inl (tb2 hw (i := 154) (by decide +kernel))
theorem fl_Bus_105 {w : jw_T} (hw : jok w) : jfl w "BusCrossbar" 105 T_Slave 1 := Or.inr ⟨"BusCrossbar", tb2 hw (i := 155) (by decide +kernel)⟩
theorem fl_Slave_20 {w : jw_T} (hw : jok w) : jfl w "BusCrossbar$Slave" 20 T_Slave 2 := Or.inl (tb2 hw (i := 156) (by decide +kernel))
theorem fl_Bus_246 {w : jw_T} (hw : jok w) : jfl w "BusCrossbar" 246 T_Slave 2 := Or.inr ⟨"BusCrossbar", tb2 hw (i := 157) (by decide +kernel)⟩
theorem fl_Slave_24 {w : jw_T} (hw : jok w) : jfl w "BusCrossbar$Slave" 24 T_Slave 3 := Or.inl (tb2 hw (i := 158) (by decide +kernel))
theorem fl_Bus_255 {w : jw_T} (hw : jok w) : jfl w "BusCrossbar" 255 T_Slave 3 := Or.inr ⟨"BusCrossbar", tb2 hw (i := 159) (by decide +kernel)⟩
theorem fl_Slave_27 {w : jw_T} (hw : jok w) : jfl w "BusCrossbar$Slave" 27 T_Slave 4 := Or.inl (tb2 hw (i := 160) (by decide +kernel))
theorem fl_Bus_258 {w : jw_T} (hw : jok w) : jfl w "BusCrossbar" 258 T_Slave 4 := Or.inr ⟨"BusCrossbar", tb2 hw (i := 161) (by decide +kernel)⟩
theorem fl_Slave_30 {w : jw_T} (hw : jok w) : jfl w "BusCrossbar$Slave" 30 T_Slave 5 := Or.inl (tb2 hw (i := 162) (by decide +kernel))
theorem fl_Slave_57 {w : jw_T} (hw : jok w) : jfl w "BusCrossbar$Slave" 57 T_Slave 6 := Or.inl (tb2 hw (i := 163) (by decide +kernel))
theorem fl_Bus_109 {w : jw_T} (hw : jok w) : jfl w "BusCrossbar" 109 T_Slave 6 := Or.inr ⟨"BusCrossbar", tb2 hw (i := 164) (by decide +kernel)⟩
theorem fl_Slave_60 {w : jw_T} (hw : jok w) : jfl w "BusCrossbar$Slave" 60 T_Slave 7 := Or.inl (tb2 hw (i := 165) (by decide +kernel))
theorem fl_Bus_106 {w : jw_T} (hw : jok w) : jfl w "BusCrossbar" 106 T_Slave 7 := Or.inr ⟨"BusCrossbar", tb2 hw (i := 166) (by decide +kernel)⟩
theorem fl_Slave_33 {w : jw_T} (hw : jok w) : jfl w "BusCrossbar$Slave" 33 T_Slave 8 := Or.inl (tb2 hw (i := 167) (by decide +kernel))
theorem fl_Slave_37 {w : jw_T} (hw : jok w) : jfl w "BusCrossbar$Slave" 37 T_Slave 9 := Or.inl (tb2 hw (i := 168) (by decide +kernel))
theorem fl_Slave_40 {w : jw_T} (hw : jok w) : jfl w "BusCrossbar$Slave" 40 T_Slave 10 := Or.inl (tb2 hw (i := 169) (by decide +kernel))
theorem fl_Request_12 {w : jw_T} (hw : jok w) : jfl w "BusCrossbar$Request" 12 T_Request 0 := Or.inl (tb2 hw (i := 201) (by decide +kernel))
theorem fl_Master_86 {w : jw_T} (hw : jok w) : jfl w "BusCrossbar$Master" 86 T_Request 0 := Or.inr ⟨"BusCrossbar", tb2 hw (i := 202) (by decide +kernel)⟩
theorem fl_Bus_166 {w : jw_T} (hw : jok w) : jfl w "BusCrossbar" 166 T_Request 0 := Or.inr ⟨"BusCrossbar", tb2 hw (i := 203) (by decide +kernel)⟩
theorem fl_Request_22 {w : jw_T} (hw : jok w) : jfl w "BusCrossbar$Request" 22 T_Request 1 := Or.inl (tb2 hw (i := 204) (by decide +kernel))
theorem fl_Master_54 {w : jw_T} (hw : jok w) : jfl w "BusCrossbar$Master" 54 T_Request 1 := Or.inr ⟨"BusCrossbar", tb2 hw (i := 205) (by decide +kernel)⟩
theorem fl_Request_26 {w : jw_T} (hw : jok w) : jfl w "BusCrossbar$Request" 26 T_Request 2 := Or.inl (tb2 hw (i := 206) (by decide +kernel))
theorem fl_Bus_188 {w : jw_T} (hw : jok w) : jfl w "BusCrossbar" 188 T_Request 2 := Or.inr ⟨"BusCrossbar", tb2 hw (i := 207) (by decide +kernel)⟩
theorem fl_Request_30 {w : jw_T} (hw : jok w) : jfl w "BusCrossbar$Request" 30 T_Request 3 := Or.inl (tb2 hw (i := 208) (by decide +kernel))
theorem fl_Master_100 {w : jw_T} (hw : jok w) : jfl w "BusCrossbar$Master" 100 T_Request 3 := Or.inr ⟨"BusCrossbar", tb2 hw (i := 209) (by decide +kernel)⟩
theorem fl_Bus_191 {w : jw_T} (hw : jok w) : jfl w "BusCrossbar" 191 T_Request 3 := Or.inr ⟨"BusCrossbar", tb2 hw (i := 210) (by decide +kernel)⟩
theorem fl_Request_33 {w : jw_T} (hw : jok w) : jfl w "BusCrossbar$Request" 33 T_Request 4 := Or.inl (tb2 hw (i := 211) (by decide +kernel))
theorem fl_Master_141 {w : jw_T} (hw : jok w) : jfl w "BusCrossbar$Master" 141 T_Request 4 := Or.inr ⟨"BusCrossbar", tb2 hw (i := 212) (by decide +kernel)⟩
theorem fl_Bus_194 {w : jw_T} (hw : jok w) : jfl w "BusCrossbar" 194 T_Request 4 := Or.inr ⟨"BusCrossbar", tb2 hw (i := 213) (by decide +kernel)⟩
theorem fl_Request_36 {w : jw_T} (hw : jok w) : jfl w "BusCrossbar$Request" 36 T_Request 5 := Or.inl (tb2 hw (i := 214) (by decide +kernel))
theorem fl_Master_150 {w : jw_T} (hw : jok w) : jfl w "BusCrossbar$Master" 150 T_Request 5 := Or.inr ⟨"BusCrossbar", tb2 hw (i := 215) (by decide +kernel)⟩
theorem fl_Bus_185 {w : jw_T} (hw : jok w) : jfl w "BusCrossbar" 185 T_Request 5 := Or.inr ⟨"BusCrossbar", tb2 hw (i := 216) (by decide +kernel)⟩
theorem fl_Bus_16 {w : jw_T} (hw : jok w) : jfl w "BusCrossbar" 16 T_Bus 0 := Or.inl (tb2 hw (i := 230) (by decide +kernel))
theorem fl_Bus_25 {w : jw_T} (hw : jok w) : jfl w "BusCrossbar" 25 T_Bus 1 := Or.inl (tb2 hw (i := 231) (by decide +kernel))
theorem fl_Bus_31 {w : jw_T} (hw : jok w) : jfl w "BusCrossbar" 31 T_Bus 2 := Or.inl (tb2 hw (i := 232) (by decide +kernel))
theorem fl_Bus_45 {w : jw_T} (hw : jok w) : jfl w "BusCrossbar" 45 T_Bus 3 := Or.inl (tb2 hw (i := 233) (by decide +kernel))
theorem fl_Bus_37 {w : jw_T} (hw : jok w) : jfl w "BusCrossbar" 37 T_Bus 4 := Or.inl (tb2 hw (i := 234) (by decide +kernel))
theorem fl_Bus_49 {w : jw_T} (hw : jok w) : jfl w "BusCrossbar" 49 T_Bus 5 := Or.inl (tb2 hw (i := 235) (by decide +kernel))
theorem fl_Bus_55 {w : jw_T} (hw : jok w) : jfl w "BusCrossbar" 55 T_Bus 6 := Or.inl (tb2 hw (i := 236) (by decide +kernel))
theorem fl_Bus_60 {w : jw_T} (hw : jok w) : jfl w "BusCrossbar" 60 T_Bus 7 := Or.inl (tb2 hw (i := 237) (by decide +kernel))
theorem fl_Bus_147 {w : jw_T} (hw : jok w) : jfl w "BusCrossbar" 147 T_Bus 8 := Or.inl (tb2 hw (i := 238) (by decide +kernel))
theorem fl_Bus_159 {w : jw_T} (hw : jok w) : jfl w "BusCrossbar" 159 T_Bus 9 := Or.inl (tb2 hw (i := 239) (by decide +kernel))
theorem fl_Ref_303 {w : jw_T} (hw : jok w) : jfl w "BusCrossbarModel" 303 T_Ref 0 := Or.inl (tb7 hw (i := 4) (by decide +kernel))
theorem fl_Ref_290 {w : jw_T} (hw : jok w) : jfl w "BusCrossbarModel" 290 T_Ref 1 := Or.inl (tb7 hw (i := 5) (by decide +kernel))
theorem fl_Ref_294 {w : jw_T} (hw : jok w) : jfl w "BusCrossbarModel" 294 T_Ref 2 := Or.inl (tb7 hw (i := 6) (by decide +kernel))
theorem fl_Ref_297 {w : jw_T} (hw : jok w) : jfl w "BusCrossbarModel" 297 T_Ref 3 := Or.inl (tb7 hw (i := 7) (by decide +kernel))
theorem fl_Ref_532 {w : jw_T} (hw : jok w) : jfl w "BusCrossbarModel" 532 T_Ref 4 := Or.inl (tb7 hw (i := 8) (by decide +kernel))
theorem fl_Ref_559 {w : jw_T} (hw : jok w) : jfl w "BusCrossbarModel" 559 T_Ref 5 := Or.inl (tb7 hw (i := 9) (by decide +kernel))
theorem fl_Ref_348 {w : jw_T} (hw : jok w) : jfl w "BusCrossbarModel" 348 T_Ref 6 := Or.inl (tb7 hw (i := 10) (by decide +kernel))
theorem fl_Ref_7 {w : jw_T} (hw : jok w) : jfl w "BusCrossbarModel" 7 T_Ref 7 := Or.inl (tb7 hw (i := 11) (by decide +kernel))
theorem fl_Ref_13 {w : jw_T} (hw : jok w) : jfl w "BusCrossbarModel" 13 T_Ref 8 := Or.inl (tb7 hw (i := 12) (by decide +kernel))
theorem fl_Ref_16 {w : jw_T} (hw : jok w) : jfl w "BusCrossbarModel" 16 T_Ref 9 := Or.inl (tb7 hw (i := 13) (by decide +kernel))
theorem fl_Ref_19 {w : jw_T} (hw : jok w) : jfl w "BusCrossbarModel" 19 T_Ref 10 := Or.inl (tb7 hw (i := 14) (by decide +kernel))
theorem fl_Ref_23 {w : jw_T} (hw : jok w) : jfl w "BusCrossbarModel" 23 T_Ref 11 := Or.inl (tb7 hw (i := 15) (by decide +kernel))
theorem fl_Ref_26 {w : jw_T} (hw : jok w) : jfl w "BusCrossbarModel" 26 T_Ref 12 := Or.inl (tb7 hw (i := 16) (by decide +kernel))
theorem fl_Ref_30 {w : jw_T} (hw : jok w) : jfl w "BusCrossbarModel" 30 T_Ref 13 := Or.inl (tb7 hw (i := 17) (by decide +kernel))
theorem fl_Ref_33 {w : jw_T} (hw : jok w) : jfl w "BusCrossbarModel" 33 T_Ref 14 := Or.inl (tb7 hw (i := 18) (by decide +kernel))
theorem fl_Ref_337 {w : jw_T} (hw : jok w) : jfl w "BusCrossbarModel" 337 T_Ref 15 := Or.inl (tb7 hw (i := 19) (by decide +kernel))
theorem fl_Ref_36 {w : jw_T} (hw : jok w) : jfl w "BusCrossbarModel" 36 T_Ref 16 := Or.inl (tb7 hw (i := 20) (by decide +kernel))
theorem fl_Ref_39 {w : jw_T} (hw : jok w) : jfl w "BusCrossbarModel" 39 T_Ref 17 := Or.inl (tb7 hw (i := 21) (by decide +kernel))
theorem fl_Ref_42 {w : jw_T} (hw : jok w) : jfl w "BusCrossbarModel" 42 T_Ref 18 := Or.inl (tb7 hw (i := 22) (by decide +kernel))
theorem fl_Ref_45 {w : jw_T} (hw : jok w) : jfl w "BusCrossbarModel" 45 T_Ref 19 := Or.inl (tb7 hw (i := 23) (by decide +kernel))
theorem fl_Ref_48 {w : jw_T} (hw : jok w) : jfl w "BusCrossbarModel" 48 T_Ref 20 := Or.inl (tb7 hw (i := 24) (by decide +kernel))
theorem fl_Ref_51 {w : jw_T} (hw : jok w) : jfl w "BusCrossbarModel" 51 T_Ref 21 := Or.inl (tb7 hw (i := 25) (by decide +kernel))
theorem fl_Ref_54 {w : jw_T} (hw : jok w) : jfl w "BusCrossbarModel" 54 T_Ref 22 := Or.inl (tb7 hw (i := 26) (by decide +kernel))
theorem fl_Ref_57 {w : jw_T} (hw : jok w) : jfl w "BusCrossbarModel" 57 T_Ref 23 := Or.inl (tb7 hw (i := 27) (by decide +kernel))
theorem fl_Ref_60 {w : jw_T} (hw : jok w) : jfl w "BusCrossbarModel" 60 T_Ref 24 := Or.inl (tb7 hw (i := 28) (by decide +kernel))
theorem fl_Ref_63 {w : jw_T} (hw : jok w) : jfl w "BusCrossbarModel" 63 T_Ref 25 := Or.inl (tb7 hw (i := 29) (by decide +kernel))
theorem fl_Ref_66 {w : jw_T} (hw : jok w) : jfl w "BusCrossbarModel" 66 T_Ref 26 := Or.inl (tb7 hw (i := 30) (by decide +kernel))
theorem fl_Ref_70 {w : jw_T} (hw : jok w) : jfl w "BusCrossbarModel" 70 T_Ref 27 := Or.inl (tb7 hw (i := 31) (by decide +kernel))
theorem fl_Ref_73 {w : jw_T} (hw : jok w) : jfl w "BusCrossbarModel" 73 T_Ref 28 := Or.inl (tb7 hw (i := 32) (by decide +kernel))
theorem fl_Ref_76 {w : jw_T} (hw : jok w) : jfl w "BusCrossbarModel" 76 T_Ref 29 := Or.inl (tb7 hw (i := 33) (by decide +kernel))
theorem fl_Ref_79 {w : jw_T} (hw : jok w) : jfl w "BusCrossbarModel" 79 T_Ref 30 := Or.inl (tb7 hw (i := 34) (by decide +kernel))
theorem fl_Ref_82 {w : jw_T} (hw : jok w) : jfl w "BusCrossbarModel" 82 T_Ref 31 := Or.inl (tb7 hw (i := 35) (by decide +kernel))
theorem fl_Ref_85 {w : jw_T} (hw : jok w) : jfl w "BusCrossbarModel" 85 T_Ref 32 := Or.inl (tb7 hw (i := 36) (by decide +kernel))
theorem fl_Ref_88 {w : jw_T} (hw : jok w) : jfl w "BusCrossbarModel" 88 T_Ref 33 := Or.inl (tb7 hw (i := 37) (by decide +kernel))
theorem fl_Ref_91 {w : jw_T} (hw : jok w) : jfl w "BusCrossbarModel" 91 T_Ref 34 := Or.inl (tb7 hw (i := 38) (by decide +kernel))
theorem fl_Ref_94 {w : jw_T} (hw : jok w) : jfl w "BusCrossbarModel" 94 T_Ref 35 := Or.inl (tb7 hw (i := 39) (by decide +kernel))
theorem fl_Ref_97 {w : jw_T} (hw : jok w) : jfl w "BusCrossbarModel" 97 T_Ref 36 := Or.inl (tb7 hw (i := 40) (by decide +kernel))
theorem fl_Ref_100 {w : jw_T} (hw : jok w) : jfl w "BusCrossbarModel" 100 T_Ref 37 := Or.inl (tb7 hw (i := 41) (by decide +kernel))
theorem fl_Ref_103 {w : jw_T} (hw : jok w) : jfl w "BusCrossbarModel" 103 T_Ref 38 := Or.inl (tb7 hw (i := 42) (by decide +kernel))
theorem fl_Ref_106 {w : jw_T} (hw : jok w) : jfl w "BusCrossbarModel" 106 T_Ref 39 := Or.inl (tb7 hw (i := 43) (by decide +kernel))
theorem fl_Ref_109 {w : jw_T} (hw : jok w) : jfl w "BusCrossbarModel" 109 T_Ref 40 := Or.inl (tb7 hw (i := 44) (by decide +kernel))
theorem fl_Ref_112 {w : jw_T} (hw : jok w) : jfl w "BusCrossbarModel" 112 T_Ref 41 := Or.inl (tb7 hw (i := 45) (by decide +kernel))
theorem fl_Ref_115 {w : jw_T} (hw : jok w) : jfl w "BusCrossbarModel" 115 T_Ref 42 := Or.inl (tb7 hw (i := 46) (by decide +kernel))
theorem fl_Ref_118 {w : jw_T} (hw : jok w) : jfl w "BusCrossbarModel" 118 T_Ref 43 := Or.inl (tb7 hw (i := 47) (by decide +kernel))
theorem fl_Ref_121 {w : jw_T} (hw : jok w) : jfl w "BusCrossbarModel" 121 T_Ref 44 := Or.inl (tb7 hw (i := 48) (by decide +kernel))
theorem fl_Ref_124 {w : jw_T} (hw : jok w) : jfl w "BusCrossbarModel" 124 T_Ref 45 := Or.inl (tb7 hw (i := 49) (by decide +kernel))
theorem fl_Ref_127 {w : jw_T} (hw : jok w) : jfl w "BusCrossbarModel" 127 T_Ref 46 := Or.inl (tb7 hw (i := 50) (by decide +kernel))
theorem fl_Ref_526 {w : jw_T} (hw : jok w) : jfl w "BusCrossbarModel" 526 T_Ref 47 := Or.inl (tb7 hw (i := 51) (by decide +kernel))
theorem fl_Ref_130 {w : jw_T} (hw : jok w) : jfl w "BusCrossbarModel" 130 T_Ref 48 := Or.inl (tb7 hw (i := 52) (by decide +kernel))
theorem fl_Ref_133 {w : jw_T} (hw : jok w) : jfl w "BusCrossbarModel" 133 T_Ref 49 := Or.inl (tb7 hw (i := 53) (by decide +kernel))
theorem fl_Ref_136 {w : jw_T} (hw : jok w) : jfl w "BusCrossbarModel" 136 T_Ref 50 := Or.inl (tb7 hw (i := 54) (by decide +kernel))
theorem fl_Ref_529 {w : jw_T} (hw : jok w) : jfl w "BusCrossbarModel" 529 T_Ref 51 := Or.inl (tb7 hw (i := 55) (by decide +kernel))
theorem fl_Ref_139 {w : jw_T} (hw : jok w) : jfl w "BusCrossbarModel" 139 T_Ref 52 := Or.inl (tb7 hw (i := 56) (by decide +kernel))
theorem fl_Ref_142 {w : jw_T} (hw : jok w) : jfl w "BusCrossbarModel" 142 T_Ref 53 := Or.inl (tb7 hw (i := 57) (by decide +kernel))
theorem fl_Ref_145 {w : jw_T} (hw : jok w) : jfl w "BusCrossbarModel" 145 T_Ref 54 := Or.inl (tb7 hw (i := 58) (by decide +kernel))
theorem fl_Ref_148 {w : jw_T} (hw : jok w) : jfl w "BusCrossbarModel" 148 T_Ref 55 := Or.inl (tb7 hw (i := 59) (by decide +kernel))
theorem fl_Ref_151 {w : jw_T} (hw : jok w) : jfl w "BusCrossbarModel" 151 T_Ref 56 := Or.inl (tb7 hw (i := 60) (by decide +kernel))
theorem fl_Ref_553 {w : jw_T} (hw : jok w) : jfl w "BusCrossbarModel" 553 T_Ref 57 := Or.inl (tb7 hw (i := 61) (by decide +kernel))
theorem fl_Ref_154 {w : jw_T} (hw : jok w) : jfl w "BusCrossbarModel" 154 T_Ref 58 := Or.inl (tb7 hw (i := 62) (by decide +kernel))
theorem fl_Ref_157 {w : jw_T} (hw : jok w) : jfl w "BusCrossbarModel" 157 T_Ref 59 := Or.inl (tb7 hw (i := 63) (by decide +kernel))
theorem fl_Ref_160 {w : jw_T} (hw : jok w) : jfl w "BusCrossbarModel" 160 T_Ref 60 := Or.inl (tb7 hw (i := 64) (by decide +kernel))
theorem fl_Ref_163 {w : jw_T} (hw : jok w) : jfl w "BusCrossbarModel" 163 T_Ref 61 := Or.inl (tb7 hw (i := 65) (by decide +kernel))
theorem fl_Ref_166 {w : jw_T} (hw : jok w) : jfl w "BusCrossbarModel" 166 T_Ref 62 := Or.inl (tb7 hw (i := 66) (by decide +kernel))
theorem fl_Ref_169 {w : jw_T} (hw : jok w) : jfl w "BusCrossbarModel" 169 T_Ref 63 := Or.inl (tb7 hw (i := 67) (by decide +kernel))
theorem fl_Ref_172 {w : jw_T} (hw : jok w) : jfl w "BusCrossbarModel" 172 T_Ref 64 := Or.inl (tb7 hw (i := 68) (by decide +kernel))
theorem fl_Ref_175 {w : jw_T} (hw : jok w) : jfl w "BusCrossbarModel" 175 T_Ref 65 := Or.inl (tb7 hw (i := 69) (by decide +kernel))
theorem fl_Ref_178 {w : jw_T} (hw : jok w) : jfl w "BusCrossbarModel" 178 T_Ref 66 := Or.inl (tb7 hw (i := 70) (by decide +kernel))
theorem fl_Ref_181 {w : jw_T} (hw : jok w) : jfl w "BusCrossbarModel" 181 T_Ref 67 := Or.inl (tb7 hw (i := 71) (by decide +kernel))
theorem fl_Ref_184 {w : jw_T} (hw : jok w) : jfl w "BusCrossbarModel" 184 T_Ref 68 := Or.inl (tb7 hw (i := 72) (by decide +kernel))
theorem fl_Ref_187 {w : jw_T} (hw : jok w) : jfl w "BusCrossbarModel" 187 T_Ref 69 := Or.inl (tb7 hw (i := 73) (by decide +kernel))
theorem fl_Ref_190 {w : jw_T} (hw : jok w) : jfl w "BusCrossbarModel" 190 T_Ref 70 := Or.inl (tb7 hw (i := 74) (by decide +kernel))
theorem fl_Ref_193 {w : jw_T} (hw : jok w) : jfl w "BusCrossbarModel" 193 T_Ref 71 := Or.inl (tb7 hw (i := 75) (by decide +kernel))
theorem fl_Ref_196 {w : jw_T} (hw : jok w) : jfl w "BusCrossbarModel" 196 T_Ref 72 := Or.inl (tb7 hw (i := 76) (by decide +kernel))
theorem fl_Ref_199 {w : jw_T} (hw : jok w) : jfl w "BusCrossbarModel" 199 T_Ref 73 := Or.inl (tb7 hw (i := 77) (by decide +kernel))
theorem fl_Ref_202 {w : jw_T} (hw : jok w) : jfl w "BusCrossbarModel" 202 T_Ref 74 := Or.inl (tb7 hw (i := 78) (by decide +kernel))
theorem fl_Ref_205 {w : jw_T} (hw : jok w) : jfl w "BusCrossbarModel" 205 T_Ref 75 := Or.inl (tb7 hw (i := 79) (by decide +kernel))
theorem fl_Ref_208 {w : jw_T} (hw : jok w) : jfl w "BusCrossbarModel" 208 T_Ref 76 := Or.inl (tb7 hw (i := 80) (by decide +kernel))
theorem fl_Ref_211 {w : jw_T} (hw : jok w) : jfl w "BusCrossbarModel" 211 T_Ref 77 := Or.inl (tb7 hw (i := 81) (by decide +kernel))
theorem fl_Ref_214 {w : jw_T} (hw : jok w) : jfl w "BusCrossbarModel" 214 T_Ref 78 := Or.inl (tb7 hw (i := 82) (by decide +kernel))
theorem fl_Ref_217 {w : jw_T} (hw : jok w) : jfl w "BusCrossbarModel" 217 T_Ref 79 := Or.inl (tb7 hw (i := 83) (by decide +kernel))
theorem fl_Ref_220 {w : jw_T} (hw : jok w) : jfl w "BusCrossbarModel" 220 T_Ref 80 := Or.inl (tb7 hw (i := 84) (by decide +kernel))
theorem fl_Ref_223 {w : jw_T} (hw : jok w) : jfl w "BusCrossbarModel" 223 T_Ref 81 := Or.inl (tb7 hw (i := 85) (by decide +kernel))
theorem fl_Ref_226 {w : jw_T} (hw : jok w) : jfl w "BusCrossbarModel" 226 T_Ref 82 := Or.inl (tb7 hw (i := 86) (by decide +kernel))
theorem fl_Ref_229 {w : jw_T} (hw : jok w) : jfl w "BusCrossbarModel" 229 T_Ref 83 := Or.inl (tb7 hw (i := 87) (by decide +kernel))
theorem fl_Ref_232 {w : jw_T} (hw : jok w) : jfl w "BusCrossbarModel" 232 T_Ref 84 := Or.inl (tb7 hw (i := 88) (by decide +kernel))
theorem fl_Ref_235 {w : jw_T} (hw : jok w) : jfl w "BusCrossbarModel" 235 T_Ref 85 := Or.inl (tb7 hw (i := 89) (by decide +kernel))
theorem fl_Ref_238 {w : jw_T} (hw : jok w) : jfl w "BusCrossbarModel" 238 T_Ref 86 := Or.inl (tb7 hw (i := 90) (by decide +kernel))
theorem fl_Ref_241 {w : jw_T} (hw : jok w) : jfl w "BusCrossbarModel" 241 T_Ref 87 := Or.inl (tb7 hw (i := 91) (by decide +kernel))
theorem fl_Ref_244 {w : jw_T} (hw : jok w) : jfl w "BusCrossbarModel" 244 T_Ref 88 := Or.inl (tb7 hw (i := 92) (by decide +kernel))
theorem fl_Ref_247 {w : jw_T} (hw : jok w) : jfl w "BusCrossbarModel" 247 T_Ref 89 := Or.inl (tb7 hw (i := 93) (by decide +kernel))
theorem fl_Ref_250 {w : jw_T} (hw : jok w) : jfl w "BusCrossbarModel" 250 T_Ref 90 := Or.inl (tb7 hw (i := 94) (by decide +kernel))
theorem fl_Ref_253 {w : jw_T} (hw : jok w) : jfl w "BusCrossbarModel" 253 T_Ref 91 := Or.inl (tb7 hw (i := 95) (by decide +kernel))
theorem fl_Ref_256 {w : jw_T} (hw : jok w) : jfl w "BusCrossbarModel" 256 T_Ref 92 := Or.inl (tb7 hw (i := 96) (by decide +kernel))
theorem fl_Ref_259 {w : jw_T} (hw : jok w) : jfl w "BusCrossbarModel" 259 T_Ref 93 := Or.inl (tb7 hw (i := 97) (by decide +kernel))
theorem fl_Ref_262 {w : jw_T} (hw : jok w) : jfl w "BusCrossbarModel" 262 T_Ref 94 := Or.inl (tb7 hw (i := 98) (by decide +kernel))
theorem fl_Ref_265 {w : jw_T} (hw : jok w) : jfl w "BusCrossbarModel" 265 T_Ref 95 := Or.inl (tb7 hw (i := 99) (by decide +kernel))
theorem fl_Ref_268 {w : jw_T} (hw : jok w) : jfl w "BusCrossbarModel" 268 T_Ref 96 := Or.inl (tb7 hw (i := 100) (by decide +kernel))
theorem fl_Ref_271 {w : jw_T} (hw : jok w) : jfl w "BusCrossbarModel" 271 T_Ref 97 := Or.inl (tb7 hw (i := 101) (by decide +kernel))
theorem fl_Ref_274 {w : jw_T} (hw : jok w) : jfl w "BusCrossbarModel" 274 T_Ref 98 := Or.inl (tb7 hw (i := 102) (by decide +kernel))
theorem fl_Ref_277 {w : jw_T} (hw : jok w) : jfl w "BusCrossbarModel" 277 T_Ref 99 := Or.inl (tb7 hw (i := 103) (by decide +kernel))
theorem fl_Ref_280 {w : jw_T} (hw : jok w) : jfl w "BusCrossbarModel" 280 T_Ref 100 := Or.inl (tb7 hw (i := 104) (by decide +kernel))
theorem fl_Ref_283 {w : jw_T} (hw : jok w) : jfl w "BusCrossbarModel" 283 T_Ref 101 := Or.inl (tb7 hw (i := 105) (by decide +kernel))
theorem kn_Master_24 {w : jw_T} (hw : jok w) : Cond.constant "BusCrossbar$Master" 24 65535 ∈ jw_Ts w := tb1 hw (i := 189) (by decide +kernel)
theorem kn_Slave_47 {w : jw_T} (hw : jok w) : Cond.constant "BusCrossbar$Slave" 47 65535 ∈ jw_Ts w := tb2 hw (i := 151) (by decide +kernel)
theorem kn_Bus_343 {w : jw_T} (hw : jok w) : Cond.constant "BusCrossbar" 343 65535 ∈ jw_Ts w := tb3 hw (i := 210) (by decide +kernel)
theorem kn_Bus_112 {w : jw_T} (hw : jok w) : Cond.constant "BusCrossbar" 112 65536 ∈ jw_Ts w := tb3 hw (i := 239) (by decide +kernel)
theorem kn_Memory_32 {w : jw_T} (hw : jok w) : Cond.constantLong "BusCrossbar$Memory" 32 (-1) ∈ jw_Ts w := tb4 hw (i := 8) (by decide +kernel)
theorem kn_Long_314 {w : jw_T} (hw : jok w) : Cond.constantLong "java/lang/Long" 314 6148914691236517205 ∈ jw_Ts w := tb4 hw (i := 12) (by decide +kernel)
theorem kn_Long_316 {w : jw_T} (hw : jok w) : Cond.constantLong "java/lang/Long" 316 3689348814741910323 ∈ jw_Ts w := tb4 hw (i := 13) (by decide +kernel)
theorem kn_Long_318 {w : jw_T} (hw : jok w) : Cond.constantLong "java/lang/Long" 318 1085102592571150095 ∈ jw_Ts w := tb4 hw (i := 14) (by decide +kernel)
theorem kn_Bus_351 {w : jw_T} (hw : jok w) : Cond.constantLong "BusCrossbar" 351 255 ∈ jw_Ts w := tb4 hw (i := 36) (by decide +kernel)
theorem kn_Burst_40 {w : jw_T} (hw : jok w) : Cond.constantLong "BusCrossbar$Burst" 40 255 ∈ jw_Ts w := tb4 hw (i := 55) (by decide +kernel)
theorem kn_Burst_42 {w : jw_T} (hw : jok w) : Cond.constant "BusCrossbar$Burst" 42 65535 ∈ jw_Ts w := tb4 hw (i := 71) (by decide +kernel)
theorem kn_Integer_265 {w : jw_T} (hw : jok w) : Cond.constant "java/lang/Integer" 265 1431655765 ∈ jw_Ts w := tb4 hw (i := 87) (by decide +kernel)
theorem kn_Integer_266 {w : jw_T} (hw : jok w) : Cond.constant "java/lang/Integer" 266 858993459 ∈ jw_Ts w := tb4 hw (i := 88) (by decide +kernel)
theorem kn_Integer_267 {w : jw_T} (hw : jok w) : Cond.constant "java/lang/Integer" 267 252645135 ∈ jw_Ts w := tb4 hw (i := 89) (by decide +kernel)
theorem kn_Burst_79 {w : jw_T} (hw : jok w) : Cond.constantLong "BusCrossbar$Burst" 79 6364136223846793005 ∈ jw_Ts w := tb4 hw (i := 123) (by decide +kernel)
theorem kn_Burst_81 {w : jw_T} (hw : jok w) : Cond.constantLong "BusCrossbar$Burst" 81 1442695040888963407 ∈ jw_Ts w := tb4 hw (i := 124) (by decide +kernel)
theorem kn_Switch_197 {w : jw_T} (hw : jok w) : Cond.constantLong "BusCrossbar$Switch" 197 16 ∈ jw_Ts w := tb6 hw (i := 47) (by decide +kernel)
theorem kn_Ref_29 {w : jw_T} (hw : jok w) : Cond.constant "BusCrossbarModel" 29 65536 ∈ jw_Ts w := tb6 hw (i := 223) (by decide +kernel)
theorem kn_Ref_611 {w : jw_T} (hw : jok w) : Cond.constant "BusCrossbarModel" 611 65535 ∈ jw_Ts w := tb6 hw (i := 231) (by decide +kernel)
theorem kn_Ref_310 {w : jw_T} (hw : jok w) : Cond.constantLong "BusCrossbarModel" 310 15 ∈ jw_Ts w := tb8 hw (i := 79) (by decide +kernel)
theorem kn_Ref_603 {w : jw_T} (hw : jok w) : Cond.constantLong "BusCrossbarModel" 603 (-1) ∈ jw_Ts w := tb8 hw (i := 83) (by decide +kernel)
theorem kn_Ref_312 {w : jw_T} (hw : jok w) : Cond.constantLong "BusCrossbarModel" 312 3 ∈ jw_Ts w := tb8 hw (i := 92) (by decide +kernel)
theorem kn_Ref_609 {w : jw_T} (hw : jok w) : Cond.constantLong "BusCrossbarModel" 609 4 ∈ jw_Ts w := tb8 hw (i := 97) (by decide +kernel)
theorem kn_Ref_612 {w : jw_T} (hw : jok w) : Cond.constantLong "BusCrossbarModel" 612 2 ∈ jw_Ts w := tb8 hw (i := 110) (by decide +kernel)
theorem kn_Ref_308 {w : jw_T} (hw : jok w) : Cond.constantLong "BusCrossbarModel" 308 65535 ∈ jw_Ts w := tb8 hw (i := 115) (by decide +kernel)
theorem kn_Ref_327 {w : jw_T} (hw : jok w) : Cond.constantLong "BusCrossbarModel" 327 255 ∈ jw_Ts w := tb8 hw (i := 120) (by decide +kernel)
theorem kn_Ref_614 {w : jw_T} (hw : jok w) : Cond.constantLong "BusCrossbarModel" 614 32767 ∈ jw_Ts w := tb8 hw (i := 129) (by decide +kernel)
theorem kn_Ref_340 {w : jw_T} (hw : jok w) : Cond.constantLong "BusCrossbarModel" 340 64 ∈ jw_Ts w := tb8 hw (i := 130) (by decide +kernel)
theorem kn_Ref_616 {w : jw_T} (hw : jok w) : Cond.constantLong "BusCrossbarModel" 616 100 ∈ jw_Ts w := tb8 hw (i := 153) (by decide +kernel)
theorem kn_Ref_342 {w : jw_T} (hw : jok w) : Cond.constantLong "BusCrossbarModel" 342 1073741824 ∈ jw_Ts w := tb8 hw (i := 177) (by decide +kernel)
theorem kn_Ref_373 {w : jw_T} (hw : jok w) : Cond.constantLong "BusCrossbarModel" 373 6364136223846793005 ∈ jw_Ts w := tb8 hw (i := 192) (by decide +kernel)
theorem kn_Ref_375 {w : jw_T} (hw : jok w) : Cond.constantLong "BusCrossbarModel" 375 1442695040888963407 ∈ jw_Ts w := tb8 hw (i := 193) (by decide +kernel)
theorem kn_Ref_306 {w : jw_T} (hw : jok w) : Cond.constantLong "BusCrossbarModel" 306 63 ∈ jw_Ts w := tb8 hw (i := 227) (by decide +kernel)
theorem kn_Ref_551 {w : jw_T} (hw : jok w) : Cond.constantLong "BusCrossbarModel" 551 16 ∈ jw_Ts w := tb9 hw (i := 165) (by decide +kernel)
theorem kn_Ref_621 {w : jw_T} (hw : jok w) : Cond.constantLong "BusCrossbarModel" 621 1000 ∈ jw_Ts w := tb9 hw (i := 190) (by decide +kernel)
theorem kn_Ref_626 {w : jw_T} (hw : jok w) : Cond.constantLong "BusCrossbarModel" 626 6 ∈ jw_Ts w := tb9 hw (i := 199) (by decide +kernel)
theorem kn_Ref_635 {w : jw_T} (hw : jok w) : Cond.constantLong "BusCrossbarModel" 635 7 ∈ jw_Ts w := tb9 hw (i := 227) (by decide +kernel)
theorem kn_Ref_640 {w : jw_T} (hw : jok w) : Cond.constantLong "BusCrossbarModel" 640 511 ∈ jw_Ts w := tb10 hw (i := 7) (by decide +kernel)
theorem kn_Ref_645 {w : jw_T} (hw : jok w) : Cond.constantLong "BusCrossbarModel" 645 5 ∈ jw_Ts w := tb10 hw (i := 16) (by decide +kernel)
theorem kn_Law_149 {w : jw_T} (hw : jok w) : Cond.constantLong "BusCrossbarLaw" 149 4294967295 ∈ jw_Ts w := tb10 hw (i := 22) (by decide +kernel)
theorem pn_Burst : plainName "BusCrossbar$Burst" = true := by decide +kernel
theorem nh_Burst : "BusCrossbar$Burst" ≠ "java/lang/invoke/MethodHandle" ∧ "BusCrossbar$Burst" ≠ "java/lang/invoke/VarHandle" := by decide +kernel
theorem in_Burst {w : jw_T} (hw : jok w) : Cond.initialized "BusCrossbar$Burst" ∈ jw_Ts w := tb1 hw (i := 12) (by decide +kernel)
theorem pn_Line : plainName "BusCrossbar$Line" = true := by decide +kernel
theorem nh_Line : "BusCrossbar$Line" ≠ "java/lang/invoke/MethodHandle" ∧ "BusCrossbar$Line" ≠ "java/lang/invoke/VarHandle" := by decide +kernel
theorem in_Line {w : jw_T} (hw : jok w) : Cond.initialized "BusCrossbar$Line" ∈ jw_Ts w := tb1 hw (i := 11) (by decide +kernel)
theorem pn_Memory : plainName "BusCrossbar$Memory" = true := by decide +kernel
theorem nh_Memory : "BusCrossbar$Memory" ≠ "java/lang/invoke/MethodHandle" ∧ "BusCrossbar$Memory" ≠ "java/lang/invoke/VarHandle" := by decide +kernel
theorem in_Memory {w : jw_T} (hw : jok w) : Cond.initialized "BusCrossbar$Memory" ∈ jw_Ts w := tb1 hw (i := 3) (by decide +kernel)
theorem pn_Row : plainName "BusCrossbar$Row" = true := by decide +kernel
theorem nh_Row : "BusCrossbar$Row" ≠ "java/lang/invoke/MethodHandle" ∧ "BusCrossbar$Row" ≠ "java/lang/invoke/VarHandle" := by decide +kernel
theorem in_Row {w : jw_T} (hw : jok w) : Cond.initialized "BusCrossbar$Row" ∈ jw_Ts w := tb1 hw (i := 5) (by decide +kernel)
theorem pn_Monitor : plainName "BusCrossbar$Monitor" = true := by decide +kernel
theorem nh_Monitor : "BusCrossbar$Monitor" ≠ "java/lang/invoke/MethodHandle" ∧ "BusCrossbar$Monitor" ≠ "java/lang/invoke/VarHandle" := by decide +kernel
theorem in_Monitor {w : jw_T} (hw : jok w) : Cond.initialized "BusCrossbar$Monitor" ∈ jw_Ts w := tb1 hw (i := 10) (by decide +kernel)
theorem pn_Port : plainName "BusCrossbar$Port" = true := by decide +kernel
theorem nh_Port : "BusCrossbar$Port" ≠ "java/lang/invoke/MethodHandle" ∧ "BusCrossbar$Port" ≠ "java/lang/invoke/VarHandle" := by decide +kernel
theorem in_Port {w : jw_T} (hw : jok w) : Cond.initialized "BusCrossbar$Port" ∈ jw_Ts w := tb1 hw (i := 9) (by decide +kernel)
theorem pn_Request : plainName "BusCrossbar$Request" = true := by decide +kernel
theorem nh_Request : "BusCrossbar$Request" ≠ "java/lang/invoke/MethodHandle" ∧ "BusCrossbar$Request" ≠ "java/lang/invoke/VarHandle" := by decide +kernel
theorem in_Request {w : jw_T} (hw : jok w) : Cond.initialized "BusCrossbar$Request" ∈ jw_Ts w := tb1 hw (i := 14) (by decide +kernel)
theorem pn_Master : plainName "BusCrossbar$Master" = true := by decide +kernel
theorem nh_Master : "BusCrossbar$Master" ≠ "java/lang/invoke/MethodHandle" ∧ "BusCrossbar$Master" ≠ "java/lang/invoke/VarHandle" := by decide +kernel
theorem in_Master {w : jw_T} (hw : jok w) : Cond.initialized "BusCrossbar$Master" ∈ jw_Ts w := tb1 hw (i := 8) (by decide +kernel)
theorem pn_Slave : plainName "BusCrossbar$Slave" = true := by decide +kernel
theorem nh_Slave : "BusCrossbar$Slave" ≠ "java/lang/invoke/MethodHandle" ∧ "BusCrossbar$Slave" ≠ "java/lang/invoke/VarHandle" := by decide +kernel
theorem in_Slave {w : jw_T} (hw : jok w) : Cond.initialized "BusCrossbar$Slave" ∈ jw_Ts w := tb1 hw (i := 13) (by decide +kernel)
theorem pn_UnderWay : plainName "BusCrossbar$UnderWay" = true := by decide +kernel
theorem nh_UnderWay : "BusCrossbar$UnderWay" ≠ "java/lang/invoke/MethodHandle" ∧ "BusCrossbar$UnderWay" ≠ "java/lang/invoke/VarHandle" := by decide +kernel
theorem in_UnderWay {w : jw_T} (hw : jok w) : Cond.initialized "BusCrossbar$UnderWay" ∈ jw_Ts w := tb1 hw (i := 6) (by decide +kernel)
theorem pn_Switch : plainName "BusCrossbar$Switch" = true := by decide +kernel
theorem nh_Switch : "BusCrossbar$Switch" ≠ "java/lang/invoke/MethodHandle" ∧ "BusCrossbar$Switch" ≠ "java/lang/invoke/VarHandle" := by decide +kernel
theorem in_Switch {w : jw_T} (hw : jok w) : Cond.initialized "BusCrossbar$Switch" ∈ jw_Ts w := tb1 hw (i := 4) (by decide +kernel)
theorem pn_Bus : plainName "BusCrossbar" = true := by decide +kernel
theorem nh_Bus : "BusCrossbar" ≠ "java/lang/invoke/MethodHandle" ∧ "BusCrossbar" ≠ "java/lang/invoke/VarHandle" := by decide +kernel
theorem in_Bus {w : jw_T} (hw : jok w) : Cond.initialized "BusCrossbar" ∈ jw_Ts w := tb1 hw (i := 1) (by decide +kernel)
theorem pn_Ref : plainName "BusCrossbarModel" = true := by decide +kernel
theorem nh_Ref : "BusCrossbarModel" ≠ "java/lang/invoke/MethodHandle" ∧ "BusCrossbarModel" ≠ "java/lang/invoke/VarHandle" := by decide +kernel
theorem in_Ref {w : jw_T} (hw : jok w) : Cond.initialized "BusCrossbarModel" ∈ jw_Ts w := tb1 hw (i := 15) (by decide +kernel)
theorem pn_Law : plainName "BusCrossbarLaw" = true := by decide +kernel
theorem nh_Law : "BusCrossbarLaw" ≠ "java/lang/invoke/MethodHandle" ∧ "BusCrossbarLaw" ≠ "java/lang/invoke/VarHandle" := by decide +kernel
theorem in_Law {w : jw_T} (hw : jok w) : Cond.initialized "BusCrossbarLaw" ∈ jw_Ts w := tb1 hw (i := 0) (by decide +kernel)
