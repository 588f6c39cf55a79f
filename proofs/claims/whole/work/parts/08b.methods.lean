def M_Bus_init : jm_T := ("BusCrossbar", "<init>", prog_1_method_1_code, 8, none, [], 5, 102)
abbrev y_Bus_init : MethodName := ⟨"BusCrossbar", "<init>", "(III)V"⟩
theorem mf_Bus_init {w : jw_T} (hw : jok w) : jmf w M_Bus_init y_Bus_init := ⟨rfl, rfl, Or.inr ⟨rfl, tb1 hw (i := 29) rfl⟩, in_Bus hw, plainFor_of_name pn_Bus, nh_Bus⟩
def M_Object_init : jm_T := ("java/lang/Object", "<init>", object_method_1_code, 1, none, [], 0, 0)
abbrev y_Object_init : MethodName := ⟨"java/lang/Object", "<init>", "()V"⟩
def M_Bus_nearest : jm_T := ("BusCrossbar", "nearest", prog_1_method_33_code, 2, (some .int), [], 1, 21)
abbrev y_Bus_nearest : MethodName := ⟨"BusCrossbar", "nearest", "(II)I"⟩
theorem mf_Bus_nearest {w : jw_T} (hw : jok w) : jmf w M_Bus_nearest y_Bus_nearest := ⟨rfl, rfl, Or.inr ⟨rfl, tb1 hw (i := 35) rfl⟩, in_Bus hw, plainFor_of_name pn_Bus, nh_Bus⟩
def M_Math_min : jm_T := ("java/lang/Math", "min", prog_21_method_69_code, 2, (some .int), [], 0, 0)
abbrev y_Math_min : MethodName := ⟨"java/lang/Math", "min", "(II)I"⟩
theorem mf_Math_min {w : jw_T} (hw : jok w) : jmf w M_Math_min y_Math_min := ⟨rfl, rfl, Or.inr ⟨rfl, tb1 hw (i := 38) rfl⟩, tb1 hw (i := 2) (by decide +kernel), by decide +kernel, by decide +kernel⟩
def M_Math_max : jm_T := ("java/lang/Math", "max", prog_21_method_65_code, 2, (some .int), [], 0, 0)
abbrev y_Math_max : MethodName := ⟨"java/lang/Math", "max", "(II)I"⟩
theorem mf_Math_max {w : jw_T} (hw : jok w) : jmf w M_Math_max y_Math_max := ⟨rfl, rfl, Or.inr ⟨rfl, tb1 hw (i := 41) rfl⟩, tb1 hw (i := 2) (by decide +kernel), by decide +kernel, by decide +kernel⟩
def M_Memory_init : jm_T := ("BusCrossbar$Memory", "<init>", prog_5_method_1_code, 1, none, [], 1, 20)
abbrev y_Memory_init : MethodName := ⟨"BusCrossbar$Memory", "<init>", "()V"⟩
theorem mf_Memory_init {w : jw_T} (hw : jok w) : jmf w M_Memory_init y_Memory_init := ⟨rfl, rfl, Or.inr ⟨rfl, tb1 hw (i := 46) rfl⟩, in_Memory hw, plainFor_of_name pn_Memory, nh_Memory⟩
def M_Switch_init : jm_T := ("BusCrossbar$Switch", "<init>", prog_11_method_1_code, 5, none, [], 3, 64)
abbrev y_Switch_init : MethodName := ⟨"BusCrossbar$Switch", "<init>", "(III)V"⟩
theorem mf_Switch_init {w : jw_T} (hw : jok w) : jmf w M_Switch_init y_Switch_init := ⟨rfl, rfl, Or.inr ⟨rfl, tb1 hw (i := 60) rfl⟩, in_Switch hw, plainFor_of_name pn_Switch, nh_Switch⟩
def M_Switch_rowsFor : jm_T := ("BusCrossbar$Switch", "rowsFor", prog_11_method_2_code, 4, (some (.array (.object "BusCrossbar$Row"))), [], 2, 41)
abbrev y_Switch_rowsFor : MethodName := ⟨"BusCrossbar$Switch", "rowsFor", "(I)[LBusCrossbar$Row;"⟩
theorem mf_Switch_rowsFor {w : jw_T} (hw : jok w) : jmf w M_Switch_rowsFor y_Switch_rowsFor := ⟨rfl, rfl, Or.inr ⟨rfl, tb1 hw (i := 64) rfl⟩, in_Switch hw, plainFor_of_name pn_Switch, nh_Switch⟩
def M_Row_init : jm_T := ("BusCrossbar$Row", "<init>", prog_9_method_1_code, 2, none, [], 1, 20)
abbrev y_Row_init : MethodName := ⟨"BusCrossbar$Row", "<init>", "(I)V"⟩
theorem mf_Row_init {w : jw_T} (hw : jok w) : jmf w M_Row_init y_Row_init := ⟨rfl, rfl, Or.inr ⟨rfl, tb1 hw (i := 70) rfl⟩, in_Row hw, plainFor_of_name pn_Row, nh_Row⟩
def M_UnderWay_init : jm_T := ("BusCrossbar$UnderWay", "<init>", prog_12_method_1_code, 1, none, [], 1, 20)
abbrev y_UnderWay_init : MethodName := ⟨"BusCrossbar$UnderWay", "<init>", "()V"⟩
theorem mf_UnderWay_init {w : jw_T} (hw : jok w) : jmf w M_UnderWay_init y_UnderWay_init := ⟨rfl, rfl, Or.inr ⟨rfl, tb1 hw (i := 92) rfl⟩, in_UnderWay hw, plainFor_of_name pn_UnderWay, nh_UnderWay⟩
def M_Switch_reset : jm_T := ("BusCrossbar$Switch", "reset", prog_11_method_3_code, 2, none, [], 1, 23)
abbrev y_Switch_reset : MethodName := ⟨"BusCrossbar$Switch", "reset", "()V"⟩
theorem mf_Switch_reset {w : jw_T} (hw : jok w) : jmf w M_Switch_reset y_Switch_reset := ⟨rfl, rfl, Or.inr ⟨rfl, tb1 hw (i := 117) rfl⟩, in_Switch hw, plainFor_of_name pn_Switch, nh_Switch⟩
def M_Arrays_fill1 : jm_T := ("java/util/Arrays", "fill", prog_26_method_103_code, 4, none, [], 0, 0)
abbrev y_Arrays_fill1 : MethodName := ⟨"java/util/Arrays", "fill", "([II)V"⟩
theorem mf_Arrays_fill1 {w : jw_T} (hw : jok w) : jmf w M_Arrays_fill1 y_Arrays_fill1 := ⟨rfl, rfl, Or.inr ⟨rfl, tb1 hw (i := 120) rfl⟩, tb1 hw (i := 7) (by decide +kernel), by decide +kernel, by decide +kernel⟩
def M_Master_init : jm_T := ("BusCrossbar$Master", "<init>", prog_4_method_1_code, 1, none, [], 1, 23)
abbrev y_Master_init : MethodName := ⟨"BusCrossbar$Master", "<init>", "()V"⟩
theorem mf_Master_init {w : jw_T} (hw : jok w) : jmf w M_Master_init y_Master_init := ⟨rfl, rfl, Or.inr ⟨rfl, tb1 hw (i := 185) rfl⟩, in_Master hw, plainFor_of_name pn_Master, nh_Master⟩
def M_Port_init : jm_T := ("BusCrossbar$Port", "<init>", prog_7_method_1_code, 1, none, [], 4, 82)
abbrev y_Port_init : MethodName := ⟨"BusCrossbar$Port", "<init>", "()V"⟩
theorem mf_Port_init {w : jw_T} (hw : jok w) : jmf w M_Port_init y_Port_init := ⟨rfl, rfl, Or.inr ⟨rfl, tb1 hw (i := 228) rfl⟩, in_Port hw, plainFor_of_name pn_Port, nh_Port⟩
def M_Monitor_init : jm_T := ("BusCrossbar$Monitor", "<init>", prog_6_method_1_code, 1, none, [], 3, 62)
abbrev y_Monitor_init : MethodName := ⟨"BusCrossbar$Monitor", "<init>", "()V"⟩
theorem mf_Monitor_init {w : jw_T} (hw : jok w) : jmf w M_Monitor_init y_Monitor_init := ⟨rfl, rfl, Or.inr ⟨rfl, tb1 hw (i := 234) rfl⟩, in_Monitor hw, plainFor_of_name pn_Monitor, nh_Monitor⟩
def M_Line_init : jm_T := ("BusCrossbar$Line", "<init>", prog_3_method_1_code, 3, none, [], 2, 40)
abbrev y_Line_init : MethodName := ⟨"BusCrossbar$Line", "<init>", "(I)V"⟩
theorem mf_Line_init {w : jw_T} (hw : jok w) : jmf w M_Line_init y_Line_init := ⟨rfl, rfl, Or.inr ⟨rfl, tb2 hw (i := 0) rfl⟩, in_Line hw, plainFor_of_name pn_Line, nh_Line⟩
def M_Burst_init : jm_T := ("BusCrossbar$Burst", "<init>", prog_2_method_1_code, 1, none, [], 1, 20)
abbrev y_Burst_init : MethodName := ⟨"BusCrossbar$Burst", "<init>", "()V"⟩
theorem mf_Burst_init {w : jw_T} (hw : jok w) : jmf w M_Burst_init y_Burst_init := ⟨rfl, rfl, Or.inr ⟨rfl, tb2 hw (i := 7) rfl⟩, in_Burst hw, plainFor_of_name pn_Burst, nh_Burst⟩
def M_Slave_init : jm_T := ("BusCrossbar$Slave", "<init>", prog_10_method_1_code, 2, none, [], 3, 62)
abbrev y_Slave_init : MethodName := ⟨"BusCrossbar$Slave", "<init>", "(LBusCrossbar$Memory;)V"⟩
theorem mf_Slave_init {w : jw_T} (hw : jok w) : jmf w M_Slave_init y_Slave_init := ⟨rfl, rfl, Or.inr ⟨rfl, tb2 hw (i := 147) rfl⟩, in_Slave hw, plainFor_of_name pn_Slave, nh_Slave⟩
def M_Request_init : jm_T := ("BusCrossbar$Request", "<init>", prog_8_method_1_code, 1, none, [], 2, 40)
abbrev y_Request_init : MethodName := ⟨"BusCrossbar$Request", "<init>", "()V"⟩
theorem mf_Request_init {w : jw_T} (hw : jok w) : jmf w M_Request_init y_Request_init := ⟨rfl, rfl, Or.inr ⟨rfl, tb2 hw (i := 197) rfl⟩, in_Request hw, plainFor_of_name pn_Request, nh_Request⟩
def M_Bus_told : jm_T := ("BusCrossbar", "told", prog_1_method_22_code, 2, (some .int), [], 1, 22)
abbrev y_Bus_told : MethodName := ⟨"BusCrossbar", "told", "(I)I"⟩
theorem mf_Bus_told {w : jw_T} (hw : jok w) : jmf w M_Bus_told y_Bus_told := ⟨rfl, rfl, Or.inr ⟨rfl, tb3 hw (i := 24) rfl⟩, in_Bus hw, plainFor_of_name pn_Bus, nh_Bus⟩
def M_Bus_openRequests : jm_T := ("BusCrossbar", "openRequests", prog_1_method_30_code, 3, (some .int), [], 0, 0)
abbrev y_Bus_openRequests : MethodName := ⟨"BusCrossbar", "openRequests", "()I"⟩
theorem mf_Bus_openRequests {w : jw_T} (hw : jok w) : jmf w M_Bus_openRequests y_Bus_openRequests := ⟨rfl, rfl, Or.inr ⟨rfl, tb3 hw (i := 28) rfl⟩, in_Bus hw, plainFor_of_name pn_Bus, nh_Bus⟩
def M_Bus_clear : jm_T := ("BusCrossbar", "clear", prog_1_method_27_code, 2, none, [], 3, 63)
abbrev y_Bus_clear : MethodName := ⟨"BusCrossbar", "clear", "()V"⟩
theorem mf_Bus_clear {w : jw_T} (hw : jok w) : jmf w M_Bus_clear y_Bus_clear := ⟨rfl, rfl, Or.inr ⟨rfl, tb3 hw (i := 32) rfl⟩, in_Bus hw, plainFor_of_name pn_Bus, nh_Bus⟩
def M_Memory_reset : jm_T := ("BusCrossbar$Memory", "reset", prog_5_method_2_code, 1, none, [], 1, 24)
abbrev y_Memory_reset : MethodName := ⟨"BusCrossbar$Memory", "reset", "()V"⟩
theorem mf_Memory_reset {w : jw_T} (hw : jok w) : jmf w M_Memory_reset y_Memory_reset := ⟨rfl, rfl, Or.inr ⟨rfl, tb3 hw (i := 36) rfl⟩, in_Memory hw, plainFor_of_name pn_Memory, nh_Memory⟩
def M_Arrays_fill2 : jm_T := ("java/util/Arrays", "fill", prog_26_method_101_code, 5, none, [], 0, 0)
abbrev y_Arrays_fill2 : MethodName := ⟨"java/util/Arrays", "fill", "([JJ)V"⟩
theorem mf_Arrays_fill2 {w : jw_T} (hw : jok w) : jmf w M_Arrays_fill2 y_Arrays_fill2 := ⟨rfl, rfl, Or.inr ⟨rfl, tb3 hw (i := 39) rfl⟩, tb1 hw (i := 7) (by decide +kernel), by decide +kernel, by decide +kernel⟩
def M_Master_resetSettings : jm_T := ("BusCrossbar$Master", "resetSettings", prog_4_method_2_code, 1, none, [], 1, 23)
abbrev y_Master_resetSettings : MethodName := ⟨"BusCrossbar$Master", "resetSettings", "()V"⟩
theorem mf_Master_resetSettings {w : jw_T} (hw : jok w) : jmf w M_Master_resetSettings y_Master_resetSettings := ⟨rfl, rfl, Or.inr ⟨rfl, tb3 hw (i := 44) rfl⟩, in_Master hw, plainFor_of_name pn_Master, nh_Master⟩
def M_Port_reset : jm_T := ("BusCrossbar$Port", "reset", prog_7_method_2_code, 2, none, [], 2, 42)
abbrev y_Port_reset : MethodName := ⟨"BusCrossbar$Port", "reset", "()V"⟩
theorem mf_Port_reset {w : jw_T} (hw : jok w) : jmf w M_Port_reset y_Port_reset := ⟨rfl, rfl, Or.inr ⟨rfl, tb3 hw (i := 48) rfl⟩, in_Port hw, plainFor_of_name pn_Port, nh_Port⟩
def M_Port_silenceAll : jm_T := ("BusCrossbar$Port", "silenceAll", prog_7_method_4_code, 2, none, [], 1, 21)
abbrev y_Port_silenceAll : MethodName := ⟨"BusCrossbar$Port", "silenceAll", "()V"⟩
theorem mf_Port_silenceAll {w : jw_T} (hw : jok w) : jmf w M_Port_silenceAll y_Port_silenceAll := ⟨rfl, rfl, Or.inr ⟨rfl, tb3 hw (i := 52) rfl⟩, in_Port hw, plainFor_of_name pn_Port, nh_Port⟩
def M_Port_silence : jm_T := ("BusCrossbar$Port", "silence", prog_7_method_3_code, 2, none, [], 0, 0)
abbrev y_Port_silence : MethodName := ⟨"BusCrossbar$Port", "silence", "(I)V"⟩
theorem mf_Port_silence {w : jw_T} (hw : jok w) : jmf w M_Port_silence y_Port_silence := ⟨rfl, rfl, Or.inr ⟨rfl, tb3 hw (i := 56) rfl⟩, in_Port hw, plainFor_of_name pn_Port, nh_Port⟩
def M_Monitor_reset : jm_T := ("BusCrossbar$Monitor", "reset", prog_6_method_2_code, 2, none, [], 0, 0)
abbrev y_Monitor_reset : MethodName := ⟨"BusCrossbar$Monitor", "reset", "()V"⟩
theorem mf_Monitor_reset {w : jw_T} (hw : jok w) : jmf w M_Monitor_reset y_Monitor_reset := ⟨rfl, rfl, Or.inr ⟨rfl, tb3 hw (i := 60) rfl⟩, in_Monitor hw, plainFor_of_name pn_Monitor, nh_Monitor⟩
def M_Slave_reset : jm_T := ("BusCrossbar$Slave", "reset", prog_10_method_2_code, 1, none, [], 1, 23)
abbrev y_Slave_reset : MethodName := ⟨"BusCrossbar$Slave", "reset", "()V"⟩
theorem mf_Slave_reset {w : jw_T} (hw : jok w) : jmf w M_Slave_reset y_Slave_reset := ⟨rfl, rfl, Or.inr ⟨rfl, tb3 hw (i := 64) rfl⟩, in_Slave hw, plainFor_of_name pn_Slave, nh_Slave⟩
def M_Bus_dropTickets : jm_T := ("BusCrossbar", "dropTickets", prog_1_method_31_code, 2, none, [], 1, 20)
abbrev y_Bus_dropTickets : MethodName := ⟨"BusCrossbar", "dropTickets", "()V"⟩
theorem mf_Bus_dropTickets {w : jw_T} (hw : jok w) : jmf w M_Bus_dropTickets y_Bus_dropTickets := ⟨rfl, rfl, Or.inr ⟨rfl, tb3 hw (i := 68) rfl⟩, in_Bus hw, plainFor_of_name pn_Bus, nh_Bus⟩
def M_Master_dropRequests : jm_T := ("BusCrossbar$Master", "dropRequests", prog_4_method_3_code, 1, none, [], 0, 0)
abbrev y_Master_dropRequests : MethodName := ⟨"BusCrossbar$Master", "dropRequests", "()V"⟩
theorem mf_Master_dropRequests {w : jw_T} (hw : jok w) : jmf w M_Master_dropRequests y_Master_dropRequests := ⟨rfl, rfl, Or.inr ⟨rfl, tb3 hw (i := 72) rfl⟩, in_Master hw, plainFor_of_name pn_Master, nh_Master⟩
def M_Law_cell : jm_T := ("BusCrossbarLaw", "cell", method_2_code, 2, (some .int), [], 0, 0)
abbrev y_Law_cell : MethodName := ⟨"BusCrossbarLaw", "cell", "([II)I"⟩
theorem mf_Law_cell {w : jw_T} (hw : jok w) : jmf w M_Law_cell y_Law_cell := ⟨rfl, rfl, Or.inr ⟨rfl, tb3 hw (i := 75) rfl⟩, in_Law hw, plainFor_of_name pn_Law, nh_Law⟩
def M_Law_map : jm_T := ("BusCrossbarLaw", "map", method_3_code, 5, (some .int), [(0, 10, 13, 13), (0, 10, 17, 15)], 8, 126)
abbrev y_Law_map : MethodName := ⟨"BusCrossbarLaw", "map", "(LBusCrossbar;II[J)I"⟩
theorem mf_Law_map {w : jw_T} (hw : jok w) : jmf w M_Law_map y_Law_map := ⟨rfl, rfl, Or.inl (tb3 hw (i := 78) rfl), in_Law hw, plainFor_of_name pn_Law, nh_Law⟩
def M_Bus_map : jm_T := ("BusCrossbar", "map", prog_1_method_2_code, 4, (some .int), [], 7, 103)
abbrev y_Bus_map : MethodName := ⟨"BusCrossbar", "map", "(II)I"⟩
theorem mf_Bus_map {w : jw_T} (hw : jok w) : jmf w M_Bus_map y_Bus_map := ⟨rfl, rfl, Or.inr ⟨rfl, tb3 hw (i := 84) rfl⟩, in_Bus hw, plainFor_of_name pn_Bus, nh_Bus⟩
def M_Bus_needIndex : jm_T := ("BusCrossbar", "needIndex", prog_1_method_35_code, 2, none, [], 6, 82)
abbrev y_Bus_needIndex : MethodName := ⟨"BusCrossbar", "needIndex", "(II)V"⟩
theorem mf_Bus_needIndex {w : jw_T} (hw : jok w) : jmf w M_Bus_needIndex y_Bus_needIndex := ⟨rfl, rfl, Or.inr ⟨rfl, tb3 hw (i := 87) rfl⟩, in_Bus hw, plainFor_of_name pn_Bus, nh_Bus⟩
def M_Law_policy : jm_T := ("BusCrossbarLaw", "policy", method_4_code, 5, (some .int), [(0, 10, 13, 21)], 8, 127)
abbrev y_Law_policy : MethodName := ⟨"BusCrossbarLaw", "policy", "(LBusCrossbar;IZ[J)I"⟩
theorem mf_Law_policy {w : jw_T} (hw : jok w) : jmf w M_Law_policy y_Law_policy := ⟨rfl, rfl, Or.inl (tb3 hw (i := 175) rfl), in_Law hw, plainFor_of_name pn_Law, nh_Law⟩
def M_Bus_policy : jm_T := ("BusCrossbar", "policy", prog_1_method_3_code, 4, (some .int), [], 7, 104)
abbrev y_Bus_policy : MethodName := ⟨"BusCrossbar", "policy", "(IZ)I"⟩
theorem mf_Bus_policy {w : jw_T} (hw : jok w) : jmf w M_Bus_policy y_Bus_policy := ⟨rfl, rfl, Or.inr ⟨rfl, tb3 hw (i := 180) rfl⟩, in_Bus hw, plainFor_of_name pn_Bus, nh_Bus⟩
def M_Bus_needNumber : jm_T := ("BusCrossbar", "needNumber", prog_1_method_36_code, 3, none, [], 6, 82)
abbrev y_Bus_needNumber : MethodName := ⟨"BusCrossbar", "needNumber", "(III)V"⟩
theorem mf_Bus_needNumber {w : jw_T} (hw : jok w) : jmf w M_Bus_needNumber y_Bus_needNumber := ⟨rfl, rfl, Or.inr ⟨rfl, tb3 hw (i := 183) rfl⟩, in_Bus hw, plainFor_of_name pn_Bus, nh_Bus⟩
def M_Law_master : jm_T := ("BusCrossbarLaw", "master", method_5_code, 6, (some .int), [(0, 12, 15, 13)], 8, 126)
abbrev y_Law_master : MethodName := ⟨"BusCrossbarLaw", "master", "(LBusCrossbar;III[J)I"⟩
theorem mf_Law_master {w : jw_T} (hw : jok w) : jmf w M_Law_master y_Law_master := ⟨rfl, rfl, Or.inl (tb3 hw (i := 202) rfl), in_Law hw, plainFor_of_name pn_Law, nh_Law⟩
def M_Bus_master : jm_T := ("BusCrossbar", "master", prog_1_method_4_code, 4, (some .int), [], 7, 103)
abbrev y_Bus_master : MethodName := ⟨"BusCrossbar", "master", "(III)I"⟩
theorem mf_Bus_master {w : jw_T} (hw : jok w) : jmf w M_Bus_master y_Bus_master := ⟨rfl, rfl, Or.inr ⟨rfl, tb3 hw (i := 206) rfl⟩, in_Bus hw, plainFor_of_name pn_Bus, nh_Bus⟩
def M_Bus_exchange : jm_T := ("BusCrossbar", "exchange", prog_1_method_34_code, 4, (some .int), [], 0, 0)
abbrev y_Bus_exchange : MethodName := ⟨"BusCrossbar", "exchange", "([III)I"⟩
theorem mf_Bus_exchange {w : jw_T} (hw : jok w) : jmf w M_Bus_exchange y_Bus_exchange := ⟨rfl, rfl, Or.inr ⟨rfl, tb3 hw (i := 209) rfl⟩, in_Bus hw, plainFor_of_name pn_Bus, nh_Bus⟩
def M_Law_early : jm_T := ("BusCrossbarLaw", "early", method_6_code, 5, (some .int), [(0, 17, 20, 13)], 8, 126)
abbrev y_Law_early : MethodName := ⟨"BusCrossbarLaw", "early", "(LBusCrossbar;IZ[J)I"⟩
theorem mf_Law_early {w : jw_T} (hw : jok w) : jmf w M_Law_early y_Law_early := ⟨rfl, rfl, Or.inl (tb3 hw (i := 213) rfl), in_Law hw, plainFor_of_name pn_Law, nh_Law⟩
def M_Bus_early : jm_T := ("BusCrossbar", "early", prog_1_method_5_code, 4, (some .boolean), [], 7, 103)
abbrev y_Bus_early : MethodName := ⟨"BusCrossbar", "early", "(IZ)Z"⟩
theorem mf_Bus_early {w : jw_T} (hw : jok w) : jmf w M_Bus_early y_Bus_early := ⟨rfl, rfl, Or.inr ⟨rfl, tb3 hw (i := 217) rfl⟩, in_Bus hw, plainFor_of_name pn_Bus, nh_Bus⟩
def M_Law_slave : jm_T := ("BusCrossbarLaw", "slave", method_7_code, 6, (some .int), [(0, 12, 15, 13)], 8, 126)
abbrev y_Law_slave : MethodName := ⟨"BusCrossbarLaw", "slave", "(LBusCrossbar;III[J)I"⟩
theorem mf_Law_slave {w : jw_T} (hw : jok w) : jmf w M_Law_slave y_Law_slave := ⟨rfl, rfl, Or.inl (tb3 hw (i := 220) rfl), in_Law hw, plainFor_of_name pn_Law, nh_Law⟩
def M_Bus_slave : jm_T := ("BusCrossbar", "slave", prog_1_method_6_code, 4, (some .int), [], 7, 103)
abbrev y_Bus_slave : MethodName := ⟨"BusCrossbar", "slave", "(III)I"⟩
theorem mf_Bus_slave {w : jw_T} (hw : jok w) : jmf w M_Bus_slave y_Bus_slave := ⟨rfl, rfl, Or.inr ⟨rfl, tb3 hw (i := 224) rfl⟩, in_Bus hw, plainFor_of_name pn_Bus, nh_Bus⟩
def M_Law_way : jm_T := ("BusCrossbarLaw", "way", method_8_code, 6, (some .int), [(0, 12, 15, 13), (0, 12, 19, 21)], 8, 129)
abbrev y_Law_way : MethodName := ⟨"BusCrossbarLaw", "way", "(LBusCrossbar;III[J)I"⟩
theorem mf_Law_way {w : jw_T} (hw : jok w) : jmf w M_Law_way y_Law_way := ⟨rfl, rfl, Or.inl (tb3 hw (i := 227) rfl), in_Law hw, plainFor_of_name pn_Law, nh_Law⟩
def M_Bus_way : jm_T := ("BusCrossbar", "way", prog_1_method_7_code, 6, (some .int), [], 7, 104)
abbrev y_Bus_way : MethodName := ⟨"BusCrossbar", "way", "(III)I"⟩
theorem mf_Bus_way {w : jw_T} (hw : jok w) : jmf w M_Bus_way y_Bus_way := ⟨rfl, rfl, Or.inr ⟨rfl, tb3 hw (i := 231) rfl⟩, in_Bus hw, plainFor_of_name pn_Bus, nh_Bus⟩
def M_Law_spoil : jm_T := ("BusCrossbarLaw", "spoil", method_9_code, 6, (some .int), [(0, 12, 15, 13), (0, 12, 19, 21)], 8, 126)
abbrev y_Law_spoil : MethodName := ⟨"BusCrossbarLaw", "spoil", "(LBusCrossbar;IIZ[J)I"⟩
theorem mf_Law_spoil {w : jw_T} (hw : jok w) : jmf w M_Law_spoil y_Law_spoil := ⟨rfl, rfl, Or.inl (tb3 hw (i := 234) rfl), in_Law hw, plainFor_of_name pn_Law, nh_Law⟩
def M_Bus_spoil : jm_T := ("BusCrossbar", "spoil", prog_1_method_8_code, 4, (some .int), [], 7, 103)
abbrev y_Bus_spoil : MethodName := ⟨"BusCrossbar", "spoil", "(IIZ)I"⟩
theorem mf_Bus_spoil {w : jw_T} (hw : jok w) : jmf w M_Bus_spoil y_Bus_spoil := ⟨rfl, rfl, Or.inr ⟨rfl, tb3 hw (i := 238) rfl⟩, in_Bus hw, plainFor_of_name pn_Bus, nh_Bus⟩
def M_Memory_mark : jm_T := ("BusCrossbar$Memory", "mark", prog_5_method_9_code, 13, (some .int), [], 1, 21)
abbrev y_Memory_mark : MethodName := ⟨"BusCrossbar$Memory", "mark", "(IIZ)I"⟩
theorem mf_Memory_mark {w : jw_T} (hw : jok w) : jmf w M_Memory_mark y_Memory_mark := ⟨rfl, rfl, Or.inr ⟨rfl, tb4 hw (i := 4) rfl⟩, in_Memory hw, plainFor_of_name pn_Memory, nh_Memory⟩
def M_Memory_spoiltWordOf : jm_T := ("BusCrossbar$Memory", "spoiltWordOf", prog_5_method_4_code, 1, (some .int), [], 0, 0)
abbrev y_Memory_spoiltWordOf : MethodName := ⟨"BusCrossbar$Memory", "spoiltWordOf", "(I)I"⟩
theorem mf_Memory_spoiltWordOf {w : jw_T} (hw : jok w) : jmf w M_Memory_spoiltWordOf y_Memory_spoiltWordOf := ⟨rfl, rfl, Or.inr ⟨rfl, tb4 hw (i := 7) rfl⟩, in_Memory hw, plainFor_of_name pn_Memory, nh_Memory⟩
def M_Long_bitCount : jm_T := ("java/lang/Long", "bitCount", prog_20_method_50_code, 2, (some .int), [], 0, 0)
abbrev y_Long_bitCount : MethodName := ⟨"java/lang/Long", "bitCount", "(J)I"⟩
theorem mf_Long_bitCount {w : jw_T} (hw : jok w) : jmf w M_Long_bitCount y_Long_bitCount := ⟨rfl, rfl, Or.inr ⟨rfl, tb4 hw (i := 11) rfl⟩, tb1 hw (i := 22) (by decide +kernel), by decide +kernel, by decide +kernel⟩
def M_Law_poke : jm_T := ("BusCrossbarLaw", "poke", method_10_code, 5, (some .int), [(0, 10, 13, 13), (0, 10, 17, 21)], 8, 128)
abbrev y_Law_poke : MethodName := ⟨"BusCrossbarLaw", "poke", "(LBusCrossbar;II[J)I"⟩
theorem mf_Law_poke {w : jw_T} (hw : jok w) : jmf w M_Law_poke y_Law_poke := ⟨rfl, rfl, Or.inl (tb4 hw (i := 17) rfl), in_Law hw, plainFor_of_name pn_Law, nh_Law⟩
def M_Bus_poke : jm_T := ("BusCrossbar", "poke", prog_1_method_9_code, 5, (some .int), [], 7, 104)
abbrev y_Bus_poke : MethodName := ⟨"BusCrossbar", "poke", "(II)I"⟩
theorem mf_Bus_poke {w : jw_T} (hw : jok w) : jmf w M_Bus_poke y_Bus_poke := ⟨rfl, rfl, Or.inr ⟨rfl, tb4 hw (i := 21) rfl⟩, in_Bus hw, plainFor_of_name pn_Bus, nh_Bus⟩
def M_Memory_byteAt : jm_T := ("BusCrossbar$Memory", "byteAt", prog_5_method_5_code, 2, (some .int), [], 1, 20)
abbrev y_Memory_byteAt : MethodName := ⟨"BusCrossbar$Memory", "byteAt", "(I)I"⟩
theorem mf_Memory_byteAt {w : jw_T} (hw : jok w) : jmf w M_Memory_byteAt y_Memory_byteAt := ⟨rfl, rfl, Or.inr ⟨rfl, tb4 hw (i := 25) rfl⟩, in_Memory hw, plainFor_of_name pn_Memory, nh_Memory⟩
def M_Memory_wordOf : jm_T := ("BusCrossbar$Memory", "wordOf", prog_5_method_3_code, 1, (some .int), [], 0, 0)
abbrev y_Memory_wordOf : MethodName := ⟨"BusCrossbar$Memory", "wordOf", "(I)I"⟩
theorem mf_Memory_wordOf {w : jw_T} (hw : jok w) : jmf w M_Memory_wordOf y_Memory_wordOf := ⟨rfl, rfl, Or.inr ⟨rfl, tb4 hw (i := 28) rfl⟩, in_Memory hw, plainFor_of_name pn_Memory, nh_Memory⟩
def M_Memory_store : jm_T := ("BusCrossbar$Memory", "store", prog_5_method_7_code, 8, none, [], 1, 23)
abbrev y_Memory_store : MethodName := ⟨"BusCrossbar$Memory", "store", "(IJI)V"⟩
theorem mf_Memory_store {w : jw_T} (hw : jok w) : jmf w M_Memory_store y_Memory_store := ⟨rfl, rfl, Or.inr ⟨rfl, tb4 hw (i := 32) rfl⟩, in_Memory hw, plainFor_of_name pn_Memory, nh_Memory⟩
def M_Bus_laneBits : jm_T := ("BusCrossbar", "laneBits", prog_1_method_43_code, 4, (some .long), [], 0, 0)
abbrev y_Bus_laneBits : MethodName := ⟨"BusCrossbar", "laneBits", "(I)J"⟩
theorem mf_Bus_laneBits {w : jw_T} (hw : jok w) : jmf w M_Bus_laneBits y_Bus_laneBits := ⟨rfl, rfl, Or.inr ⟨rfl, tb4 hw (i := 35) rfl⟩, in_Bus hw, plainFor_of_name pn_Bus, nh_Bus⟩
def M_Law_peek : jm_T := ("BusCrossbarLaw", "peek", method_11_code, 4, (some .int), [(0, 9, 12, 13)], 8, 124)
abbrev y_Law_peek : MethodName := ⟨"BusCrossbarLaw", "peek", "(LBusCrossbar;I[J)I"⟩
theorem mf_Law_peek {w : jw_T} (hw : jok w) : jmf w M_Law_peek y_Law_peek := ⟨rfl, rfl, Or.inl (tb4 hw (i := 39) rfl), in_Law hw, plainFor_of_name pn_Law, nh_Law⟩
def M_Bus_peek : jm_T := ("BusCrossbar", "peek", prog_1_method_10_code, 2, (some .int), [], 7, 103)
abbrev y_Bus_peek : MethodName := ⟨"BusCrossbar", "peek", "(I)I"⟩
theorem mf_Bus_peek {w : jw_T} (hw : jok w) : jmf w M_Bus_peek y_Bus_peek := ⟨rfl, rfl, Or.inr ⟨rfl, tb4 hw (i := 43) rfl⟩, in_Bus hw, plainFor_of_name pn_Bus, nh_Bus⟩
def M_Law_request : jm_T := ("BusCrossbarLaw", "request", method_12_code, 9, (some .int), [(0, 16, 19, 13), (0, 16, 23, 21), (0, 16, 27, 52)], 8, 134)
abbrev y_Law_request : MethodName := ⟨"BusCrossbarLaw", "request", "(LBusCrossbar;IIIIJ[J)I"⟩
theorem mf_Law_request {w : jw_T} (hw : jok w) : jmf w M_Law_request y_Law_request := ⟨rfl, rfl, Or.inl (tb4 hw (i := 46) rfl), in_Law hw, plainFor_of_name pn_Law, nh_Law⟩
def M_Bus_request : jm_T := ("BusCrossbar", "request", prog_1_method_11_code, 11, (some .int), [], 7, 104)
abbrev y_Bus_request : MethodName := ⟨"BusCrossbar", "request", "(IIIIJ)I"⟩
theorem mf_Bus_request {w : jw_T} (hw : jok w) : jmf w M_Bus_request y_Bus_request := ⟨rfl, rfl, Or.inr ⟨rfl, tb4 hw (i := 51) rfl⟩, in_Bus hw, plainFor_of_name pn_Bus, nh_Bus⟩
def M_Burst_contentOf : jm_T := ("BusCrossbar$Burst", "contentOf", prog_2_method_3_code, 7, (some .long), [], 0, 0)
abbrev y_Burst_contentOf : MethodName := ⟨"BusCrossbar$Burst", "contentOf", "(III)J"⟩
theorem mf_Burst_contentOf {w : jw_T} (hw : jok w) : jmf w M_Burst_contentOf y_Burst_contentOf := ⟨rfl, rfl, Or.inr ⟨rfl, tb4 hw (i := 54) rfl⟩, in_Burst hw, plainFor_of_name pn_Burst, nh_Burst⟩
def M_Burst_brokenRule : jm_T := ("BusCrossbar$Burst", "brokenRule", prog_2_method_11_code, 3, (some .int), [], 2, 45)
abbrev y_Burst_brokenRule : MethodName := ⟨"BusCrossbar$Burst", "brokenRule", "(J)I"⟩
theorem mf_Burst_brokenRule {w : jw_T} (hw : jok w) : jmf w M_Burst_brokenRule y_Burst_brokenRule := ⟨rfl, rfl, Or.inr ⟨rfl, tb4 hw (i := 58) rfl⟩, in_Burst hw, plainFor_of_name pn_Burst, nh_Burst⟩
def M_Burst_kindOf : jm_T := ("BusCrossbar$Burst", "kindOf", prog_2_method_8_code, 2, (some .int), [], 0, 0)
abbrev y_Burst_kindOf : MethodName := ⟨"BusCrossbar$Burst", "kindOf", "(J)I"⟩
theorem mf_Burst_kindOf {w : jw_T} (hw : jok w) : jmf w M_Burst_kindOf y_Burst_kindOf := ⟨rfl, rfl, Or.inr ⟨rfl, tb4 hw (i := 61) rfl⟩, in_Burst hw, plainFor_of_name pn_Burst, nh_Burst⟩
def M_Burst_breaksWrap : jm_T := ("BusCrossbar$Burst", "breaksWrap", prog_2_method_12_code, 4, (some .boolean), [], 1, 21)
abbrev y_Burst_breaksWrap : MethodName := ⟨"BusCrossbar$Burst", "breaksWrap", "(J)Z"⟩
theorem mf_Burst_breaksWrap {w : jw_T} (hw : jok w) : jmf w M_Burst_breaksWrap y_Burst_breaksWrap := ⟨rfl, rfl, Or.inr ⟨rfl, tb4 hw (i := 64) rfl⟩, in_Burst hw, plainFor_of_name pn_Burst, nh_Burst⟩
def M_Burst_lengthOf : jm_T := ("BusCrossbar$Burst", "lengthOf", prog_2_method_6_code, 2, (some .int), [], 0, 0)
abbrev y_Burst_lengthOf : MethodName := ⟨"BusCrossbar$Burst", "lengthOf", "(J)I"⟩
theorem mf_Burst_lengthOf {w : jw_T} (hw : jok w) : jmf w M_Burst_lengthOf y_Burst_lengthOf := ⟨rfl, rfl, Or.inr ⟨rfl, tb4 hw (i := 67) rfl⟩, in_Burst hw, plainFor_of_name pn_Burst, nh_Burst⟩
def M_Burst_addressOf : jm_T := ("BusCrossbar$Burst", "addressOf", prog_2_method_5_code, 2, (some .int), [], 0, 0)
abbrev y_Burst_addressOf : MethodName := ⟨"BusCrossbar$Burst", "addressOf", "(J)I"⟩
theorem mf_Burst_addressOf {w : jw_T} (hw : jok w) : jmf w M_Burst_addressOf y_Burst_addressOf := ⟨rfl, rfl, Or.inr ⟨rfl, tb4 hw (i := 70) rfl⟩, in_Burst hw, plainFor_of_name pn_Burst, nh_Burst⟩
def M_Burst_bytesOf : jm_T := ("BusCrossbar$Burst", "bytesOf", prog_2_method_7_code, 2, (some .int), [], 0, 0)
abbrev y_Burst_bytesOf : MethodName := ⟨"BusCrossbar$Burst", "bytesOf", "(J)I"⟩
theorem mf_Burst_bytesOf {w : jw_T} (hw : jok w) : jmf w M_Burst_bytesOf y_Burst_bytesOf := ⟨rfl, rfl, Or.inr ⟨rfl, tb4 hw (i := 74) rfl⟩, in_Burst hw, plainFor_of_name pn_Burst, nh_Burst⟩
def M_Burst_breaksPage : jm_T := ("BusCrossbar$Burst", "breaksPage", prog_2_method_13_code, 5, (some .boolean), [], 1, 21)
abbrev y_Burst_breaksPage : MethodName := ⟨"BusCrossbar$Burst", "breaksPage", "(J)Z"⟩
theorem mf_Burst_breaksPage {w : jw_T} (hw : jok w) : jmf w M_Burst_breaksPage y_Burst_breaksPage := ⟨rfl, rfl, Or.inr ⟨rfl, tb4 hw (i := 77) rfl⟩, in_Burst hw, plainFor_of_name pn_Burst, nh_Burst⟩
def M_Burst_isExclusive : jm_T := ("BusCrossbar$Burst", "isExclusive", prog_2_method_9_code, 2, (some .boolean), [], 0, 0)
abbrev y_Burst_isExclusive : MethodName := ⟨"BusCrossbar$Burst", "isExclusive", "(J)Z"⟩
theorem mf_Burst_isExclusive {w : jw_T} (hw : jok w) : jmf w M_Burst_isExclusive y_Burst_isExclusive := ⟨rfl, rfl, Or.inr ⟨rfl, tb4 hw (i := 80) rfl⟩, in_Burst hw, plainFor_of_name pn_Burst, nh_Burst⟩
def M_Burst_breaksExclusive : jm_T := ("BusCrossbar$Burst", "breaksExclusive", prog_2_method_14_code, 3, (some .boolean), [], 1, 21)
abbrev y_Burst_breaksExclusive : MethodName := ⟨"BusCrossbar$Burst", "breaksExclusive", "(J)Z"⟩
theorem mf_Burst_breaksExclusive {w : jw_T} (hw : jok w) : jmf w M_Burst_breaksExclusive y_Burst_breaksExclusive := ⟨rfl, rfl, Or.inr ⟨rfl, tb4 hw (i := 83) rfl⟩, in_Burst hw, plainFor_of_name pn_Burst, nh_Burst⟩
def M_Integer_bitCount : jm_T := ("java/lang/Integer", "bitCount", prog_19_method_49_code, 1, (some .int), [], 0, 0)
abbrev y_Integer_bitCount : MethodName := ⟨"java/lang/Integer", "bitCount", "(I)I"⟩
theorem mf_Integer_bitCount {w : jw_T} (hw : jok w) : jmf w M_Integer_bitCount y_Integer_bitCount := ⟨rfl, rfl, Or.inr ⟨rfl, tb4 hw (i := 86) rfl⟩, tb1 hw (i := 23) (by decide +kernel), by decide +kernel, by decide +kernel⟩
def M_Master_hasRoom : jm_T := ("BusCrossbar$Master", "hasRoom", prog_4_method_4_code, 4, (some .boolean), [], 0, 0)
abbrev y_Master_hasRoom : MethodName := ⟨"BusCrossbar$Master", "hasRoom", "(Z)Z"⟩
theorem mf_Master_hasRoom {w : jw_T} (hw : jok w) : jmf w M_Master_hasRoom y_Master_hasRoom := ⟨rfl, rfl, Or.inr ⟨rfl, tb4 hw (i := 94) rfl⟩, in_Master hw, plainFor_of_name pn_Master, nh_Master⟩
def M_Request_start : jm_T := ("BusCrossbar$Request", "start", prog_8_method_2_code, 5, none, [], 1, 22)
abbrev y_Request_start : MethodName := ⟨"BusCrossbar$Request", "start", "(JZI)V"⟩
theorem mf_Request_start {w : jw_T} (hw : jok w) : jmf w M_Request_start y_Request_start := ⟨rfl, rfl, Or.inr ⟨rfl, tb4 hw (i := 114) rfl⟩, in_Request hw, plainFor_of_name pn_Request, nh_Request⟩
def M_Burst_start : jm_T := ("BusCrossbar$Burst", "start", prog_2_method_2_code, 3, none, [], 0, 0)
abbrev y_Burst_start : MethodName := ⟨"BusCrossbar$Burst", "start", "(J)V"⟩
theorem mf_Burst_start {w : jw_T} (hw : jok w) : jmf w M_Burst_start y_Burst_start := ⟨rfl, rfl, Or.inr ⟨rfl, tb4 hw (i := 118) rfl⟩, in_Burst hw, plainFor_of_name pn_Burst, nh_Burst⟩
def M_Burst_fillWrite : jm_T := ("BusCrossbar$Burst", "fillWrite", prog_2_method_17_code, 10, none, [], 3, 74)
abbrev y_Burst_fillWrite : MethodName := ⟨"BusCrossbar$Burst", "fillWrite", "(JZ)V"⟩
theorem mf_Burst_fillWrite {w : jw_T} (hw : jok w) : jmf w M_Burst_fillWrite y_Burst_fillWrite := ⟨rfl, rfl, Or.inr ⟨rfl, tb4 hw (i := 122) rfl⟩, in_Burst hw, plainFor_of_name pn_Burst, nh_Burst⟩
def M_Burst_beatLanes : jm_T := ("BusCrossbar$Burst", "beatLanes", prog_2_method_16_code, 7, (some .int), [], 2, 48)
abbrev y_Burst_beatLanes : MethodName := ⟨"BusCrossbar$Burst", "beatLanes", "(JI)I"⟩
theorem mf_Burst_beatLanes {w : jw_T} (hw : jok w) : jmf w M_Burst_beatLanes y_Burst_beatLanes := ⟨rfl, rfl, Or.inr ⟨rfl, tb4 hw (i := 127) rfl⟩, in_Burst hw, plainFor_of_name pn_Burst, nh_Burst⟩
def M_Burst_beatAddress : jm_T := ("BusCrossbar$Burst", "beatAddress", prog_2_method_15_code, 8, (some .int), [], 1, 21)
abbrev y_Burst_beatAddress : MethodName := ⟨"BusCrossbar$Burst", "beatAddress", "(JI)I"⟩
theorem mf_Burst_beatAddress {w : jw_T} (hw : jok w) : jmf w M_Burst_beatAddress y_Burst_beatAddress := ⟨rfl, rfl, Or.inr ⟨rfl, tb4 hw (i := 130) rfl⟩, in_Burst hw, plainFor_of_name pn_Burst, nh_Burst⟩
def M_Master_enqueue : jm_T := ("BusCrossbar$Master", "enqueue", prog_4_method_5_code, 2, none, [], 1, 23)
abbrev y_Master_enqueue : MethodName := ⟨"BusCrossbar$Master", "enqueue", "(LBusCrossbar$Request;)V"⟩
theorem mf_Master_enqueue {w : jw_T} (hw : jok w) : jmf w M_Master_enqueue y_Master_enqueue := ⟨rfl, rfl, Or.inr ⟨rfl, tb4 hw (i := 135) rfl⟩, in_Master hw, plainFor_of_name pn_Master, nh_Master⟩
def M_Law_tick : jm_T := ("BusCrossbarLaw", "tick", method_13_code, 4, (some .int), [(0, 9, 12, 21)], 8, 197)
abbrev y_Law_tick : MethodName := ⟨"BusCrossbarLaw", "tick", "(LBusCrossbar;I[J)I"⟩
theorem mf_Law_tick {w : jw_T} (hw : jok w) : jmf w M_Law_tick y_Law_tick := ⟨rfl, rfl, Or.inl (tb4 hw (i := 139) rfl), in_Law hw, plainFor_of_name pn_Law, nh_Law⟩
def M_Bus_tick : jm_T := ("BusCrossbar", "tick", prog_1_method_12_code, 2, (some .int), [], 7, 176)
abbrev y_Bus_tick : MethodName := ⟨"BusCrossbar", "tick", "(I)I"⟩
theorem mf_Bus_tick {w : jw_T} (hw : jok w) : jmf w M_Bus_tick y_Bus_tick := ⟨rfl, rfl, Or.inr ⟨rfl, tb4 hw (i := 143) rfl⟩, in_Bus hw, plainFor_of_name pn_Bus, nh_Bus⟩
def M_Bus_runTicks : jm_T := ("BusCrossbar", "runTicks", prog_1_method_28_code, 6, (some .int), [], 6, 151)
abbrev y_Bus_runTicks : MethodName := ⟨"BusCrossbar", "runTicks", "(IZ)I"⟩
theorem mf_Bus_runTicks {w : jw_T} (hw : jok w) : jmf w M_Bus_runTicks y_Bus_runTicks := ⟨rfl, rfl, Or.inr ⟨rfl, tb4 hw (i := 147) rfl⟩, in_Bus hw, plainFor_of_name pn_Bus, nh_Bus⟩
def M_Port_begin : jm_T := ("BusCrossbar$Port", "begin", prog_7_method_5_code, 2, none, [], 1, 21)
abbrev y_Port_begin : MethodName := ⟨"BusCrossbar$Port", "begin", "()V"⟩
theorem mf_Port_begin {w : jw_T} (hw : jok w) : jmf w M_Port_begin y_Port_begin := ⟨rfl, rfl, Or.inr ⟨rfl, tb4 hw (i := 151) rfl⟩, in_Port hw, plainFor_of_name pn_Port, nh_Port⟩
def M_Master_tell : jm_T := ("BusCrossbar$Master", "tell", prog_4_method_7_code, 3, none, [], 2, 48)
abbrev y_Master_tell : MethodName := ⟨"BusCrossbar$Master", "tell", "(LBusCrossbar$Port;I)V"⟩
theorem mf_Master_tell {w : jw_T} (hw : jok w) : jmf w M_Master_tell y_Master_tell := ⟨rfl, rfl, Or.inr ⟨rfl, tb4 hw (i := 155) rfl⟩, in_Master hw, plainFor_of_name pn_Master, nh_Master⟩
def M_Master_at : jm_T := ("BusCrossbar$Master", "at", prog_4_method_6_code, 3, (some (.object "BusCrossbar$Request")), [], 0, 0)
abbrev y_Master_at : MethodName := ⟨"BusCrossbar$Master", "at", "([LBusCrossbar$Request;II)LBusCrossbar$Request;"⟩
theorem mf_Master_at {w : jw_T} (hw : jok w) : jmf w M_Master_at y_Master_at := ⟨rfl, rfl, Or.inr ⟨rfl, tb4 hw (i := 158) rfl⟩, in_Master hw, plainFor_of_name pn_Master, nh_Master⟩
def M_Master_tellAddress : jm_T := ("BusCrossbar$Master", "tellAddress", prog_4_method_8_code, 5, none, [], 1, 24)
abbrev y_Master_tellAddress : MethodName := ⟨"BusCrossbar$Master", "tellAddress", "(LBusCrossbar$Port;ILBusCrossbar$Request;I)V"⟩
theorem mf_Master_tellAddress {w : jw_T} (hw : jok w) : jmf w M_Master_tellAddress y_Master_tellAddress := ⟨rfl, rfl, Or.inr ⟨rfl, tb4 hw (i := 162) rfl⟩, in_Master hw, plainFor_of_name pn_Master, nh_Master⟩
def M_Bus_isOn : jm_T := ("BusCrossbar", "isOn", prog_1_method_37_code, 2, (some .boolean), [], 0, 0)
abbrev y_Bus_isOn : MethodName := ⟨"BusCrossbar", "isOn", "(II)Z"⟩
theorem mf_Bus_isOn {w : jw_T} (hw : jok w) : jmf w M_Bus_isOn y_Bus_isOn := ⟨rfl, rfl, Or.inr ⟨rfl, tb4 hw (i := 165) rfl⟩, in_Bus hw, plainFor_of_name pn_Bus, nh_Bus⟩
def M_Port_send : jm_T := ("BusCrossbar$Port", "send", prog_7_method_6_code, 5, none, [], 0, 0)
abbrev y_Port_send : MethodName := ⟨"BusCrossbar$Port", "send", "(IJI)V"⟩
theorem mf_Port_send {w : jw_T} (hw : jok w) : jmf w M_Port_send y_Port_send := ⟨rfl, rfl, Or.inr ⟨rfl, tb4 hw (i := 169) rfl⟩, in_Port hw, plainFor_of_name pn_Port, nh_Port⟩
def M_Master_tellData : jm_T := ("BusCrossbar$Master", "tellData", prog_4_method_9_code, 5, none, [], 1, 24)
abbrev y_Master_tellData : MethodName := ⟨"BusCrossbar$Master", "tellData", "(LBusCrossbar$Port;LBusCrossbar$Request;I)V"⟩
theorem mf_Master_tellData {w : jw_T} (hw : jok w) : jmf w M_Master_tellData y_Master_tellData := ⟨rfl, rfl, Or.inr ⟨rfl, tb4 hw (i := 173) rfl⟩, in_Master hw, plainFor_of_name pn_Master, nh_Master⟩
def M_Switch_tellMaster : jm_T := ("BusCrossbar$Switch", "tellMaster", prog_11_method_9_code, 4, none, [], 2, 47)
abbrev y_Switch_tellMaster : MethodName := ⟨"BusCrossbar$Switch", "tellMaster", "(LBusCrossbar$Port;I)V"⟩
theorem mf_Switch_tellMaster {w : jw_T} (hw : jok w) : jmf w M_Switch_tellMaster y_Switch_tellMaster := ⟨rfl, rfl, Or.inr ⟨rfl, tb4 hw (i := 177) rfl⟩, in_Switch hw, plainFor_of_name pn_Switch, nh_Switch⟩
def M_Switch_ofMaster : jm_T := ("BusCrossbar$Switch", "ofMaster", prog_11_method_7_code, 3, (some (.object "BusCrossbar$Row")), [], 0, 0)
abbrev y_Switch_ofMaster : MethodName := ⟨"BusCrossbar$Switch", "ofMaster", "(II)LBusCrossbar$Row;"⟩
theorem mf_Switch_ofMaster {w : jw_T} (hw : jok w) : jmf w M_Switch_ofMaster y_Switch_ofMaster := ⟨rfl, rfl, Or.inr ⟨rfl, tb4 hw (i := 181) rfl⟩, in_Switch hw, plainFor_of_name pn_Switch, nh_Switch⟩
def M_Bus_toSlave : jm_T := ("BusCrossbar", "toSlave", prog_1_method_38_code, 1, (some .boolean), [], 0, 0)
abbrev y_Bus_toSlave : MethodName := ⟨"BusCrossbar", "toSlave", "(I)Z"⟩
theorem mf_Bus_toSlave {w : jw_T} (hw : jok w) : jmf w M_Bus_toSlave y_Bus_toSlave := ⟨rfl, rfl, Or.inr ⟨rfl, tb4 hw (i := 184) rfl⟩, in_Bus hw, plainFor_of_name pn_Bus, nh_Bus⟩
def M_Switch_tellRow : jm_T := ("BusCrossbar$Switch", "tellRow", prog_11_method_11_code, 4, none, [], 1, 24)
abbrev y_Switch_tellRow : MethodName := ⟨"BusCrossbar$Switch", "tellRow", "(LBusCrossbar$Port;ILBusCrossbar$Row;Z)V"⟩
theorem mf_Switch_tellRow {w : jw_T} (hw : jok w) : jmf w M_Switch_tellRow y_Switch_tellRow := ⟨rfl, rfl, Or.inr ⟨rfl, tb4 hw (i := 187) rfl⟩, in_Switch hw, plainFor_of_name pn_Switch, nh_Switch⟩
def M_Row_hasRoom : jm_T := ("BusCrossbar$Row", "hasRoom", prog_9_method_2_code, 1, (some .boolean), [], 0, 0)
abbrev y_Row_hasRoom : MethodName := ⟨"BusCrossbar$Row", "hasRoom", "()Z"⟩
theorem mf_Row_hasRoom {w : jw_T} (hw : jok w) : jmf w M_Row_hasRoom y_Row_hasRoom := ⟨rfl, rfl, Or.inr ⟨rfl, tb4 hw (i := 191) rfl⟩, in_Row hw, plainFor_of_name pn_Row, nh_Row⟩
def M_Row_holds : jm_T := ("BusCrossbar$Row", "holds", prog_9_method_3_code, 1, (some .boolean), [], 0, 0)
abbrev y_Row_holds : MethodName := ⟨"BusCrossbar$Row", "holds", "()Z"⟩
theorem mf_Row_holds {w : jw_T} (hw : jok w) : jmf w M_Row_holds y_Row_holds := ⟨rfl, rfl, Or.inr ⟨rfl, tb4 hw (i := 195) rfl⟩, in_Row hw, plainFor_of_name pn_Row, nh_Row⟩
def M_Row_firstContent : jm_T := ("BusCrossbar$Row", "firstContent", prog_9_method_6_code, 1, (some .long), [], 0, 0)
abbrev y_Row_firstContent : MethodName := ⟨"BusCrossbar$Row", "firstContent", "()J"⟩
theorem mf_Row_firstContent {w : jw_T} (hw : jok w) : jmf w M_Row_firstContent y_Row_firstContent := ⟨rfl, rfl, Or.inr ⟨rfl, tb4 hw (i := 199) rfl⟩, in_Row hw, plainFor_of_name pn_Row, nh_Row⟩
def M_Row_firstRest : jm_T := ("BusCrossbar$Row", "firstRest", prog_9_method_7_code, 1, (some .int), [], 0, 0)
abbrev y_Row_firstRest : MethodName := ⟨"BusCrossbar$Row", "firstRest", "()I"⟩
theorem mf_Row_firstRest {w : jw_T} (hw : jok w) : jmf w M_Row_firstRest y_Row_firstRest := ⟨rfl, rfl, Or.inr ⟨rfl, tb4 hw (i := 203) rfl⟩, in_Row hw, plainFor_of_name pn_Row, nh_Row⟩
def M_Monitor_look : jm_T := ("BusCrossbar$Monitor", "look", prog_6_method_4_code, 3, none, [], 5, 123)
abbrev y_Monitor_look : MethodName := ⟨"BusCrossbar$Monitor", "look", "(LBusCrossbar$Port;)V"⟩
theorem mf_Monitor_look {w : jw_T} (hw : jok w) : jmf w M_Monitor_look y_Monitor_look := ⟨rfl, rfl, Or.inr ⟨rfl, tb4 hw (i := 208) rfl⟩, in_Monitor hw, plainFor_of_name pn_Monitor, nh_Monitor⟩
def M_Monitor_brokenOn : jm_T := ("BusCrossbar$Monitor", "brokenOn", prog_6_method_7_code, 3, (some .int), [], 3, 67)
abbrev y_Monitor_brokenOn : MethodName := ⟨"BusCrossbar$Monitor", "brokenOn", "(LBusCrossbar$Port;I)I"⟩
theorem mf_Monitor_brokenOn {w : jw_T} (hw : jok w) : jmf w M_Monitor_brokenOn y_Monitor_brokenOn := ⟨rfl, rfl, Or.inr ⟨rfl, tb4 hw (i := 212) rfl⟩, in_Monitor hw, plainFor_of_name pn_Monitor, nh_Monitor⟩
def M_Monitor_brokenHeld : jm_T := ("BusCrossbar$Monitor", "brokenHeld", prog_6_method_8_code, 4, (some .int), [], 0, 0)
abbrev y_Monitor_brokenHeld : MethodName := ⟨"BusCrossbar$Monitor", "brokenHeld", "(LBusCrossbar$Port;I)I"⟩
theorem mf_Monitor_brokenHeld {w : jw_T} (hw : jok w) : jmf w M_Monitor_brokenHeld y_Monitor_brokenHeld := ⟨rfl, rfl, Or.inr ⟨rfl, tb4 hw (i := 216) rfl⟩, in_Monitor hw, plainFor_of_name pn_Monitor, nh_Monitor⟩
def M_Monitor_brokenAnswer : jm_T := ("BusCrossbar$Monitor", "brokenAnswer", prog_6_method_9_code, 3, (some .int), [], 2, 44)
abbrev y_Monitor_brokenAnswer : MethodName := ⟨"BusCrossbar$Monitor", "brokenAnswer", "(I)I"⟩
theorem mf_Monitor_brokenAnswer {w : jw_T} (hw : jok w) : jmf w M_Monitor_brokenAnswer y_Monitor_brokenAnswer := ⟨rfl, rfl, Or.inr ⟨rfl, tb4 hw (i := 221) rfl⟩, in_Monitor hw, plainFor_of_name pn_Monitor, nh_Monitor⟩
def M_Bus_restId : jm_T := ("BusCrossbar", "restId", prog_1_method_39_code, 1, (some .int), [], 0, 0)
abbrev y_Bus_restId : MethodName := ⟨"BusCrossbar", "restId", "(I)I"⟩
theorem mf_Bus_restId {w : jw_T} (hw : jok w) : jmf w M_Bus_restId y_Bus_restId := ⟨rfl, rfl, Or.inr ⟨rfl, tb4 hw (i := 224) rfl⟩, in_Bus hw, plainFor_of_name pn_Bus, nh_Bus⟩
def M_Line_firstAnswerable : jm_T := ("BusCrossbar$Line", "firstAnswerable", prog_3_method_7_code, 4, (some .int), [], 1, 21)
abbrev y_Line_firstAnswerable : MethodName := ⟨"BusCrossbar$Line", "firstAnswerable", "(I)I"⟩
theorem mf_Line_firstAnswerable {w : jw_T} (hw : jok w) : jmf w M_Line_firstAnswerable y_Line_firstAnswerable := ⟨rfl, rfl, Or.inr ⟨rfl, tb4 hw (i := 228) rfl⟩, in_Line hw, plainFor_of_name pn_Line, nh_Line⟩
def M_Burst_idOf : jm_T := ("BusCrossbar$Burst", "idOf", prog_2_method_4_code, 2, (some .int), [], 0, 0)
abbrev y_Burst_idOf : MethodName := ⟨"BusCrossbar$Burst", "idOf", "(J)I"⟩
theorem mf_Burst_idOf {w : jw_T} (hw : jok w) : jmf w M_Burst_idOf y_Burst_idOf := ⟨rfl, rfl, Or.inr ⟨rfl, tb4 hw (i := 231) rfl⟩, in_Burst hw, plainFor_of_name pn_Burst, nh_Burst⟩
def M_Line_at : jm_T := ("BusCrossbar$Line", "at", prog_3_method_4_code, 2, (some (.object "BusCrossbar$Burst")), [], 0, 0)
abbrev y_Line_at : MethodName := ⟨"BusCrossbar$Line", "at", "(I)LBusCrossbar$Burst;"⟩
theorem mf_Line_at {w : jw_T} (hw : jok w) : jmf w M_Line_at y_Line_at := ⟨rfl, rfl, Or.inr ⟨rfl, tb4 hw (i := 235) rfl⟩, in_Line hw, plainFor_of_name pn_Line, nh_Line⟩
def M_Monitor_brokenResponse : jm_T := ("BusCrossbar$Monitor", "brokenResponse", prog_6_method_11_code, 3, (some .int), [], 1, 21)
abbrev y_Monitor_brokenResponse : MethodName := ⟨"BusCrossbar$Monitor", "brokenResponse", "(ILBusCrossbar$Burst;)I"⟩
theorem mf_Monitor_brokenResponse {w : jw_T} (hw : jok w) : jmf w M_Monitor_brokenResponse y_Monitor_brokenResponse := ⟨rfl, rfl, Or.inr ⟨rfl, tb4 hw (i := 238) rfl⟩, in_Monitor hw, plainFor_of_name pn_Monitor, nh_Monitor⟩
def M_Bus_restResponse : jm_T := ("BusCrossbar", "restResponse", prog_1_method_40_code, 1, (some .int), [], 0, 0)
abbrev y_Bus_restResponse : MethodName := ⟨"BusCrossbar", "restResponse", "(I)I"⟩
theorem mf_Bus_restResponse {w : jw_T} (hw : jok w) : jmf w M_Bus_restResponse y_Bus_restResponse := ⟨rfl, rfl, Or.inr ⟨rfl, tb5 hw (i := 1) rfl⟩, in_Bus hw, plainFor_of_name pn_Bus, nh_Bus⟩
def M_Monitor_brokenReadBeat : jm_T := ("BusCrossbar$Monitor", "brokenReadBeat", prog_6_method_10_code, 4, (some .int), [], 2, 43)
abbrev y_Monitor_brokenReadBeat : MethodName := ⟨"BusCrossbar$Monitor", "brokenReadBeat", "(I)I"⟩
theorem mf_Monitor_brokenReadBeat {w : jw_T} (hw : jok w) : jmf w M_Monitor_brokenReadBeat y_Monitor_brokenReadBeat := ⟨rfl, rfl, Or.inr ⟨rfl, tb5 hw (i := 6) rfl⟩, in_Monitor hw, plainFor_of_name pn_Monitor, nh_Monitor⟩
def M_Line_firstWithId : jm_T := ("BusCrossbar$Line", "firstWithId", prog_3_method_6_code, 3, (some .int), [], 1, 21)
abbrev y_Line_firstWithId : MethodName := ⟨"BusCrossbar$Line", "firstWithId", "(I)I"⟩
theorem mf_Line_firstWithId {w : jw_T} (hw : jok w) : jmf w M_Line_firstWithId y_Line_firstWithId := ⟨rfl, rfl, Or.inr ⟨rfl, tb5 hw (i := 10) rfl⟩, in_Line hw, plainFor_of_name pn_Line, nh_Line⟩
def M_Bus_restLast : jm_T := ("BusCrossbar", "restLast", prog_1_method_41_code, 1, (some .boolean), [], 0, 0)
abbrev y_Bus_restLast : MethodName := ⟨"BusCrossbar", "restLast", "(I)Z"⟩
theorem mf_Bus_restLast {w : jw_T} (hw : jok w) : jmf w M_Bus_restLast y_Bus_restLast := ⟨rfl, rfl, Or.inr ⟨rfl, tb5 hw (i := 14) rfl⟩, in_Bus hw, plainFor_of_name pn_Bus, nh_Bus⟩
def M_Monitor_note : jm_T := ("BusCrossbar$Monitor", "note", prog_6_method_6_code, 3, none, [], 0, 0)
abbrev y_Monitor_note : MethodName := ⟨"BusCrossbar$Monitor", "note", "(II)V"⟩
theorem mf_Monitor_note {w : jw_T} (hw : jok w) : jmf w M_Monitor_note y_Monitor_note := ⟨rfl, rfl, Or.inr ⟨rfl, tb5 hw (i := 18) rfl⟩, in_Monitor hw, plainFor_of_name pn_Monitor, nh_Monitor⟩
def M_Monitor_takeAnswers : jm_T := ("BusCrossbar$Monitor", "takeAnswers", prog_6_method_12_code, 2, none, [], 3, 66)
abbrev y_Monitor_takeAnswers : MethodName := ⟨"BusCrossbar$Monitor", "takeAnswers", "(LBusCrossbar$Port;)V"⟩
theorem mf_Monitor_takeAnswers {w : jw_T} (hw : jok w) : jmf w M_Monitor_takeAnswers y_Monitor_takeAnswers := ⟨rfl, rfl, Or.inr ⟨rfl, tb5 hw (i := 22) rfl⟩, in_Monitor hw, plainFor_of_name pn_Monitor, nh_Monitor⟩
def M_Port_moves : jm_T := ("BusCrossbar$Port", "moves", prog_7_method_7_code, 2, (some .boolean), [], 0, 0)
abbrev y_Port_moves : MethodName := ⟨"BusCrossbar$Port", "moves", "(I)Z"⟩
theorem mf_Port_moves {w : jw_T} (hw : jok w) : jmf w M_Port_moves y_Port_moves := ⟨rfl, rfl, Or.inr ⟨rfl, tb5 hw (i := 26) rfl⟩, in_Port hw, plainFor_of_name pn_Port, nh_Port⟩
def M_Line_remove : jm_T := ("BusCrossbar$Line", "remove", prog_3_method_5_code, 4, none, [], 0, 0)
abbrev y_Line_remove : MethodName := ⟨"BusCrossbar$Line", "remove", "(I)V"⟩
theorem mf_Line_remove {w : jw_T} (hw : jok w) : jmf w M_Line_remove y_Line_remove := ⟨rfl, rfl, Or.inr ⟨rfl, tb5 hw (i := 30) rfl⟩, in_Line hw, plainFor_of_name pn_Line, nh_Line⟩
def M_Monitor_takeReadBeat : jm_T := ("BusCrossbar$Monitor", "takeReadBeat", prog_6_method_13_code, 4, none, [], 2, 43)
abbrev y_Monitor_takeReadBeat : MethodName := ⟨"BusCrossbar$Monitor", "takeReadBeat", "(I)V"⟩
theorem mf_Monitor_takeReadBeat {w : jw_T} (hw : jok w) : jmf w M_Monitor_takeReadBeat y_Monitor_takeReadBeat := ⟨rfl, rfl, Or.inr ⟨rfl, tb5 hw (i := 34) rfl⟩, in_Monitor hw, plainFor_of_name pn_Monitor, nh_Monitor⟩
def M_Line_add : jm_T := ("BusCrossbar$Line", "add", prog_3_method_3_code, 4, (some (.object "BusCrossbar$Burst")), [], 1, 22)
abbrev y_Line_add : MethodName := ⟨"BusCrossbar$Line", "add", "(J)LBusCrossbar$Burst;"⟩
theorem mf_Line_add {w : jw_T} (hw : jok w) : jmf w M_Line_add y_Line_add := ⟨rfl, rfl, Or.inr ⟨rfl, tb5 hw (i := 38) rfl⟩, in_Line hw, plainFor_of_name pn_Line, nh_Line⟩
def M_Line_hasRoom : jm_T := ("BusCrossbar$Line", "hasRoom", prog_3_method_2_code, 1, (some .boolean), [], 0, 0)
abbrev y_Line_hasRoom : MethodName := ⟨"BusCrossbar$Line", "hasRoom", "()Z"⟩
theorem mf_Line_hasRoom {w : jw_T} (hw : jok w) : jmf w M_Line_hasRoom y_Line_hasRoom := ⟨rfl, rfl, Or.inr ⟨rfl, tb5 hw (i := 42) rfl⟩, in_Line hw, plainFor_of_name pn_Line, nh_Line⟩
def M_Monitor_takeWriteAddress : jm_T := ("BusCrossbar$Monitor", "takeWriteAddress", prog_6_method_14_code, 6, (some .int), [], 4, 98)
abbrev y_Monitor_takeWriteAddress : MethodName := ⟨"BusCrossbar$Monitor", "takeWriteAddress", "(J)I"⟩
theorem mf_Monitor_takeWriteAddress {w : jw_T} (hw : jok w) : jmf w M_Monitor_takeWriteAddress y_Monitor_takeWriteAddress := ⟨rfl, rfl, Or.inr ⟨rfl, tb5 hw (i := 47) rfl⟩, in_Monitor hw, plainFor_of_name pn_Monitor, nh_Monitor⟩
def M_Line_firstUnaddressed : jm_T := ("BusCrossbar$Line", "firstUnaddressed", prog_3_method_8_code, 2, (some .int), [], 0, 0)
abbrev y_Line_firstUnaddressed : MethodName := ⟨"BusCrossbar$Line", "firstUnaddressed", "()I"⟩
theorem mf_Line_firstUnaddressed {w : jw_T} (hw : jok w) : jmf w M_Line_firstUnaddressed y_Line_firstUnaddressed := ⟨rfl, rfl, Or.inr ⟨rfl, tb5 hw (i := 51) rfl⟩, in_Line hw, plainFor_of_name pn_Line, nh_Line⟩
def M_Monitor_brokenWriteBeat : jm_T := ("BusCrossbar$Monitor", "brokenWriteBeat", prog_6_method_16_code, 5, (some .int), [], 3, 74)
abbrev y_Monitor_brokenWriteBeat : MethodName := ⟨"BusCrossbar$Monitor", "brokenWriteBeat", "(LBusCrossbar$Burst;I)I"⟩
theorem mf_Monitor_brokenWriteBeat {w : jw_T} (hw : jok w) : jmf w M_Monitor_brokenWriteBeat y_Monitor_brokenWriteBeat := ⟨rfl, rfl, Or.inr ⟨rfl, tb5 hw (i := 54) rfl⟩, in_Monitor hw, plainFor_of_name pn_Monitor, nh_Monitor⟩
def M_Monitor_takeWriteBeat : jm_T := ("BusCrossbar$Monitor", "takeWriteBeat", prog_6_method_15_code, 3, (some .int), [], 4, 98)
abbrev y_Monitor_takeWriteBeat : MethodName := ⟨"BusCrossbar$Monitor", "takeWriteBeat", "(I)I"⟩
theorem mf_Monitor_takeWriteBeat {w : jw_T} (hw : jok w) : jmf w M_Monitor_takeWriteBeat y_Monitor_takeWriteBeat := ⟨rfl, rfl, Or.inr ⟨rfl, tb5 hw (i := 59) rfl⟩, in_Monitor hw, plainFor_of_name pn_Monitor, nh_Monitor⟩
def M_Line_firstUnended : jm_T := ("BusCrossbar$Line", "firstUnended", prog_3_method_9_code, 2, (some .int), [], 0, 0)
abbrev y_Line_firstUnended : MethodName := ⟨"BusCrossbar$Line", "firstUnended", "()I"⟩
theorem mf_Line_firstUnended {w : jw_T} (hw : jok w) : jmf w M_Line_firstUnended y_Line_firstUnended := ⟨rfl, rfl, Or.inr ⟨rfl, tb5 hw (i := 63) rfl⟩, in_Line hw, plainFor_of_name pn_Line, nh_Line⟩
def M_Burst_takeBeat : jm_T := ("BusCrossbar$Burst", "takeBeat", prog_2_method_18_code, 4, none, [], 0, 0)
abbrev y_Burst_takeBeat : MethodName := ⟨"BusCrossbar$Burst", "takeBeat", "(JI)V"⟩
theorem mf_Burst_takeBeat {w : jw_T} (hw : jok w) : jmf w M_Burst_takeBeat y_Burst_takeBeat := ⟨rfl, rfl, Or.inr ⟨rfl, tb5 hw (i := 67) rfl⟩, in_Burst hw, plainFor_of_name pn_Burst, nh_Burst⟩
def M_Monitor_remember : jm_T := ("BusCrossbar$Monitor", "remember", prog_6_method_5_code, 3, none, [], 0, 0)
abbrev y_Monitor_remember : MethodName := ⟨"BusCrossbar$Monitor", "remember", "(LBusCrossbar$Port;)V"⟩
theorem mf_Monitor_remember {w : jw_T} (hw : jok w) : jmf w M_Monitor_remember y_Monitor_remember := ⟨rfl, rfl, Or.inr ⟨rfl, tb5 hw (i := 71) rfl⟩, in_Monitor hw, plainFor_of_name pn_Monitor, nh_Monitor⟩
def M_Slave_tell : jm_T := ("BusCrossbar$Slave", "tell", prog_10_method_3_code, 3, none, [], 5, 115)
abbrev y_Slave_tell : MethodName := ⟨"BusCrossbar$Slave", "tell", "(LBusCrossbar$Port;I)V"⟩
theorem mf_Slave_tell {w : jw_T} (hw : jok w) : jmf w M_Slave_tell y_Slave_tell := ⟨rfl, rfl, Or.inr ⟨rfl, tb5 hw (i := 75) rfl⟩, in_Slave hw, plainFor_of_name pn_Slave, nh_Slave⟩
def M_Slave_choose : jm_T := ("BusCrossbar$Slave", "choose", prog_10_method_6_code, 4, (some .int), [], 4, 92)
abbrev y_Slave_choose : MethodName := ⟨"BusCrossbar$Slave", "choose", "(LBusCrossbar$Line;ZI)I"⟩
theorem mf_Slave_choose {w : jw_T} (hw : jok w) : jmf w M_Slave_choose y_Slave_choose := ⟨rfl, rfl, Or.inr ⟨rfl, tb5 hw (i := 82) rfl⟩, in_Slave hw, plainFor_of_name pn_Slave, nh_Slave⟩
def M_Slave_isRipe : jm_T := ("BusCrossbar$Slave", "isRipe", prog_10_method_10_code, 3, (some .boolean), [], 0, 0)
abbrev y_Slave_isRipe : MethodName := ⟨"BusCrossbar$Slave", "isRipe", "(LBusCrossbar$Burst;I)Z"⟩
theorem mf_Slave_isRipe {w : jw_T} (hw : jok w) : jmf w M_Slave_isRipe y_Slave_isRipe := ⟨rfl, rfl, Or.inr ⟨rfl, tb5 hw (i := 87) rfl⟩, in_Slave hw, plainFor_of_name pn_Slave, nh_Slave⟩
def M_Slave_chooseNext : jm_T := ("BusCrossbar$Slave", "chooseNext", prog_10_method_8_code, 4, (some .int), [], 3, 67)
abbrev y_Slave_chooseNext : MethodName := ⟨"BusCrossbar$Slave", "chooseNext", "(I)I"⟩
theorem mf_Slave_chooseNext {w : jw_T} (hw : jok w) : jmf w M_Slave_chooseNext y_Slave_chooseNext := ⟨rfl, rfl, Or.inr ⟨rfl, tb5 hw (i := 91) rfl⟩, in_Slave hw, plainFor_of_name pn_Slave, nh_Slave⟩
def M_Slave_mayAnswer : jm_T := ("BusCrossbar$Slave", "mayAnswer", prog_10_method_9_code, 5, (some .boolean), [], 2, 43)
abbrev y_Slave_mayAnswer : MethodName := ⟨"BusCrossbar$Slave", "mayAnswer", "(LBusCrossbar$Line;II)Z"⟩
theorem mf_Slave_mayAnswer {w : jw_T} (hw : jok w) : jmf w M_Slave_mayAnswer y_Slave_mayAnswer := ⟨rfl, rfl, Or.inr ⟨rfl, tb5 hw (i := 95) rfl⟩, in_Slave hw, plainFor_of_name pn_Slave, nh_Slave⟩
def M_Slave_chooseLast : jm_T := ("BusCrossbar$Slave", "chooseLast", prog_10_method_7_code, 6, (some .int), [], 3, 67)
abbrev y_Slave_chooseLast : MethodName := ⟨"BusCrossbar$Slave", "chooseLast", "(LBusCrossbar$Line;ZI)I"⟩
theorem mf_Slave_chooseLast {w : jw_T} (hw : jok w) : jmf w M_Slave_chooseLast y_Slave_chooseLast := ⟨rfl, rfl, Or.inr ⟨rfl, tb5 hw (i := 101) rfl⟩, in_Slave hw, plainFor_of_name pn_Slave, nh_Slave⟩
def M_Slave_sendAnswer : jm_T := ("BusCrossbar$Slave", "sendAnswer", prog_10_method_4_code, 2, none, [], 1, 24)
abbrev y_Slave_sendAnswer : MethodName := ⟨"BusCrossbar$Slave", "sendAnswer", "(LBusCrossbar$Port;LBusCrossbar$Burst;)V"⟩
theorem mf_Slave_sendAnswer {w : jw_T} (hw : jok w) : jmf w M_Slave_sendAnswer y_Slave_sendAnswer := ⟨rfl, rfl, Or.inr ⟨rfl, tb5 hw (i := 104) rfl⟩, in_Slave hw, plainFor_of_name pn_Slave, nh_Slave⟩
def M_Bus_answerRest : jm_T := ("BusCrossbar", "answerRest", prog_1_method_42_code, 3, (some .int), [], 0, 0)
abbrev y_Bus_answerRest : MethodName := ⟨"BusCrossbar", "answerRest", "(IIZ)I"⟩
theorem mf_Bus_answerRest {w : jw_T} (hw : jok w) : jmf w M_Bus_answerRest y_Bus_answerRest := ⟨rfl, rfl, Or.inr ⟨rfl, tb5 hw (i := 107) rfl⟩, in_Bus hw, plainFor_of_name pn_Bus, nh_Bus⟩
def M_Slave_sendReadBeat : jm_T := ("BusCrossbar$Slave", "sendReadBeat", prog_10_method_5_code, 2, none, [], 1, 24)
abbrev y_Slave_sendReadBeat : MethodName := ⟨"BusCrossbar$Slave", "sendReadBeat", "(LBusCrossbar$Port;LBusCrossbar$Burst;)V"⟩
theorem mf_Slave_sendReadBeat {w : jw_T} (hw : jok w) : jmf w M_Slave_sendReadBeat y_Slave_sendReadBeat := ⟨rfl, rfl, Or.inr ⟨rfl, tb5 hw (i := 111) rfl⟩, in_Slave hw, plainFor_of_name pn_Slave, nh_Slave⟩
def M_Switch_tellSlave : jm_T := ("BusCrossbar$Switch", "tellSlave", prog_11_method_10_code, 4, none, [], 2, 47)
abbrev y_Switch_tellSlave : MethodName := ⟨"BusCrossbar$Switch", "tellSlave", "(LBusCrossbar$Port;I)V"⟩
theorem mf_Switch_tellSlave {w : jw_T} (hw : jok w) : jmf w M_Switch_tellSlave y_Switch_tellSlave := ⟨rfl, rfl, Or.inr ⟨rfl, tb5 hw (i := 115) rfl⟩, in_Switch hw, plainFor_of_name pn_Switch, nh_Switch⟩
def M_Switch_ofTarget : jm_T := ("BusCrossbar$Switch", "ofTarget", prog_11_method_8_code, 3, (some (.object "BusCrossbar$Row")), [], 0, 0)
abbrev y_Switch_ofTarget : MethodName := ⟨"BusCrossbar$Switch", "ofTarget", "(II)LBusCrossbar$Row;"⟩
theorem mf_Switch_ofTarget {w : jw_T} (hw : jok w) : jmf w M_Switch_ofTarget y_Switch_ofTarget := ⟨rfl, rfl, Or.inr ⟨rfl, tb5 hw (i := 119) rfl⟩, in_Switch hw, plainFor_of_name pn_Switch, nh_Switch⟩
def M_Bus_goOver : jm_T := ("BusCrossbar", "goOver", prog_1_method_29_code, 4, (some .int), [], 5, 128)
abbrev y_Bus_goOver : MethodName := ⟨"BusCrossbar", "goOver", "()I"⟩
theorem mf_Bus_goOver {w : jw_T} (hw : jok w) : jmf w M_Bus_goOver y_Bus_goOver := ⟨rfl, rfl, Or.inr ⟨rfl, tb5 hw (i := 123) rfl⟩, in_Bus hw, plainFor_of_name pn_Bus, nh_Bus⟩
def M_Switch_passMaster : jm_T := ("BusCrossbar$Switch", "passMaster", prog_11_method_12_code, 5, none, [], 3, 68)
abbrev y_Switch_passMaster : MethodName := ⟨"BusCrossbar$Switch", "passMaster", "(LBusCrossbar$Port;III)V"⟩
theorem mf_Switch_passMaster {w : jw_T} (hw : jok w) : jmf w M_Switch_passMaster y_Switch_passMaster := ⟨rfl, rfl, Or.inr ⟨rfl, tb5 hw (i := 128) rfl⟩, in_Switch hw, plainFor_of_name pn_Switch, nh_Switch⟩
def M_Switch_passRow : jm_T := ("BusCrossbar$Switch", "passRow", prog_11_method_14_code, 5, none, [], 2, 44)
abbrev y_Switch_passRow : MethodName := ⟨"BusCrossbar$Switch", "passRow", "(LBusCrossbar$Port;ILBusCrossbar$Row;ZI)V"⟩
theorem mf_Switch_passRow {w : jw_T} (hw : jok w) : jmf w M_Switch_passRow y_Switch_passRow := ⟨rfl, rfl, Or.inr ⟨rfl, tb5 hw (i := 131) rfl⟩, in_Switch hw, plainFor_of_name pn_Switch, nh_Switch⟩
def M_Row_put : jm_T := ("BusCrossbar$Row", "put", prog_9_method_4_code, 5, none, [], 1, 20)
abbrev y_Row_put : MethodName := ⟨"BusCrossbar$Row", "put", "(JII)V"⟩
theorem mf_Row_put {w : jw_T} (hw : jok w) : jmf w M_Row_put y_Row_put := ⟨rfl, rfl, Or.inr ⟨rfl, tb5 hw (i := 135) rfl⟩, in_Row hw, plainFor_of_name pn_Row, nh_Row⟩
def M_Row_drop : jm_T := ("BusCrossbar$Row", "drop", prog_9_method_5_code, 2, none, [], 0, 0)
abbrev y_Row_drop : MethodName := ⟨"BusCrossbar$Row", "drop", "()V"⟩
theorem mf_Row_drop {w : jw_T} (hw : jok w) : jmf w M_Row_drop y_Row_drop := ⟨rfl, rfl, Or.inr ⟨rfl, tb5 hw (i := 140) rfl⟩, in_Row hw, plainFor_of_name pn_Row, nh_Row⟩
def M_Master_pass : jm_T := ("BusCrossbar$Master", "pass", prog_4_method_10_code, 4, none, [], 2, 46)
abbrev y_Master_pass : MethodName := ⟨"BusCrossbar$Master", "pass", "(LBusCrossbar$Port;II)V"⟩
theorem mf_Master_pass {w : jw_T} (hw : jok w) : jmf w M_Master_pass y_Master_pass := ⟨rfl, rfl, Or.inr ⟨rfl, tb5 hw (i := 144) rfl⟩, in_Master hw, plainFor_of_name pn_Master, nh_Master⟩
def M_Master_stamp : jm_T := ("BusCrossbar$Master", "stamp", prog_4_method_11_code, 2, (some .int), [], 0, 0)
abbrev y_Master_stamp : MethodName := ⟨"BusCrossbar$Master", "stamp", "(LBusCrossbar$Request;I)I"⟩
theorem mf_Master_stamp {w : jw_T} (hw : jok w) : jmf w M_Master_stamp y_Master_stamp := ⟨rfl, rfl, Or.inr ⟨rfl, tb5 hw (i := 147) rfl⟩, in_Master hw, plainFor_of_name pn_Master, nh_Master⟩
def M_Master_feed : jm_T := ("BusCrossbar$Master", "feed", prog_4_method_12_code, 2, none, [], 1, 21)
abbrev y_Master_feed : MethodName := ⟨"BusCrossbar$Master", "feed", "(LBusCrossbar$Request;)V"⟩
theorem mf_Master_feed {w : jw_T} (hw : jok w) : jmf w M_Master_feed y_Master_feed := ⟨rfl, rfl, Or.inr ⟨rfl, tb5 hw (i := 151) rfl⟩, in_Master hw, plainFor_of_name pn_Master, nh_Master⟩
def M_Master_unanswered : jm_T := ("BusCrossbar$Master", "unanswered", prog_4_method_13_code, 5, (some (.object "BusCrossbar$Request")), [], 1, 21)
abbrev y_Master_unanswered : MethodName := ⟨"BusCrossbar$Master", "unanswered", "([LBusCrossbar$Request;II)LBusCrossbar$Request;"⟩
theorem mf_Master_unanswered {w : jw_T} (hw : jok w) : jmf w M_Master_unanswered y_Master_unanswered := ⟨rfl, rfl, Or.inr ⟨rfl, tb5 hw (i := 156) rfl⟩, in_Master hw, plainFor_of_name pn_Master, nh_Master⟩
def M_Master_takeAnswer : jm_T := ("BusCrossbar$Master", "takeAnswer", prog_4_method_14_code, 4, none, [], 1, 22)
abbrev y_Master_takeAnswer : MethodName := ⟨"BusCrossbar$Master", "takeAnswer", "(LBusCrossbar$Request;II)V"⟩
theorem mf_Master_takeAnswer {w : jw_T} (hw : jok w) : jmf w M_Master_takeAnswer y_Master_takeAnswer := ⟨rfl, rfl, Or.inr ⟨rfl, tb5 hw (i := 161) rfl⟩, in_Master hw, plainFor_of_name pn_Master, nh_Master⟩
def M_Master_finish : jm_T := ("BusCrossbar$Master", "finish", prog_4_method_16_code, 3, none, [], 0, 0)
abbrev y_Master_finish : MethodName := ⟨"BusCrossbar$Master", "finish", "(LBusCrossbar$Request;I)V"⟩
theorem mf_Master_finish {w : jw_T} (hw : jok w) : jmf w M_Master_finish y_Master_finish := ⟨rfl, rfl, Or.inr ⟨rfl, tb5 hw (i := 166) rfl⟩, in_Master hw, plainFor_of_name pn_Master, nh_Master⟩
def M_Master_takeBeat : jm_T := ("BusCrossbar$Master", "takeBeat", prog_4_method_15_code, 4, none, [], 1, 23)
abbrev y_Master_takeBeat : MethodName := ⟨"BusCrossbar$Master", "takeBeat", "(LBusCrossbar$Request;LBusCrossbar$Port;I)V"⟩
theorem mf_Master_takeBeat {w : jw_T} (hw : jok w) : jmf w M_Master_takeBeat y_Master_takeBeat := ⟨rfl, rfl, Or.inr ⟨rfl, tb5 hw (i := 170) rfl⟩, in_Master hw, plainFor_of_name pn_Master, nh_Master⟩
def M_Port_count : jm_T := ("BusCrossbar$Port", "count", prog_7_method_8_code, 2, (some .int), [], 0, 0)
abbrev y_Port_count : MethodName := ⟨"BusCrossbar$Port", "count", "(I)I"⟩
theorem mf_Port_count {w : jw_T} (hw : jok w) : jmf w M_Port_count y_Port_count := ⟨rfl, rfl, Or.inr ⟨rfl, tb5 hw (i := 176) rfl⟩, in_Port hw, plainFor_of_name pn_Port, nh_Port⟩
def M_Switch_passSlave : jm_T := ("BusCrossbar$Switch", "passSlave", prog_11_method_13_code, 5, none, [], 3, 68)
abbrev y_Switch_passSlave : MethodName := ⟨"BusCrossbar$Switch", "passSlave", "(LBusCrossbar$Port;III)V"⟩
theorem mf_Switch_passSlave {w : jw_T} (hw : jok w) : jmf w M_Switch_passSlave y_Switch_passSlave := ⟨rfl, rfl, Or.inr ⟨rfl, tb5 hw (i := 180) rfl⟩, in_Switch hw, plainFor_of_name pn_Switch, nh_Switch⟩
def M_Slave_pass : jm_T := ("BusCrossbar$Slave", "pass", prog_10_method_11_code, 4, none, [], 4, 105)
abbrev y_Slave_pass : MethodName := ⟨"BusCrossbar$Slave", "pass", "(LBusCrossbar$Port;II)V"⟩
theorem mf_Slave_pass {w : jw_T} (hw : jok w) : jmf w M_Slave_pass y_Slave_pass := ⟨rfl, rfl, Or.inr ⟨rfl, tb5 hw (i := 184) rfl⟩, in_Slave hw, plainFor_of_name pn_Slave, nh_Slave⟩
def M_Slave_takeBeat : jm_T := ("BusCrossbar$Slave", "takeBeat", prog_10_method_13_code, 3, (some (.object "BusCrossbar$Burst")), [], 1, 23)
abbrev y_Slave_takeBeat : MethodName := ⟨"BusCrossbar$Slave", "takeBeat", "(LBusCrossbar$Burst;LBusCrossbar$Port;I)LBusCrossbar$Burst;"⟩
theorem mf_Slave_takeBeat {w : jw_T} (hw : jok w) : jmf w M_Slave_takeBeat y_Slave_takeBeat := ⟨rfl, rfl, Or.inr ⟨rfl, tb5 hw (i := 188) rfl⟩, in_Slave hw, plainFor_of_name pn_Slave, nh_Slave⟩
def M_Slave_doWrite : jm_T := ("BusCrossbar$Slave", "doWrite", prog_10_method_14_code, 4, none, [], 3, 74)
abbrev y_Slave_doWrite : MethodName := ⟨"BusCrossbar$Slave", "doWrite", "(LBusCrossbar$Burst;)V"⟩
theorem mf_Slave_doWrite {w : jw_T} (hw : jok w) : jmf w M_Slave_doWrite y_Slave_doWrite := ⟨rfl, rfl, Or.inr ⟨rfl, tb5 hw (i := 194) rfl⟩, in_Slave hw, plainFor_of_name pn_Slave, nh_Slave⟩
def M_Slave_hasRight : jm_T := ("BusCrossbar$Slave", "hasRight", prog_10_method_15_code, 4, (some .boolean), [], 2, 42)
abbrev y_Slave_hasRight : MethodName := ⟨"BusCrossbar$Slave", "hasRight", "(J)Z"⟩
theorem mf_Slave_hasRight {w : jw_T} (hw : jok w) : jmf w M_Slave_hasRight y_Slave_hasRight := ⟨rfl, rfl, Or.inr ⟨rfl, tb5 hw (i := 199) rfl⟩, in_Slave hw, plainFor_of_name pn_Slave, nh_Slave⟩
def M_Slave_rangeOf : jm_T := ("BusCrossbar$Slave", "rangeOf", prog_10_method_16_code, 2, (some .int), [], 1, 21)
abbrev y_Slave_rangeOf : MethodName := ⟨"BusCrossbar$Slave", "rangeOf", "(J)I"⟩
theorem mf_Slave_rangeOf {w : jw_T} (hw : jok w) : jmf w M_Slave_rangeOf y_Slave_rangeOf := ⟨rfl, rfl, Or.inr ⟨rfl, tb5 hw (i := 203) rfl⟩, in_Slave hw, plainFor_of_name pn_Slave, nh_Slave⟩
def M_Slave_writesSpoilt : jm_T := ("BusCrossbar$Slave", "writesSpoilt", prog_10_method_17_code, 3, (some .boolean), [], 2, 48)
abbrev y_Slave_writesSpoilt : MethodName := ⟨"BusCrossbar$Slave", "writesSpoilt", "(LBusCrossbar$Burst;)Z"⟩
theorem mf_Slave_writesSpoilt {w : jw_T} (hw : jok w) : jmf w M_Slave_writesSpoilt y_Slave_writesSpoilt := ⟨rfl, rfl, Or.inr ⟨rfl, tb5 hw (i := 208) rfl⟩, in_Slave hw, plainFor_of_name pn_Slave, nh_Slave⟩
def M_Memory_isSpoilt : jm_T := ("BusCrossbar$Memory", "isSpoilt", prog_5_method_8_code, 3, (some .boolean), [], 1, 20)
abbrev y_Memory_isSpoilt : MethodName := ⟨"BusCrossbar$Memory", "isSpoilt", "(II)Z"⟩
theorem mf_Memory_isSpoilt {w : jw_T} (hw : jok w) : jmf w M_Memory_isSpoilt y_Memory_isSpoilt := ⟨rfl, rfl, Or.inr ⟨rfl, tb5 hw (i := 213) rfl⟩, in_Memory hw, plainFor_of_name pn_Memory, nh_Memory⟩
def M_Slave_storeBeats : jm_T := ("BusCrossbar$Slave", "storeBeats", prog_10_method_18_code, 5, none, [], 2, 50)
abbrev y_Slave_storeBeats : MethodName := ⟨"BusCrossbar$Slave", "storeBeats", "(LBusCrossbar$Burst;)V"⟩
theorem mf_Slave_storeBeats {w : jw_T} (hw : jok w) : jmf w M_Slave_storeBeats y_Slave_storeBeats := ⟨rfl, rfl, Or.inr ⟨rfl, tb5 hw (i := 217) rfl⟩, in_Slave hw, plainFor_of_name pn_Slave, nh_Slave⟩
def M_Slave_takeRights : jm_T := ("BusCrossbar$Slave", "takeRights", prog_10_method_19_code, 4, none, [], 1, 25)
abbrev y_Slave_takeRights : MethodName := ⟨"BusCrossbar$Slave", "takeRights", "(II)V"⟩
theorem mf_Slave_takeRights {w : jw_T} (hw : jok w) : jmf w M_Slave_takeRights y_Slave_takeRights := ⟨rfl, rfl, Or.inr ⟨rfl, tb5 hw (i := 222) rfl⟩, in_Slave hw, plainFor_of_name pn_Slave, nh_Slave⟩
def M_Slave_meetsRight : jm_T := ("BusCrossbar$Slave", "meetsRight", prog_10_method_20_code, 6, (some .boolean), [], 0, 0)
abbrev y_Slave_meetsRight : MethodName := ⟨"BusCrossbar$Slave", "meetsRight", "(III)Z"⟩
theorem mf_Slave_meetsRight {w : jw_T} (hw : jok w) : jmf w M_Slave_meetsRight y_Slave_meetsRight := ⟨rfl, rfl, Or.inr ⟨rfl, tb5 hw (i := 226) rfl⟩, in_Slave hw, plainFor_of_name pn_Slave, nh_Slave⟩
def M_Slave_doRead : jm_T := ("BusCrossbar$Slave", "doRead", prog_10_method_21_code, 12, none, [], 3, 74)
abbrev y_Slave_doRead : MethodName := ⟨"BusCrossbar$Slave", "doRead", "(LBusCrossbar$Burst;I)V"⟩
theorem mf_Slave_doRead {w : jw_T} (hw : jok w) : jmf w M_Slave_doRead y_Slave_doRead := ⟨rfl, rfl, Or.inr ⟨rfl, tb5 hw (i := 231) rfl⟩, in_Slave hw, plainFor_of_name pn_Slave, nh_Slave⟩
def M_Memory_load : jm_T := ("BusCrossbar$Memory", "load", prog_5_method_6_code, 3, (some .long), [], 1, 23)
abbrev y_Memory_load : MethodName := ⟨"BusCrossbar$Memory", "load", "(II)J"⟩
theorem mf_Memory_load {w : jw_T} (hw : jok w) : jmf w M_Memory_load y_Memory_load := ⟨rfl, rfl, Or.inr ⟨rfl, tb5 hw (i := 236) rfl⟩, in_Memory hw, plainFor_of_name pn_Memory, nh_Memory⟩
def M_Slave_passReadBeat : jm_T := ("BusCrossbar$Slave", "passReadBeat", prog_10_method_12_code, 2, none, [], 1, 23)
abbrev y_Slave_passReadBeat : MethodName := ⟨"BusCrossbar$Slave", "passReadBeat", "(LBusCrossbar$Burst;)V"⟩
theorem mf_Slave_passReadBeat {w : jw_T} (hw : jok w) : jmf w M_Slave_passReadBeat y_Slave_passReadBeat := ⟨rfl, rfl, Or.inr ⟨rfl, tb6 hw (i := 0) rfl⟩, in_Slave hw, plainFor_of_name pn_Slave, nh_Slave⟩
def M_Switch_moveAll : jm_T := ("BusCrossbar$Switch", "moveAll", prog_11_method_15_code, 2, none, [], 5, 125)
abbrev y_Switch_moveAll : MethodName := ⟨"BusCrossbar$Switch", "moveAll", "()V"⟩
theorem mf_Switch_moveAll {w : jw_T} (hw : jok w) : jmf w M_Switch_moveAll y_Switch_moveAll := ⟨rfl, rfl, Or.inr ⟨rfl, tb6 hw (i := 4) rfl⟩, in_Switch hw, plainFor_of_name pn_Switch, nh_Switch⟩
def M_Switch_moveAddress : jm_T := ("BusCrossbar$Switch", "moveAddress", prog_11_method_16_code, 10, none, [], 4, 96)
abbrev y_Switch_moveAddress : MethodName := ⟨"BusCrossbar$Switch", "moveAddress", "(II[I)V"⟩
theorem mf_Switch_moveAddress {w : jw_T} (hw : jok w) : jmf w M_Switch_moveAddress y_Switch_moveAddress := ⟨rfl, rfl, Or.inr ⟨rfl, tb6 hw (i := 8) rfl⟩, in_Switch hw, plainFor_of_name pn_Switch, nh_Switch⟩
def M_Switch_arbitrate : jm_T := ("BusCrossbar$Switch", "arbitrate", prog_11_method_17_code, 8, (some .int), [], 3, 69)
abbrev y_Switch_arbitrate : MethodName := ⟨"BusCrossbar$Switch", "arbitrate", "(III)I"⟩
theorem mf_Switch_arbitrate {w : jw_T} (hw : jok w) : jmf w M_Switch_arbitrate y_Switch_arbitrate := ⟨rfl, rfl, Or.inr ⟨rfl, tb6 hw (i := 12) rfl⟩, in_Switch hw, plainFor_of_name pn_Switch, nh_Switch⟩
def M_Switch_may : jm_T := ("BusCrossbar$Switch", "may", prog_11_method_18_code, 7, (some .boolean), [], 2, 43)
abbrev y_Switch_may : MethodName := ⟨"BusCrossbar$Switch", "may", "(III)Z"⟩
theorem mf_Switch_may {w : jw_T} (hw : jok w) : jmf w M_Switch_may y_Switch_may := ⟨rfl, rfl, Or.inr ⟨rfl, tb6 hw (i := 16) rfl⟩, in_Switch hw, plainFor_of_name pn_Switch, nh_Switch⟩
def M_Switch_targetOf : jm_T := ("BusCrossbar$Switch", "targetOf", prog_11_method_4_code, 3, (some .int), [], 1, 21)
abbrev y_Switch_targetOf : MethodName := ⟨"BusCrossbar$Switch", "targetOf", "(J)I"⟩
theorem mf_Switch_targetOf {w : jw_T} (hw : jok w) : jmf w M_Switch_targetOf y_Switch_targetOf := ⟨rfl, rfl, Or.inr ⟨rfl, tb6 hw (i := 20) rfl⟩, in_Switch hw, plainFor_of_name pn_Switch, nh_Switch⟩
def M_Switch_underWay : jm_T := ("BusCrossbar$Switch", "underWay", prog_11_method_6_code, 3, (some (.object "BusCrossbar$UnderWay")), [], 0, 0)
abbrev y_Switch_underWay : MethodName := ⟨"BusCrossbar$Switch", "underWay", "(II)LBusCrossbar$UnderWay;"⟩
theorem mf_Switch_underWay {w : jw_T} (hw : jok w) : jmf w M_Switch_underWay y_Switch_underWay := ⟨rfl, rfl, Or.inr ⟨rfl, tb6 hw (i := 25) rfl⟩, in_Switch hw, plainFor_of_name pn_Switch, nh_Switch⟩
def M_UnderWay_mayGo : jm_T := ("BusCrossbar$UnderWay", "mayGo", prog_12_method_2_code, 5, (some .boolean), [], 0, 0)
abbrev y_UnderWay_mayGo : MethodName := ⟨"BusCrossbar$UnderWay", "mayGo", "(III)Z"⟩
theorem mf_UnderWay_mayGo {w : jw_T} (hw : jok w) : jmf w M_UnderWay_mayGo y_UnderWay_mayGo := ⟨rfl, rfl, Or.inr ⟨rfl, tb6 hw (i := 30) rfl⟩, in_UnderWay hw, plainFor_of_name pn_UnderWay, nh_UnderWay⟩
def M_Switch_goesBefore : jm_T := ("BusCrossbar$Switch", "goesBefore", prog_11_method_19_code, 6, (some .boolean), [], 1, 22)
abbrev y_Switch_goesBefore : MethodName := ⟨"BusCrossbar$Switch", "goesBefore", "(III)Z"⟩
theorem mf_Switch_goesBefore {w : jw_T} (hw : jok w) : jmf w M_Switch_goesBefore y_Switch_goesBefore := ⟨rfl, rfl, Or.inr ⟨rfl, tb6 hw (i := 34) rfl⟩, in_Switch hw, plainFor_of_name pn_Switch, nh_Switch⟩
def M_Row_firstCame : jm_T := ("BusCrossbar$Row", "firstCame", prog_9_method_8_code, 1, (some .int), [], 0, 0)
abbrev y_Row_firstCame : MethodName := ⟨"BusCrossbar$Row", "firstCame", "()I"⟩
theorem mf_Row_firstCame {w : jw_T} (hw : jok w) : jmf w M_Row_firstCame y_Row_firstCame := ⟨rfl, rfl, Or.inr ⟨rfl, tb6 hw (i := 38) rfl⟩, in_Row hw, plainFor_of_name pn_Row, nh_Row⟩
def M_Burst_urgencyOf : jm_T := ("BusCrossbar$Burst", "urgencyOf", prog_2_method_10_code, 2, (some .int), [], 0, 0)
abbrev y_Burst_urgencyOf : MethodName := ⟨"BusCrossbar$Burst", "urgencyOf", "(J)I"⟩
theorem mf_Burst_urgencyOf {w : jw_T} (hw : jok w) : jmf w M_Burst_urgencyOf y_Burst_urgencyOf := ⟨rfl, rfl, Or.inr ⟨rfl, tb6 hw (i := 41) rfl⟩, in_Burst hw, plainFor_of_name pn_Burst, nh_Burst⟩
def M_UnderWay_add : jm_T := ("BusCrossbar$UnderWay", "add", prog_12_method_3_code, 5, none, [], 0, 0)
abbrev y_UnderWay_add : MethodName := ⟨"BusCrossbar$UnderWay", "add", "(IIII)V"⟩
theorem mf_UnderWay_add {w : jw_T} (hw : jok w) : jmf w M_UnderWay_add y_UnderWay_add := ⟨rfl, rfl, Or.inr ⟨rfl, tb6 hw (i := 46) rfl⟩, in_UnderWay hw, plainFor_of_name pn_UnderWay, nh_UnderWay⟩
def M_Switch_moveData : jm_T := ("BusCrossbar$Switch", "moveData", prog_11_method_20_code, 7, none, [], 2, 46)
abbrev y_Switch_moveData : MethodName := ⟨"BusCrossbar$Switch", "moveData", "(I)V"⟩
theorem mf_Switch_moveData {w : jw_T} (hw : jok w) : jmf w M_Switch_moveData y_Switch_moveData := ⟨rfl, rfl, Or.inr ⟨rfl, tb6 hw (i := 51) rfl⟩, in_Switch hw, plainFor_of_name pn_Switch, nh_Switch⟩
def M_UnderWay_firstWithData : jm_T := ("BusCrossbar$UnderWay", "firstWithData", prog_12_method_5_code, 2, (some .int), [], 0, 0)
abbrev y_UnderWay_firstWithData : MethodName := ⟨"BusCrossbar$UnderWay", "firstWithData", "()I"⟩
theorem mf_UnderWay_firstWithData {w : jw_T} (hw : jok w) : jmf w M_UnderWay_firstWithData y_UnderWay_firstWithData := ⟨rfl, rfl, Or.inr ⟨rfl, tb6 hw (i := 55) rfl⟩, in_UnderWay hw, plainFor_of_name pn_UnderWay, nh_UnderWay⟩
def M_Switch_isNextFor : jm_T := ("BusCrossbar$Switch", "isNextFor", prog_11_method_21_code, 4, (some .boolean), [], 1, 23)
abbrev y_Switch_isNextFor : MethodName := ⟨"BusCrossbar$Switch", "isNextFor", "(II)Z"⟩
theorem mf_Switch_isNextFor {w : jw_T} (hw : jok w) : jmf w M_Switch_isNextFor y_Switch_isNextFor := ⟨rfl, rfl, Or.inr ⟨rfl, tb6 hw (i := 59) rfl⟩, in_Switch hw, plainFor_of_name pn_Switch, nh_Switch⟩
def M_UnderWay_waitsBefore : jm_T := ("BusCrossbar$UnderWay", "waitsBefore", prog_12_method_7_code, 4, (some .boolean), [], 0, 0)
abbrev y_UnderWay_waitsBefore : MethodName := ⟨"BusCrossbar$UnderWay", "waitsBefore", "(II)Z"⟩
theorem mf_UnderWay_waitsBefore {w : jw_T} (hw : jok w) : jmf w M_UnderWay_waitsBefore y_UnderWay_waitsBefore := ⟨rfl, rfl, Or.inr ⟨rfl, tb6 hw (i := 63) rfl⟩, in_UnderWay hw, plainFor_of_name pn_UnderWay, nh_UnderWay⟩
def M_Switch_refuseWrite : jm_T := ("BusCrossbar$Switch", "refuseWrite", prog_11_method_22_code, 6, none, [], 2, 44)
abbrev y_Switch_refuseWrite : MethodName := ⟨"BusCrossbar$Switch", "refuseWrite", "()V"⟩
theorem mf_Switch_refuseWrite {w : jw_T} (hw : jok w) : jmf w M_Switch_refuseWrite y_Switch_refuseWrite := ⟨rfl, rfl, Or.inr ⟨rfl, tb6 hw (i := 67) rfl⟩, in_Switch hw, plainFor_of_name pn_Switch, nh_Switch⟩
def M_Switch_refuseRead : jm_T := ("BusCrossbar$Switch", "refuseRead", prog_11_method_23_code, 6, none, [], 2, 44)
abbrev y_Switch_refuseRead : MethodName := ⟨"BusCrossbar$Switch", "refuseRead", "()V"⟩
theorem mf_Switch_refuseRead {w : jw_T} (hw : jok w) : jmf w M_Switch_refuseRead y_Switch_refuseRead := ⟨rfl, rfl, Or.inr ⟨rfl, tb6 hw (i := 73) rfl⟩, in_Switch hw, plainFor_of_name pn_Switch, nh_Switch⟩
def M_Switch_moveAnswer : jm_T := ("BusCrossbar$Switch", "moveAnswer", prog_11_method_24_code, 5, none, [], 3, 72)
abbrev y_Switch_moveAnswer : MethodName := ⟨"BusCrossbar$Switch", "moveAnswer", "(I)V"⟩
theorem mf_Switch_moveAnswer {w : jw_T} (hw : jok w) : jmf w M_Switch_moveAnswer y_Switch_moveAnswer := ⟨rfl, rfl, Or.inr ⟨rfl, tb6 hw (i := 77) rfl⟩, in_Switch hw, plainFor_of_name pn_Switch, nh_Switch⟩
def M_Switch_giverFor : jm_T := ("BusCrossbar$Switch", "giverFor", prog_11_method_27_code, 7, (some .int), [], 2, 46)
abbrev y_Switch_giverFor : MethodName := ⟨"BusCrossbar$Switch", "giverFor", "(III)I"⟩
theorem mf_Switch_giverFor {w : jw_T} (hw : jok w) : jmf w M_Switch_giverFor y_Switch_giverFor := ⟨rfl, rfl, Or.inr ⟨rfl, tb6 hw (i := 81) rfl⟩, in_Switch hw, plainFor_of_name pn_Switch, nh_Switch⟩
def M_Switch_gives : jm_T := ("BusCrossbar$Switch", "gives", prog_11_method_28_code, 5, (some .boolean), [], 1, 22)
abbrev y_Switch_gives : MethodName := ⟨"BusCrossbar$Switch", "gives", "(III)Z"⟩
theorem mf_Switch_gives {w : jw_T} (hw : jok w) : jmf w M_Switch_gives y_Switch_gives := ⟨rfl, rfl, Or.inr ⟨rfl, tb6 hw (i := 85) rfl⟩, in_Switch hw, plainFor_of_name pn_Switch, nh_Switch⟩
def M_Switch_moveBack : jm_T := ("BusCrossbar$Switch", "moveBack", prog_11_method_29_code, 3, (some .int), [], 2, 44)
abbrev y_Switch_moveBack : MethodName := ⟨"BusCrossbar$Switch", "moveBack", "(LBusCrossbar$Row;LBusCrossbar$Row;)I"⟩
theorem mf_Switch_moveBack {w : jw_T} (hw : jok w) : jmf w M_Switch_moveBack y_Switch_moveBack := ⟨rfl, rfl, Or.inr ⟨rfl, tb6 hw (i := 89) rfl⟩, in_Switch hw, plainFor_of_name pn_Switch, nh_Switch⟩
def M_UnderWay_removeFirst : jm_T := ("BusCrossbar$UnderWay", "removeFirst", prog_12_method_4_code, 5, none, [], 0, 0)
abbrev y_UnderWay_removeFirst : MethodName := ⟨"BusCrossbar$UnderWay", "removeFirst", "(I)V"⟩
theorem mf_UnderWay_removeFirst {w : jw_T} (hw : jok w) : jmf w M_UnderWay_removeFirst y_UnderWay_removeFirst := ⟨rfl, rfl, Or.inr ⟨rfl, tb6 hw (i := 93) rfl⟩, in_UnderWay hw, plainFor_of_name pn_UnderWay, nh_UnderWay⟩
def M_Switch_moveReadBeat : jm_T := ("BusCrossbar$Switch", "moveReadBeat", prog_11_method_25_code, 5, none, [], 4, 94)
abbrev y_Switch_moveReadBeat : MethodName := ⟨"BusCrossbar$Switch", "moveReadBeat", "(I)V"⟩
theorem mf_Switch_moveReadBeat {w : jw_T} (hw : jok w) : jmf w M_Switch_moveReadBeat y_Switch_moveReadBeat := ⟨rfl, rfl, Or.inr ⟨rfl, tb6 hw (i := 97) rfl⟩, in_Switch hw, plainFor_of_name pn_Switch, nh_Switch⟩
def M_Switch_readGiverFor : jm_T := ("BusCrossbar$Switch", "readGiverFor", prog_11_method_26_code, 3, (some .int), [], 3, 72)
abbrev y_Switch_readGiverFor : MethodName := ⟨"BusCrossbar$Switch", "readGiverFor", "(I)I"⟩
theorem mf_Switch_readGiverFor {w : jw_T} (hw : jok w) : jmf w M_Switch_readGiverFor y_Switch_readGiverFor := ⟨rfl, rfl, Or.inr ⟨rfl, tb6 hw (i := 101) rfl⟩, in_Switch hw, plainFor_of_name pn_Switch, nh_Switch⟩
def M_Law_drain : jm_T := ("BusCrossbarLaw", "drain", method_14_code, 4, (some .int), [(0, 9, 12, 21)], 8, 198)
abbrev y_Law_drain : MethodName := ⟨"BusCrossbarLaw", "drain", "(LBusCrossbar;I[J)I"⟩
theorem mf_Law_drain {w : jw_T} (hw : jok w) : jmf w M_Law_drain y_Law_drain := ⟨rfl, rfl, Or.inl (tb6 hw (i := 104) rfl), in_Law hw, plainFor_of_name pn_Law, nh_Law⟩
def M_Bus_drain : jm_T := ("BusCrossbar", "drain", prog_1_method_13_code, 3, (some .int), [], 7, 176)
abbrev y_Bus_drain : MethodName := ⟨"BusCrossbar", "drain", "(I)I"⟩
theorem mf_Bus_drain {w : jw_T} (hw : jok w) : jmf w M_Bus_drain y_Bus_drain := ⟨rfl, rfl, Or.inr ⟨rfl, tb6 hw (i := 108) rfl⟩, in_Bus hw, plainFor_of_name pn_Bus, nh_Bus⟩
def M_Law_ticket : jm_T := ("BusCrossbarLaw", "ticket", method_15_code, 5, (some .int), [(0, 10, 13, 13), (0, 10, 17, 21)], 8, 127)
abbrev y_Law_ticket : MethodName := ⟨"BusCrossbarLaw", "ticket", "(LBusCrossbar;II[J)I"⟩
theorem mf_Law_ticket {w : jw_T} (hw : jok w) : jmf w M_Law_ticket y_Law_ticket := ⟨rfl, rfl, Or.inl (tb6 hw (i := 111) rfl), in_Law hw, plainFor_of_name pn_Law, nh_Law⟩
def M_Bus_ticket : jm_T := ("BusCrossbar", "ticket", prog_1_method_14_code, 4, (some .int), [], 7, 104)
abbrev y_Bus_ticket : MethodName := ⟨"BusCrossbar", "ticket", "(II)I"⟩
theorem mf_Bus_ticket {w : jw_T} (hw : jok w) : jmf w M_Bus_ticket y_Bus_ticket := ⟨rfl, rfl, Or.inr ⟨rfl, tb6 hw (i := 115) rfl⟩, in_Bus hw, plainFor_of_name pn_Bus, nh_Bus⟩
def M_Request_stage : jm_T := ("BusCrossbar$Request", "stage", prog_8_method_3_code, 1, (some .int), [], 0, 0)
abbrev y_Request_stage : MethodName := ⟨"BusCrossbar$Request", "stage", "()I"⟩
theorem mf_Request_stage {w : jw_T} (hw : jok w) : jmf w M_Request_stage y_Request_stage := ⟨rfl, rfl, Or.inr ⟨rfl, tb6 hw (i := 119) rfl⟩, in_Request hw, plainFor_of_name pn_Request, nh_Request⟩
def M_Law_data : jm_T := ("BusCrossbarLaw", "data", method_16_code, 5, (some .int), [(0, 9, 12, 13)], 8, 126)
abbrev y_Law_data : MethodName := ⟨"BusCrossbarLaw", "data", "(LBusCrossbar;II[J)I"⟩
theorem mf_Law_data {w : jw_T} (hw : jok w) : jmf w M_Law_data y_Law_data := ⟨rfl, rfl, Or.inl (tb6 hw (i := 123) rfl), in_Law hw, plainFor_of_name pn_Law, nh_Law⟩
def M_Bus_data : jm_T := ("BusCrossbar", "data", prog_1_method_15_code, 4, (some .long), [], 7, 103)
abbrev y_Bus_data : MethodName := ⟨"BusCrossbar", "data", "(II)J"⟩
theorem mf_Bus_data {w : jw_T} (hw : jok w) : jmf w M_Bus_data y_Bus_data := ⟨rfl, rfl, Or.inr ⟨rfl, tb6 hw (i := 127) rfl⟩, in_Bus hw, plainFor_of_name pn_Bus, nh_Bus⟩
def M_Law_forget : jm_T := ("BusCrossbarLaw", "forget", method_17_code, 3, (some .int), [(0, 8, 11, 15)], 7, 103)
abbrev y_Law_forget : MethodName := ⟨"BusCrossbarLaw", "forget", "(LBusCrossbar;[J)I"⟩
theorem mf_Law_forget {w : jw_T} (hw : jok w) : jmf w M_Law_forget y_Law_forget := ⟨rfl, rfl, Or.inl (tb6 hw (i := 130) rfl), in_Law hw, plainFor_of_name pn_Law, nh_Law⟩
def M_Bus_forget : jm_T := ("BusCrossbar", "forget", prog_1_method_16_code, 2, (some .int), [], 6, 82)
abbrev y_Bus_forget : MethodName := ⟨"BusCrossbar", "forget", "()I"⟩
theorem mf_Bus_forget {w : jw_T} (hw : jok w) : jmf w M_Bus_forget y_Bus_forget := ⟨rfl, rfl, Or.inr ⟨rfl, tb6 hw (i := 134) rfl⟩, in_Bus hw, plainFor_of_name pn_Bus, nh_Bus⟩
def M_Law_wire : jm_T := ("BusCrossbarLaw", "wire", method_18_code, 7, (some .int), [(0, 14, 17, 13), (0, 14, 21, 21)], 9, 151)
abbrev y_Law_wire : MethodName := ⟨"BusCrossbarLaw", "wire", "(LBusCrossbar;IIII[J)I"⟩
theorem mf_Law_wire {w : jw_T} (hw : jok w) : jmf w M_Law_wire y_Law_wire := ⟨rfl, rfl, Or.inl (tb6 hw (i := 137) rfl), in_Law hw, plainFor_of_name pn_Law, nh_Law⟩
def M_Bus_wire : jm_T := ("BusCrossbar", "wire", prog_1_method_17_code, 6, (some .int), [], 8, 126)
abbrev y_Bus_wire : MethodName := ⟨"BusCrossbar", "wire", "(IIII)I"⟩
theorem mf_Bus_wire {w : jw_T} (hw : jok w) : jmf w M_Bus_wire y_Bus_wire := ⟨rfl, rfl, Or.inr ⟨rfl, tb6 hw (i := 141) rfl⟩, in_Bus hw, plainFor_of_name pn_Bus, nh_Bus⟩
def M_Bus_portAt : jm_T := ("BusCrossbar", "portAt", prog_1_method_32_code, 4, (some (.object "BusCrossbar$Port")), [], 7, 103)
abbrev y_Bus_portAt : MethodName := ⟨"BusCrossbar", "portAt", "(II)LBusCrossbar$Port;"⟩
theorem mf_Bus_portAt {w : jw_T} (hw : jok w) : jmf w M_Bus_portAt y_Bus_portAt := ⟨rfl, rfl, Or.inr ⟨rfl, tb6 hw (i := 145) rfl⟩, in_Bus hw, plainFor_of_name pn_Bus, nh_Bus⟩
def M_Law_content : jm_T := ("BusCrossbarLaw", "content", method_19_code, 6, (some .int), [(0, 11, 14, 13)], 9, 150)
abbrev y_Law_content : MethodName := ⟨"BusCrossbarLaw", "content", "(LBusCrossbar;III[J)I"⟩
theorem mf_Law_content {w : jw_T} (hw : jok w) : jmf w M_Law_content y_Law_content := ⟨rfl, rfl, Or.inl (tb6 hw (i := 148) rfl), in_Law hw, plainFor_of_name pn_Law, nh_Law⟩
def M_Bus_content : jm_T := ("BusCrossbar", "content", prog_1_method_18_code, 5, (some .long), [], 8, 126)
abbrev y_Bus_content : MethodName := ⟨"BusCrossbar", "content", "(III)J"⟩
theorem mf_Bus_content {w : jw_T} (hw : jok w) : jmf w M_Bus_content y_Bus_content := ⟨rfl, rfl, Or.inr ⟨rfl, tb6 hw (i := 152) rfl⟩, in_Bus hw, plainFor_of_name pn_Bus, nh_Bus⟩
def M_Law_port : jm_T := ("BusCrossbarLaw", "port", method_20_code, 6, (some .int), [(0, 12, 15, 13), (0, 12, 19, 21)], 9, 150)
abbrev y_Law_port : MethodName := ⟨"BusCrossbarLaw", "port", "(LBusCrossbar;III[J)I"⟩
theorem mf_Law_port {w : jw_T} (hw : jok w) : jmf w M_Law_port y_Law_port := ⟨rfl, rfl, Or.inl (tb6 hw (i := 155) rfl), in_Law hw, plainFor_of_name pn_Law, nh_Law⟩
def M_Bus_port : jm_T := ("BusCrossbar", "port", prog_1_method_19_code, 5, (some .int), [], 8, 126)
abbrev y_Bus_port : MethodName := ⟨"BusCrossbar", "port", "(III)I"⟩
theorem mf_Bus_port {w : jw_T} (hw : jok w) : jmf w M_Bus_port y_Bus_port := ⟨rfl, rfl, Or.inr ⟨rfl, tb6 hw (i := 159) rfl⟩, in_Bus hw, plainFor_of_name pn_Bus, nh_Bus⟩
def M_Monitor_faultPart : jm_T := ("BusCrossbar$Monitor", "faultPart", prog_6_method_3_code, 2, (some .int), [], 0, 0)
abbrev y_Monitor_faultPart : MethodName := ⟨"BusCrossbar$Monitor", "faultPart", "(I)I"⟩
theorem mf_Monitor_faultPart {w : jw_T} (hw : jok w) : jmf w M_Monitor_faultPart y_Monitor_faultPart := ⟨rfl, rfl, Or.inr ⟨rfl, tb6 hw (i := 163) rfl⟩, in_Monitor hw, plainFor_of_name pn_Monitor, nh_Monitor⟩
def M_Law_target : jm_T := ("BusCrossbarLaw", "target", method_21_code, 5, (some .int), [(0, 10, 13, 13), (0, 10, 17, 21)], 8, 126)
abbrev y_Law_target : MethodName := ⟨"BusCrossbarLaw", "target", "(LBusCrossbar;II[J)I"⟩
theorem mf_Law_target {w : jw_T} (hw : jok w) : jmf w M_Law_target y_Law_target := ⟨rfl, rfl, Or.inl (tb6 hw (i := 166) rfl), in_Law hw, plainFor_of_name pn_Law, nh_Law⟩
def M_Bus_target : jm_T := ("BusCrossbar", "target", prog_1_method_20_code, 3, (some .int), [], 7, 104)
abbrev y_Bus_target : MethodName := ⟨"BusCrossbar", "target", "(II)I"⟩
theorem mf_Bus_target {w : jw_T} (hw : jok w) : jmf w M_Bus_target y_Bus_target := ⟨rfl, rfl, Or.inr ⟨rfl, tb6 hw (i := 170) rfl⟩, in_Bus hw, plainFor_of_name pn_Bus, nh_Bus⟩
def M_Switch_underWayTo : jm_T := ("BusCrossbar$Switch", "underWayTo", prog_11_method_5_code, 5, (some .int), [], 1, 23)
abbrev y_Switch_underWayTo : MethodName := ⟨"BusCrossbar$Switch", "underWayTo", "(II)I"⟩
theorem mf_Switch_underWayTo {w : jw_T} (hw : jok w) : jmf w M_Switch_underWayTo y_Switch_underWayTo := ⟨rfl, rfl, Or.inr ⟨rfl, tb6 hw (i := 174) rfl⟩, in_Switch hw, plainFor_of_name pn_Switch, nh_Switch⟩
def M_UnderWay_countTo : jm_T := ("BusCrossbar$UnderWay", "countTo", prog_12_method_6_code, 4, (some .int), [], 0, 0)
abbrev y_UnderWay_countTo : MethodName := ⟨"BusCrossbar$UnderWay", "countTo", "(I)I"⟩
theorem mf_UnderWay_countTo {w : jw_T} (hw : jok w) : jmf w M_UnderWay_countTo y_UnderWay_countTo := ⟨rfl, rfl, Or.inr ⟨rfl, tb6 hw (i := 178) rfl⟩, in_UnderWay hw, plainFor_of_name pn_UnderWay, nh_UnderWay⟩
def M_Law_right : jm_T := ("BusCrossbarLaw", "right", method_22_code, 5, (some .int), [(0, 10, 13, 13), (0, 10, 17, 21)], 8, 126)
abbrev y_Law_right : MethodName := ⟨"BusCrossbarLaw", "right", "(LBusCrossbar;II[J)I"⟩
theorem mf_Law_right {w : jw_T} (hw : jok w) : jmf w M_Law_right y_Law_right := ⟨rfl, rfl, Or.inl (tb6 hw (i := 181) rfl), in_Law hw, plainFor_of_name pn_Law, nh_Law⟩
def M_Bus_right : jm_T := ("BusCrossbar", "right", prog_1_method_21_code, 3, (some .int), [], 7, 104)
abbrev y_Bus_right : MethodName := ⟨"BusCrossbar", "right", "(II)I"⟩
theorem mf_Bus_right {w : jw_T} (hw : jok w) : jmf w M_Bus_right y_Bus_right := ⟨rfl, rfl, Or.inr ⟨rfl, tb6 hw (i := 185) rfl⟩, in_Bus hw, plainFor_of_name pn_Bus, nh_Bus⟩
def M_Law_see : jm_T := ("BusCrossbarLaw", "see", method_23_code, 8, (some .int), [(0, 11, 14, 13), (0, 11, 18, 21)], 8, 131)
abbrev y_Law_see : MethodName := ⟨"BusCrossbarLaw", "see", "(LBusCrossbar;IIIJI)I"⟩
theorem mf_Law_see {w : jw_T} (hw : jok w) : jmf w M_Law_see y_Law_see := ⟨rfl, rfl, Or.inl (tb6 hw (i := 188) rfl), in_Law hw, plainFor_of_name pn_Law, nh_Law⟩
def M_Bus_see : jm_T := ("BusCrossbar", "see", prog_1_method_23_code, 8, none, [], 7, 104)
abbrev y_Bus_see : MethodName := ⟨"BusCrossbar", "see", "(IIIJI)V"⟩
theorem mf_Bus_see {w : jw_T} (hw : jok w) : jmf w M_Bus_see y_Bus_see := ⟨rfl, rfl, Or.inr ⟨rfl, tb6 hw (i := 192) rfl⟩, in_Bus hw, plainFor_of_name pn_Bus, nh_Bus⟩
def M_Law_judge : jm_T := ("BusCrossbarLaw", "judge", method_24_code, 4, (some .int), [(0, 9, 12, 13)], 8, 167)
abbrev y_Law_judge : MethodName := ⟨"BusCrossbarLaw", "judge", "(LBusCrossbar;I[J)I"⟩
theorem mf_Law_judge {w : jw_T} (hw : jok w) : jmf w M_Law_judge y_Law_judge := ⟨rfl, rfl, Or.inl (tb6 hw (i := 197) rfl), in_Law hw, plainFor_of_name pn_Law, nh_Law⟩
def M_Bus_judge : jm_T := ("BusCrossbar", "judge", prog_1_method_24_code, 3, (some .int), [], 7, 145)
abbrev y_Bus_judge : MethodName := ⟨"BusCrossbar", "judge", "(I)I"⟩
theorem mf_Bus_judge {w : jw_T} (hw : jok w) : jmf w M_Bus_judge y_Bus_judge := ⟨rfl, rfl, Or.inr ⟨rfl, tb6 hw (i := 201) rfl⟩, in_Bus hw, plainFor_of_name pn_Bus, nh_Bus⟩
def M_Law_watched : jm_T := ("BusCrossbarLaw", "watched", method_25_code, 5, (some .int), [(0, 10, 13, 13), (0, 10, 17, 21)], 8, 127)
abbrev y_Law_watched : MethodName := ⟨"BusCrossbarLaw", "watched", "(LBusCrossbar;II[J)I"⟩
theorem mf_Law_watched {w : jw_T} (hw : jok w) : jmf w M_Law_watched y_Law_watched := ⟨rfl, rfl, Or.inl (tb6 hw (i := 205) rfl), in_Law hw, plainFor_of_name pn_Law, nh_Law⟩
def M_Bus_watched : jm_T := ("BusCrossbar", "watched", prog_1_method_25_code, 4, (some .int), [], 7, 104)
abbrev y_Bus_watched : MethodName := ⟨"BusCrossbar", "watched", "(II)I"⟩
theorem mf_Bus_watched {w : jw_T} (hw : jok w) : jmf w M_Bus_watched y_Bus_watched := ⟨rfl, rfl, Or.inr ⟨rfl, tb6 hw (i := 209) rfl⟩, in_Bus hw, plainFor_of_name pn_Bus, nh_Bus⟩
def M_Law_again : jm_T := ("BusCrossbarLaw", "again", method_26_code, 3, (some .int), [(0, 5, 8, 13)], 8, 124)
abbrev y_Law_again : MethodName := ⟨"BusCrossbarLaw", "again", "(LBusCrossbar;I)I"⟩
theorem mf_Law_again {w : jw_T} (hw : jok w) : jmf w M_Law_again y_Law_again := ⟨rfl, rfl, Or.inl (tb6 hw (i := 212) rfl), in_Law hw, plainFor_of_name pn_Law, nh_Law⟩
def M_Bus_again : jm_T := ("BusCrossbar", "again", prog_1_method_26_code, 2, none, [], 7, 103)
abbrev y_Bus_again : MethodName := ⟨"BusCrossbar", "again", "(I)V"⟩
theorem mf_Bus_again {w : jw_T} (hw : jok w) : jmf w M_Bus_again y_Bus_again := ⟨rfl, rfl, Or.inr ⟨rfl, tb6 hw (i := 216) rfl⟩, in_Bus hw, plainFor_of_name pn_Bus, nh_Bus⟩
def M_Ref_init : jm_T := ("BusCrossbarModel", "<init>", prog_14_method_1_code, 4, none, [], 2, 46)
abbrev y_Ref_init : MethodName := ⟨"BusCrossbarModel", "<init>", "(III)V"⟩
theorem mf_Ref_init {w : jw_T} (hw : jok w) : jmf w M_Ref_init y_Ref_init := ⟨rfl, rfl, Or.inr ⟨rfl, tb6 hw (i := 221) rfl⟩, in_Ref hw, plainFor_of_name pn_Ref, nh_Ref⟩
def M_Ref_near : jm_T := ("BusCrossbarModel", "near", prog_14_method_3_code, 2, (some .int), [], 0, 0)
abbrev y_Ref_near : MethodName := ⟨"BusCrossbarModel", "near", "(II)I"⟩
theorem mf_Ref_near {w : jw_T} (hw : jok w) : jmf w M_Ref_near y_Ref_near := ⟨rfl, rfl, Or.inr ⟨rfl, tb6 hw (i := 226) rfl⟩, in_Ref hw, plainFor_of_name pn_Ref, nh_Ref⟩
def M_Ref_clear : jm_T := ("BusCrossbarModel", "clear", prog_14_method_113_code, 2, none, [], 1, 25)
abbrev y_Ref_clear : MethodName := ⟨"BusCrossbarModel", "clear", "()V"⟩
theorem mf_Ref_clear {w : jw_T} (hw : jok w) : jmf w M_Ref_clear y_Ref_clear := ⟨rfl, rfl, Or.inr ⟨rfl, tb6 hw (i := 230) rfl⟩, in_Ref hw, plainFor_of_name pn_Ref, nh_Ref⟩
def M_Ref_show : jm_T := ("BusCrossbarModel", "show", prog_14_method_23_code, 6, none, [], 0, 0)
abbrev y_Ref_show : MethodName := ⟨"BusCrossbarModel", "show", "(IZJI)V"⟩
theorem mf_Ref_show {w : jw_T} (hw : jok w) : jmf w M_Ref_show y_Ref_show := ⟨rfl, rfl, Or.inr ⟨rfl, tb6 hw (i := 235) rfl⟩, in_Ref hw, plainFor_of_name pn_Ref, nh_Ref⟩
def M_Ref_beginMonitor : jm_T := ("BusCrossbarModel", "beginMonitor", prog_14_method_52_code, 3, none, [], 0, 0)
abbrev y_Ref_beginMonitor : MethodName := ⟨"BusCrossbarModel", "beginMonitor", "(I)V"⟩
theorem mf_Ref_beginMonitor {w : jw_T} (hw : jok w) : jmf w M_Ref_beginMonitor y_Ref_beginMonitor := ⟨rfl, rfl, Or.inr ⟨rfl, tb6 hw (i := 239) rfl⟩, in_Ref hw, plainFor_of_name pn_Ref, nh_Ref⟩
def M_Ref_blank : jm_T := ("BusCrossbarModel", "blank", prog_14_method_109_code, 3, none, [], 0, 0)
abbrev y_Ref_blank : MethodName := ⟨"BusCrossbarModel", "blank", "(I)V"⟩
theorem mf_Ref_blank {w : jw_T} (hw : jok w) : jmf w M_Ref_blank y_Ref_blank := ⟨rfl, rfl, Or.inr ⟨rfl, tb7 hw (i := 3) rfl⟩, in_Ref hw, plainFor_of_name pn_Ref, nh_Ref⟩
def M_Ref_thrown : jm_T := ("BusCrossbarModel", "thrown", prog_14_method_2_code, 1, (some .int), [], 0, 0)
abbrev y_Ref_thrown : MethodName := ⟨"BusCrossbarModel", "thrown", "()I"⟩
theorem mf_Ref_thrown {w : jw_T} (hw : jok w) : jmf w M_Ref_thrown y_Ref_thrown := ⟨rfl, rfl, Or.inr ⟨rfl, tb8 hw (i := 74) rfl⟩, in_Ref hw, plainFor_of_name pn_Ref, nh_Ref⟩
def M_Ref_map : jm_T := ("BusCrossbarModel", "map", prog_14_method_83_code, 4, (some .int), [], 1, 25)
abbrev y_Ref_map : MethodName := ⟨"BusCrossbarModel", "map", "(II)I"⟩
theorem mf_Ref_map {w : jw_T} (hw : jok w) : jmf w M_Ref_map y_Ref_map := ⟨rfl, rfl, Or.inr ⟨rfl, tb8 hw (i := 78) rfl⟩, in_Ref hw, plainFor_of_name pn_Ref, nh_Ref⟩
def M_Ref_in : jm_T := ("BusCrossbarModel", "in", prog_14_method_4_code, 6, (some .boolean), [], 0, 0)
abbrev y_Ref_in : MethodName := ⟨"BusCrossbarModel", "in", "(JJJ)Z"⟩
theorem mf_Ref_in {w : jw_T} (hw : jok w) : jmf w M_Ref_in y_Ref_in := ⟨rfl, rfl, Or.inr ⟨rfl, tb8 hw (i := 82) rfl⟩, in_Ref hw, plainFor_of_name pn_Ref, nh_Ref⟩
def M_Ref_open : jm_T := ("BusCrossbarModel", "open", prog_14_method_82_code, 3, (some .int), [], 0, 0)
abbrev y_Ref_open : MethodName := ⟨"BusCrossbarModel", "open", "()I"⟩
theorem mf_Ref_open {w : jw_T} (hw : jok w) : jmf w M_Ref_open y_Ref_open := ⟨rfl, rfl, Or.inr ⟨rfl, tb8 hw (i := 87) rfl⟩, in_Ref hw, plainFor_of_name pn_Ref, nh_Ref⟩
def M_Ref_policy : jm_T := ("BusCrossbarModel", "policy", prog_14_method_84_code, 4, (some .int), [], 1, 25)
abbrev y_Ref_policy : MethodName := ⟨"BusCrossbarModel", "policy", "(IZ)I"⟩
theorem mf_Ref_policy {w : jw_T} (hw : jok w) : jmf w M_Ref_policy y_Ref_policy := ⟨rfl, rfl, Or.inr ⟨rfl, tb8 hw (i := 91) rfl⟩, in_Ref hw, plainFor_of_name pn_Ref, nh_Ref⟩
def M_Ref_master : jm_T := ("BusCrossbarModel", "master", prog_14_method_85_code, 5, (some .int), [], 1, 25)
abbrev y_Ref_master : MethodName := ⟨"BusCrossbarModel", "master", "(III)I"⟩
theorem mf_Ref_master {w : jw_T} (hw : jok w) : jmf w M_Ref_master y_Ref_master := ⟨rfl, rfl, Or.inr ⟨rfl, tb8 hw (i := 96) rfl⟩, in_Ref hw, plainFor_of_name pn_Ref, nh_Ref⟩
def M_Ref_early : jm_T := ("BusCrossbarModel", "early", prog_14_method_86_code, 4, (some .boolean), [], 1, 25)
abbrev y_Ref_early : MethodName := ⟨"BusCrossbarModel", "early", "(IZ)Z"⟩
theorem mf_Ref_early {w : jw_T} (hw : jok w) : jmf w M_Ref_early y_Ref_early := ⟨rfl, rfl, Or.inr ⟨rfl, tb8 hw (i := 101) rfl⟩, in_Ref hw, plainFor_of_name pn_Ref, nh_Ref⟩
def M_Ref_slave : jm_T := ("BusCrossbarModel", "slave", prog_14_method_87_code, 5, (some .int), [], 1, 25)
abbrev y_Ref_slave : MethodName := ⟨"BusCrossbarModel", "slave", "(III)I"⟩
theorem mf_Ref_slave {w : jw_T} (hw : jok w) : jmf w M_Ref_slave y_Ref_slave := ⟨rfl, rfl, Or.inr ⟨rfl, tb8 hw (i := 105) rfl⟩, in_Ref hw, plainFor_of_name pn_Ref, nh_Ref⟩
def M_Ref_way : jm_T := ("BusCrossbarModel", "way", prog_14_method_88_code, 5, (some .int), [], 1, 25)
abbrev y_Ref_way : MethodName := ⟨"BusCrossbarModel", "way", "(III)I"⟩
theorem mf_Ref_way {w : jw_T} (hw : jok w) : jmf w M_Ref_way y_Ref_way := ⟨rfl, rfl, Or.inr ⟨rfl, tb8 hw (i := 109) rfl⟩, in_Ref hw, plainFor_of_name pn_Ref, nh_Ref⟩
def M_Ref_spoil : jm_T := ("BusCrossbarModel", "spoil", prog_14_method_89_code, 6, (some .int), [], 1, 25)
abbrev y_Ref_spoil : MethodName := ⟨"BusCrossbarModel", "spoil", "(IIZ)I"⟩
theorem mf_Ref_spoil {w : jw_T} (hw : jok w) : jmf w M_Ref_spoil y_Ref_spoil := ⟨rfl, rfl, Or.inr ⟨rfl, tb8 hw (i := 114) rfl⟩, in_Ref hw, plainFor_of_name pn_Ref, nh_Ref⟩
def M_Ref_poke : jm_T := ("BusCrossbarModel", "poke", prog_14_method_90_code, 4, (some .int), [], 1, 25)
abbrev y_Ref_poke : MethodName := ⟨"BusCrossbarModel", "poke", "(II)I"⟩
theorem mf_Ref_poke {w : jw_T} (hw : jok w) : jmf w M_Ref_poke y_Ref_poke := ⟨rfl, rfl, Or.inr ⟨rfl, tb8 hw (i := 119) rfl⟩, in_Ref hw, plainFor_of_name pn_Ref, nh_Ref⟩
def M_Ref_peek : jm_T := ("BusCrossbarModel", "peek", prog_14_method_91_code, 2, (some .int), [], 1, 25)
abbrev y_Ref_peek : MethodName := ⟨"BusCrossbarModel", "peek", "(I)I"⟩
theorem mf_Ref_peek {w : jw_T} (hw : jok w) : jmf w M_Ref_peek y_Ref_peek := ⟨rfl, rfl, Or.inr ⟨rfl, tb8 hw (i := 124) rfl⟩, in_Ref hw, plainFor_of_name pn_Ref, nh_Ref⟩
def M_Ref_request : jm_T := ("BusCrossbarModel", "request", prog_14_method_92_code, 13, (some .int), [], 2, 47)
abbrev y_Ref_request : MethodName := ⟨"BusCrossbarModel", "request", "(IIIIJ)I"⟩
theorem mf_Ref_request {w : jw_T} (hw : jok w) : jmf w M_Ref_request y_Ref_request := ⟨rfl, rfl, Or.inr ⟨rfl, tb8 hw (i := 128) rfl⟩, in_Ref hw, plainFor_of_name pn_Ref, nh_Ref⟩
def M_Ref_breaks : jm_T := ("BusCrossbarModel", "breaks", prog_14_method_15_code, 7, (some .int), [], 1, 21)
abbrev y_Ref_breaks : MethodName := ⟨"BusCrossbarModel", "breaks", "(J)I"⟩
theorem mf_Ref_breaks {w : jw_T} (hw : jok w) : jmf w M_Ref_breaks y_Ref_breaks := ⟨rfl, rfl, Or.inr ⟨rfl, tb8 hw (i := 133) rfl⟩, in_Ref hw, plainFor_of_name pn_Ref, nh_Ref⟩
def M_Ref_lengthOf : jm_T := ("BusCrossbarModel", "lengthOf", prog_14_method_7_code, 2, (some .int), [], 0, 0)
abbrev y_Ref_lengthOf : MethodName := ⟨"BusCrossbarModel", "lengthOf", "(J)I"⟩
theorem mf_Ref_lengthOf {w : jw_T} (hw : jok w) : jmf w M_Ref_lengthOf y_Ref_lengthOf := ⟨rfl, rfl, Or.inr ⟨rfl, tb8 hw (i := 136) rfl⟩, in_Ref hw, plainFor_of_name pn_Ref, nh_Ref⟩
def M_Ref_sizeOf : jm_T := ("BusCrossbarModel", "sizeOf", prog_14_method_8_code, 2, (some .int), [], 0, 0)
abbrev y_Ref_sizeOf : MethodName := ⟨"BusCrossbarModel", "sizeOf", "(J)I"⟩
theorem mf_Ref_sizeOf {w : jw_T} (hw : jok w) : jmf w M_Ref_sizeOf y_Ref_sizeOf := ⟨rfl, rfl, Or.inr ⟨rfl, tb8 hw (i := 139) rfl⟩, in_Ref hw, plainFor_of_name pn_Ref, nh_Ref⟩
def M_Ref_addressOf : jm_T := ("BusCrossbarModel", "addressOf", prog_14_method_6_code, 2, (some .int), [], 0, 0)
abbrev y_Ref_addressOf : MethodName := ⟨"BusCrossbarModel", "addressOf", "(J)I"⟩
theorem mf_Ref_addressOf {w : jw_T} (hw : jok w) : jmf w M_Ref_addressOf y_Ref_addressOf := ⟨rfl, rfl, Or.inr ⟨rfl, tb8 hw (i := 142) rfl⟩, in_Ref hw, plainFor_of_name pn_Ref, nh_Ref⟩
def M_Ref_kindOf : jm_T := ("BusCrossbarModel", "kindOf", prog_14_method_9_code, 2, (some .int), [], 0, 0)
abbrev y_Ref_kindOf : MethodName := ⟨"BusCrossbarModel", "kindOf", "(J)I"⟩
theorem mf_Ref_kindOf {w : jw_T} (hw : jok w) : jmf w M_Ref_kindOf y_Ref_kindOf := ⟨rfl, rfl, Or.inr ⟨rfl, tb8 hw (i := 145) rfl⟩, in_Ref hw, plainFor_of_name pn_Ref, nh_Ref⟩
def M_Ref_isAlone : jm_T := ("BusCrossbarModel", "isAlone", prog_14_method_10_code, 2, (some .boolean), [], 0, 0)
abbrev y_Ref_isAlone : MethodName := ⟨"BusCrossbarModel", "isAlone", "(J)Z"⟩
theorem mf_Ref_isAlone {w : jw_T} (hw : jok w) : jmf w M_Ref_isAlone y_Ref_isAlone := ⟨rfl, rfl, Or.inr ⟨rfl, tb8 hw (i := 148) rfl⟩, in_Ref hw, plainFor_of_name pn_Ref, nh_Ref⟩
def M_Ref_tick : jm_T := ("BusCrossbarModel", "tick", prog_14_method_93_code, 4, (some .int), [], 7, 175)
abbrev y_Ref_tick : MethodName := ⟨"BusCrossbarModel", "tick", "(I)I"⟩
theorem mf_Ref_tick {w : jw_T} (hw : jok w) : jmf w M_Ref_tick y_Ref_tick := ⟨rfl, rfl, Or.inr ⟨rfl, tb8 hw (i := 152) rfl⟩, in_Ref hw, plainFor_of_name pn_Ref, nh_Ref⟩
def M_Ref_step : jm_T := ("BusCrossbarModel", "step", prog_14_method_81_code, 4, (some .int), [], 6, 152)
abbrev y_Ref_step : MethodName := ⟨"BusCrossbarModel", "step", "()I"⟩
theorem mf_Ref_step {w : jw_T} (hw : jok w) : jmf w M_Ref_step y_Ref_step := ⟨rfl, rfl, Or.inr ⟨rfl, tb8 hw (i := 157) rfl⟩, in_Ref hw, plainFor_of_name pn_Ref, nh_Ref⟩
def M_Ref_showMaster : jm_T := ("BusCrossbarModel", "showMaster", prog_14_method_29_code, 4, none, [], 3, 80)
abbrev y_Ref_showMaster : MethodName := ⟨"BusCrossbarModel", "showMaster", "(I)V"⟩
theorem mf_Ref_showMaster {w : jw_T} (hw : jok w) : jmf w M_Ref_showMaster y_Ref_showMaster := ⟨rfl, rfl, Or.inr ⟨rfl, tb8 hw (i := 161) rfl⟩, in_Ref hw, plainFor_of_name pn_Ref, nh_Ref⟩
def M_Ref_showAddress : jm_T := ("BusCrossbarModel", "showAddress", prog_14_method_27_code, 6, none, [], 1, 25)
abbrev y_Ref_showAddress : MethodName := ⟨"BusCrossbarModel", "showAddress", "(II)V"⟩
theorem mf_Ref_showAddress {w : jw_T} (hw : jok w) : jmf w M_Ref_showAddress y_Ref_showAddress := ⟨rfl, rfl, Or.inr ⟨rfl, tb8 hw (i := 165) rfl⟩, in_Ref hw, plainFor_of_name pn_Ref, nh_Ref⟩
def M_Ref_unsent : jm_T := ("BusCrossbarModel", "unsent", prog_14_method_24_code, 4, (some .int), [], 0, 0)
abbrev y_Ref_unsent : MethodName := ⟨"BusCrossbarModel", "unsent", "(IZ)I"⟩
theorem mf_Ref_unsent {w : jw_T} (hw : jok w) : jmf w M_Ref_unsent y_Ref_unsent := ⟨rfl, rfl, Or.inr ⟨rfl, tb8 hw (i := 169) rfl⟩, in_Ref hw, plainFor_of_name pn_Ref, nh_Ref⟩
def M_Ref_tells : jm_T := ("BusCrossbarModel", "tells", prog_14_method_16_code, 2, (some .boolean), [], 0, 0)
abbrev y_Ref_tells : MethodName := ⟨"BusCrossbarModel", "tells", "(II)Z"⟩
theorem mf_Ref_tells {w : jw_T} (hw : jok w) : jmf w M_Ref_tells y_Ref_tells := ⟨rfl, rfl, Or.inr ⟨rfl, tb8 hw (i := 172) rfl⟩, in_Ref hw, plainFor_of_name pn_Ref, nh_Ref⟩
def M_Ref_burstOf : jm_T := ("BusCrossbarModel", "burstOf", prog_14_method_26_code, 2, (some .long), [], 0, 0)
abbrev y_Ref_burstOf : MethodName := ⟨"BusCrossbarModel", "burstOf", "(I)J"⟩
theorem mf_Ref_burstOf {w : jw_T} (hw : jok w) : jmf w M_Ref_burstOf y_Ref_burstOf := ⟨rfl, rfl, Or.inr ⟨rfl, tb8 hw (i := 176) rfl⟩, in_Ref hw, plainFor_of_name pn_Ref, nh_Ref⟩
def M_Ref_showData : jm_T := ("BusCrossbarModel", "showData", prog_14_method_28_code, 13, none, [], 2, 48)
abbrev y_Ref_showData : MethodName := ⟨"BusCrossbarModel", "showData", "(I)V"⟩
theorem mf_Ref_showData {w : jw_T} (hw : jok w) : jmf w M_Ref_showData y_Ref_showData := ⟨rfl, rfl, Or.inr ⟨rfl, tb8 hw (i := 181) rfl⟩, in_Ref hw, plainFor_of_name pn_Ref, nh_Ref⟩
def M_Ref_unfinished : jm_T := ("BusCrossbarModel", "unfinished", prog_14_method_25_code, 3, (some .int), [], 0, 0)
abbrev y_Ref_unfinished : MethodName := ⟨"BusCrossbarModel", "unfinished", "(I)I"⟩
theorem mf_Ref_unfinished {w : jw_T} (hw : jok w) : jmf w M_Ref_unfinished y_Ref_unfinished := ⟨rfl, rfl, Or.inr ⟨rfl, tb8 hw (i := 185) rfl⟩, in_Ref hw, plainFor_of_name pn_Ref, nh_Ref⟩
def M_Ref_beatAt : jm_T := ("BusCrossbarModel", "beatAt", prog_14_method_12_code, 8, (some .int), [], 1, 21)
abbrev y_Ref_beatAt : MethodName := ⟨"BusCrossbarModel", "beatAt", "(JI)I"⟩
theorem mf_Ref_beatAt {w : jw_T} (hw : jok w) : jmf w M_Ref_beatAt y_Ref_beatAt := ⟨rfl, rfl, Or.inr ⟨rfl, tb8 hw (i := 188) rfl⟩, in_Ref hw, plainFor_of_name pn_Ref, nh_Ref⟩
def M_Ref_lanesOf : jm_T := ("BusCrossbarModel", "lanesOf", prog_14_method_13_code, 4, (some .int), [], 0, 0)
abbrev y_Ref_lanesOf : MethodName := ⟨"BusCrossbarModel", "lanesOf", "(II)I"⟩
theorem mf_Ref_lanesOf {w : jw_T} (hw : jok w) : jmf w M_Ref_lanesOf y_Ref_lanesOf := ⟨rfl, rfl, Or.inr ⟨rfl, tb8 hw (i := 191) rfl⟩, in_Ref hw, plainFor_of_name pn_Ref, nh_Ref⟩
def M_Ref_maskOf : jm_T := ("BusCrossbarModel", "maskOf", prog_14_method_14_code, 4, (some .long), [], 0, 0)
abbrev y_Ref_maskOf : MethodName := ⟨"BusCrossbarModel", "maskOf", "(I)J"⟩
theorem mf_Ref_maskOf {w : jw_T} (hw : jok w) : jmf w M_Ref_maskOf y_Ref_maskOf := ⟨rfl, rfl, Or.inr ⟨rfl, tb8 hw (i := 196) rfl⟩, in_Ref hw, plainFor_of_name pn_Ref, nh_Ref⟩
def M_Ref_rowOf : jm_T := ("BusCrossbarModel", "rowOf", prog_14_method_18_code, 4, (some .int), [], 0, 0)
abbrev y_Ref_rowOf : MethodName := ⟨"BusCrossbarModel", "rowOf", "(ZII)I"⟩
theorem mf_Ref_rowOf {w : jw_T} (hw : jok w) : jmf w M_Ref_rowOf y_Ref_rowOf := ⟨rfl, rfl, Or.inr ⟨rfl, tb8 hw (i := 200) rfl⟩, in_Ref hw, plainFor_of_name pn_Ref, nh_Ref⟩
def M_Ref_hasRoom : jm_T := ("BusCrossbarModel", "hasRoom", prog_14_method_20_code, 2, (some .boolean), [], 1, 20)
abbrev y_Ref_hasRoom : MethodName := ⟨"BusCrossbarModel", "hasRoom", "(I)Z"⟩
theorem mf_Ref_hasRoom {w : jw_T} (hw : jok w) : jmf w M_Ref_hasRoom y_Ref_hasRoom := ⟨rfl, rfl, Or.inr ⟨rfl, tb8 hw (i := 204) rfl⟩, in_Ref hw, plainFor_of_name pn_Ref, nh_Ref⟩
def M_Ref_roomOf : jm_T := ("BusCrossbarModel", "roomOf", prog_14_method_19_code, 1, (some .int), [], 0, 0)
abbrev y_Ref_roomOf : MethodName := ⟨"BusCrossbarModel", "roomOf", "(I)I"⟩
theorem mf_Ref_roomOf {w : jw_T} (hw : jok w) : jmf w M_Ref_roomOf y_Ref_roomOf := ⟨rfl, rfl, Or.inr ⟨rfl, tb8 hw (i := 207) rfl⟩, in_Ref hw, plainFor_of_name pn_Ref, nh_Ref⟩
def M_Ref_showSlave : jm_T := ("BusCrossbarModel", "showSlave", prog_14_method_35_code, 8, none, [], 3, 78)
abbrev y_Ref_showSlave : MethodName := ⟨"BusCrossbarModel", "showSlave", "(I)V"⟩
theorem mf_Ref_showSlave {w : jw_T} (hw : jok w) : jmf w M_Ref_showSlave y_Ref_showSlave := ⟨rfl, rfl, Or.inr ⟨rfl, tb8 hw (i := 211) rfl⟩, in_Ref hw, plainFor_of_name pn_Ref, nh_Ref⟩
def M_Ref_chooseWrite : jm_T := ("BusCrossbarModel", "chooseWrite", prog_14_method_32_code, 6, (some .int), [], 2, 50)
abbrev y_Ref_chooseWrite : MethodName := ⟨"BusCrossbarModel", "chooseWrite", "(I)I"⟩
theorem mf_Ref_chooseWrite {w : jw_T} (hw : jok w) : jmf w M_Ref_chooseWrite y_Ref_chooseWrite := ⟨rfl, rfl, Or.inr ⟨rfl, tb8 hw (i := 215) rfl⟩, in_Ref hw, plainFor_of_name pn_Ref, nh_Ref⟩
def M_Ref_isWriteRipe : jm_T := ("BusCrossbarModel", "isWriteRipe", prog_14_method_30_code, 3, (some .boolean), [], 0, 0)
abbrev y_Ref_isWriteRipe : MethodName := ⟨"BusCrossbarModel", "isWriteRipe", "(II)Z"⟩
theorem mf_Ref_isWriteRipe {w : jw_T} (hw : jok w) : jmf w M_Ref_isWriteRipe y_Ref_isWriteRipe := ⟨rfl, rfl, Or.inr ⟨rfl, tb8 hw (i := 219) rfl⟩, in_Ref hw, plainFor_of_name pn_Ref, nh_Ref⟩
def M_Ref_isFirstWithId : jm_T := ("BusCrossbarModel", "isFirstWithId", prog_14_method_31_code, 10, (some .boolean), [], 1, 21)
abbrev y_Ref_isFirstWithId : MethodName := ⟨"BusCrossbarModel", "isFirstWithId", "(IIZ)Z"⟩
theorem mf_Ref_isFirstWithId {w : jw_T} (hw : jok w) : jmf w M_Ref_isFirstWithId y_Ref_isFirstWithId := ⟨rfl, rfl, Or.inr ⟨rfl, tb8 hw (i := 223) rfl⟩, in_Ref hw, plainFor_of_name pn_Ref, nh_Ref⟩
def M_Ref_idOf : jm_T := ("BusCrossbarModel", "idOf", prog_14_method_5_code, 2, (some .int), [], 0, 0)
abbrev y_Ref_idOf : MethodName := ⟨"BusCrossbarModel", "idOf", "(J)I"⟩
theorem mf_Ref_idOf {w : jw_T} (hw : jok w) : jmf w M_Ref_idOf y_Ref_idOf := ⟨rfl, rfl, Or.inr ⟨rfl, tb8 hw (i := 226) rfl⟩, in_Ref hw, plainFor_of_name pn_Ref, nh_Ref⟩
def M_Ref_chooseRead : jm_T := ("BusCrossbarModel", "chooseRead", prog_14_method_34_code, 9, (some .int), [], 2, 50)
abbrev y_Ref_chooseRead : MethodName := ⟨"BusCrossbarModel", "chooseRead", "(I)I"⟩
theorem mf_Ref_chooseRead {w : jw_T} (hw : jok w) : jmf w M_Ref_chooseRead y_Ref_chooseRead := ⟨rfl, rfl, Or.inr ⟨rfl, tb8 hw (i := 231) rfl⟩, in_Ref hw, plainFor_of_name pn_Ref, nh_Ref⟩
def M_Ref_isReadRipe : jm_T := ("BusCrossbarModel", "isReadRipe", prog_14_method_33_code, 3, (some .boolean), [], 0, 0)
abbrev y_Ref_isReadRipe : MethodName := ⟨"BusCrossbarModel", "isReadRipe", "(II)Z"⟩
theorem mf_Ref_isReadRipe {w : jw_T} (hw : jok w) : jmf w M_Ref_isReadRipe y_Ref_isReadRipe := ⟨rfl, rfl, Or.inr ⟨rfl, tb8 hw (i := 235) rfl⟩, in_Ref hw, plainFor_of_name pn_Ref, nh_Ref⟩
def M_Ref_isPort : jm_T := ("BusCrossbarModel", "isPort", prog_14_method_80_code, 2, (some .boolean), [], 0, 0)
abbrev y_Ref_isPort : MethodName := ⟨"BusCrossbarModel", "isPort", "(I)Z"⟩
theorem mf_Ref_isPort {w : jw_T} (hw : jok w) : jmf w M_Ref_isPort y_Ref_isPort := ⟨rfl, rfl, Or.inr ⟨rfl, tb8 hw (i := 239) rfl⟩, in_Ref hw, plainFor_of_name pn_Ref, nh_Ref⟩
def M_Ref_watch : jm_T := ("BusCrossbarModel", "watch", prog_14_method_49_code, 7, none, [], 5, 123)
abbrev y_Ref_watch : MethodName := ⟨"BusCrossbarModel", "watch", "(IIZ)V"⟩
theorem mf_Ref_watch {w : jw_T} (hw : jok w) : jmf w M_Ref_watch y_Ref_watch := ⟨rfl, rfl, Or.inr ⟨rfl, tb9 hw (i := 3) rfl⟩, in_Ref hw, plainFor_of_name pn_Ref, nh_Ref⟩
def M_Ref_lookAt : jm_T := ("BusCrossbarModel", "lookAt", prog_14_method_39_code, 11, none, [], 2, 47)
abbrev y_Ref_lookAt : MethodName := ⟨"BusCrossbarModel", "lookAt", "(IIZJI)V"⟩
theorem mf_Ref_lookAt {w : jw_T} (hw : jok w) : jmf w M_Ref_lookAt y_Ref_lookAt := ⟨rfl, rfl, Or.inr ⟨rfl, tb9 hw (i := 7) rfl⟩, in_Ref hw, plainFor_of_name pn_Ref, nh_Ref⟩
def M_Ref_breakAt : jm_T := ("BusCrossbarModel", "breakAt", prog_14_method_36_code, 4, none, [], 0, 0)
abbrev y_Ref_breakAt : MethodName := ⟨"BusCrossbarModel", "breakAt", "(III)V"⟩
theorem mf_Ref_breakAt {w : jw_T} (hw : jok w) : jmf w M_Ref_breakAt y_Ref_breakAt := ⟨rfl, rfl, Or.inr ⟨rfl, tb9 hw (i := 11) rfl⟩, in_Ref hw, plainFor_of_name pn_Ref, nh_Ref⟩
def M_Ref_monitoredWrite : jm_T := ("BusCrossbarModel", "monitoredWrite", prog_14_method_37_code, 5, (some .int), [], 1, 21)
abbrev y_Ref_monitoredWrite : MethodName := ⟨"BusCrossbarModel", "monitoredWrite", "(II)I"⟩
theorem mf_Ref_monitoredWrite {w : jw_T} (hw : jok w) : jmf w M_Ref_monitoredWrite y_Ref_monitoredWrite := ⟨rfl, rfl, Or.inr ⟨rfl, tb9 hw (i := 15) rfl⟩, in_Ref hw, plainFor_of_name pn_Ref, nh_Ref⟩
def M_Ref_monitoredRead : jm_T := ("BusCrossbarModel", "monitoredRead", prog_14_method_38_code, 4, (some .int), [], 1, 21)
abbrev y_Ref_monitoredRead : MethodName := ⟨"BusCrossbarModel", "monitoredRead", "(II)I"⟩
theorem mf_Ref_monitoredRead {w : jw_T} (hw : jok w) : jmf w M_Ref_monitoredRead y_Ref_monitoredRead := ⟨rfl, rfl, Or.inr ⟨rfl, tb9 hw (i := 19) rfl⟩, in_Ref hw, plainFor_of_name pn_Ref, nh_Ref⟩
def M_Ref_go : jm_T := ("BusCrossbarModel", "go", prog_14_method_51_code, 4, none, [], 4, 100)
abbrev y_Ref_go : MethodName := ⟨"BusCrossbarModel", "go", "(IIZ)V"⟩
theorem mf_Ref_go {w : jw_T} (hw : jok w) : jmf w M_Ref_go y_Ref_go := ⟨rfl, rfl, Or.inr ⟨rfl, tb9 hw (i := 23) rfl⟩, in_Ref hw, plainFor_of_name pn_Ref, nh_Ref⟩
def M_Ref_goes : jm_T := ("BusCrossbarModel", "goes", prog_14_method_50_code, 3, (some .boolean), [], 0, 0)
abbrev y_Ref_goes : MethodName := ⟨"BusCrossbarModel", "goes", "(IZ)Z"⟩
theorem mf_Ref_goes {w : jw_T} (hw : jok w) : jmf w M_Ref_goes y_Ref_goes := ⟨rfl, rfl, Or.inr ⟨rfl, tb9 hw (i := 27) rfl⟩, in_Ref hw, plainFor_of_name pn_Ref, nh_Ref⟩
def M_Ref_goB : jm_T := ("BusCrossbarModel", "goB", prog_14_method_44_code, 4, none, [], 2, 45)
abbrev y_Ref_goB : MethodName := ⟨"BusCrossbarModel", "goB", "(II)V"⟩
theorem mf_Ref_goB {w : jw_T} (hw : jok w) : jmf w M_Ref_goB y_Ref_goB := ⟨rfl, rfl, Or.inr ⟨rfl, tb9 hw (i := 31) rfl⟩, in_Ref hw, plainFor_of_name pn_Ref, nh_Ref⟩
def M_Ref_dropWrite : jm_T := ("BusCrossbarModel", "dropWrite", prog_14_method_40_code, 5, none, [], 0, 0)
abbrev y_Ref_dropWrite : MethodName := ⟨"BusCrossbarModel", "dropWrite", "(II)V"⟩
theorem mf_Ref_dropWrite {w : jw_T} (hw : jok w) : jmf w M_Ref_dropWrite y_Ref_dropWrite := ⟨rfl, rfl, Or.inr ⟨rfl, tb9 hw (i := 35) rfl⟩, in_Ref hw, plainFor_of_name pn_Ref, nh_Ref⟩
def M_Ref_goR : jm_T := ("BusCrossbarModel", "goR", prog_14_method_45_code, 4, none, [], 2, 44)
abbrev y_Ref_goR : MethodName := ⟨"BusCrossbarModel", "goR", "(II)V"⟩
theorem mf_Ref_goR {w : jw_T} (hw : jok w) : jmf w M_Ref_goR y_Ref_goR := ⟨rfl, rfl, Or.inr ⟨rfl, tb9 hw (i := 39) rfl⟩, in_Ref hw, plainFor_of_name pn_Ref, nh_Ref⟩
def M_Ref_dropRead : jm_T := ("BusCrossbarModel", "dropRead", prog_14_method_41_code, 4, none, [], 0, 0)
abbrev y_Ref_dropRead : MethodName := ⟨"BusCrossbarModel", "dropRead", "(II)V"⟩
theorem mf_Ref_dropRead {w : jw_T} (hw : jok w) : jmf w M_Ref_dropRead y_Ref_dropRead := ⟨rfl, rfl, Or.inr ⟨rfl, tb9 hw (i := 43) rfl⟩, in_Ref hw, plainFor_of_name pn_Ref, nh_Ref⟩
def M_Ref_goAr : jm_T := ("BusCrossbarModel", "goAr", prog_14_method_46_code, 4, none, [], 1, 23)
abbrev y_Ref_goAr : MethodName := ⟨"BusCrossbarModel", "goAr", "(IJ)V"⟩
theorem mf_Ref_goAr {w : jw_T} (hw : jok w) : jmf w M_Ref_goAr y_Ref_goAr := ⟨rfl, rfl, Or.inr ⟨rfl, tb9 hw (i := 47) rfl⟩, in_Ref hw, plainFor_of_name pn_Ref, nh_Ref⟩
def M_Ref_goAw : jm_T := ("BusCrossbarModel", "goAw", prog_14_method_47_code, 6, none, [], 3, 75)
abbrev y_Ref_goAw : MethodName := ⟨"BusCrossbarModel", "goAw", "(IJ)V"⟩
theorem mf_Ref_goAw {w : jw_T} (hw : jok w) : jmf w M_Ref_goAw y_Ref_goAw := ⟨rfl, rfl, Or.inr ⟨rfl, tb9 hw (i := 51) rfl⟩, in_Ref hw, plainFor_of_name pn_Ref, nh_Ref⟩
def M_Ref_newWrite : jm_T := ("BusCrossbarModel", "newWrite", prog_14_method_42_code, 4, (some .int), [], 1, 23)
abbrev y_Ref_newWrite : MethodName := ⟨"BusCrossbarModel", "newWrite", "(II)I"⟩
theorem mf_Ref_newWrite {w : jw_T} (hw : jok w) : jmf w M_Ref_newWrite y_Ref_newWrite := ⟨rfl, rfl, Or.inr ⟨rfl, tb9 hw (i := 55) rfl⟩, in_Ref hw, plainFor_of_name pn_Ref, nh_Ref⟩
def M_Ref_checkBeat : jm_T := ("BusCrossbarModel", "checkBeat", prog_14_method_43_code, 8, none, [], 2, 48)
abbrev y_Ref_checkBeat : MethodName := ⟨"BusCrossbarModel", "checkBeat", "(IIII)V"⟩
theorem mf_Ref_checkBeat {w : jw_T} (hw : jok w) : jmf w M_Ref_checkBeat y_Ref_checkBeat := ⟨rfl, rfl, Or.inr ⟨rfl, tb9 hw (i := 59) rfl⟩, in_Ref hw, plainFor_of_name pn_Ref, nh_Ref⟩
def M_Ref_goW : jm_T := ("BusCrossbarModel", "goW", prog_14_method_48_code, 5, none, [], 3, 75)
abbrev y_Ref_goW : MethodName := ⟨"BusCrossbarModel", "goW", "(II)V"⟩
theorem mf_Ref_goW {w : jw_T} (hw : jok w) : jmf w M_Ref_goW y_Ref_goW := ⟨rfl, rfl, Or.inr ⟨rfl, tb9 hw (i := 63) rfl⟩, in_Ref hw, plainFor_of_name pn_Ref, nh_Ref⟩
def M_Ref_goMaster : jm_T := ("BusCrossbarModel", "goMaster", prog_14_method_67_code, 3, none, [], 2, 49)
abbrev y_Ref_goMaster : MethodName := ⟨"BusCrossbarModel", "goMaster", "(II)V"⟩
theorem mf_Ref_goMaster {w : jw_T} (hw : jok w) : jmf w M_Ref_goMaster y_Ref_goMaster := ⟨rfl, rfl, Or.inr ⟨rfl, tb9 hw (i := 67) rfl⟩, in_Ref hw, plainFor_of_name pn_Ref, nh_Ref⟩
def M_Ref_addressSent : jm_T := ("BusCrossbarModel", "addressSent", prog_14_method_53_code, 4, none, [], 1, 26)
abbrev y_Ref_addressSent : MethodName := ⟨"BusCrossbarModel", "addressSent", "(II)V"⟩
theorem mf_Ref_addressSent {w : jw_T} (hw : jok w) : jmf w M_Ref_addressSent y_Ref_addressSent := ⟨rfl, rfl, Or.inr ⟨rfl, tb9 hw (i := 71) rfl⟩, in_Ref hw, plainFor_of_name pn_Ref, nh_Ref⟩
def M_Ref_put : jm_T := ("BusCrossbarModel", "put", prog_14_method_21_code, 7, none, [], 0, 0)
abbrev y_Ref_put : MethodName := ⟨"BusCrossbarModel", "put", "(IJII)V"⟩
theorem mf_Ref_put {w : jw_T} (hw : jok w) : jmf w M_Ref_put y_Ref_put := ⟨rfl, rfl, Or.inr ⟨rfl, tb9 hw (i := 75) rfl⟩, in_Ref hw, plainFor_of_name pn_Ref, nh_Ref⟩
def M_Ref_dataSent : jm_T := ("BusCrossbarModel", "dataSent", prog_14_method_54_code, 4, none, [], 1, 26)
abbrev y_Ref_dataSent : MethodName := ⟨"BusCrossbarModel", "dataSent", "(I)V"⟩
theorem mf_Ref_dataSent {w : jw_T} (hw : jok w) : jmf w M_Ref_dataSent y_Ref_dataSent := ⟨rfl, rfl, Or.inr ⟨rfl, tb9 hw (i := 79) rfl⟩, in_Ref hw, plainFor_of_name pn_Ref, nh_Ref⟩
def M_Ref_answerCame : jm_T := ("BusCrossbarModel", "answerCame", prog_14_method_56_code, 6, none, [], 1, 24)
abbrev y_Ref_answerCame : MethodName := ⟨"BusCrossbarModel", "answerCame", "(II)V"⟩
theorem mf_Ref_answerCame {w : jw_T} (hw : jok w) : jmf w M_Ref_answerCame y_Ref_answerCame := ⟨rfl, rfl, Or.inr ⟨rfl, tb9 hw (i := 83) rfl⟩, in_Ref hw, plainFor_of_name pn_Ref, nh_Ref⟩
def M_Ref_take : jm_T := ("BusCrossbarModel", "take", prog_14_method_22_code, 3, none, [], 0, 0)
abbrev y_Ref_take : MethodName := ⟨"BusCrossbarModel", "take", "(I)V"⟩
theorem mf_Ref_take {w : jw_T} (hw : jok w) : jmf w M_Ref_take y_Ref_take := ⟨rfl, rfl, Or.inr ⟨rfl, tb9 hw (i := 87) rfl⟩, in_Ref hw, plainFor_of_name pn_Ref, nh_Ref⟩
def M_Ref_answered : jm_T := ("BusCrossbarModel", "answered", prog_14_method_55_code, 5, (some .int), [], 0, 0)
abbrev y_Ref_answered : MethodName := ⟨"BusCrossbarModel", "answered", "(IIZ)I"⟩
theorem mf_Ref_answered {w : jw_T} (hw : jok w) : jmf w M_Ref_answered y_Ref_answered := ⟨rfl, rfl, Or.inr ⟨rfl, tb9 hw (i := 91) rfl⟩, in_Ref hw, plainFor_of_name pn_Ref, nh_Ref⟩
def M_Ref_goSlave : jm_T := ("BusCrossbarModel", "goSlave", prog_14_method_68_code, 4, none, [], 5, 129)
abbrev y_Ref_goSlave : MethodName := ⟨"BusCrossbarModel", "goSlave", "(II)V"⟩
theorem mf_Ref_goSlave {w : jw_T} (hw : jok w) : jmf w M_Ref_goSlave y_Ref_goSlave := ⟨rfl, rfl, Or.inr ⟨rfl, tb9 hw (i := 95) rfl⟩, in_Ref hw, plainFor_of_name pn_Ref, nh_Ref⟩
def M_Ref_writeGoes : jm_T := ("BusCrossbarModel", "writeGoes", prog_14_method_65_code, 6, none, [], 1, 26)
abbrev y_Ref_writeGoes : MethodName := ⟨"BusCrossbarModel", "writeGoes", "(I)V"⟩
theorem mf_Ref_writeGoes {w : jw_T} (hw : jok w) : jmf w M_Ref_writeGoes y_Ref_writeGoes := ⟨rfl, rfl, Or.inr ⟨rfl, tb9 hw (i := 99) rfl⟩, in_Ref hw, plainFor_of_name pn_Ref, nh_Ref⟩
def M_Ref_readGoes : jm_T := ("BusCrossbarModel", "readGoes", prog_14_method_66_code, 6, none, [], 1, 26)
abbrev y_Ref_readGoes : MethodName := ⟨"BusCrossbarModel", "readGoes", "(I)V"⟩
theorem mf_Ref_readGoes {w : jw_T} (hw : jok w) : jmf w M_Ref_readGoes y_Ref_readGoes := ⟨rfl, rfl, Or.inr ⟨rfl, tb9 hw (i := 103) rfl⟩, in_Ref hw, plainFor_of_name pn_Ref, nh_Ref⟩
def M_Ref_writeCame : jm_T := ("BusCrossbarModel", "writeCame", prog_14_method_59_code, 5, none, [], 1, 22)
abbrev y_Ref_writeCame : MethodName := ⟨"BusCrossbarModel", "writeCame", "(IJ)V"⟩
theorem mf_Ref_writeCame {w : jw_T} (hw : jok w) : jmf w M_Ref_writeCame y_Ref_writeCame := ⟨rfl, rfl, Or.inr ⟨rfl, tb9 hw (i := 107) rfl⟩, in_Ref hw, plainFor_of_name pn_Ref, nh_Ref⟩
def M_Ref_freePlace : jm_T := ("BusCrossbarModel", "freePlace", prog_14_method_58_code, 3, (some .int), [], 0, 0)
abbrev y_Ref_freePlace : MethodName := ⟨"BusCrossbarModel", "freePlace", "([ZI)I"⟩
theorem mf_Ref_freePlace {w : jw_T} (hw : jok w) : jmf w M_Ref_freePlace y_Ref_freePlace := ⟨rfl, rfl, Or.inr ⟨rfl, tb9 hw (i := 110) rfl⟩, in_Ref hw, plainFor_of_name pn_Ref, nh_Ref⟩
def M_Ref_beatCame : jm_T := ("BusCrossbarModel", "beatCame", prog_14_method_60_code, 7, none, [], 4, 103)
abbrev y_Ref_beatCame : MethodName := ⟨"BusCrossbarModel", "beatCame", "(IJI)V"⟩
theorem mf_Ref_beatCame {w : jw_T} (hw : jok w) : jmf w M_Ref_beatCame y_Ref_beatCame := ⟨rfl, rfl, Or.inr ⟨rfl, tb9 hw (i := 114) rfl⟩, in_Ref hw, plainFor_of_name pn_Ref, nh_Ref⟩
def M_Ref_doWrite : jm_T := ("BusCrossbarModel", "doWrite", prog_14_method_62_code, 12, none, [], 3, 72)
abbrev y_Ref_doWrite : MethodName := ⟨"BusCrossbarModel", "doWrite", "(II)V"⟩
theorem mf_Ref_doWrite {w : jw_T} (hw : jok w) : jmf w M_Ref_doWrite y_Ref_doWrite := ⟨rfl, rfl, Or.inr ⟨rfl, tb9 hw (i := 118) rfl⟩, in_Ref hw, plainFor_of_name pn_Ref, nh_Ref⟩
def M_Ref_byteAt : jm_T := ("BusCrossbarModel", "byteAt", prog_14_method_61_code, 5, (some .int), [], 2, 48)
abbrev y_Ref_byteAt : MethodName := ⟨"BusCrossbarModel", "byteAt", "(JII)I"⟩
theorem mf_Ref_byteAt {w : jw_T} (hw : jok w) : jmf w M_Ref_byteAt y_Ref_byteAt := ⟨rfl, rfl, Or.inr ⟨rfl, tb9 hw (i := 121) rfl⟩, in_Ref hw, plainFor_of_name pn_Ref, nh_Ref⟩
def M_Ref_takeRights : jm_T := ("BusCrossbarModel", "takeRights", prog_14_method_63_code, 4, none, [], 0, 0)
abbrev y_Ref_takeRights : MethodName := ⟨"BusCrossbarModel", "takeRights", "(II)V"⟩
theorem mf_Ref_takeRights {w : jw_T} (hw : jok w) : jmf w M_Ref_takeRights y_Ref_takeRights := ⟨rfl, rfl, Or.inr ⟨rfl, tb9 hw (i := 125) rfl⟩, in_Ref hw, plainFor_of_name pn_Ref, nh_Ref⟩
def M_Ref_readComes : jm_T := ("BusCrossbarModel", "readComes", prog_14_method_64_code, 13, none, [], 3, 75)
abbrev y_Ref_readComes : MethodName := ⟨"BusCrossbarModel", "readComes", "(IJ)V"⟩
theorem mf_Ref_readComes {w : jw_T} (hw : jok w) : jmf w M_Ref_readComes y_Ref_readComes := ⟨rfl, rfl, Or.inr ⟨rfl, tb9 hw (i := 129) rfl⟩, in_Ref hw, plainFor_of_name pn_Ref, nh_Ref⟩
def M_Ref_isSpoilt : jm_T := ("BusCrossbarModel", "isSpoilt", prog_14_method_57_code, 8, (some .boolean), [], 2, 48)
abbrev y_Ref_isSpoilt : MethodName := ⟨"BusCrossbarModel", "isSpoilt", "(JI)Z"⟩
theorem mf_Ref_isSpoilt {w : jw_T} (hw : jok w) : jmf w M_Ref_isSpoilt y_Ref_isSpoilt := ⟨rfl, rfl, Or.inr ⟨rfl, tb9 hw (i := 133) rfl⟩, in_Ref hw, plainFor_of_name pn_Ref, nh_Ref⟩
def M_Ref_move : jm_T := ("BusCrossbarModel", "move", prog_14_method_79_code, 2, none, [], 5, 121)
abbrev y_Ref_move : MethodName := ⟨"BusCrossbarModel", "move", "()V"⟩
theorem mf_Ref_move {w : jw_T} (hw : jok w) : jmf w M_Ref_move y_Ref_move := ⟨rfl, rfl, Or.inr ⟨rfl, tb9 hw (i := 137) rfl⟩, in_Ref hw, plainFor_of_name pn_Ref, nh_Ref⟩
def M_Ref_moveAddress : jm_T := ("BusCrossbarModel", "moveAddress", prog_14_method_73_code, 7, none, [], 4, 95)
abbrev y_Ref_moveAddress : MethodName := ⟨"BusCrossbarModel", "moveAddress", "(II)V"⟩
theorem mf_Ref_moveAddress {w : jw_T} (hw : jok w) : jmf w M_Ref_moveAddress y_Ref_moveAddress := ⟨rfl, rfl, Or.inr ⟨rfl, tb9 hw (i := 141) rfl⟩, in_Ref hw, plainFor_of_name pn_Ref, nh_Ref⟩
def M_Ref_choose : jm_T := ("BusCrossbarModel", "choose", prog_14_method_72_code, 8, (some .int), [], 3, 68)
abbrev y_Ref_choose : MethodName := ⟨"BusCrossbarModel", "choose", "(II)I"⟩
theorem mf_Ref_choose {w : jw_T} (hw : jok w) : jmf w M_Ref_choose y_Ref_choose := ⟨rfl, rfl, Or.inr ⟨rfl, tb9 hw (i := 145) rfl⟩, in_Ref hw, plainFor_of_name pn_Ref, nh_Ref⟩
def M_Ref_mayWrite : jm_T := ("BusCrossbarModel", "mayWrite", prog_14_method_69_code, 8, (some .boolean), [], 2, 41)
abbrev y_Ref_mayWrite : MethodName := ⟨"BusCrossbarModel", "mayWrite", "(II)Z"⟩
theorem mf_Ref_mayWrite {w : jw_T} (hw : jok w) : jmf w M_Ref_mayWrite y_Ref_mayWrite := ⟨rfl, rfl, Or.inr ⟨rfl, tb9 hw (i := 149) rfl⟩, in_Ref hw, plainFor_of_name pn_Ref, nh_Ref⟩
def M_Ref_targetOf : jm_T := ("BusCrossbarModel", "targetOf", prog_14_method_17_code, 3, (some .int), [], 0, 0)
abbrev y_Ref_targetOf : MethodName := ⟨"BusCrossbarModel", "targetOf", "(I)I"⟩
theorem mf_Ref_targetOf {w : jw_T} (hw : jok w) : jmf w M_Ref_targetOf y_Ref_targetOf := ⟨rfl, rfl, Or.inr ⟨rfl, tb9 hw (i := 153) rfl⟩, in_Ref hw, plainFor_of_name pn_Ref, nh_Ref⟩
def M_Ref_mayRead : jm_T := ("BusCrossbarModel", "mayRead", prog_14_method_70_code, 8, (some .boolean), [], 2, 41)
abbrev y_Ref_mayRead : MethodName := ⟨"BusCrossbarModel", "mayRead", "(II)Z"⟩
theorem mf_Ref_mayRead {w : jw_T} (hw : jok w) : jmf w M_Ref_mayRead y_Ref_mayRead := ⟨rfl, rfl, Or.inr ⟨rfl, tb9 hw (i := 157) rfl⟩, in_Ref hw, plainFor_of_name pn_Ref, nh_Ref⟩
def M_Ref_isBetter : jm_T := ("BusCrossbarModel", "isBetter", prog_14_method_71_code, 6, (some .boolean), [], 1, 23)
abbrev y_Ref_isBetter : MethodName := ⟨"BusCrossbarModel", "isBetter", "(III)Z"⟩
theorem mf_Ref_isBetter {w : jw_T} (hw : jok w) : jmf w M_Ref_isBetter y_Ref_isBetter := ⟨rfl, rfl, Or.inr ⟨rfl, tb9 hw (i := 161) rfl⟩, in_Ref hw, plainFor_of_name pn_Ref, nh_Ref⟩
def M_Ref_urgencyOf : jm_T := ("BusCrossbarModel", "urgencyOf", prog_14_method_11_code, 2, (some .int), [], 0, 0)
abbrev y_Ref_urgencyOf : MethodName := ⟨"BusCrossbarModel", "urgencyOf", "(J)I"⟩
theorem mf_Ref_urgencyOf {w : jw_T} (hw : jok w) : jmf w M_Ref_urgencyOf y_Ref_urgencyOf := ⟨rfl, rfl, Or.inr ⟨rfl, tb9 hw (i := 164) rfl⟩, in_Ref hw, plainFor_of_name pn_Ref, nh_Ref⟩
def M_Ref_moveData : jm_T := ("BusCrossbarModel", "moveData", prog_14_method_74_code, 6, none, [], 2, 41)
abbrev y_Ref_moveData : MethodName := ⟨"BusCrossbarModel", "moveData", "(I)V"⟩
theorem mf_Ref_moveData {w : jw_T} (hw : jok w) : jmf w M_Ref_moveData y_Ref_moveData := ⟨rfl, rfl, Or.inr ⟨rfl, tb9 hw (i := 169) rfl⟩, in_Ref hw, plainFor_of_name pn_Ref, nh_Ref⟩
def M_Ref_workDefault : jm_T := ("BusCrossbarModel", "workDefault", prog_14_method_75_code, 9, none, [], 2, 41)
abbrev y_Ref_workDefault : MethodName := ⟨"BusCrossbarModel", "workDefault", "()V"⟩
theorem mf_Ref_workDefault {w : jw_T} (hw : jok w) : jmf w M_Ref_workDefault y_Ref_workDefault := ⟨rfl, rfl, Or.inr ⟨rfl, tb9 hw (i := 173) rfl⟩, in_Ref hw, plainFor_of_name pn_Ref, nh_Ref⟩
def M_Ref_moveAnswer : jm_T := ("BusCrossbarModel", "moveAnswer", prog_14_method_77_code, 9, none, [], 2, 47)
abbrev y_Ref_moveAnswer : MethodName := ⟨"BusCrossbarModel", "moveAnswer", "(I)V"⟩
theorem mf_Ref_moveAnswer {w : jw_T} (hw : jok w) : jmf w M_Ref_moveAnswer y_Ref_moveAnswer := ⟨rfl, rfl, Or.inr ⟨rfl, tb9 hw (i := 177) rfl⟩, in_Ref hw, plainFor_of_name pn_Ref, nh_Ref⟩
def M_Ref_isFor : jm_T := ("BusCrossbarModel", "isFor", prog_14_method_76_code, 5, (some .boolean), [], 1, 23)
abbrev y_Ref_isFor : MethodName := ⟨"BusCrossbarModel", "isFor", "(III)Z"⟩
theorem mf_Ref_isFor {w : jw_T} (hw : jok w) : jmf w M_Ref_isFor y_Ref_isFor := ⟨rfl, rfl, Or.inr ⟨rfl, tb9 hw (i := 181) rfl⟩, in_Ref hw, plainFor_of_name pn_Ref, nh_Ref⟩
def M_Ref_moveBeat : jm_T := ("BusCrossbarModel", "moveBeat", prog_14_method_78_code, 9, none, [], 2, 47)
abbrev y_Ref_moveBeat : MethodName := ⟨"BusCrossbarModel", "moveBeat", "(I)V"⟩
theorem mf_Ref_moveBeat {w : jw_T} (hw : jok w) : jmf w M_Ref_moveBeat y_Ref_moveBeat := ⟨rfl, rfl, Or.inr ⟨rfl, tb9 hw (i := 185) rfl⟩, in_Ref hw, plainFor_of_name pn_Ref, nh_Ref⟩
def M_Ref_drain : jm_T := ("BusCrossbarModel", "drain", prog_14_method_94_code, 3, (some .int), [], 7, 175)
abbrev y_Ref_drain : MethodName := ⟨"BusCrossbarModel", "drain", "(I)I"⟩
theorem mf_Ref_drain {w : jw_T} (hw : jok w) : jmf w M_Ref_drain y_Ref_drain := ⟨rfl, rfl, Or.inr ⟨rfl, tb9 hw (i := 189) rfl⟩, in_Ref hw, plainFor_of_name pn_Ref, nh_Ref⟩
def M_Ref_ticket : jm_T := ("BusCrossbarModel", "ticket", prog_14_method_96_code, 3, (some .int), [], 2, 46)
abbrev y_Ref_ticket : MethodName := ⟨"BusCrossbarModel", "ticket", "(II)I"⟩
theorem mf_Ref_ticket {w : jw_T} (hw : jok w) : jmf w M_Ref_ticket y_Ref_ticket := ⟨rfl, rfl, Or.inr ⟨rfl, tb9 hw (i := 194) rfl⟩, in_Ref hw, plainFor_of_name pn_Ref, nh_Ref⟩
def M_Ref_isTicket : jm_T := ("BusCrossbarModel", "isTicket", prog_14_method_95_code, 2, (some .boolean), [], 1, 25)
abbrev y_Ref_isTicket : MethodName := ⟨"BusCrossbarModel", "isTicket", "(I)Z"⟩
theorem mf_Ref_isTicket {w : jw_T} (hw : jok w) : jmf w M_Ref_isTicket y_Ref_isTicket := ⟨rfl, rfl, Or.inr ⟨rfl, tb9 hw (i := 198) rfl⟩, in_Ref hw, plainFor_of_name pn_Ref, nh_Ref⟩
def M_Ref_data : jm_T := ("BusCrossbarModel", "data", prog_14_method_97_code, 3, (some .long), [], 2, 46)
abbrev y_Ref_data : MethodName := ⟨"BusCrossbarModel", "data", "(II)J"⟩
theorem mf_Ref_data {w : jw_T} (hw : jok w) : jmf w M_Ref_data y_Ref_data := ⟨rfl, rfl, Or.inr ⟨rfl, tb9 hw (i := 203) rfl⟩, in_Ref hw, plainFor_of_name pn_Ref, nh_Ref⟩
def M_Ref_forget : jm_T := ("BusCrossbarModel", "forget", prog_14_method_98_code, 2, (some .int), [], 1, 22)
abbrev y_Ref_forget : MethodName := ⟨"BusCrossbarModel", "forget", "()I"⟩
theorem mf_Ref_forget {w : jw_T} (hw : jok w) : jmf w M_Ref_forget y_Ref_forget := ⟨rfl, rfl, Or.inr ⟨rfl, tb9 hw (i := 207) rfl⟩, in_Ref hw, plainFor_of_name pn_Ref, nh_Ref⟩
def M_Ref_wire : jm_T := ("BusCrossbarModel", "wire", prog_14_method_101_code, 6, (some .int), [], 2, 47)
abbrev y_Ref_wire : MethodName := ⟨"BusCrossbarModel", "wire", "(IIII)I"⟩
theorem mf_Ref_wire {w : jw_T} (hw : jok w) : jmf w M_Ref_wire y_Ref_wire := ⟨rfl, rfl, Or.inr ⟨rfl, tb9 hw (i := 211) rfl⟩, in_Ref hw, plainFor_of_name pn_Ref, nh_Ref⟩
def M_Ref_isSide : jm_T := ("BusCrossbarModel", "isSide", prog_14_method_99_code, 3, (some .boolean), [], 1, 25)
abbrev y_Ref_isSide : MethodName := ⟨"BusCrossbarModel", "isSide", "(II)Z"⟩
theorem mf_Ref_isSide {w : jw_T} (hw : jok w) : jmf w M_Ref_isSide y_Ref_isSide := ⟨rfl, rfl, Or.inr ⟨rfl, tb9 hw (i := 215) rfl⟩, in_Ref hw, plainFor_of_name pn_Ref, nh_Ref⟩
def M_Ref_wireOf : jm_T := ("BusCrossbarModel", "wireOf", prog_14_method_100_code, 3, (some .int), [], 0, 0)
abbrev y_Ref_wireOf : MethodName := ⟨"BusCrossbarModel", "wireOf", "(III)I"⟩
theorem mf_Ref_wireOf {w : jw_T} (hw : jok w) : jmf w M_Ref_wireOf y_Ref_wireOf := ⟨rfl, rfl, Or.inr ⟨rfl, tb9 hw (i := 218) rfl⟩, in_Ref hw, plainFor_of_name pn_Ref, nh_Ref⟩
def M_Ref_content : jm_T := ("BusCrossbarModel", "content", prog_14_method_102_code, 4, (some .long), [], 2, 47)
abbrev y_Ref_content : MethodName := ⟨"BusCrossbarModel", "content", "(III)J"⟩
theorem mf_Ref_content {w : jw_T} (hw : jok w) : jmf w M_Ref_content y_Ref_content := ⟨rfl, rfl, Or.inr ⟨rfl, tb9 hw (i := 222) rfl⟩, in_Ref hw, plainFor_of_name pn_Ref, nh_Ref⟩
def M_Ref_port : jm_T := ("BusCrossbarModel", "port", prog_14_method_103_code, 5, (some .int), [], 2, 47)
abbrev y_Ref_port : MethodName := ⟨"BusCrossbarModel", "port", "(III)I"⟩
theorem mf_Ref_port {w : jw_T} (hw : jok w) : jmf w M_Ref_port y_Ref_port := ⟨rfl, rfl, Or.inr ⟨rfl, tb9 hw (i := 226) rfl⟩, in_Ref hw, plainFor_of_name pn_Ref, nh_Ref⟩
def M_Ref_target : jm_T := ("BusCrossbarModel", "target", prog_14_method_104_code, 5, (some .int), [], 1, 25)
abbrev y_Ref_target : MethodName := ⟨"BusCrossbarModel", "target", "(II)I"⟩
theorem mf_Ref_target {w : jw_T} (hw : jok w) : jmf w M_Ref_target y_Ref_target := ⟨rfl, rfl, Or.inr ⟨rfl, tb9 hw (i := 231) rfl⟩, in_Ref hw, plainFor_of_name pn_Ref, nh_Ref⟩
def M_Ref_right : jm_T := ("BusCrossbarModel", "right", prog_14_method_105_code, 3, (some .int), [], 1, 25)
abbrev y_Ref_right : MethodName := ⟨"BusCrossbarModel", "right", "(II)I"⟩
theorem mf_Ref_right {w : jw_T} (hw : jok w) : jmf w M_Ref_right y_Ref_right := ⟨rfl, rfl, Or.inr ⟨rfl, tb9 hw (i := 235) rfl⟩, in_Ref hw, plainFor_of_name pn_Ref, nh_Ref⟩
def M_Ref_told : jm_T := ("BusCrossbarModel", "told", prog_14_method_106_code, 2, (some .int), [], 1, 22)
abbrev y_Ref_told : MethodName := ⟨"BusCrossbarModel", "told", "(I)I"⟩
theorem mf_Ref_told {w : jw_T} (hw : jok w) : jmf w M_Ref_told y_Ref_told := ⟨rfl, rfl, Or.inr ⟨rfl, tb9 hw (i := 239) rfl⟩, in_Ref hw, plainFor_of_name pn_Ref, nh_Ref⟩
def M_Ref_see : jm_T := ("BusCrossbarModel", "see", prog_14_method_108_code, 8, none, [], 2, 45)
abbrev y_Ref_see : MethodName := ⟨"BusCrossbarModel", "see", "(IIIJI)V"⟩
theorem mf_Ref_see {w : jw_T} (hw : jok w) : jmf w M_Ref_see y_Ref_see := ⟨rfl, rfl, Or.inr ⟨rfl, tb10 hw (i := 3) rfl⟩, in_Ref hw, plainFor_of_name pn_Ref, nh_Ref⟩
def M_Ref_isWatcher : jm_T := ("BusCrossbarModel", "isWatcher", prog_14_method_107_code, 1, (some .boolean), [], 1, 25)
abbrev y_Ref_isWatcher : MethodName := ⟨"BusCrossbarModel", "isWatcher", "(I)Z"⟩
theorem mf_Ref_isWatcher {w : jw_T} (hw : jok w) : jmf w M_Ref_isWatcher y_Ref_isWatcher := ⟨rfl, rfl, Or.inr ⟨rfl, tb10 hw (i := 6) rfl⟩, in_Ref hw, plainFor_of_name pn_Ref, nh_Ref⟩
def M_Ref_judge : jm_T := ("BusCrossbarModel", "judge", prog_14_method_110_code, 2, (some .int), [], 6, 149)
abbrev y_Ref_judge : MethodName := ⟨"BusCrossbarModel", "judge", "(I)I"⟩
theorem mf_Ref_judge {w : jw_T} (hw : jok w) : jmf w M_Ref_judge y_Ref_judge := ⟨rfl, rfl, Or.inr ⟨rfl, tb10 hw (i := 11) rfl⟩, in_Ref hw, plainFor_of_name pn_Ref, nh_Ref⟩
def M_Ref_watched : jm_T := ("BusCrossbarModel", "watched", prog_14_method_111_code, 4, (some .int), [], 2, 45)
abbrev y_Ref_watched : MethodName := ⟨"BusCrossbarModel", "watched", "(II)I"⟩
theorem mf_Ref_watched {w : jw_T} (hw : jok w) : jmf w M_Ref_watched y_Ref_watched := ⟨rfl, rfl, Or.inr ⟨rfl, tb10 hw (i := 15) rfl⟩, in_Ref hw, plainFor_of_name pn_Ref, nh_Ref⟩
def M_Ref_again : jm_T := ("BusCrossbarModel", "again", prog_14_method_112_code, 2, none, [], 2, 45)
abbrev y_Ref_again : MethodName := ⟨"BusCrossbarModel", "again", "(I)V"⟩
theorem mf_Ref_again {w : jw_T} (hw : jok w) : jmf w M_Ref_again y_Ref_again := ⟨rfl, rfl, Or.inr ⟨rfl, tb10 hw (i := 20) rfl⟩, in_Ref hw, plainFor_of_name pn_Ref, nh_Ref⟩
def M_Law_law : jm_T := ("BusCrossbarLaw", "law", code, 8, (some .boolean), [], 12, 448)
