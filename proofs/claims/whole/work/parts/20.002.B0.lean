/-! THE STATE that both programs hold, and what a tick does with it. -/
abbrev RE : Type := (Int64) × (Int32) × (Nat)
abbrev RE.c (x : RE) : Int64 := x.1
abbrev RE.r (x : RE) : Int32 := x.2.1
abbrev RE.t (x : RE) : Nat := x.2.2
abbrev RE.mk (a0 : Int64) (a1 : Int32) (a2 : Nat) : RE := (a0, a1, a2)
theorem RE.c_mk (a0 : Int64) (a1 : Int32) (a2 : Nat) : RE.c (a0, a1, a2) = a0 := rfl
theorem RE.r_mk (a0 : Int64) (a1 : Int32) (a2 : Nat) : RE.r (a0, a1, a2) = a1 := rfl
theorem RE.t_mk (a0 : Int64) (a1 : Int32) (a2 : Nat) : RE.t (a0, a1, a2) = a2 := rfl
abbrev RE.w_c (x : RE) (v : Int64) : RE := (v, RE.r x, RE.t x)
abbrev RE.w_r (x : RE) (v : Int32) : RE := (RE.c x, v, RE.t x)
abbrev RE.w_t (x : RE) (v : Nat) : RE := (RE.c x, RE.r x, v)
theorem RE.c_w_c (x : RE) (v : Int64) : (x.w_c v).c = v := rfl
theorem RE.r_w_c (x : RE) (v : Int64) : (x.w_c v).r = x.r := rfl
theorem RE.t_w_c (x : RE) (v : Int64) : (x.w_c v).t = x.t := rfl
theorem RE.c_w_r (x : RE) (v : Int32) : (x.w_r v).c = x.c := rfl
theorem RE.r_w_r (x : RE) (v : Int32) : (x.w_r v).r = v := rfl
theorem RE.t_w_r (x : RE) (v : Int32) : (x.w_r v).t = x.t := rfl
theorem RE.c_w_t (x : RE) (v : Nat) : (x.w_t v).c = x.c := rfl
theorem RE.r_w_t (x : RE) (v : Nat) : (x.w_t v).r = x.r := rfl
theorem RE.t_w_t (x : RE) (v : Nat) : (x.w_t v).t = v := rfl
abbrev UE : Type := (Nat) × (Nat) × (Nat) × (Nat) × (Nat)
abbrev UE.m (x : UE) : Nat := x.1
abbrev UE.id (x : UE) : Nat := x.2.1
abbrev UE.tg (x : UE) : Nat := x.2.2.1
abbrev UE.left (x : UE) : Nat := x.2.2.2.1
abbrev UE.num (x : UE) : Nat := x.2.2.2.2
abbrev UE.mk (a0 : Nat) (a1 : Nat) (a2 : Nat) (a3 : Nat) (a4 : Nat) : UE := (a0, a1, a2, a3, a4)
theorem UE.m_mk (a0 : Nat) (a1 : Nat) (a2 : Nat) (a3 : Nat) (a4 : Nat) : UE.m (a0, a1, a2, a3, a4) = a0 := rfl
theorem UE.id_mk (a0 : Nat) (a1 : Nat) (a2 : Nat) (a3 : Nat) (a4 : Nat) : UE.id (a0, a1, a2, a3, a4) = a1 := rfl
theorem UE.tg_mk (a0 : Nat) (a1 : Nat) (a2 : Nat) (a3 : Nat) (a4 : Nat) : UE.tg (a0, a1, a2, a3, a4) = a2 := rfl
theorem UE.left_mk (a0 : Nat) (a1 : Nat) (a2 : Nat) (a3 : Nat) (a4 : Nat) : UE.left (a0, a1, a2, a3, a4) = a3 := rfl
theorem UE.num_mk (a0 : Nat) (a1 : Nat) (a2 : Nat) (a3 : Nat) (a4 : Nat) : UE.num (a0, a1, a2, a3, a4) = a4 := rfl
abbrev UE.w_m (x : UE) (v : Nat) : UE := (v, UE.id x, UE.tg x, UE.left x, UE.num x)
abbrev UE.w_id (x : UE) (v : Nat) : UE := (UE.m x, v, UE.tg x, UE.left x, UE.num x)
abbrev UE.w_tg (x : UE) (v : Nat) : UE := (UE.m x, UE.id x, v, UE.left x, UE.num x)
abbrev UE.w_left (x : UE) (v : Nat) : UE := (UE.m x, UE.id x, UE.tg x, v, UE.num x)
abbrev UE.w_num (x : UE) (v : Nat) : UE := (UE.m x, UE.id x, UE.tg x, UE.left x, v)
theorem UE.m_w_m (x : UE) (v : Nat) : (x.w_m v).m = v := rfl
theorem UE.id_w_m (x : UE) (v : Nat) : (x.w_m v).id = x.id := rfl
theorem UE.tg_w_m (x : UE) (v : Nat) : (x.w_m v).tg = x.tg := rfl
theorem UE.left_w_m (x : UE) (v : Nat) : (x.w_m v).left = x.left := rfl
theorem UE.num_w_m (x : UE) (v : Nat) : (x.w_m v).num = x.num := rfl
theorem UE.m_w_id (x : UE) (v : Nat) : (x.w_id v).m = x.m := rfl
theorem UE.id_w_id (x : UE) (v : Nat) : (x.w_id v).id = v := rfl
theorem UE.tg_w_id (x : UE) (v : Nat) : (x.w_id v).tg = x.tg := rfl
theorem UE.left_w_id (x : UE) (v : Nat) : (x.w_id v).left = x.left := rfl
theorem UE.num_w_id (x : UE) (v : Nat) : (x.w_id v).num = x.num := rfl
theorem UE.m_w_tg (x : UE) (v : Nat) : (x.w_tg v).m = x.m := rfl
theorem UE.id_w_tg (x : UE) (v : Nat) : (x.w_tg v).id = x.id := rfl
theorem UE.tg_w_tg (x : UE) (v : Nat) : (x.w_tg v).tg = v := rfl
theorem UE.left_w_tg (x : UE) (v : Nat) : (x.w_tg v).left = x.left := rfl
theorem UE.num_w_tg (x : UE) (v : Nat) : (x.w_tg v).num = x.num := rfl
theorem UE.m_w_left (x : UE) (v : Nat) : (x.w_left v).m = x.m := rfl
theorem UE.id_w_left (x : UE) (v : Nat) : (x.w_left v).id = x.id := rfl
theorem UE.tg_w_left (x : UE) (v : Nat) : (x.w_left v).tg = x.tg := rfl
theorem UE.left_w_left (x : UE) (v : Nat) : (x.w_left v).left = v := rfl
theorem UE.num_w_left (x : UE) (v : Nat) : (x.w_left v).num = x.num := rfl
theorem UE.m_w_num (x : UE) (v : Nat) : (x.w_num v).m = x.m := rfl
theorem UE.id_w_num (x : UE) (v : Nat) : (x.w_num v).id = x.id := rfl
theorem UE.tg_w_num (x : UE) (v : Nat) : (x.w_num v).tg = x.tg := rfl
theorem UE.left_w_num (x : UE) (v : Nat) : (x.w_num v).left = x.left := rfl
theorem UE.num_w_num (x : UE) (v : Nat) : (x.w_num v).num = v := rfl
abbrev TK : Type := (Nat) × (Int64) × (Bool) × (Bool) × (Int64) × (Int32) × (Int32) × (Int32) × (Nat) × (Nat) × (Nat → Int64) × (Nat → Int32)
abbrev TK.m (x : TK) : Nat := x.1
abbrev TK.con (x : TK) : Int64 := x.2.1
abbrev TK.wr (x : TK) : Bool := x.2.2.1
abbrev TK.sp (x : TK) : Bool := x.2.2.2.1
abbrev TK.seed (x : TK) : Int64 := x.2.2.2.2.1
abbrev TK.asked (x : TK) : Int32 := x.2.2.2.2.2.1
abbrev TK.sent (x : TK) : Int32 := x.2.2.2.2.2.2.1
abbrev TK.done (x : TK) : Int32 := x.2.2.2.2.2.2.2.1
abbrev TK.resp (x : TK) : Nat := x.2.2.2.2.2.2.2.2.1
abbrev TK.beats (x : TK) : Nat := x.2.2.2.2.2.2.2.2.2.1
abbrev TK.dat (x : TK) : Nat → Int64 := x.2.2.2.2.2.2.2.2.2.2.1
abbrev TK.rst (x : TK) : Nat → Int32 := x.2.2.2.2.2.2.2.2.2.2.2
abbrev TK.mk (a0 : Nat) (a1 : Int64) (a2 : Bool) (a3 : Bool) (a4 : Int64) (a5 : Int32) (a6 : Int32) (a7 : Int32) (a8 : Nat) (a9 : Nat) (a10 : Nat → Int64) (a11 : Nat → Int32) : TK := (a0, a1, a2, a3, a4, a5, a6, a7, a8, a9, a10, a11)
theorem TK.m_mk (a0 : Nat) (a1 : Int64) (a2 : Bool) (a3 : Bool) (a4 : Int64) (a5 : Int32) (a6 : Int32) (a7 : Int32) (a8 : Nat) (a9 : Nat) (a10 : Nat → Int64) (a11 : Nat → Int32) : TK.m (a0, a1, a2, a3, a4, a5, a6, a7, a8, a9, a10, a11) = a0 := rfl
theorem TK.con_mk (a0 : Nat) (a1 : Int64) (a2 : Bool) (a3 : Bool) (a4 : Int64) (a5 : Int32) (a6 : Int32) (a7 : Int32) (a8 : Nat) (a9 : Nat) (a10 : Nat → Int64) (a11 : Nat → Int32) : TK.con (a0, a1, a2, a3, a4, a5, a6, a7, a8, a9, a10, a11) = a1 := rfl
theorem TK.wr_mk (a0 : Nat) (a1 : Int64) (a2 : Bool) (a3 : Bool) (a4 : Int64) (a5 : Int32) (a6 : Int32) (a7 : Int32) (a8 : Nat) (a9 : Nat) (a10 : Nat → Int64) (a11 : Nat → Int32) : TK.wr (a0, a1, a2, a3, a4, a5, a6, a7, a8, a9, a10, a11) = a2 := rfl
theorem TK.sp_mk (a0 : Nat) (a1 : Int64) (a2 : Bool) (a3 : Bool) (a4 : Int64) (a5 : Int32) (a6 : Int32) (a7 : Int32) (a8 : Nat) (a9 : Nat) (a10 : Nat → Int64) (a11 : Nat → Int32) : TK.sp (a0, a1, a2, a3, a4, a5, a6, a7, a8, a9, a10, a11) = a3 := rfl
theorem TK.seed_mk (a0 : Nat) (a1 : Int64) (a2 : Bool) (a3 : Bool) (a4 : Int64) (a5 : Int32) (a6 : Int32) (a7 : Int32) (a8 : Nat) (a9 : Nat) (a10 : Nat → Int64) (a11 : Nat → Int32) : TK.seed (a0, a1, a2, a3, a4, a5, a6, a7, a8, a9, a10, a11) = a4 := rfl
theorem TK.asked_mk (a0 : Nat) (a1 : Int64) (a2 : Bool) (a3 : Bool) (a4 : Int64) (a5 : Int32) (a6 : Int32) (a7 : Int32) (a8 : Nat) (a9 : Nat) (a10 : Nat → Int64) (a11 : Nat → Int32) : TK.asked (a0, a1, a2, a3, a4, a5, a6, a7, a8, a9, a10, a11) = a5 := rfl
theorem TK.sent_mk (a0 : Nat) (a1 : Int64) (a2 : Bool) (a3 : Bool) (a4 : Int64) (a5 : Int32) (a6 : Int32) (a7 : Int32) (a8 : Nat) (a9 : Nat) (a10 : Nat → Int64) (a11 : Nat → Int32) : TK.sent (a0, a1, a2, a3, a4, a5, a6, a7, a8, a9, a10, a11) = a6 := rfl
theorem TK.done_mk (a0 : Nat) (a1 : Int64) (a2 : Bool) (a3 : Bool) (a4 : Int64) (a5 : Int32) (a6 : Int32) (a7 : Int32) (a8 : Nat) (a9 : Nat) (a10 : Nat → Int64) (a11 : Nat → Int32) : TK.done (a0, a1, a2, a3, a4, a5, a6, a7, a8, a9, a10, a11) = a7 := rfl
theorem TK.resp_mk (a0 : Nat) (a1 : Int64) (a2 : Bool) (a3 : Bool) (a4 : Int64) (a5 : Int32) (a6 : Int32) (a7 : Int32) (a8 : Nat) (a9 : Nat) (a10 : Nat → Int64) (a11 : Nat → Int32) : TK.resp (a0, a1, a2, a3, a4, a5, a6, a7, a8, a9, a10, a11) = a8 := rfl
theorem TK.beats_mk (a0 : Nat) (a1 : Int64) (a2 : Bool) (a3 : Bool) (a4 : Int64) (a5 : Int32) (a6 : Int32) (a7 : Int32) (a8 : Nat) (a9 : Nat) (a10 : Nat → Int64) (a11 : Nat → Int32) : TK.beats (a0, a1, a2, a3, a4, a5, a6, a7, a8, a9, a10, a11) = a9 := rfl
theorem TK.dat_mk (a0 : Nat) (a1 : Int64) (a2 : Bool) (a3 : Bool) (a4 : Int64) (a5 : Int32) (a6 : Int32) (a7 : Int32) (a8 : Nat) (a9 : Nat) (a10 : Nat → Int64) (a11 : Nat → Int32) : TK.dat (a0, a1, a2, a3, a4, a5, a6, a7, a8, a9, a10, a11) = a10 := rfl
theorem TK.rst_mk (a0 : Nat) (a1 : Int64) (a2 : Bool) (a3 : Bool) (a4 : Int64) (a5 : Int32) (a6 : Int32) (a7 : Int32) (a8 : Nat) (a9 : Nat) (a10 : Nat → Int64) (a11 : Nat → Int32) : TK.rst (a0, a1, a2, a3, a4, a5, a6, a7, a8, a9, a10, a11) = a11 := rfl
abbrev TK.w_m (x : TK) (v : Nat) : TK := (v, TK.con x, TK.wr x, TK.sp x, TK.seed x, TK.asked x, TK.sent x, TK.done x, TK.resp x, TK.beats x, TK.dat x, TK.rst x)
abbrev TK.w_con (x : TK) (v : Int64) : TK := (TK.m x, v, TK.wr x, TK.sp x, TK.seed x, TK.asked x, TK.sent x, TK.done x, TK.resp x, TK.beats x, TK.dat x, TK.rst x)
abbrev TK.w_wr (x : TK) (v : Bool) : TK := (TK.m x, TK.con x, v, TK.sp x, TK.seed x, TK.asked x, TK.sent x, TK.done x, TK.resp x, TK.beats x, TK.dat x, TK.rst x)
abbrev TK.w_sp (x : TK) (v : Bool) : TK := (TK.m x, TK.con x, TK.wr x, v, TK.seed x, TK.asked x, TK.sent x, TK.done x, TK.resp x, TK.beats x, TK.dat x, TK.rst x)
abbrev TK.w_seed (x : TK) (v : Int64) : TK := (TK.m x, TK.con x, TK.wr x, TK.sp x, v, TK.asked x, TK.sent x, TK.done x, TK.resp x, TK.beats x, TK.dat x, TK.rst x)
abbrev TK.w_asked (x : TK) (v : Int32) : TK := (TK.m x, TK.con x, TK.wr x, TK.sp x, TK.seed x, v, TK.sent x, TK.done x, TK.resp x, TK.beats x, TK.dat x, TK.rst x)
abbrev TK.w_sent (x : TK) (v : Int32) : TK := (TK.m x, TK.con x, TK.wr x, TK.sp x, TK.seed x, TK.asked x, v, TK.done x, TK.resp x, TK.beats x, TK.dat x, TK.rst x)
abbrev TK.w_done (x : TK) (v : Int32) : TK := (TK.m x, TK.con x, TK.wr x, TK.sp x, TK.seed x, TK.asked x, TK.sent x, v, TK.resp x, TK.beats x, TK.dat x, TK.rst x)
abbrev TK.w_resp (x : TK) (v : Nat) : TK := (TK.m x, TK.con x, TK.wr x, TK.sp x, TK.seed x, TK.asked x, TK.sent x, TK.done x, v, TK.beats x, TK.dat x, TK.rst x)
abbrev TK.w_beats (x : TK) (v : Nat) : TK := (TK.m x, TK.con x, TK.wr x, TK.sp x, TK.seed x, TK.asked x, TK.sent x, TK.done x, TK.resp x, v, TK.dat x, TK.rst x)
abbrev TK.w_dat (x : TK) (v : Nat → Int64) : TK := (TK.m x, TK.con x, TK.wr x, TK.sp x, TK.seed x, TK.asked x, TK.sent x, TK.done x, TK.resp x, TK.beats x, v, TK.rst x)
abbrev TK.w_rst (x : TK) (v : Nat → Int32) : TK := (TK.m x, TK.con x, TK.wr x, TK.sp x, TK.seed x, TK.asked x, TK.sent x, TK.done x, TK.resp x, TK.beats x, TK.dat x, v)
theorem TK.m_w_m (x : TK) (v : Nat) : (x.w_m v).m = v := rfl
theorem TK.con_w_m (x : TK) (v : Nat) : (x.w_m v).con = x.con := rfl
theorem TK.wr_w_m (x : TK) (v : Nat) : (x.w_m v).wr = x.wr := rfl
theorem TK.sp_w_m (x : TK) (v : Nat) : (x.w_m v).sp = x.sp := rfl
theorem TK.seed_w_m (x : TK) (v : Nat) : (x.w_m v).seed = x.seed := rfl
theorem TK.asked_w_m (x : TK) (v : Nat) : (x.w_m v).asked = x.asked := rfl
theorem TK.sent_w_m (x : TK) (v : Nat) : (x.w_m v).sent = x.sent := rfl
theorem TK.done_w_m (x : TK) (v : Nat) : (x.w_m v).done = x.done := rfl
theorem TK.resp_w_m (x : TK) (v : Nat) : (x.w_m v).resp = x.resp := rfl
theorem TK.beats_w_m (x : TK) (v : Nat) : (x.w_m v).beats = x.beats := rfl
theorem TK.dat_w_m (x : TK) (v : Nat) : (x.w_m v).dat = x.dat := rfl
theorem TK.rst_w_m (x : TK) (v : Nat) : (x.w_m v).rst = x.rst := rfl
theorem TK.m_w_con (x : TK) (v : Int64) : (x.w_con v).m = x.m := rfl
theorem TK.con_w_con (x : TK) (v : Int64) : (x.w_con v).con = v := rfl
theorem TK.wr_w_con (x : TK) (v : Int64) : (x.w_con v).wr = x.wr := rfl
theorem TK.sp_w_con (x : TK) (v : Int64) : (x.w_con v).sp = x.sp := rfl
theorem TK.seed_w_con (x : TK) (v : Int64) : (x.w_con v).seed = x.seed := rfl
theorem TK.asked_w_con (x : TK) (v : Int64) : (x.w_con v).asked = x.asked := rfl
theorem TK.sent_w_con (x : TK) (v : Int64) : (x.w_con v).sent = x.sent := rfl
theorem TK.done_w_con (x : TK) (v : Int64) : (x.w_con v).done = x.done := rfl
theorem TK.resp_w_con (x : TK) (v : Int64) : (x.w_con v).resp = x.resp := rfl
theorem TK.beats_w_con (x : TK) (v : Int64) : (x.w_con v).beats = x.beats := rfl
theorem TK.dat_w_con (x : TK) (v : Int64) : (x.w_con v).dat = x.dat := rfl
theorem TK.rst_w_con (x : TK) (v : Int64) : (x.w_con v).rst = x.rst := rfl
theorem TK.m_w_wr (x : TK) (v : Bool) : (x.w_wr v).m = x.m := rfl
theorem TK.con_w_wr (x : TK) (v : Bool) : (x.w_wr v).con = x.con := rfl
theorem TK.wr_w_wr (x : TK) (v : Bool) : (x.w_wr v).wr = v := rfl
theorem TK.sp_w_wr (x : TK) (v : Bool) : (x.w_wr v).sp = x.sp := rfl
theorem TK.seed_w_wr (x : TK) (v : Bool) : (x.w_wr v).seed = x.seed := rfl
theorem TK.asked_w_wr (x : TK) (v : Bool) : (x.w_wr v).asked = x.asked := rfl
theorem TK.sent_w_wr (x : TK) (v : Bool) : (x.w_wr v).sent = x.sent := rfl
theorem TK.done_w_wr (x : TK) (v : Bool) : (x.w_wr v).done = x.done := rfl
theorem TK.resp_w_wr (x : TK) (v : Bool) : (x.w_wr v).resp = x.resp := rfl
theorem TK.beats_w_wr (x : TK) (v : Bool) : (x.w_wr v).beats = x.beats := rfl
theorem TK.dat_w_wr (x : TK) (v : Bool) : (x.w_wr v).dat = x.dat := rfl
theorem TK.rst_w_wr (x : TK) (v : Bool) : (x.w_wr v).rst = x.rst := rfl
theorem TK.m_w_sp (x : TK) (v : Bool) : (x.w_sp v).m = x.m := rfl
theorem TK.con_w_sp (x : TK) (v : Bool) : (x.w_sp v).con = x.con := rfl
theorem TK.wr_w_sp (x : TK) (v : Bool) : (x.w_sp v).wr = x.wr := rfl
theorem TK.sp_w_sp (x : TK) (v : Bool) : (x.w_sp v).sp = v := rfl
theorem TK.seed_w_sp (x : TK) (v : Bool) : (x.w_sp v).seed = x.seed := rfl
theorem TK.asked_w_sp (x : TK) (v : Bool) : (x.w_sp v).asked = x.asked := rfl
theorem TK.sent_w_sp (x : TK) (v : Bool) : (x.w_sp v).sent = x.sent := rfl
theorem TK.done_w_sp (x : TK) (v : Bool) : (x.w_sp v).done = x.done := rfl
theorem TK.resp_w_sp (x : TK) (v : Bool) : (x.w_sp v).resp = x.resp := rfl
theorem TK.beats_w_sp (x : TK) (v : Bool) : (x.w_sp v).beats = x.beats := rfl
theorem TK.dat_w_sp (x : TK) (v : Bool) : (x.w_sp v).dat = x.dat := rfl
theorem TK.rst_w_sp (x : TK) (v : Bool) : (x.w_sp v).rst = x.rst := rfl
theorem TK.m_w_seed (x : TK) (v : Int64) : (x.w_seed v).m = x.m := rfl
theorem TK.con_w_seed (x : TK) (v : Int64) : (x.w_seed v).con = x.con := rfl
theorem TK.wr_w_seed (x : TK) (v : Int64) : (x.w_seed v).wr = x.wr := rfl
theorem TK.sp_w_seed (x : TK) (v : Int64) : (x.w_seed v).sp = x.sp := rfl
theorem TK.seed_w_seed (x : TK) (v : Int64) : (x.w_seed v).seed = v := rfl
theorem TK.asked_w_seed (x : TK) (v : Int64) : (x.w_seed v).asked = x.asked := rfl
theorem TK.sent_w_seed (x : TK) (v : Int64) : (x.w_seed v).sent = x.sent := rfl
theorem TK.done_w_seed (x : TK) (v : Int64) : (x.w_seed v).done = x.done := rfl
theorem TK.resp_w_seed (x : TK) (v : Int64) : (x.w_seed v).resp = x.resp := rfl
theorem TK.beats_w_seed (x : TK) (v : Int64) : (x.w_seed v).beats = x.beats := rfl
theorem TK.dat_w_seed (x : TK) (v : Int64) : (x.w_seed v).dat = x.dat := rfl
theorem TK.rst_w_seed (x : TK) (v : Int64) : (x.w_seed v).rst = x.rst := rfl
theorem TK.m_w_asked (x : TK) (v : Int32) : (x.w_asked v).m = x.m := rfl
theorem TK.con_w_asked (x : TK) (v : Int32) : (x.w_asked v).con = x.con := rfl
theorem TK.wr_w_asked (x : TK) (v : Int32) : (x.w_asked v).wr = x.wr := rfl
theorem TK.sp_w_asked (x : TK) (v : Int32) : (x.w_asked v).sp = x.sp := rfl
theorem TK.seed_w_asked (x : TK) (v : Int32) : (x.w_asked v).seed = x.seed := rfl
theorem TK.asked_w_asked (x : TK) (v : Int32) : (x.w_asked v).asked = v := rfl
theorem TK.sent_w_asked (x : TK) (v : Int32) : (x.w_asked v).sent = x.sent := rfl
theorem TK.done_w_asked (x : TK) (v : Int32) : (x.w_asked v).done = x.done := rfl
theorem TK.resp_w_asked (x : TK) (v : Int32) : (x.w_asked v).resp = x.resp := rfl
theorem TK.beats_w_asked (x : TK) (v : Int32) : (x.w_asked v).beats = x.beats := rfl
theorem TK.dat_w_asked (x : TK) (v : Int32) : (x.w_asked v).dat = x.dat := rfl
theorem TK.rst_w_asked (x : TK) (v : Int32) : (x.w_asked v).rst = x.rst := rfl
theorem TK.m_w_sent (x : TK) (v : Int32) : (x.w_sent v).m = x.m := rfl
theorem TK.con_w_sent (x : TK) (v : Int32) : (x.w_sent v).con = x.con := rfl
theorem TK.wr_w_sent (x : TK) (v : Int32) : (x.w_sent v).wr = x.wr := rfl
theorem TK.sp_w_sent (x : TK) (v : Int32) : (x.w_sent v).sp = x.sp := rfl
theorem TK.seed_w_sent (x : TK) (v : Int32) : (x.w_sent v).seed = x.seed := rfl
theorem TK.asked_w_sent (x : TK) (v : Int32) : (x.w_sent v).asked = x.asked := rfl
theorem TK.sent_w_sent (x : TK) (v : Int32) : (x.w_sent v).sent = v := rfl
theorem TK.done_w_sent (x : TK) (v : Int32) : (x.w_sent v).done = x.done := rfl
theorem TK.resp_w_sent (x : TK) (v : Int32) : (x.w_sent v).resp = x.resp := rfl
theorem TK.beats_w_sent (x : TK) (v : Int32) : (x.w_sent v).beats = x.beats := rfl
theorem TK.dat_w_sent (x : TK) (v : Int32) : (x.w_sent v).dat = x.dat := rfl
theorem TK.rst_w_sent (x : TK) (v : Int32) : (x.w_sent v).rst = x.rst := rfl
theorem TK.m_w_done (x : TK) (v : Int32) : (x.w_done v).m = x.m := rfl
theorem TK.con_w_done (x : TK) (v : Int32) : (x.w_done v).con = x.con := rfl
theorem TK.wr_w_done (x : TK) (v : Int32) : (x.w_done v).wr = x.wr := rfl
theorem TK.sp_w_done (x : TK) (v : Int32) : (x.w_done v).sp = x.sp := rfl
theorem TK.seed_w_done (x : TK) (v : Int32) : (x.w_done v).seed = x.seed := rfl
theorem TK.asked_w_done (x : TK) (v : Int32) : (x.w_done v).asked = x.asked := rfl
theorem TK.sent_w_done (x : TK) (v : Int32) : (x.w_done v).sent = x.sent := rfl
theorem TK.done_w_done (x : TK) (v : Int32) : (x.w_done v).done = v := rfl
theorem TK.resp_w_done (x : TK) (v : Int32) : (x.w_done v).resp = x.resp := rfl
theorem TK.beats_w_done (x : TK) (v : Int32) : (x.w_done v).beats = x.beats := rfl
theorem TK.dat_w_done (x : TK) (v : Int32) : (x.w_done v).dat = x.dat := rfl
theorem TK.rst_w_done (x : TK) (v : Int32) : (x.w_done v).rst = x.rst := rfl
theorem TK.m_w_resp (x : TK) (v : Nat) : (x.w_resp v).m = x.m := rfl
theorem TK.con_w_resp (x : TK) (v : Nat) : (x.w_resp v).con = x.con := rfl
theorem TK.wr_w_resp (x : TK) (v : Nat) : (x.w_resp v).wr = x.wr := rfl
theorem TK.sp_w_resp (x : TK) (v : Nat) : (x.w_resp v).sp = x.sp := rfl
theorem TK.seed_w_resp (x : TK) (v : Nat) : (x.w_resp v).seed = x.seed := rfl
theorem TK.asked_w_resp (x : TK) (v : Nat) : (x.w_resp v).asked = x.asked := rfl
theorem TK.sent_w_resp (x : TK) (v : Nat) : (x.w_resp v).sent = x.sent := rfl
theorem TK.done_w_resp (x : TK) (v : Nat) : (x.w_resp v).done = x.done := rfl
theorem TK.resp_w_resp (x : TK) (v : Nat) : (x.w_resp v).resp = v := rfl
theorem TK.beats_w_resp (x : TK) (v : Nat) : (x.w_resp v).beats = x.beats := rfl
theorem TK.dat_w_resp (x : TK) (v : Nat) : (x.w_resp v).dat = x.dat := rfl
theorem TK.rst_w_resp (x : TK) (v : Nat) : (x.w_resp v).rst = x.rst := rfl
theorem TK.m_w_beats (x : TK) (v : Nat) : (x.w_beats v).m = x.m := rfl
theorem TK.con_w_beats (x : TK) (v : Nat) : (x.w_beats v).con = x.con := rfl
theorem TK.wr_w_beats (x : TK) (v : Nat) : (x.w_beats v).wr = x.wr := rfl
theorem TK.sp_w_beats (x : TK) (v : Nat) : (x.w_beats v).sp = x.sp := rfl
theorem TK.seed_w_beats (x : TK) (v : Nat) : (x.w_beats v).seed = x.seed := rfl
theorem TK.asked_w_beats (x : TK) (v : Nat) : (x.w_beats v).asked = x.asked := rfl
theorem TK.sent_w_beats (x : TK) (v : Nat) : (x.w_beats v).sent = x.sent := rfl
theorem TK.done_w_beats (x : TK) (v : Nat) : (x.w_beats v).done = x.done := rfl
theorem TK.resp_w_beats (x : TK) (v : Nat) : (x.w_beats v).resp = x.resp := rfl
theorem TK.beats_w_beats (x : TK) (v : Nat) : (x.w_beats v).beats = v := rfl
theorem TK.dat_w_beats (x : TK) (v : Nat) : (x.w_beats v).dat = x.dat := rfl
theorem TK.rst_w_beats (x : TK) (v : Nat) : (x.w_beats v).rst = x.rst := rfl
theorem TK.m_w_dat (x : TK) (v : Nat → Int64) : (x.w_dat v).m = x.m := rfl
theorem TK.con_w_dat (x : TK) (v : Nat → Int64) : (x.w_dat v).con = x.con := rfl
theorem TK.wr_w_dat (x : TK) (v : Nat → Int64) : (x.w_dat v).wr = x.wr := rfl
theorem TK.sp_w_dat (x : TK) (v : Nat → Int64) : (x.w_dat v).sp = x.sp := rfl
theorem TK.seed_w_dat (x : TK) (v : Nat → Int64) : (x.w_dat v).seed = x.seed := rfl
theorem TK.asked_w_dat (x : TK) (v : Nat → Int64) : (x.w_dat v).asked = x.asked := rfl
theorem TK.sent_w_dat (x : TK) (v : Nat → Int64) : (x.w_dat v).sent = x.sent := rfl
theorem TK.done_w_dat (x : TK) (v : Nat → Int64) : (x.w_dat v).done = x.done := rfl
theorem TK.resp_w_dat (x : TK) (v : Nat → Int64) : (x.w_dat v).resp = x.resp := rfl
theorem TK.beats_w_dat (x : TK) (v : Nat → Int64) : (x.w_dat v).beats = x.beats := rfl
theorem TK.dat_w_dat (x : TK) (v : Nat → Int64) : (x.w_dat v).dat = v := rfl
theorem TK.rst_w_dat (x : TK) (v : Nat → Int64) : (x.w_dat v).rst = x.rst := rfl
theorem TK.m_w_rst (x : TK) (v : Nat → Int32) : (x.w_rst v).m = x.m := rfl
theorem TK.con_w_rst (x : TK) (v : Nat → Int32) : (x.w_rst v).con = x.con := rfl
theorem TK.wr_w_rst (x : TK) (v : Nat → Int32) : (x.w_rst v).wr = x.wr := rfl
theorem TK.sp_w_rst (x : TK) (v : Nat → Int32) : (x.w_rst v).sp = x.sp := rfl
theorem TK.seed_w_rst (x : TK) (v : Nat → Int32) : (x.w_rst v).seed = x.seed := rfl
theorem TK.asked_w_rst (x : TK) (v : Nat → Int32) : (x.w_rst v).asked = x.asked := rfl
theorem TK.sent_w_rst (x : TK) (v : Nat → Int32) : (x.w_rst v).sent = x.sent := rfl
theorem TK.done_w_rst (x : TK) (v : Nat → Int32) : (x.w_rst v).done = x.done := rfl
theorem TK.resp_w_rst (x : TK) (v : Nat → Int32) : (x.w_rst v).resp = x.resp := rfl
theorem TK.beats_w_rst (x : TK) (v : Nat → Int32) : (x.w_rst v).beats = x.beats := rfl
theorem TK.dat_w_rst (x : TK) (v : Nat → Int32) : (x.w_rst v).dat = x.dat := rfl
theorem TK.rst_w_rst (x : TK) (v : Nat → Int32) : (x.w_rst v).rst = v := rfl
abbrev WE : Type := (Int64) × (Nat) × (Nat → Int64) × (Nat → Int32) × (Nat) × (Nat) × (Nat)
abbrev WE.con (x : WE) : Int64 := x.1
abbrev WE.got (x : WE) : Nat := x.2.1
abbrev WE.dat (x : WE) : Nat → Int64 := x.2.2.1
abbrev WE.rst (x : WE) : Nat → Int32 := x.2.2.2.1
abbrev WE.since (x : WE) : Nat := x.2.2.2.2.1
abbrev WE.resp (x : WE) : Nat := x.2.2.2.2.2.1
abbrev WE.place (x : WE) : Nat := x.2.2.2.2.2.2
abbrev WE.mk (a0 : Int64) (a1 : Nat) (a2 : Nat → Int64) (a3 : Nat → Int32) (a4 : Nat) (a5 : Nat) (a6 : Nat) : WE := (a0, a1, a2, a3, a4, a5, a6)
theorem WE.con_mk (a0 : Int64) (a1 : Nat) (a2 : Nat → Int64) (a3 : Nat → Int32) (a4 : Nat) (a5 : Nat) (a6 : Nat) : WE.con (a0, a1, a2, a3, a4, a5, a6) = a0 := rfl
theorem WE.got_mk (a0 : Int64) (a1 : Nat) (a2 : Nat → Int64) (a3 : Nat → Int32) (a4 : Nat) (a5 : Nat) (a6 : Nat) : WE.got (a0, a1, a2, a3, a4, a5, a6) = a1 := rfl
theorem WE.dat_mk (a0 : Int64) (a1 : Nat) (a2 : Nat → Int64) (a3 : Nat → Int32) (a4 : Nat) (a5 : Nat) (a6 : Nat) : WE.dat (a0, a1, a2, a3, a4, a5, a6) = a2 := rfl
theorem WE.rst_mk (a0 : Int64) (a1 : Nat) (a2 : Nat → Int64) (a3 : Nat → Int32) (a4 : Nat) (a5 : Nat) (a6 : Nat) : WE.rst (a0, a1, a2, a3, a4, a5, a6) = a3 := rfl
theorem WE.since_mk (a0 : Int64) (a1 : Nat) (a2 : Nat → Int64) (a3 : Nat → Int32) (a4 : Nat) (a5 : Nat) (a6 : Nat) : WE.since (a0, a1, a2, a3, a4, a5, a6) = a4 := rfl
theorem WE.resp_mk (a0 : Int64) (a1 : Nat) (a2 : Nat → Int64) (a3 : Nat → Int32) (a4 : Nat) (a5 : Nat) (a6 : Nat) : WE.resp (a0, a1, a2, a3, a4, a5, a6) = a5 := rfl
theorem WE.place_mk (a0 : Int64) (a1 : Nat) (a2 : Nat → Int64) (a3 : Nat → Int32) (a4 : Nat) (a5 : Nat) (a6 : Nat) : WE.place (a0, a1, a2, a3, a4, a5, a6) = a6 := rfl
abbrev WE.w_con (x : WE) (v : Int64) : WE := (v, WE.got x, WE.dat x, WE.rst x, WE.since x, WE.resp x, WE.place x)
abbrev WE.w_got (x : WE) (v : Nat) : WE := (WE.con x, v, WE.dat x, WE.rst x, WE.since x, WE.resp x, WE.place x)
abbrev WE.w_dat (x : WE) (v : Nat → Int64) : WE := (WE.con x, WE.got x, v, WE.rst x, WE.since x, WE.resp x, WE.place x)
abbrev WE.w_rst (x : WE) (v : Nat → Int32) : WE := (WE.con x, WE.got x, WE.dat x, v, WE.since x, WE.resp x, WE.place x)
abbrev WE.w_since (x : WE) (v : Nat) : WE := (WE.con x, WE.got x, WE.dat x, WE.rst x, v, WE.resp x, WE.place x)
abbrev WE.w_resp (x : WE) (v : Nat) : WE := (WE.con x, WE.got x, WE.dat x, WE.rst x, WE.since x, v, WE.place x)
abbrev WE.w_place (x : WE) (v : Nat) : WE := (WE.con x, WE.got x, WE.dat x, WE.rst x, WE.since x, WE.resp x, v)
theorem WE.con_w_con (x : WE) (v : Int64) : (x.w_con v).con = v := rfl
theorem WE.got_w_con (x : WE) (v : Int64) : (x.w_con v).got = x.got := rfl
theorem WE.dat_w_con (x : WE) (v : Int64) : (x.w_con v).dat = x.dat := rfl
theorem WE.rst_w_con (x : WE) (v : Int64) : (x.w_con v).rst = x.rst := rfl
theorem WE.since_w_con (x : WE) (v : Int64) : (x.w_con v).since = x.since := rfl
theorem WE.resp_w_con (x : WE) (v : Int64) : (x.w_con v).resp = x.resp := rfl
theorem WE.place_w_con (x : WE) (v : Int64) : (x.w_con v).place = x.place := rfl
theorem WE.con_w_got (x : WE) (v : Nat) : (x.w_got v).con = x.con := rfl
theorem WE.got_w_got (x : WE) (v : Nat) : (x.w_got v).got = v := rfl
theorem WE.dat_w_got (x : WE) (v : Nat) : (x.w_got v).dat = x.dat := rfl
theorem WE.rst_w_got (x : WE) (v : Nat) : (x.w_got v).rst = x.rst := rfl
theorem WE.since_w_got (x : WE) (v : Nat) : (x.w_got v).since = x.since := rfl
theorem WE.resp_w_got (x : WE) (v : Nat) : (x.w_got v).resp = x.resp := rfl
theorem WE.place_w_got (x : WE) (v : Nat) : (x.w_got v).place = x.place := rfl
theorem WE.con_w_dat (x : WE) (v : Nat → Int64) : (x.w_dat v).con = x.con := rfl
theorem WE.got_w_dat (x : WE) (v : Nat → Int64) : (x.w_dat v).got = x.got := rfl
theorem WE.dat_w_dat (x : WE) (v : Nat → Int64) : (x.w_dat v).dat = v := rfl
theorem WE.rst_w_dat (x : WE) (v : Nat → Int64) : (x.w_dat v).rst = x.rst := rfl
theorem WE.since_w_dat (x : WE) (v : Nat → Int64) : (x.w_dat v).since = x.since := rfl
theorem WE.resp_w_dat (x : WE) (v : Nat → Int64) : (x.w_dat v).resp = x.resp := rfl
theorem WE.place_w_dat (x : WE) (v : Nat → Int64) : (x.w_dat v).place = x.place := rfl
theorem WE.con_w_rst (x : WE) (v : Nat → Int32) : (x.w_rst v).con = x.con := rfl
theorem WE.got_w_rst (x : WE) (v : Nat → Int32) : (x.w_rst v).got = x.got := rfl
theorem WE.dat_w_rst (x : WE) (v : Nat → Int32) : (x.w_rst v).dat = x.dat := rfl
theorem WE.rst_w_rst (x : WE) (v : Nat → Int32) : (x.w_rst v).rst = v := rfl
theorem WE.since_w_rst (x : WE) (v : Nat → Int32) : (x.w_rst v).since = x.since := rfl
theorem WE.resp_w_rst (x : WE) (v : Nat → Int32) : (x.w_rst v).resp = x.resp := rfl
theorem WE.place_w_rst (x : WE) (v : Nat → Int32) : (x.w_rst v).place = x.place := rfl
theorem WE.con_w_since (x : WE) (v : Nat) : (x.w_since v).con = x.con := rfl
theorem WE.got_w_since (x : WE) (v : Nat) : (x.w_since v).got = x.got := rfl
theorem WE.dat_w_since (x : WE) (v : Nat) : (x.w_since v).dat = x.dat := rfl
theorem WE.rst_w_since (x : WE) (v : Nat) : (x.w_since v).rst = x.rst := rfl
theorem WE.since_w_since (x : WE) (v : Nat) : (x.w_since v).since = v := rfl
theorem WE.resp_w_since (x : WE) (v : Nat) : (x.w_since v).resp = x.resp := rfl
theorem WE.place_w_since (x : WE) (v : Nat) : (x.w_since v).place = x.place := rfl
theorem WE.con_w_resp (x : WE) (v : Nat) : (x.w_resp v).con = x.con := rfl
theorem WE.got_w_resp (x : WE) (v : Nat) : (x.w_resp v).got = x.got := rfl
theorem WE.dat_w_resp (x : WE) (v : Nat) : (x.w_resp v).dat = x.dat := rfl
theorem WE.rst_w_resp (x : WE) (v : Nat) : (x.w_resp v).rst = x.rst := rfl
theorem WE.since_w_resp (x : WE) (v : Nat) : (x.w_resp v).since = x.since := rfl
theorem WE.resp_w_resp (x : WE) (v : Nat) : (x.w_resp v).resp = v := rfl
theorem WE.place_w_resp (x : WE) (v : Nat) : (x.w_resp v).place = x.place := rfl
theorem WE.con_w_place (x : WE) (v : Nat) : (x.w_place v).con = x.con := rfl
theorem WE.got_w_place (x : WE) (v : Nat) : (x.w_place v).got = x.got := rfl
theorem WE.dat_w_place (x : WE) (v : Nat) : (x.w_place v).dat = x.dat := rfl
theorem WE.rst_w_place (x : WE) (v : Nat) : (x.w_place v).rst = x.rst := rfl
theorem WE.since_w_place (x : WE) (v : Nat) : (x.w_place v).since = x.since := rfl
theorem WE.resp_w_place (x : WE) (v : Nat) : (x.w_place v).resp = x.resp := rfl
theorem WE.place_w_place (x : WE) (v : Nat) : (x.w_place v).place = v := rfl
abbrev QE : Type := (Int64) × (Nat) × (Nat → Int64) × (Nat → Nat) × (Nat) × (Nat) × (Nat)
abbrev QE.con (x : QE) : Int64 := x.1
abbrev QE.got (x : QE) : Nat := x.2.1
abbrev QE.dat (x : QE) : Nat → Int64 := x.2.2.1
abbrev QE.rsp (x : QE) : Nat → Nat := x.2.2.2.1
abbrev QE.since (x : QE) : Nat := x.2.2.2.2.1
abbrev QE.num (x : QE) : Nat := x.2.2.2.2.2.1
abbrev QE.place (x : QE) : Nat := x.2.2.2.2.2.2
abbrev QE.mk (a0 : Int64) (a1 : Nat) (a2 : Nat → Int64) (a3 : Nat → Nat) (a4 : Nat) (a5 : Nat) (a6 : Nat) : QE := (a0, a1, a2, a3, a4, a5, a6)
theorem QE.con_mk (a0 : Int64) (a1 : Nat) (a2 : Nat → Int64) (a3 : Nat → Nat) (a4 : Nat) (a5 : Nat) (a6 : Nat) : QE.con (a0, a1, a2, a3, a4, a5, a6) = a0 := rfl
theorem QE.got_mk (a0 : Int64) (a1 : Nat) (a2 : Nat → Int64) (a3 : Nat → Nat) (a4 : Nat) (a5 : Nat) (a6 : Nat) : QE.got (a0, a1, a2, a3, a4, a5, a6) = a1 := rfl
theorem QE.dat_mk (a0 : Int64) (a1 : Nat) (a2 : Nat → Int64) (a3 : Nat → Nat) (a4 : Nat) (a5 : Nat) (a6 : Nat) : QE.dat (a0, a1, a2, a3, a4, a5, a6) = a2 := rfl
theorem QE.rsp_mk (a0 : Int64) (a1 : Nat) (a2 : Nat → Int64) (a3 : Nat → Nat) (a4 : Nat) (a5 : Nat) (a6 : Nat) : QE.rsp (a0, a1, a2, a3, a4, a5, a6) = a3 := rfl
theorem QE.since_mk (a0 : Int64) (a1 : Nat) (a2 : Nat → Int64) (a3 : Nat → Nat) (a4 : Nat) (a5 : Nat) (a6 : Nat) : QE.since (a0, a1, a2, a3, a4, a5, a6) = a4 := rfl
theorem QE.num_mk (a0 : Int64) (a1 : Nat) (a2 : Nat → Int64) (a3 : Nat → Nat) (a4 : Nat) (a5 : Nat) (a6 : Nat) : QE.num (a0, a1, a2, a3, a4, a5, a6) = a5 := rfl
theorem QE.place_mk (a0 : Int64) (a1 : Nat) (a2 : Nat → Int64) (a3 : Nat → Nat) (a4 : Nat) (a5 : Nat) (a6 : Nat) : QE.place (a0, a1, a2, a3, a4, a5, a6) = a6 := rfl
abbrev QE.w_con (x : QE) (v : Int64) : QE := (v, QE.got x, QE.dat x, QE.rsp x, QE.since x, QE.num x, QE.place x)
abbrev QE.w_got (x : QE) (v : Nat) : QE := (QE.con x, v, QE.dat x, QE.rsp x, QE.since x, QE.num x, QE.place x)
abbrev QE.w_dat (x : QE) (v : Nat → Int64) : QE := (QE.con x, QE.got x, v, QE.rsp x, QE.since x, QE.num x, QE.place x)
abbrev QE.w_rsp (x : QE) (v : Nat → Nat) : QE := (QE.con x, QE.got x, QE.dat x, v, QE.since x, QE.num x, QE.place x)
abbrev QE.w_since (x : QE) (v : Nat) : QE := (QE.con x, QE.got x, QE.dat x, QE.rsp x, v, QE.num x, QE.place x)
abbrev QE.w_num (x : QE) (v : Nat) : QE := (QE.con x, QE.got x, QE.dat x, QE.rsp x, QE.since x, v, QE.place x)
abbrev QE.w_place (x : QE) (v : Nat) : QE := (QE.con x, QE.got x, QE.dat x, QE.rsp x, QE.since x, QE.num x, v)
theorem QE.con_w_con (x : QE) (v : Int64) : (x.w_con v).con = v := rfl
theorem QE.got_w_con (x : QE) (v : Int64) : (x.w_con v).got = x.got := rfl
theorem QE.dat_w_con (x : QE) (v : Int64) : (x.w_con v).dat = x.dat := rfl
theorem QE.rsp_w_con (x : QE) (v : Int64) : (x.w_con v).rsp = x.rsp := rfl
theorem QE.since_w_con (x : QE) (v : Int64) : (x.w_con v).since = x.since := rfl
theorem QE.num_w_con (x : QE) (v : Int64) : (x.w_con v).num = x.num := rfl
theorem QE.place_w_con (x : QE) (v : Int64) : (x.w_con v).place = x.place := rfl
theorem QE.con_w_got (x : QE) (v : Nat) : (x.w_got v).con = x.con := rfl
theorem QE.got_w_got (x : QE) (v : Nat) : (x.w_got v).got = v := rfl
theorem QE.dat_w_got (x : QE) (v : Nat) : (x.w_got v).dat = x.dat := rfl
theorem QE.rsp_w_got (x : QE) (v : Nat) : (x.w_got v).rsp = x.rsp := rfl
theorem QE.since_w_got (x : QE) (v : Nat) : (x.w_got v).since = x.since := rfl
theorem QE.num_w_got (x : QE) (v : Nat) : (x.w_got v).num = x.num := rfl
theorem QE.place_w_got (x : QE) (v : Nat) : (x.w_got v).place = x.place := rfl
theorem QE.con_w_dat (x : QE) (v : Nat → Int64) : (x.w_dat v).con = x.con := rfl
theorem QE.got_w_dat (x : QE) (v : Nat → Int64) : (x.w_dat v).got = x.got := rfl
theorem QE.dat_w_dat (x : QE) (v : Nat → Int64) : (x.w_dat v).dat = v := rfl
theorem QE.rsp_w_dat (x : QE) (v : Nat → Int64) : (x.w_dat v).rsp = x.rsp := rfl
theorem QE.since_w_dat (x : QE) (v : Nat → Int64) : (x.w_dat v).since = x.since := rfl
theorem QE.num_w_dat (x : QE) (v : Nat → Int64) : (x.w_dat v).num = x.num := rfl
theorem QE.place_w_dat (x : QE) (v : Nat → Int64) : (x.w_dat v).place = x.place := rfl
theorem QE.con_w_rsp (x : QE) (v : Nat → Nat) : (x.w_rsp v).con = x.con := rfl
theorem QE.got_w_rsp (x : QE) (v : Nat → Nat) : (x.w_rsp v).got = x.got := rfl
theorem QE.dat_w_rsp (x : QE) (v : Nat → Nat) : (x.w_rsp v).dat = x.dat := rfl
theorem QE.rsp_w_rsp (x : QE) (v : Nat → Nat) : (x.w_rsp v).rsp = v := rfl
theorem QE.since_w_rsp (x : QE) (v : Nat → Nat) : (x.w_rsp v).since = x.since := rfl
theorem QE.num_w_rsp (x : QE) (v : Nat → Nat) : (x.w_rsp v).num = x.num := rfl
theorem QE.place_w_rsp (x : QE) (v : Nat → Nat) : (x.w_rsp v).place = x.place := rfl
theorem QE.con_w_since (x : QE) (v : Nat) : (x.w_since v).con = x.con := rfl
theorem QE.got_w_since (x : QE) (v : Nat) : (x.w_since v).got = x.got := rfl
theorem QE.dat_w_since (x : QE) (v : Nat) : (x.w_since v).dat = x.dat := rfl
theorem QE.rsp_w_since (x : QE) (v : Nat) : (x.w_since v).rsp = x.rsp := rfl
theorem QE.since_w_since (x : QE) (v : Nat) : (x.w_since v).since = v := rfl
theorem QE.num_w_since (x : QE) (v : Nat) : (x.w_since v).num = x.num := rfl
theorem QE.place_w_since (x : QE) (v : Nat) : (x.w_since v).place = x.place := rfl
theorem QE.con_w_num (x : QE) (v : Nat) : (x.w_num v).con = x.con := rfl
theorem QE.got_w_num (x : QE) (v : Nat) : (x.w_num v).got = x.got := rfl
theorem QE.dat_w_num (x : QE) (v : Nat) : (x.w_num v).dat = x.dat := rfl
theorem QE.rsp_w_num (x : QE) (v : Nat) : (x.w_num v).rsp = x.rsp := rfl
theorem QE.since_w_num (x : QE) (v : Nat) : (x.w_num v).since = x.since := rfl
theorem QE.num_w_num (x : QE) (v : Nat) : (x.w_num v).num = v := rfl
theorem QE.place_w_num (x : QE) (v : Nat) : (x.w_num v).place = x.place := rfl
theorem QE.con_w_place (x : QE) (v : Nat) : (x.w_place v).con = x.con := rfl
theorem QE.got_w_place (x : QE) (v : Nat) : (x.w_place v).got = x.got := rfl
theorem QE.dat_w_place (x : QE) (v : Nat) : (x.w_place v).dat = x.dat := rfl
theorem QE.rsp_w_place (x : QE) (v : Nat) : (x.w_place v).rsp = x.rsp := rfl
theorem QE.since_w_place (x : QE) (v : Nat) : (x.w_place v).since = x.since := rfl
theorem QE.num_w_place (x : QE) (v : Nat) : (x.w_place v).num = x.num := rfl
theorem QE.place_w_place (x : QE) (v : Nat) : (x.w_place v).place = v := rfl
abbrev MW : Type := (Bool) × (Int64) × (Nat) × (Nat → Int32) × (Bool)
abbrev MW.has (x : MW) : Bool := x.1
abbrev MW.con (x : MW) : Int64 := x.2.1
abbrev MW.n (x : MW) : Nat := x.2.2.1
abbrev MW.rst (x : MW) : Nat → Int32 := x.2.2.2.1
abbrev MW.last (x : MW) : Bool := x.2.2.2.2
abbrev MW.mk (a0 : Bool) (a1 : Int64) (a2 : Nat) (a3 : Nat → Int32) (a4 : Bool) : MW := (a0, a1, a2, a3, a4)
theorem MW.has_mk (a0 : Bool) (a1 : Int64) (a2 : Nat) (a3 : Nat → Int32) (a4 : Bool) : MW.has (a0, a1, a2, a3, a4) = a0 := rfl
theorem MW.con_mk (a0 : Bool) (a1 : Int64) (a2 : Nat) (a3 : Nat → Int32) (a4 : Bool) : MW.con (a0, a1, a2, a3, a4) = a1 := rfl
theorem MW.n_mk (a0 : Bool) (a1 : Int64) (a2 : Nat) (a3 : Nat → Int32) (a4 : Bool) : MW.n (a0, a1, a2, a3, a4) = a2 := rfl
theorem MW.rst_mk (a0 : Bool) (a1 : Int64) (a2 : Nat) (a3 : Nat → Int32) (a4 : Bool) : MW.rst (a0, a1, a2, a3, a4) = a3 := rfl
theorem MW.last_mk (a0 : Bool) (a1 : Int64) (a2 : Nat) (a3 : Nat → Int32) (a4 : Bool) : MW.last (a0, a1, a2, a3, a4) = a4 := rfl
abbrev MW.w_has (x : MW) (v : Bool) : MW := (v, MW.con x, MW.n x, MW.rst x, MW.last x)
abbrev MW.w_con (x : MW) (v : Int64) : MW := (MW.has x, v, MW.n x, MW.rst x, MW.last x)
abbrev MW.w_n (x : MW) (v : Nat) : MW := (MW.has x, MW.con x, v, MW.rst x, MW.last x)
abbrev MW.w_rst (x : MW) (v : Nat → Int32) : MW := (MW.has x, MW.con x, MW.n x, v, MW.last x)
abbrev MW.w_last (x : MW) (v : Bool) : MW := (MW.has x, MW.con x, MW.n x, MW.rst x, v)
theorem MW.has_w_has (x : MW) (v : Bool) : (x.w_has v).has = v := rfl
theorem MW.con_w_has (x : MW) (v : Bool) : (x.w_has v).con = x.con := rfl
theorem MW.n_w_has (x : MW) (v : Bool) : (x.w_has v).n = x.n := rfl
theorem MW.rst_w_has (x : MW) (v : Bool) : (x.w_has v).rst = x.rst := rfl
theorem MW.last_w_has (x : MW) (v : Bool) : (x.w_has v).last = x.last := rfl
theorem MW.has_w_con (x : MW) (v : Int64) : (x.w_con v).has = x.has := rfl
theorem MW.con_w_con (x : MW) (v : Int64) : (x.w_con v).con = v := rfl
theorem MW.n_w_con (x : MW) (v : Int64) : (x.w_con v).n = x.n := rfl
theorem MW.rst_w_con (x : MW) (v : Int64) : (x.w_con v).rst = x.rst := rfl
theorem MW.last_w_con (x : MW) (v : Int64) : (x.w_con v).last = x.last := rfl
theorem MW.has_w_n (x : MW) (v : Nat) : (x.w_n v).has = x.has := rfl
theorem MW.con_w_n (x : MW) (v : Nat) : (x.w_n v).con = x.con := rfl
theorem MW.n_w_n (x : MW) (v : Nat) : (x.w_n v).n = v := rfl
theorem MW.rst_w_n (x : MW) (v : Nat) : (x.w_n v).rst = x.rst := rfl
theorem MW.last_w_n (x : MW) (v : Nat) : (x.w_n v).last = x.last := rfl
theorem MW.has_w_rst (x : MW) (v : Nat → Int32) : (x.w_rst v).has = x.has := rfl
theorem MW.con_w_rst (x : MW) (v : Nat → Int32) : (x.w_rst v).con = x.con := rfl
theorem MW.n_w_rst (x : MW) (v : Nat → Int32) : (x.w_rst v).n = x.n := rfl
theorem MW.rst_w_rst (x : MW) (v : Nat → Int32) : (x.w_rst v).rst = v := rfl
theorem MW.last_w_rst (x : MW) (v : Nat → Int32) : (x.w_rst v).last = x.last := rfl
theorem MW.has_w_last (x : MW) (v : Bool) : (x.w_last v).has = x.has := rfl
theorem MW.con_w_last (x : MW) (v : Bool) : (x.w_last v).con = x.con := rfl
theorem MW.n_w_last (x : MW) (v : Bool) : (x.w_last v).n = x.n := rfl
theorem MW.rst_w_last (x : MW) (v : Bool) : (x.w_last v).rst = x.rst := rfl
theorem MW.last_w_last (x : MW) (v : Bool) : (x.w_last v).last = v := rfl
abbrev MR : Type := (Int64) × (Nat)
abbrev MR.con (x : MR) : Int64 := x.1
abbrev MR.n (x : MR) : Nat := x.2
abbrev MR.mk (a0 : Int64) (a1 : Nat) : MR := (a0, a1)
theorem MR.con_mk (a0 : Int64) (a1 : Nat) : MR.con (a0, a1) = a0 := rfl
theorem MR.n_mk (a0 : Int64) (a1 : Nat) : MR.n (a0, a1) = a1 := rfl
abbrev MR.w_con (x : MR) (v : Int64) : MR := (v, MR.n x)
abbrev MR.w_n (x : MR) (v : Nat) : MR := (MR.con x, v)
theorem MR.con_w_con (x : MR) (v : Int64) : (x.w_con v).con = v := rfl
theorem MR.n_w_con (x : MR) (v : Int64) : (x.w_con v).n = x.n := rfl
theorem MR.con_w_n (x : MR) (v : Nat) : (x.w_n v).con = x.con := rfl
theorem MR.n_w_n (x : MR) (v : Nat) : (x.w_n v).n = v := rfl
abbrev MO : Type := (List MW) × (List MR) × (Nat → Bool) × (Nat → Int64) × (Nat → Int32) × (Nat) × (Int32) × (Int32) × (Int32)
abbrev MO.ws (x : MO) : List MW := x.1
abbrev MO.rs (x : MO) : List MR := x.2.1
abbrev MO.held (x : MO) : Nat → Bool := x.2.2.1
abbrev MO.hc (x : MO) : Nat → Int64 := x.2.2.2.1
abbrev MO.hr (x : MO) : Nat → Int32 := x.2.2.2.2.1
abbrev MO.rule (x : MO) : Nat := x.2.2.2.2.2.1
abbrev MO.chan (x : MO) : Int32 := x.2.2.2.2.2.2.1
abbrev MO.tick (x : MO) : Int32 := x.2.2.2.2.2.2.2.1
abbrev MO.ticks (x : MO) : Int32 := x.2.2.2.2.2.2.2.2
abbrev MO.mk (a0 : List MW) (a1 : List MR) (a2 : Nat → Bool) (a3 : Nat → Int64) (a4 : Nat → Int32) (a5 : Nat) (a6 : Int32) (a7 : Int32) (a8 : Int32) : MO := (a0, a1, a2, a3, a4, a5, a6, a7, a8)
theorem MO.ws_mk (a0 : List MW) (a1 : List MR) (a2 : Nat → Bool) (a3 : Nat → Int64) (a4 : Nat → Int32) (a5 : Nat) (a6 : Int32) (a7 : Int32) (a8 : Int32) : MO.ws (a0, a1, a2, a3, a4, a5, a6, a7, a8) = a0 := rfl
theorem MO.rs_mk (a0 : List MW) (a1 : List MR) (a2 : Nat → Bool) (a3 : Nat → Int64) (a4 : Nat → Int32) (a5 : Nat) (a6 : Int32) (a7 : Int32) (a8 : Int32) : MO.rs (a0, a1, a2, a3, a4, a5, a6, a7, a8) = a1 := rfl
theorem MO.held_mk (a0 : List MW) (a1 : List MR) (a2 : Nat → Bool) (a3 : Nat → Int64) (a4 : Nat → Int32) (a5 : Nat) (a6 : Int32) (a7 : Int32) (a8 : Int32) : MO.held (a0, a1, a2, a3, a4, a5, a6, a7, a8) = a2 := rfl
theorem MO.hc_mk (a0 : List MW) (a1 : List MR) (a2 : Nat → Bool) (a3 : Nat → Int64) (a4 : Nat → Int32) (a5 : Nat) (a6 : Int32) (a7 : Int32) (a8 : Int32) : MO.hc (a0, a1, a2, a3, a4, a5, a6, a7, a8) = a3 := rfl
theorem MO.hr_mk (a0 : List MW) (a1 : List MR) (a2 : Nat → Bool) (a3 : Nat → Int64) (a4 : Nat → Int32) (a5 : Nat) (a6 : Int32) (a7 : Int32) (a8 : Int32) : MO.hr (a0, a1, a2, a3, a4, a5, a6, a7, a8) = a4 := rfl
theorem MO.rule_mk (a0 : List MW) (a1 : List MR) (a2 : Nat → Bool) (a3 : Nat → Int64) (a4 : Nat → Int32) (a5 : Nat) (a6 : Int32) (a7 : Int32) (a8 : Int32) : MO.rule (a0, a1, a2, a3, a4, a5, a6, a7, a8) = a5 := rfl
theorem MO.chan_mk (a0 : List MW) (a1 : List MR) (a2 : Nat → Bool) (a3 : Nat → Int64) (a4 : Nat → Int32) (a5 : Nat) (a6 : Int32) (a7 : Int32) (a8 : Int32) : MO.chan (a0, a1, a2, a3, a4, a5, a6, a7, a8) = a6 := rfl
theorem MO.tick_mk (a0 : List MW) (a1 : List MR) (a2 : Nat → Bool) (a3 : Nat → Int64) (a4 : Nat → Int32) (a5 : Nat) (a6 : Int32) (a7 : Int32) (a8 : Int32) : MO.tick (a0, a1, a2, a3, a4, a5, a6, a7, a8) = a7 := rfl
theorem MO.ticks_mk (a0 : List MW) (a1 : List MR) (a2 : Nat → Bool) (a3 : Nat → Int64) (a4 : Nat → Int32) (a5 : Nat) (a6 : Int32) (a7 : Int32) (a8 : Int32) : MO.ticks (a0, a1, a2, a3, a4, a5, a6, a7, a8) = a8 := rfl
abbrev MO.w_ws (x : MO) (v : List MW) : MO := (v, MO.rs x, MO.held x, MO.hc x, MO.hr x, MO.rule x, MO.chan x, MO.tick x, MO.ticks x)
abbrev MO.w_rs (x : MO) (v : List MR) : MO := (MO.ws x, v, MO.held x, MO.hc x, MO.hr x, MO.rule x, MO.chan x, MO.tick x, MO.ticks x)
abbrev MO.w_held (x : MO) (v : Nat → Bool) : MO := (MO.ws x, MO.rs x, v, MO.hc x, MO.hr x, MO.rule x, MO.chan x, MO.tick x, MO.ticks x)
abbrev MO.w_hc (x : MO) (v : Nat → Int64) : MO := (MO.ws x, MO.rs x, MO.held x, v, MO.hr x, MO.rule x, MO.chan x, MO.tick x, MO.ticks x)
abbrev MO.w_hr (x : MO) (v : Nat → Int32) : MO := (MO.ws x, MO.rs x, MO.held x, MO.hc x, v, MO.rule x, MO.chan x, MO.tick x, MO.ticks x)
abbrev MO.w_rule (x : MO) (v : Nat) : MO := (MO.ws x, MO.rs x, MO.held x, MO.hc x, MO.hr x, v, MO.chan x, MO.tick x, MO.ticks x)
abbrev MO.w_chan (x : MO) (v : Int32) : MO := (MO.ws x, MO.rs x, MO.held x, MO.hc x, MO.hr x, MO.rule x, v, MO.tick x, MO.ticks x)
abbrev MO.w_tick (x : MO) (v : Int32) : MO := (MO.ws x, MO.rs x, MO.held x, MO.hc x, MO.hr x, MO.rule x, MO.chan x, v, MO.ticks x)
abbrev MO.w_ticks (x : MO) (v : Int32) : MO := (MO.ws x, MO.rs x, MO.held x, MO.hc x, MO.hr x, MO.rule x, MO.chan x, MO.tick x, v)
theorem MO.ws_w_ws (x : MO) (v : List MW) : (x.w_ws v).ws = v := rfl
theorem MO.rs_w_ws (x : MO) (v : List MW) : (x.w_ws v).rs = x.rs := rfl
theorem MO.held_w_ws (x : MO) (v : List MW) : (x.w_ws v).held = x.held := rfl
theorem MO.hc_w_ws (x : MO) (v : List MW) : (x.w_ws v).hc = x.hc := rfl
theorem MO.hr_w_ws (x : MO) (v : List MW) : (x.w_ws v).hr = x.hr := rfl
theorem MO.rule_w_ws (x : MO) (v : List MW) : (x.w_ws v).rule = x.rule := rfl
theorem MO.chan_w_ws (x : MO) (v : List MW) : (x.w_ws v).chan = x.chan := rfl
theorem MO.tick_w_ws (x : MO) (v : List MW) : (x.w_ws v).tick = x.tick := rfl
theorem MO.ticks_w_ws (x : MO) (v : List MW) : (x.w_ws v).ticks = x.ticks := rfl
theorem MO.ws_w_rs (x : MO) (v : List MR) : (x.w_rs v).ws = x.ws := rfl
theorem MO.rs_w_rs (x : MO) (v : List MR) : (x.w_rs v).rs = v := rfl
theorem MO.held_w_rs (x : MO) (v : List MR) : (x.w_rs v).held = x.held := rfl
theorem MO.hc_w_rs (x : MO) (v : List MR) : (x.w_rs v).hc = x.hc := rfl
theorem MO.hr_w_rs (x : MO) (v : List MR) : (x.w_rs v).hr = x.hr := rfl
theorem MO.rule_w_rs (x : MO) (v : List MR) : (x.w_rs v).rule = x.rule := rfl
theorem MO.chan_w_rs (x : MO) (v : List MR) : (x.w_rs v).chan = x.chan := rfl
theorem MO.tick_w_rs (x : MO) (v : List MR) : (x.w_rs v).tick = x.tick := rfl
theorem MO.ticks_w_rs (x : MO) (v : List MR) : (x.w_rs v).ticks = x.ticks := rfl
theorem MO.ws_w_held (x : MO) (v : Nat → Bool) : (x.w_held v).ws = x.ws := rfl
theorem MO.rs_w_held (x : MO) (v : Nat → Bool) : (x.w_held v).rs = x.rs := rfl
theorem MO.held_w_held (x : MO) (v : Nat → Bool) : (x.w_held v).held = v := rfl
theorem MO.hc_w_held (x : MO) (v : Nat → Bool) : (x.w_held v).hc = x.hc := rfl
theorem MO.hr_w_held (x : MO) (v : Nat → Bool) : (x.w_held v).hr = x.hr := rfl
theorem MO.rule_w_held (x : MO) (v : Nat → Bool) : (x.w_held v).rule = x.rule := rfl
theorem MO.chan_w_held (x : MO) (v : Nat → Bool) : (x.w_held v).chan = x.chan := rfl
theorem MO.tick_w_held (x : MO) (v : Nat → Bool) : (x.w_held v).tick = x.tick := rfl
theorem MO.ticks_w_held (x : MO) (v : Nat → Bool) : (x.w_held v).ticks = x.ticks := rfl
theorem MO.ws_w_hc (x : MO) (v : Nat → Int64) : (x.w_hc v).ws = x.ws := rfl
theorem MO.rs_w_hc (x : MO) (v : Nat → Int64) : (x.w_hc v).rs = x.rs := rfl
theorem MO.held_w_hc (x : MO) (v : Nat → Int64) : (x.w_hc v).held = x.held := rfl
theorem MO.hc_w_hc (x : MO) (v : Nat → Int64) : (x.w_hc v).hc = v := rfl
theorem MO.hr_w_hc (x : MO) (v : Nat → Int64) : (x.w_hc v).hr = x.hr := rfl
theorem MO.rule_w_hc (x : MO) (v : Nat → Int64) : (x.w_hc v).rule = x.rule := rfl
theorem MO.chan_w_hc (x : MO) (v : Nat → Int64) : (x.w_hc v).chan = x.chan := rfl
theorem MO.tick_w_hc (x : MO) (v : Nat → Int64) : (x.w_hc v).tick = x.tick := rfl
theorem MO.ticks_w_hc (x : MO) (v : Nat → Int64) : (x.w_hc v).ticks = x.ticks := rfl
theorem MO.ws_w_hr (x : MO) (v : Nat → Int32) : (x.w_hr v).ws = x.ws := rfl
theorem MO.rs_w_hr (x : MO) (v : Nat → Int32) : (x.w_hr v).rs = x.rs := rfl
theorem MO.held_w_hr (x : MO) (v : Nat → Int32) : (x.w_hr v).held = x.held := rfl
theorem MO.hc_w_hr (x : MO) (v : Nat → Int32) : (x.w_hr v).hc = x.hc := rfl
theorem MO.hr_w_hr (x : MO) (v : Nat → Int32) : (x.w_hr v).hr = v := rfl
theorem MO.rule_w_hr (x : MO) (v : Nat → Int32) : (x.w_hr v).rule = x.rule := rfl
theorem MO.chan_w_hr (x : MO) (v : Nat → Int32) : (x.w_hr v).chan = x.chan := rfl
theorem MO.tick_w_hr (x : MO) (v : Nat → Int32) : (x.w_hr v).tick = x.tick := rfl
theorem MO.ticks_w_hr (x : MO) (v : Nat → Int32) : (x.w_hr v).ticks = x.ticks := rfl
theorem MO.ws_w_rule (x : MO) (v : Nat) : (x.w_rule v).ws = x.ws := rfl
theorem MO.rs_w_rule (x : MO) (v : Nat) : (x.w_rule v).rs = x.rs := rfl
theorem MO.held_w_rule (x : MO) (v : Nat) : (x.w_rule v).held = x.held := rfl
theorem MO.hc_w_rule (x : MO) (v : Nat) : (x.w_rule v).hc = x.hc := rfl
theorem MO.hr_w_rule (x : MO) (v : Nat) : (x.w_rule v).hr = x.hr := rfl
theorem MO.rule_w_rule (x : MO) (v : Nat) : (x.w_rule v).rule = v := rfl
theorem MO.chan_w_rule (x : MO) (v : Nat) : (x.w_rule v).chan = x.chan := rfl
theorem MO.tick_w_rule (x : MO) (v : Nat) : (x.w_rule v).tick = x.tick := rfl
theorem MO.ticks_w_rule (x : MO) (v : Nat) : (x.w_rule v).ticks = x.ticks := rfl
theorem MO.ws_w_chan (x : MO) (v : Int32) : (x.w_chan v).ws = x.ws := rfl
theorem MO.rs_w_chan (x : MO) (v : Int32) : (x.w_chan v).rs = x.rs := rfl
theorem MO.held_w_chan (x : MO) (v : Int32) : (x.w_chan v).held = x.held := rfl
theorem MO.hc_w_chan (x : MO) (v : Int32) : (x.w_chan v).hc = x.hc := rfl
theorem MO.hr_w_chan (x : MO) (v : Int32) : (x.w_chan v).hr = x.hr := rfl
theorem MO.rule_w_chan (x : MO) (v : Int32) : (x.w_chan v).rule = x.rule := rfl
theorem MO.chan_w_chan (x : MO) (v : Int32) : (x.w_chan v).chan = v := rfl
theorem MO.tick_w_chan (x : MO) (v : Int32) : (x.w_chan v).tick = x.tick := rfl
theorem MO.ticks_w_chan (x : MO) (v : Int32) : (x.w_chan v).ticks = x.ticks := rfl
theorem MO.ws_w_tick (x : MO) (v : Int32) : (x.w_tick v).ws = x.ws := rfl
theorem MO.rs_w_tick (x : MO) (v : Int32) : (x.w_tick v).rs = x.rs := rfl
theorem MO.held_w_tick (x : MO) (v : Int32) : (x.w_tick v).held = x.held := rfl
theorem MO.hc_w_tick (x : MO) (v : Int32) : (x.w_tick v).hc = x.hc := rfl
theorem MO.hr_w_tick (x : MO) (v : Int32) : (x.w_tick v).hr = x.hr := rfl
theorem MO.rule_w_tick (x : MO) (v : Int32) : (x.w_tick v).rule = x.rule := rfl
theorem MO.chan_w_tick (x : MO) (v : Int32) : (x.w_tick v).chan = x.chan := rfl
theorem MO.tick_w_tick (x : MO) (v : Int32) : (x.w_tick v).tick = v := rfl
theorem MO.ticks_w_tick (x : MO) (v : Int32) : (x.w_tick v).ticks = x.ticks := rfl
theorem MO.ws_w_ticks (x : MO) (v : Int32) : (x.w_ticks v).ws = x.ws := rfl
theorem MO.rs_w_ticks (x : MO) (v : Int32) : (x.w_ticks v).rs = x.rs := rfl
theorem MO.held_w_ticks (x : MO) (v : Int32) : (x.w_ticks v).held = x.held := rfl
theorem MO.hc_w_ticks (x : MO) (v : Int32) : (x.w_ticks v).hc = x.hc := rfl
theorem MO.hr_w_ticks (x : MO) (v : Int32) : (x.w_ticks v).hr = x.hr := rfl
theorem MO.rule_w_ticks (x : MO) (v : Int32) : (x.w_ticks v).rule = x.rule := rfl
theorem MO.chan_w_ticks (x : MO) (v : Int32) : (x.w_ticks v).chan = x.chan := rfl
theorem MO.tick_w_ticks (x : MO) (v : Int32) : (x.w_ticks v).tick = x.tick := rfl
theorem MO.ticks_w_ticks (x : MO) (v : Int32) : (x.w_ticks v).ticks = v := rfl
abbrev WV : Type := (Bool) × (Int64) × (Int32)
abbrev WV.v (x : WV) : Bool := x.1
abbrev WV.c (x : WV) : Int64 := x.2.1
abbrev WV.r (x : WV) : Int32 := x.2.2
abbrev WV.mk (a0 : Bool) (a1 : Int64) (a2 : Int32) : WV := (a0, a1, a2)
theorem WV.v_mk (a0 : Bool) (a1 : Int64) (a2 : Int32) : WV.v (a0, a1, a2) = a0 := rfl
theorem WV.c_mk (a0 : Bool) (a1 : Int64) (a2 : Int32) : WV.c (a0, a1, a2) = a1 := rfl
theorem WV.r_mk (a0 : Bool) (a1 : Int64) (a2 : Int32) : WV.r (a0, a1, a2) = a2 := rfl
abbrev WV.w_v (x : WV) (v : Bool) : WV := (v, WV.c x, WV.r x)
abbrev WV.w_c (x : WV) (v : Int64) : WV := (WV.v x, v, WV.r x)
abbrev WV.w_r (x : WV) (v : Int32) : WV := (WV.v x, WV.c x, v)
theorem WV.v_w_v (x : WV) (v : Bool) : (x.w_v v).v = v := rfl
theorem WV.c_w_v (x : WV) (v : Bool) : (x.w_v v).c = x.c := rfl
theorem WV.r_w_v (x : WV) (v : Bool) : (x.w_v v).r = x.r := rfl
theorem WV.v_w_c (x : WV) (v : Int64) : (x.w_c v).v = x.v := rfl
theorem WV.c_w_c (x : WV) (v : Int64) : (x.w_c v).c = v := rfl
theorem WV.r_w_c (x : WV) (v : Int64) : (x.w_c v).r = x.r := rfl
theorem WV.v_w_r (x : WV) (v : Int32) : (x.w_r v).v = x.v := rfl
theorem WV.c_w_r (x : WV) (v : Int32) : (x.w_r v).c = x.c := rfl
theorem WV.r_w_r (x : WV) (v : Int32) : (x.w_r v).r = v := rfl
abbrev WI : Type := (Nat → WV) × (Nat → Bool)
abbrev WI.w (x : WI) : Nat → WV := x.1
abbrev WI.rd (x : WI) : Nat → Bool := x.2
abbrev WI.mk (a0 : Nat → WV) (a1 : Nat → Bool) : WI := (a0, a1)
theorem WI.w_mk (a0 : Nat → WV) (a1 : Nat → Bool) : WI.w (a0, a1) = a0 := rfl
theorem WI.rd_mk (a0 : Nat → WV) (a1 : Nat → Bool) : WI.rd (a0, a1) = a1 := rfl
abbrev WI.w_w (x : WI) (v : Nat → WV) : WI := (v, WI.rd x)
abbrev WI.w_rd (x : WI) (v : Nat → Bool) : WI := (WI.w x, v)
theorem WI.w_w_w (x : WI) (v : Nat → WV) : (x.w_w v).w = v := rfl
theorem WI.rd_w_w (x : WI) (v : Nat → WV) : (x.w_w v).rd = x.rd := rfl
theorem WI.w_w_rd (x : WI) (v : Nat → Bool) : (x.w_rd v).w = x.w := rfl
theorem WI.rd_w_rd (x : WI) (v : Nat → Bool) : (x.w_rd v).rd = v := rfl
def XF : Nat → Type
  | 0 => Nat
  | 1 => Nat
  | 2 => Nat
  | 3 => Nat
  | 4 => Bool
  | 5 => Nat
  | 6 => Nat
  | 7 => Nat
  | 8 => Nat → Nat
  | 9 => Nat → Nat → Nat
  | 10 => Nat → Nat → Nat
  | 11 => Nat → Bool
  | 12 => Nat → Nat
  | 13 => Nat → Nat
  | 14 => Nat → Nat
  | 15 => Nat → Bool
  | 16 => List TK
  | 17 => Nat → WI
  | 18 => Nat → Nat → Int32
  | 19 => Nat → List RE
  | 20 => List UE
  | 21 => List UE
  | 22 => Nat → Option Nat
  | 23 => Nat → Option Nat
  | 24 => Nat → Option Nat
  | 25 => Nat → Option Nat
  | 26 => Nat → Bool
  | 27 => Nat → List WE
  | 28 => Nat → List QE
  | 29 => Nat → Nat
  | 30 => Nat → Option (Nat × Nat)
  | 31 => Nat → Option Nat
  | 32 => Nat → Option Nat
  | 33 => Nat → Nat → Option (Nat × Nat)
  | 34 => Nat → MO
  | 35 => Nat
  | _ => Unit
def XS : Type := (i : Nat) → XF i
def XS.up (S : XS) (k : Nat) (v : XF k) : XS := fun i => if h : i = k then cast (congrArg XF h.symm) v else S i
def XS.nm (x : XS) : Nat := (show (i : Nat) → XF i from x) 0
def XS.ns (x : XS) : Nat := (show (i : Nat) → XF i from x) 1
def XS.lim (x : XS) : Nat := (show (i : Nat) → XF i from x) 2
def XS.pol (x : XS) : Nat := (show (i : Nat) → XF i from x) 3
def XS.whole (x : XS) : Bool := (show (i : Nat) → XF i from x) 4
def XS.time (x : XS) : Nat := (show (i : Nat) → XF i from x) 5
def XS.dbeat (x : XS) : Nat := (show (i : Nat) → XF i from x) 6
def XS.moved (x : XS) : Nat := (show (i : Nat) → XF i from x) 7
def XS.pages (x : XS) : Nat → Nat := (show (i : Nat) → XF i from x) 8
def XS.mpat (x : XS) : Nat → Nat → Nat := (show (i : Nat) → XF i from x) 9
def XS.spat (x : XS) : Nat → Nat → Nat := (show (i : Nat) → XF i from x) 10
def XS.early (x : XS) : Nat → Bool := (show (i : Nat) → XF i from x) 11
def XS.delay (x : XS) : Nat → Nat := (show (i : Nat) → XF i from x) 12
def XS.way (x : XS) : Nat → Nat := (show (i : Nat) → XF i from x) 13
def XS.mem (x : XS) : Nat → Nat := (show (i : Nat) → XF i from x) 14
def XS.spo (x : XS) : Nat → Bool := (show (i : Nat) → XF i from x) 15
def XS.tk (x : XS) : List TK := (show (i : Nat) → XF i from x) 16
def XS.wi (x : XS) : Nat → WI := (show (i : Nat) → XF i from x) 17
def XS.tr (x : XS) : Nat → Nat → Int32 := (show (i : Nat) → XF i from x) 18
def XS.row (x : XS) : Nat → List RE := (show (i : Nat) → XF i from x) 19
def XS.uw (x : XS) : List UE := (show (i : Nat) → XF i from x) 20
def XS.ur (x : XS) : List UE := (show (i : Nat) → XF i from x) 21
def XS.la (x : XS) : Nat → Option Nat := (show (i : Nat) → XF i from x) 22
def XS.lr (x : XS) : Nat → Option Nat := (show (i : Nat) → XF i from x) 23
def XS.lb (x : XS) : Nat → Option Nat := (show (i : Nat) → XF i from x) 24
def XS.lg (x : XS) : Nat → Option Nat := (show (i : Nat) → XF i from x) 25
def XS.inb (x : XS) : Nat → Bool := (show (i : Nat) → XF i from x) 26
def XS.sw (x : XS) : Nat → List WE := (show (i : Nat) → XF i from x) 27
def XS.sr (x : XS) : Nat → List QE := (show (i : Nat) → XF i from x) 28
def XS.rnum (x : XS) : Nat → Nat := (show (i : Nat) → XF i from x) 29
def XS.lat (x : XS) : Nat → Option (Nat × Nat) := (show (i : Nat) → XF i from x) 30
def XS.chb (x : XS) : Nat → Option Nat := (show (i : Nat) → XF i from x) 31
def XS.chr (x : XS) : Nat → Option Nat := (show (i : Nat) → XF i from x) 32
def XS.rgt (x : XS) : Nat → Nat → Option (Nat × Nat) := (show (i : Nat) → XF i from x) 33
def XS.mon (x : XS) : Nat → MO := (show (i : Nat) → XF i from x) 34
def XS.err (x : XS) : Nat := (show (i : Nat) → XF i from x) 35
def XS.w_nm (x : XS) (v : Nat) : XS := XS.up x 0 v
def XS.w_ns (x : XS) (v : Nat) : XS := XS.up x 1 v
def XS.w_lim (x : XS) (v : Nat) : XS := XS.up x 2 v
def XS.w_pol (x : XS) (v : Nat) : XS := XS.up x 3 v
def XS.w_whole (x : XS) (v : Bool) : XS := XS.up x 4 v
def XS.w_time (x : XS) (v : Nat) : XS := XS.up x 5 v
def XS.w_dbeat (x : XS) (v : Nat) : XS := XS.up x 6 v
def XS.w_moved (x : XS) (v : Nat) : XS := XS.up x 7 v
def XS.w_pages (x : XS) (v : Nat → Nat) : XS := XS.up x 8 v
def XS.w_mpat (x : XS) (v : Nat → Nat → Nat) : XS := XS.up x 9 v
def XS.w_spat (x : XS) (v : Nat → Nat → Nat) : XS := XS.up x 10 v
def XS.w_early (x : XS) (v : Nat → Bool) : XS := XS.up x 11 v
def XS.w_delay (x : XS) (v : Nat → Nat) : XS := XS.up x 12 v
def XS.w_way (x : XS) (v : Nat → Nat) : XS := XS.up x 13 v
def XS.w_mem (x : XS) (v : Nat → Nat) : XS := XS.up x 14 v
def XS.w_spo (x : XS) (v : Nat → Bool) : XS := XS.up x 15 v
def XS.w_tk (x : XS) (v : List TK) : XS := XS.up x 16 v
def XS.w_wi (x : XS) (v : Nat → WI) : XS := XS.up x 17 v
def XS.w_tr (x : XS) (v : Nat → Nat → Int32) : XS := XS.up x 18 v
def XS.w_row (x : XS) (v : Nat → List RE) : XS := XS.up x 19 v
def XS.w_uw (x : XS) (v : List UE) : XS := XS.up x 20 v
def XS.w_ur (x : XS) (v : List UE) : XS := XS.up x 21 v
def XS.w_la (x : XS) (v : Nat → Option Nat) : XS := XS.up x 22 v
def XS.w_lr (x : XS) (v : Nat → Option Nat) : XS := XS.up x 23 v
def XS.w_lb (x : XS) (v : Nat → Option Nat) : XS := XS.up x 24 v
def XS.w_lg (x : XS) (v : Nat → Option Nat) : XS := XS.up x 25 v
def XS.w_inb (x : XS) (v : Nat → Bool) : XS := XS.up x 26 v
def XS.w_sw (x : XS) (v : Nat → List WE) : XS := XS.up x 27 v
def XS.w_sr (x : XS) (v : Nat → List QE) : XS := XS.up x 28 v
def XS.w_rnum (x : XS) (v : Nat → Nat) : XS := XS.up x 29 v
def XS.w_lat (x : XS) (v : Nat → Option (Nat × Nat)) : XS := XS.up x 30 v
def XS.w_chb (x : XS) (v : Nat → Option Nat) : XS := XS.up x 31 v
def XS.w_chr (x : XS) (v : Nat → Option Nat) : XS := XS.up x 32 v
def XS.w_rgt (x : XS) (v : Nat → Nat → Option (Nat × Nat)) : XS := XS.up x 33 v
def XS.w_mon (x : XS) (v : Nat → MO) : XS := XS.up x 34 v
def XS.w_err (x : XS) (v : Nat) : XS := XS.up x 35 v
theorem XS.nm_w_nm (x : XS) (v : Nat) : (x.w_nm v).nm = v := rfl
theorem XS.ns_w_nm (x : XS) (v : Nat) : (x.w_nm v).ns = x.ns := rfl
theorem XS.lim_w_nm (x : XS) (v : Nat) : (x.w_nm v).lim = x.lim := rfl
theorem XS.pol_w_nm (x : XS) (v : Nat) : (x.w_nm v).pol = x.pol := rfl
theorem XS.whole_w_nm (x : XS) (v : Nat) : (x.w_nm v).whole = x.whole := rfl
theorem XS.time_w_nm (x : XS) (v : Nat) : (x.w_nm v).time = x.time := rfl
theorem XS.dbeat_w_nm (x : XS) (v : Nat) : (x.w_nm v).dbeat = x.dbeat := rfl
theorem XS.moved_w_nm (x : XS) (v : Nat) : (x.w_nm v).moved = x.moved := rfl
theorem XS.pages_w_nm (x : XS) (v : Nat) : (x.w_nm v).pages = x.pages := rfl
theorem XS.mpat_w_nm (x : XS) (v : Nat) : (x.w_nm v).mpat = x.mpat := rfl
theorem XS.spat_w_nm (x : XS) (v : Nat) : (x.w_nm v).spat = x.spat := rfl
theorem XS.early_w_nm (x : XS) (v : Nat) : (x.w_nm v).early = x.early := rfl
theorem XS.delay_w_nm (x : XS) (v : Nat) : (x.w_nm v).delay = x.delay := rfl
theorem XS.way_w_nm (x : XS) (v : Nat) : (x.w_nm v).way = x.way := rfl
theorem XS.mem_w_nm (x : XS) (v : Nat) : (x.w_nm v).mem = x.mem := rfl
theorem XS.spo_w_nm (x : XS) (v : Nat) : (x.w_nm v).spo = x.spo := rfl
theorem XS.tk_w_nm (x : XS) (v : Nat) : (x.w_nm v).tk = x.tk := rfl
theorem XS.wi_w_nm (x : XS) (v : Nat) : (x.w_nm v).wi = x.wi := rfl
theorem XS.tr_w_nm (x : XS) (v : Nat) : (x.w_nm v).tr = x.tr := rfl
theorem XS.row_w_nm (x : XS) (v : Nat) : (x.w_nm v).row = x.row := rfl
theorem XS.uw_w_nm (x : XS) (v : Nat) : (x.w_nm v).uw = x.uw := rfl
theorem XS.ur_w_nm (x : XS) (v : Nat) : (x.w_nm v).ur = x.ur := rfl
theorem XS.la_w_nm (x : XS) (v : Nat) : (x.w_nm v).la = x.la := rfl
theorem XS.lr_w_nm (x : XS) (v : Nat) : (x.w_nm v).lr = x.lr := rfl
theorem XS.lb_w_nm (x : XS) (v : Nat) : (x.w_nm v).lb = x.lb := rfl
theorem XS.lg_w_nm (x : XS) (v : Nat) : (x.w_nm v).lg = x.lg := rfl
theorem XS.inb_w_nm (x : XS) (v : Nat) : (x.w_nm v).inb = x.inb := rfl
theorem XS.sw_w_nm (x : XS) (v : Nat) : (x.w_nm v).sw = x.sw := rfl
theorem XS.sr_w_nm (x : XS) (v : Nat) : (x.w_nm v).sr = x.sr := rfl
theorem XS.rnum_w_nm (x : XS) (v : Nat) : (x.w_nm v).rnum = x.rnum := rfl
theorem XS.lat_w_nm (x : XS) (v : Nat) : (x.w_nm v).lat = x.lat := rfl
theorem XS.chb_w_nm (x : XS) (v : Nat) : (x.w_nm v).chb = x.chb := rfl
theorem XS.chr_w_nm (x : XS) (v : Nat) : (x.w_nm v).chr = x.chr := rfl
theorem XS.rgt_w_nm (x : XS) (v : Nat) : (x.w_nm v).rgt = x.rgt := rfl
theorem XS.mon_w_nm (x : XS) (v : Nat) : (x.w_nm v).mon = x.mon := rfl
theorem XS.err_w_nm (x : XS) (v : Nat) : (x.w_nm v).err = x.err := rfl
theorem XS.nm_w_ns (x : XS) (v : Nat) : (x.w_ns v).nm = x.nm := rfl
theorem XS.ns_w_ns (x : XS) (v : Nat) : (x.w_ns v).ns = v := rfl
theorem XS.lim_w_ns (x : XS) (v : Nat) : (x.w_ns v).lim = x.lim := rfl
theorem XS.pol_w_ns (x : XS) (v : Nat) : (x.w_ns v).pol = x.pol := rfl
theorem XS.whole_w_ns (x : XS) (v : Nat) : (x.w_ns v).whole = x.whole := rfl
theorem XS.time_w_ns (x : XS) (v : Nat) : (x.w_ns v).time = x.time := rfl
theorem XS.dbeat_w_ns (x : XS) (v : Nat) : (x.w_ns v).dbeat = x.dbeat := rfl
theorem XS.moved_w_ns (x : XS) (v : Nat) : (x.w_ns v).moved = x.moved := rfl
theorem XS.pages_w_ns (x : XS) (v : Nat) : (x.w_ns v).pages = x.pages := rfl
theorem XS.mpat_w_ns (x : XS) (v : Nat) : (x.w_ns v).mpat = x.mpat := rfl
theorem XS.spat_w_ns (x : XS) (v : Nat) : (x.w_ns v).spat = x.spat := rfl
theorem XS.early_w_ns (x : XS) (v : Nat) : (x.w_ns v).early = x.early := rfl
theorem XS.delay_w_ns (x : XS) (v : Nat) : (x.w_ns v).delay = x.delay := rfl
theorem XS.way_w_ns (x : XS) (v : Nat) : (x.w_ns v).way = x.way := rfl
theorem XS.mem_w_ns (x : XS) (v : Nat) : (x.w_ns v).mem = x.mem := rfl
theorem XS.spo_w_ns (x : XS) (v : Nat) : (x.w_ns v).spo = x.spo := rfl
theorem XS.tk_w_ns (x : XS) (v : Nat) : (x.w_ns v).tk = x.tk := rfl
theorem XS.wi_w_ns (x : XS) (v : Nat) : (x.w_ns v).wi = x.wi := rfl
theorem XS.tr_w_ns (x : XS) (v : Nat) : (x.w_ns v).tr = x.tr := rfl
theorem XS.row_w_ns (x : XS) (v : Nat) : (x.w_ns v).row = x.row := rfl
theorem XS.uw_w_ns (x : XS) (v : Nat) : (x.w_ns v).uw = x.uw := rfl
theorem XS.ur_w_ns (x : XS) (v : Nat) : (x.w_ns v).ur = x.ur := rfl
theorem XS.la_w_ns (x : XS) (v : Nat) : (x.w_ns v).la = x.la := rfl
theorem XS.lr_w_ns (x : XS) (v : Nat) : (x.w_ns v).lr = x.lr := rfl
theorem XS.lb_w_ns (x : XS) (v : Nat) : (x.w_ns v).lb = x.lb := rfl
theorem XS.lg_w_ns (x : XS) (v : Nat) : (x.w_ns v).lg = x.lg := rfl
theorem XS.inb_w_ns (x : XS) (v : Nat) : (x.w_ns v).inb = x.inb := rfl
theorem XS.sw_w_ns (x : XS) (v : Nat) : (x.w_ns v).sw = x.sw := rfl
theorem XS.sr_w_ns (x : XS) (v : Nat) : (x.w_ns v).sr = x.sr := rfl
theorem XS.rnum_w_ns (x : XS) (v : Nat) : (x.w_ns v).rnum = x.rnum := rfl
theorem XS.lat_w_ns (x : XS) (v : Nat) : (x.w_ns v).lat = x.lat := rfl
theorem XS.chb_w_ns (x : XS) (v : Nat) : (x.w_ns v).chb = x.chb := rfl
theorem XS.chr_w_ns (x : XS) (v : Nat) : (x.w_ns v).chr = x.chr := rfl
theorem XS.rgt_w_ns (x : XS) (v : Nat) : (x.w_ns v).rgt = x.rgt := rfl
theorem XS.mon_w_ns (x : XS) (v : Nat) : (x.w_ns v).mon = x.mon := rfl
theorem XS.err_w_ns (x : XS) (v : Nat) : (x.w_ns v).err = x.err := rfl
theorem XS.nm_w_lim (x : XS) (v : Nat) : (x.w_lim v).nm = x.nm := rfl
theorem XS.ns_w_lim (x : XS) (v : Nat) : (x.w_lim v).ns = x.ns := rfl
theorem XS.lim_w_lim (x : XS) (v : Nat) : (x.w_lim v).lim = v := rfl
theorem XS.pol_w_lim (x : XS) (v : Nat) : (x.w_lim v).pol = x.pol := rfl
theorem XS.whole_w_lim (x : XS) (v : Nat) : (x.w_lim v).whole = x.whole := rfl
theorem XS.time_w_lim (x : XS) (v : Nat) : (x.w_lim v).time = x.time := rfl
theorem XS.dbeat_w_lim (x : XS) (v : Nat) : (x.w_lim v).dbeat = x.dbeat := rfl
theorem XS.moved_w_lim (x : XS) (v : Nat) : (x.w_lim v).moved = x.moved := rfl
theorem XS.pages_w_lim (x : XS) (v : Nat) : (x.w_lim v).pages = x.pages := rfl
theorem XS.mpat_w_lim (x : XS) (v : Nat) : (x.w_lim v).mpat = x.mpat := rfl
theorem XS.spat_w_lim (x : XS) (v : Nat) : (x.w_lim v).spat = x.spat := rfl
theorem XS.early_w_lim (x : XS) (v : Nat) : (x.w_lim v).early = x.early := rfl
theorem XS.delay_w_lim (x : XS) (v : Nat) : (x.w_lim v).delay = x.delay := rfl
theorem XS.way_w_lim (x : XS) (v : Nat) : (x.w_lim v).way = x.way := rfl
theorem XS.mem_w_lim (x : XS) (v : Nat) : (x.w_lim v).mem = x.mem := rfl
theorem XS.spo_w_lim (x : XS) (v : Nat) : (x.w_lim v).spo = x.spo := rfl
theorem XS.tk_w_lim (x : XS) (v : Nat) : (x.w_lim v).tk = x.tk := rfl
theorem XS.wi_w_lim (x : XS) (v : Nat) : (x.w_lim v).wi = x.wi := rfl
theorem XS.tr_w_lim (x : XS) (v : Nat) : (x.w_lim v).tr = x.tr := rfl
theorem XS.row_w_lim (x : XS) (v : Nat) : (x.w_lim v).row = x.row := rfl
theorem XS.uw_w_lim (x : XS) (v : Nat) : (x.w_lim v).uw = x.uw := rfl
theorem XS.ur_w_lim (x : XS) (v : Nat) : (x.w_lim v).ur = x.ur := rfl
theorem XS.la_w_lim (x : XS) (v : Nat) : (x.w_lim v).la = x.la := rfl
theorem XS.lr_w_lim (x : XS) (v : Nat) : (x.w_lim v).lr = x.lr := rfl
theorem XS.lb_w_lim (x : XS) (v : Nat) : (x.w_lim v).lb = x.lb := rfl
theorem XS.lg_w_lim (x : XS) (v : Nat) : (x.w_lim v).lg = x.lg := rfl
theorem XS.inb_w_lim (x : XS) (v : Nat) : (x.w_lim v).inb = x.inb := rfl
theorem XS.sw_w_lim (x : XS) (v : Nat) : (x.w_lim v).sw = x.sw := rfl
theorem XS.sr_w_lim (x : XS) (v : Nat) : (x.w_lim v).sr = x.sr := rfl
theorem XS.rnum_w_lim (x : XS) (v : Nat) : (x.w_lim v).rnum = x.rnum := rfl
theorem XS.lat_w_lim (x : XS) (v : Nat) : (x.w_lim v).lat = x.lat := rfl
theorem XS.chb_w_lim (x : XS) (v : Nat) : (x.w_lim v).chb = x.chb := rfl
theorem XS.chr_w_lim (x : XS) (v : Nat) : (x.w_lim v).chr = x.chr := rfl
theorem XS.rgt_w_lim (x : XS) (v : Nat) : (x.w_lim v).rgt = x.rgt := rfl
theorem XS.mon_w_lim (x : XS) (v : Nat) : (x.w_lim v).mon = x.mon := rfl
theorem XS.err_w_lim (x : XS) (v : Nat) : (x.w_lim v).err = x.err := rfl
theorem XS.nm_w_pol (x : XS) (v : Nat) : (x.w_pol v).nm = x.nm := rfl
theorem XS.ns_w_pol (x : XS) (v : Nat) : (x.w_pol v).ns = x.ns := rfl
theorem XS.lim_w_pol (x : XS) (v : Nat) : (x.w_pol v).lim = x.lim := rfl
theorem XS.pol_w_pol (x : XS) (v : Nat) : (x.w_pol v).pol = v := rfl
theorem XS.whole_w_pol (x : XS) (v : Nat) : (x.w_pol v).whole = x.whole := rfl
theorem XS.time_w_pol (x : XS) (v : Nat) : (x.w_pol v).time = x.time := rfl
theorem XS.dbeat_w_pol (x : XS) (v : Nat) : (x.w_pol v).dbeat = x.dbeat := rfl
theorem XS.moved_w_pol (x : XS) (v : Nat) : (x.w_pol v).moved = x.moved := rfl
theorem XS.pages_w_pol (x : XS) (v : Nat) : (x.w_pol v).pages = x.pages := rfl
theorem XS.mpat_w_pol (x : XS) (v : Nat) : (x.w_pol v).mpat = x.mpat := rfl
theorem XS.spat_w_pol (x : XS) (v : Nat) : (x.w_pol v).spat = x.spat := rfl
theorem XS.early_w_pol (x : XS) (v : Nat) : (x.w_pol v).early = x.early := rfl
theorem XS.delay_w_pol (x : XS) (v : Nat) : (x.w_pol v).delay = x.delay := rfl
theorem XS.way_w_pol (x : XS) (v : Nat) : (x.w_pol v).way = x.way := rfl
theorem XS.mem_w_pol (x : XS) (v : Nat) : (x.w_pol v).mem = x.mem := rfl
theorem XS.spo_w_pol (x : XS) (v : Nat) : (x.w_pol v).spo = x.spo := rfl
theorem XS.tk_w_pol (x : XS) (v : Nat) : (x.w_pol v).tk = x.tk := rfl
theorem XS.wi_w_pol (x : XS) (v : Nat) : (x.w_pol v).wi = x.wi := rfl
theorem XS.tr_w_pol (x : XS) (v : Nat) : (x.w_pol v).tr = x.tr := rfl
theorem XS.row_w_pol (x : XS) (v : Nat) : (x.w_pol v).row = x.row := rfl
theorem XS.uw_w_pol (x : XS) (v : Nat) : (x.w_pol v).uw = x.uw := rfl
theorem XS.ur_w_pol (x : XS) (v : Nat) : (x.w_pol v).ur = x.ur := rfl
theorem XS.la_w_pol (x : XS) (v : Nat) : (x.w_pol v).la = x.la := rfl
theorem XS.lr_w_pol (x : XS) (v : Nat) : (x.w_pol v).lr = x.lr := rfl
theorem XS.lb_w_pol (x : XS) (v : Nat) : (x.w_pol v).lb = x.lb := rfl
theorem XS.lg_w_pol (x : XS) (v : Nat) : (x.w_pol v).lg = x.lg := rfl
theorem XS.inb_w_pol (x : XS) (v : Nat) : (x.w_pol v).inb = x.inb := rfl
theorem XS.sw_w_pol (x : XS) (v : Nat) : (x.w_pol v).sw = x.sw := rfl
theorem XS.sr_w_pol (x : XS) (v : Nat) : (x.w_pol v).sr = x.sr := rfl
theorem XS.rnum_w_pol (x : XS) (v : Nat) : (x.w_pol v).rnum = x.rnum := rfl
theorem XS.lat_w_pol (x : XS) (v : Nat) : (x.w_pol v).lat = x.lat := rfl
theorem XS.chb_w_pol (x : XS) (v : Nat) : (x.w_pol v).chb = x.chb := rfl
theorem XS.chr_w_pol (x : XS) (v : Nat) : (x.w_pol v).chr = x.chr := rfl
theorem XS.rgt_w_pol (x : XS) (v : Nat) : (x.w_pol v).rgt = x.rgt := rfl
theorem XS.mon_w_pol (x : XS) (v : Nat) : (x.w_pol v).mon = x.mon := rfl
theorem XS.err_w_pol (x : XS) (v : Nat) : (x.w_pol v).err = x.err := rfl
theorem XS.nm_w_whole (x : XS) (v : Bool) : (x.w_whole v).nm = x.nm := rfl
theorem XS.ns_w_whole (x : XS) (v : Bool) : (x.w_whole v).ns = x.ns := rfl
theorem XS.lim_w_whole (x : XS) (v : Bool) : (x.w_whole v).lim = x.lim := rfl
theorem XS.pol_w_whole (x : XS) (v : Bool) : (x.w_whole v).pol = x.pol := rfl
theorem XS.whole_w_whole (x : XS) (v : Bool) : (x.w_whole v).whole = v := rfl
theorem XS.time_w_whole (x : XS) (v : Bool) : (x.w_whole v).time = x.time := rfl
theorem XS.dbeat_w_whole (x : XS) (v : Bool) : (x.w_whole v).dbeat = x.dbeat := rfl
theorem XS.moved_w_whole (x : XS) (v : Bool) : (x.w_whole v).moved = x.moved := rfl
theorem XS.pages_w_whole (x : XS) (v : Bool) : (x.w_whole v).pages = x.pages := rfl
theorem XS.mpat_w_whole (x : XS) (v : Bool) : (x.w_whole v).mpat = x.mpat := rfl
theorem XS.spat_w_whole (x : XS) (v : Bool) : (x.w_whole v).spat = x.spat := rfl
theorem XS.early_w_whole (x : XS) (v : Bool) : (x.w_whole v).early = x.early := rfl
theorem XS.delay_w_whole (x : XS) (v : Bool) : (x.w_whole v).delay = x.delay := rfl
theorem XS.way_w_whole (x : XS) (v : Bool) : (x.w_whole v).way = x.way := rfl
theorem XS.mem_w_whole (x : XS) (v : Bool) : (x.w_whole v).mem = x.mem := rfl
theorem XS.spo_w_whole (x : XS) (v : Bool) : (x.w_whole v).spo = x.spo := rfl
theorem XS.tk_w_whole (x : XS) (v : Bool) : (x.w_whole v).tk = x.tk := rfl
theorem XS.wi_w_whole (x : XS) (v : Bool) : (x.w_whole v).wi = x.wi := rfl
theorem XS.tr_w_whole (x : XS) (v : Bool) : (x.w_whole v).tr = x.tr := rfl
theorem XS.row_w_whole (x : XS) (v : Bool) : (x.w_whole v).row = x.row := rfl
theorem XS.uw_w_whole (x : XS) (v : Bool) : (x.w_whole v).uw = x.uw := rfl
theorem XS.ur_w_whole (x : XS) (v : Bool) : (x.w_whole v).ur = x.ur := rfl
theorem XS.la_w_whole (x : XS) (v : Bool) : (x.w_whole v).la = x.la := rfl
theorem XS.lr_w_whole (x : XS) (v : Bool) : (x.w_whole v).lr = x.lr := rfl
theorem XS.lb_w_whole (x : XS) (v : Bool) : (x.w_whole v).lb = x.lb := rfl
theorem XS.lg_w_whole (x : XS) (v : Bool) : (x.w_whole v).lg = x.lg := rfl
theorem XS.inb_w_whole (x : XS) (v : Bool) : (x.w_whole v).inb = x.inb := rfl
theorem XS.sw_w_whole (x : XS) (v : Bool) : (x.w_whole v).sw = x.sw := rfl
theorem XS.sr_w_whole (x : XS) (v : Bool) : (x.w_whole v).sr = x.sr := rfl
theorem XS.rnum_w_whole (x : XS) (v : Bool) : (x.w_whole v).rnum = x.rnum := rfl
theorem XS.lat_w_whole (x : XS) (v : Bool) : (x.w_whole v).lat = x.lat := rfl
theorem XS.chb_w_whole (x : XS) (v : Bool) : (x.w_whole v).chb = x.chb := rfl
theorem XS.chr_w_whole (x : XS) (v : Bool) : (x.w_whole v).chr = x.chr := rfl
theorem XS.rgt_w_whole (x : XS) (v : Bool) : (x.w_whole v).rgt = x.rgt := rfl
theorem XS.mon_w_whole (x : XS) (v : Bool) : (x.w_whole v).mon = x.mon := rfl
theorem XS.err_w_whole (x : XS) (v : Bool) : (x.w_whole v).err = x.err := rfl
theorem XS.nm_w_time (x : XS) (v : Nat) : (x.w_time v).nm = x.nm := rfl
theorem XS.ns_w_time (x : XS) (v : Nat) : (x.w_time v).ns = x.ns := rfl
theorem XS.lim_w_time (x : XS) (v : Nat) : (x.w_time v).lim = x.lim := rfl
theorem XS.pol_w_time (x : XS) (v : Nat) : (x.w_time v).pol = x.pol := rfl
theorem XS.whole_w_time (x : XS) (v : Nat) : (x.w_time v).whole = x.whole := rfl
theorem XS.time_w_time (x : XS) (v : Nat) : (x.w_time v).time = v := rfl
theorem XS.dbeat_w_time (x : XS) (v : Nat) : (x.w_time v).dbeat = x.dbeat := rfl
theorem XS.moved_w_time (x : XS) (v : Nat) : (x.w_time v).moved = x.moved := rfl
theorem XS.pages_w_time (x : XS) (v : Nat) : (x.w_time v).pages = x.pages := rfl
theorem XS.mpat_w_time (x : XS) (v : Nat) : (x.w_time v).mpat = x.mpat := rfl
theorem XS.spat_w_time (x : XS) (v : Nat) : (x.w_time v).spat = x.spat := rfl
theorem XS.early_w_time (x : XS) (v : Nat) : (x.w_time v).early = x.early := rfl
theorem XS.delay_w_time (x : XS) (v : Nat) : (x.w_time v).delay = x.delay := rfl
theorem XS.way_w_time (x : XS) (v : Nat) : (x.w_time v).way = x.way := rfl
theorem XS.mem_w_time (x : XS) (v : Nat) : (x.w_time v).mem = x.mem := rfl
theorem XS.spo_w_time (x : XS) (v : Nat) : (x.w_time v).spo = x.spo := rfl
theorem XS.tk_w_time (x : XS) (v : Nat) : (x.w_time v).tk = x.tk := rfl
theorem XS.wi_w_time (x : XS) (v : Nat) : (x.w_time v).wi = x.wi := rfl
theorem XS.tr_w_time (x : XS) (v : Nat) : (x.w_time v).tr = x.tr := rfl
theorem XS.row_w_time (x : XS) (v : Nat) : (x.w_time v).row = x.row := rfl
theorem XS.uw_w_time (x : XS) (v : Nat) : (x.w_time v).uw = x.uw := rfl
theorem XS.ur_w_time (x : XS) (v : Nat) : (x.w_time v).ur = x.ur := rfl
theorem XS.la_w_time (x : XS) (v : Nat) : (x.w_time v).la = x.la := rfl
theorem XS.lr_w_time (x : XS) (v : Nat) : (x.w_time v).lr = x.lr := rfl
theorem XS.lb_w_time (x : XS) (v : Nat) : (x.w_time v).lb = x.lb := rfl
theorem XS.lg_w_time (x : XS) (v : Nat) : (x.w_time v).lg = x.lg := rfl
theorem XS.inb_w_time (x : XS) (v : Nat) : (x.w_time v).inb = x.inb := rfl
theorem XS.sw_w_time (x : XS) (v : Nat) : (x.w_time v).sw = x.sw := rfl
theorem XS.sr_w_time (x : XS) (v : Nat) : (x.w_time v).sr = x.sr := rfl
theorem XS.rnum_w_time (x : XS) (v : Nat) : (x.w_time v).rnum = x.rnum := rfl
theorem XS.lat_w_time (x : XS) (v : Nat) : (x.w_time v).lat = x.lat := rfl
theorem XS.chb_w_time (x : XS) (v : Nat) : (x.w_time v).chb = x.chb := rfl
theorem XS.chr_w_time (x : XS) (v : Nat) : (x.w_time v).chr = x.chr := rfl
theorem XS.rgt_w_time (x : XS) (v : Nat) : (x.w_time v).rgt = x.rgt := rfl
theorem XS.mon_w_time (x : XS) (v : Nat) : (x.w_time v).mon = x.mon := rfl
theorem XS.err_w_time (x : XS) (v : Nat) : (x.w_time v).err = x.err := rfl
theorem XS.nm_w_dbeat (x : XS) (v : Nat) : (x.w_dbeat v).nm = x.nm := rfl
theorem XS.ns_w_dbeat (x : XS) (v : Nat) : (x.w_dbeat v).ns = x.ns := rfl
theorem XS.lim_w_dbeat (x : XS) (v : Nat) : (x.w_dbeat v).lim = x.lim := rfl
theorem XS.pol_w_dbeat (x : XS) (v : Nat) : (x.w_dbeat v).pol = x.pol := rfl
theorem XS.whole_w_dbeat (x : XS) (v : Nat) : (x.w_dbeat v).whole = x.whole := rfl
theorem XS.time_w_dbeat (x : XS) (v : Nat) : (x.w_dbeat v).time = x.time := rfl
theorem XS.dbeat_w_dbeat (x : XS) (v : Nat) : (x.w_dbeat v).dbeat = v := rfl
theorem XS.moved_w_dbeat (x : XS) (v : Nat) : (x.w_dbeat v).moved = x.moved := rfl
theorem XS.pages_w_dbeat (x : XS) (v : Nat) : (x.w_dbeat v).pages = x.pages := rfl
theorem XS.mpat_w_dbeat (x : XS) (v : Nat) : (x.w_dbeat v).mpat = x.mpat := rfl
theorem XS.spat_w_dbeat (x : XS) (v : Nat) : (x.w_dbeat v).spat = x.spat := rfl
theorem XS.early_w_dbeat (x : XS) (v : Nat) : (x.w_dbeat v).early = x.early := rfl
theorem XS.delay_w_dbeat (x : XS) (v : Nat) : (x.w_dbeat v).delay = x.delay := rfl
theorem XS.way_w_dbeat (x : XS) (v : Nat) : (x.w_dbeat v).way = x.way := rfl
theorem XS.mem_w_dbeat (x : XS) (v : Nat) : (x.w_dbeat v).mem = x.mem := rfl
theorem XS.spo_w_dbeat (x : XS) (v : Nat) : (x.w_dbeat v).spo = x.spo := rfl
theorem XS.tk_w_dbeat (x : XS) (v : Nat) : (x.w_dbeat v).tk = x.tk := rfl
theorem XS.wi_w_dbeat (x : XS) (v : Nat) : (x.w_dbeat v).wi = x.wi := rfl
theorem XS.tr_w_dbeat (x : XS) (v : Nat) : (x.w_dbeat v).tr = x.tr := rfl
theorem XS.row_w_dbeat (x : XS) (v : Nat) : (x.w_dbeat v).row = x.row := rfl
theorem XS.uw_w_dbeat (x : XS) (v : Nat) : (x.w_dbeat v).uw = x.uw := rfl
theorem XS.ur_w_dbeat (x : XS) (v : Nat) : (x.w_dbeat v).ur = x.ur := rfl
theorem XS.la_w_dbeat (x : XS) (v : Nat) : (x.w_dbeat v).la = x.la := rfl
theorem XS.lr_w_dbeat (x : XS) (v : Nat) : (x.w_dbeat v).lr = x.lr := rfl
theorem XS.lb_w_dbeat (x : XS) (v : Nat) : (x.w_dbeat v).lb = x.lb := rfl
theorem XS.lg_w_dbeat (x : XS) (v : Nat) : (x.w_dbeat v).lg = x.lg := rfl
theorem XS.inb_w_dbeat (x : XS) (v : Nat) : (x.w_dbeat v).inb = x.inb := rfl
theorem XS.sw_w_dbeat (x : XS) (v : Nat) : (x.w_dbeat v).sw = x.sw := rfl
theorem XS.sr_w_dbeat (x : XS) (v : Nat) : (x.w_dbeat v).sr = x.sr := rfl
theorem XS.rnum_w_dbeat (x : XS) (v : Nat) : (x.w_dbeat v).rnum = x.rnum := rfl
theorem XS.lat_w_dbeat (x : XS) (v : Nat) : (x.w_dbeat v).lat = x.lat := rfl
theorem XS.chb_w_dbeat (x : XS) (v : Nat) : (x.w_dbeat v).chb = x.chb := rfl
theorem XS.chr_w_dbeat (x : XS) (v : Nat) : (x.w_dbeat v).chr = x.chr := rfl
theorem XS.rgt_w_dbeat (x : XS) (v : Nat) : (x.w_dbeat v).rgt = x.rgt := rfl
theorem XS.mon_w_dbeat (x : XS) (v : Nat) : (x.w_dbeat v).mon = x.mon := rfl
theorem XS.err_w_dbeat (x : XS) (v : Nat) : (x.w_dbeat v).err = x.err := rfl
theorem XS.nm_w_moved (x : XS) (v : Nat) : (x.w_moved v).nm = x.nm := rfl
theorem XS.ns_w_moved (x : XS) (v : Nat) : (x.w_moved v).ns = x.ns := rfl
theorem XS.lim_w_moved (x : XS) (v : Nat) : (x.w_moved v).lim = x.lim := rfl
theorem XS.pol_w_moved (x : XS) (v : Nat) : (x.w_moved v).pol = x.pol := rfl
theorem XS.whole_w_moved (x : XS) (v : Nat) : (x.w_moved v).whole = x.whole := rfl
theorem XS.time_w_moved (x : XS) (v : Nat) : (x.w_moved v).time = x.time := rfl
theorem XS.dbeat_w_moved (x : XS) (v : Nat) : (x.w_moved v).dbeat = x.dbeat := rfl
theorem XS.moved_w_moved (x : XS) (v : Nat) : (x.w_moved v).moved = v := rfl
theorem XS.pages_w_moved (x : XS) (v : Nat) : (x.w_moved v).pages = x.pages := rfl
theorem XS.mpat_w_moved (x : XS) (v : Nat) : (x.w_moved v).mpat = x.mpat := rfl
theorem XS.spat_w_moved (x : XS) (v : Nat) : (x.w_moved v).spat = x.spat := rfl
theorem XS.early_w_moved (x : XS) (v : Nat) : (x.w_moved v).early = x.early := rfl
theorem XS.delay_w_moved (x : XS) (v : Nat) : (x.w_moved v).delay = x.delay := rfl
theorem XS.way_w_moved (x : XS) (v : Nat) : (x.w_moved v).way = x.way := rfl
theorem XS.mem_w_moved (x : XS) (v : Nat) : (x.w_moved v).mem = x.mem := rfl
theorem XS.spo_w_moved (x : XS) (v : Nat) : (x.w_moved v).spo = x.spo := rfl
theorem XS.tk_w_moved (x : XS) (v : Nat) : (x.w_moved v).tk = x.tk := rfl
theorem XS.wi_w_moved (x : XS) (v : Nat) : (x.w_moved v).wi = x.wi := rfl
theorem XS.tr_w_moved (x : XS) (v : Nat) : (x.w_moved v).tr = x.tr := rfl
theorem XS.row_w_moved (x : XS) (v : Nat) : (x.w_moved v).row = x.row := rfl
theorem XS.uw_w_moved (x : XS) (v : Nat) : (x.w_moved v).uw = x.uw := rfl
theorem XS.ur_w_moved (x : XS) (v : Nat) : (x.w_moved v).ur = x.ur := rfl
theorem XS.la_w_moved (x : XS) (v : Nat) : (x.w_moved v).la = x.la := rfl
theorem XS.lr_w_moved (x : XS) (v : Nat) : (x.w_moved v).lr = x.lr := rfl
theorem XS.lb_w_moved (x : XS) (v : Nat) : (x.w_moved v).lb = x.lb := rfl
theorem XS.lg_w_moved (x : XS) (v : Nat) : (x.w_moved v).lg = x.lg := rfl
theorem XS.inb_w_moved (x : XS) (v : Nat) : (x.w_moved v).inb = x.inb := rfl
theorem XS.sw_w_moved (x : XS) (v : Nat) : (x.w_moved v).sw = x.sw := rfl
theorem XS.sr_w_moved (x : XS) (v : Nat) : (x.w_moved v).sr = x.sr := rfl
theorem XS.rnum_w_moved (x : XS) (v : Nat) : (x.w_moved v).rnum = x.rnum := rfl
theorem XS.lat_w_moved (x : XS) (v : Nat) : (x.w_moved v).lat = x.lat := rfl
theorem XS.chb_w_moved (x : XS) (v : Nat) : (x.w_moved v).chb = x.chb := rfl
theorem XS.chr_w_moved (x : XS) (v : Nat) : (x.w_moved v).chr = x.chr := rfl
theorem XS.rgt_w_moved (x : XS) (v : Nat) : (x.w_moved v).rgt = x.rgt := rfl
theorem XS.mon_w_moved (x : XS) (v : Nat) : (x.w_moved v).mon = x.mon := rfl
theorem XS.err_w_moved (x : XS) (v : Nat) : (x.w_moved v).err = x.err := rfl
theorem XS.nm_w_pages (x : XS) (v : Nat → Nat) : (x.w_pages v).nm = x.nm := rfl
theorem XS.ns_w_pages (x : XS) (v : Nat → Nat) : (x.w_pages v).ns = x.ns := rfl
theorem XS.lim_w_pages (x : XS) (v : Nat → Nat) : (x.w_pages v).lim = x.lim := rfl
theorem XS.pol_w_pages (x : XS) (v : Nat → Nat) : (x.w_pages v).pol = x.pol := rfl
theorem XS.whole_w_pages (x : XS) (v : Nat → Nat) : (x.w_pages v).whole = x.whole := rfl
theorem XS.time_w_pages (x : XS) (v : Nat → Nat) : (x.w_pages v).time = x.time := rfl
theorem XS.dbeat_w_pages (x : XS) (v : Nat → Nat) : (x.w_pages v).dbeat = x.dbeat := rfl
theorem XS.moved_w_pages (x : XS) (v : Nat → Nat) : (x.w_pages v).moved = x.moved := rfl
theorem XS.pages_w_pages (x : XS) (v : Nat → Nat) : (x.w_pages v).pages = v := rfl
theorem XS.mpat_w_pages (x : XS) (v : Nat → Nat) : (x.w_pages v).mpat = x.mpat := rfl
theorem XS.spat_w_pages (x : XS) (v : Nat → Nat) : (x.w_pages v).spat = x.spat := rfl
theorem XS.early_w_pages (x : XS) (v : Nat → Nat) : (x.w_pages v).early = x.early := rfl
theorem XS.delay_w_pages (x : XS) (v : Nat → Nat) : (x.w_pages v).delay = x.delay := rfl
theorem XS.way_w_pages (x : XS) (v : Nat → Nat) : (x.w_pages v).way = x.way := rfl
theorem XS.mem_w_pages (x : XS) (v : Nat → Nat) : (x.w_pages v).mem = x.mem := rfl
theorem XS.spo_w_pages (x : XS) (v : Nat → Nat) : (x.w_pages v).spo = x.spo := rfl
theorem XS.tk_w_pages (x : XS) (v : Nat → Nat) : (x.w_pages v).tk = x.tk := rfl
theorem XS.wi_w_pages (x : XS) (v : Nat → Nat) : (x.w_pages v).wi = x.wi := rfl
theorem XS.tr_w_pages (x : XS) (v : Nat → Nat) : (x.w_pages v).tr = x.tr := rfl
theorem XS.row_w_pages (x : XS) (v : Nat → Nat) : (x.w_pages v).row = x.row := rfl
theorem XS.uw_w_pages (x : XS) (v : Nat → Nat) : (x.w_pages v).uw = x.uw := rfl
theorem XS.ur_w_pages (x : XS) (v : Nat → Nat) : (x.w_pages v).ur = x.ur := rfl
theorem XS.la_w_pages (x : XS) (v : Nat → Nat) : (x.w_pages v).la = x.la := rfl
theorem XS.lr_w_pages (x : XS) (v : Nat → Nat) : (x.w_pages v).lr = x.lr := rfl
theorem XS.lb_w_pages (x : XS) (v : Nat → Nat) : (x.w_pages v).lb = x.lb := rfl
theorem XS.lg_w_pages (x : XS) (v : Nat → Nat) : (x.w_pages v).lg = x.lg := rfl
theorem XS.inb_w_pages (x : XS) (v : Nat → Nat) : (x.w_pages v).inb = x.inb := rfl
theorem XS.sw_w_pages (x : XS) (v : Nat → Nat) : (x.w_pages v).sw = x.sw := rfl
theorem XS.sr_w_pages (x : XS) (v : Nat → Nat) : (x.w_pages v).sr = x.sr := rfl
theorem XS.rnum_w_pages (x : XS) (v : Nat → Nat) : (x.w_pages v).rnum = x.rnum := rfl
theorem XS.lat_w_pages (x : XS) (v : Nat → Nat) : (x.w_pages v).lat = x.lat := rfl
theorem XS.chb_w_pages (x : XS) (v : Nat → Nat) : (x.w_pages v).chb = x.chb := rfl
theorem XS.chr_w_pages (x : XS) (v : Nat → Nat) : (x.w_pages v).chr = x.chr := rfl
theorem XS.rgt_w_pages (x : XS) (v : Nat → Nat) : (x.w_pages v).rgt = x.rgt := rfl
theorem XS.mon_w_pages (x : XS) (v : Nat → Nat) : (x.w_pages v).mon = x.mon := rfl
theorem XS.err_w_pages (x : XS) (v : Nat → Nat) : (x.w_pages v).err = x.err := rfl
theorem XS.nm_w_mpat (x : XS) (v : Nat → Nat → Nat) : (x.w_mpat v).nm = x.nm := rfl
theorem XS.ns_w_mpat (x : XS) (v : Nat → Nat → Nat) : (x.w_mpat v).ns = x.ns := rfl
theorem XS.lim_w_mpat (x : XS) (v : Nat → Nat → Nat) : (x.w_mpat v).lim = x.lim := rfl
theorem XS.pol_w_mpat (x : XS) (v : Nat → Nat → Nat) : (x.w_mpat v).pol = x.pol := rfl
theorem XS.whole_w_mpat (x : XS) (v : Nat → Nat → Nat) : (x.w_mpat v).whole = x.whole := rfl
theorem XS.time_w_mpat (x : XS) (v : Nat → Nat → Nat) : (x.w_mpat v).time = x.time := rfl
theorem XS.dbeat_w_mpat (x : XS) (v : Nat → Nat → Nat) : (x.w_mpat v).dbeat = x.dbeat := rfl
theorem XS.moved_w_mpat (x : XS) (v : Nat → Nat → Nat) : (x.w_mpat v).moved = x.moved := rfl
theorem XS.pages_w_mpat (x : XS) (v : Nat → Nat → Nat) : (x.w_mpat v).pages = x.pages := rfl
theorem XS.mpat_w_mpat (x : XS) (v : Nat → Nat → Nat) : (x.w_mpat v).mpat = v := rfl
theorem XS.spat_w_mpat (x : XS) (v : Nat → Nat → Nat) : (x.w_mpat v).spat = x.spat := rfl
theorem XS.early_w_mpat (x : XS) (v : Nat → Nat → Nat) : (x.w_mpat v).early = x.early := rfl
theorem XS.delay_w_mpat (x : XS) (v : Nat → Nat → Nat) : (x.w_mpat v).delay = x.delay := rfl
theorem XS.way_w_mpat (x : XS) (v : Nat → Nat → Nat) : (x.w_mpat v).way = x.way := rfl
theorem XS.mem_w_mpat (x : XS) (v : Nat → Nat → Nat) : (x.w_mpat v).mem = x.mem := rfl
theorem XS.spo_w_mpat (x : XS) (v : Nat → Nat → Nat) : (x.w_mpat v).spo = x.spo := rfl
theorem XS.tk_w_mpat (x : XS) (v : Nat → Nat → Nat) : (x.w_mpat v).tk = x.tk := rfl
theorem XS.wi_w_mpat (x : XS) (v : Nat → Nat → Nat) : (x.w_mpat v).wi = x.wi := rfl
theorem XS.tr_w_mpat (x : XS) (v : Nat → Nat → Nat) : (x.w_mpat v).tr = x.tr := rfl
theorem XS.row_w_mpat (x : XS) (v : Nat → Nat → Nat) : (x.w_mpat v).row = x.row := rfl
theorem XS.uw_w_mpat (x : XS) (v : Nat → Nat → Nat) : (x.w_mpat v).uw = x.uw := rfl
theorem XS.ur_w_mpat (x : XS) (v : Nat → Nat → Nat) : (x.w_mpat v).ur = x.ur := rfl
theorem XS.la_w_mpat (x : XS) (v : Nat → Nat → Nat) : (x.w_mpat v).la = x.la := rfl
theorem XS.lr_w_mpat (x : XS) (v : Nat → Nat → Nat) : (x.w_mpat v).lr = x.lr := rfl
theorem XS.lb_w_mpat (x : XS) (v : Nat → Nat → Nat) : (x.w_mpat v).lb = x.lb := rfl
theorem XS.lg_w_mpat (x : XS) (v : Nat → Nat → Nat) : (x.w_mpat v).lg = x.lg := rfl
theorem XS.inb_w_mpat (x : XS) (v : Nat → Nat → Nat) : (x.w_mpat v).inb = x.inb := rfl
theorem XS.sw_w_mpat (x : XS) (v : Nat → Nat → Nat) : (x.w_mpat v).sw = x.sw := rfl
theorem XS.sr_w_mpat (x : XS) (v : Nat → Nat → Nat) : (x.w_mpat v).sr = x.sr := rfl
theorem XS.rnum_w_mpat (x : XS) (v : Nat → Nat → Nat) : (x.w_mpat v).rnum = x.rnum := rfl
theorem XS.lat_w_mpat (x : XS) (v : Nat → Nat → Nat) : (x.w_mpat v).lat = x.lat := rfl
theorem XS.chb_w_mpat (x : XS) (v : Nat → Nat → Nat) : (x.w_mpat v).chb = x.chb := rfl
theorem XS.chr_w_mpat (x : XS) (v : Nat → Nat → Nat) : (x.w_mpat v).chr = x.chr := rfl
theorem XS.rgt_w_mpat (x : XS) (v : Nat → Nat → Nat) : (x.w_mpat v).rgt = x.rgt := rfl
theorem XS.mon_w_mpat (x : XS) (v : Nat → Nat → Nat) : (x.w_mpat v).mon = x.mon := rfl
theorem XS.err_w_mpat (x : XS) (v : Nat → Nat → Nat) : (x.w_mpat v).err = x.err := rfl
theorem XS.nm_w_spat (x : XS) (v : Nat → Nat → Nat) : (x.w_spat v).nm = x.nm := rfl
theorem XS.ns_w_spat (x : XS) (v : Nat → Nat → Nat) : (x.w_spat v).ns = x.ns := rfl
theorem XS.lim_w_spat (x : XS) (v : Nat → Nat → Nat) : (x.w_spat v).lim = x.lim := rfl
theorem XS.pol_w_spat (x : XS) (v : Nat → Nat → Nat) : (x.w_spat v).pol = x.pol := rfl
theorem XS.whole_w_spat (x : XS) (v : Nat → Nat → Nat) : (x.w_spat v).whole = x.whole := rfl
theorem XS.time_w_spat (x : XS) (v : Nat → Nat → Nat) : (x.w_spat v).time = x.time := rfl
theorem XS.dbeat_w_spat (x : XS) (v : Nat → Nat → Nat) : (x.w_spat v).dbeat = x.dbeat := rfl
theorem XS.moved_w_spat (x : XS) (v : Nat → Nat → Nat) : (x.w_spat v).moved = x.moved := rfl
theorem XS.pages_w_spat (x : XS) (v : Nat → Nat → Nat) : (x.w_spat v).pages = x.pages := rfl
theorem XS.mpat_w_spat (x : XS) (v : Nat → Nat → Nat) : (x.w_spat v).mpat = x.mpat := rfl
theorem XS.spat_w_spat (x : XS) (v : Nat → Nat → Nat) : (x.w_spat v).spat = v := rfl
theorem XS.early_w_spat (x : XS) (v : Nat → Nat → Nat) : (x.w_spat v).early = x.early := rfl
theorem XS.delay_w_spat (x : XS) (v : Nat → Nat → Nat) : (x.w_spat v).delay = x.delay := rfl
theorem XS.way_w_spat (x : XS) (v : Nat → Nat → Nat) : (x.w_spat v).way = x.way := rfl
theorem XS.mem_w_spat (x : XS) (v : Nat → Nat → Nat) : (x.w_spat v).mem = x.mem := rfl
theorem XS.spo_w_spat (x : XS) (v : Nat → Nat → Nat) : (x.w_spat v).spo = x.spo := rfl
theorem XS.tk_w_spat (x : XS) (v : Nat → Nat → Nat) : (x.w_spat v).tk = x.tk := rfl
theorem XS.wi_w_spat (x : XS) (v : Nat → Nat → Nat) : (x.w_spat v).wi = x.wi := rfl
theorem XS.tr_w_spat (x : XS) (v : Nat → Nat → Nat) : (x.w_spat v).tr = x.tr := rfl
theorem XS.row_w_spat (x : XS) (v : Nat → Nat → Nat) : (x.w_spat v).row = x.row := rfl
theorem XS.uw_w_spat (x : XS) (v : Nat → Nat → Nat) : (x.w_spat v).uw = x.uw := rfl
theorem XS.ur_w_spat (x : XS) (v : Nat → Nat → Nat) : (x.w_spat v).ur = x.ur := rfl
theorem XS.la_w_spat (x : XS) (v : Nat → Nat → Nat) : (x.w_spat v).la = x.la := rfl
theorem XS.lr_w_spat (x : XS) (v : Nat → Nat → Nat) : (x.w_spat v).lr = x.lr := rfl
theorem XS.lb_w_spat (x : XS) (v : Nat → Nat → Nat) : (x.w_spat v).lb = x.lb := rfl
theorem XS.lg_w_spat (x : XS) (v : Nat → Nat → Nat) : (x.w_spat v).lg = x.lg := rfl
theorem XS.inb_w_spat (x : XS) (v : Nat → Nat → Nat) : (x.w_spat v).inb = x.inb := rfl
theorem XS.sw_w_spat (x : XS) (v : Nat → Nat → Nat) : (x.w_spat v).sw = x.sw := rfl
theorem XS.sr_w_spat (x : XS) (v : Nat → Nat → Nat) : (x.w_spat v).sr = x.sr := rfl
theorem XS.rnum_w_spat (x : XS) (v : Nat → Nat → Nat) : (x.w_spat v).rnum = x.rnum := rfl
theorem XS.lat_w_spat (x : XS) (v : Nat → Nat → Nat) : (x.w_spat v).lat = x.lat := rfl
theorem XS.chb_w_spat (x : XS) (v : Nat → Nat → Nat) : (x.w_spat v).chb = x.chb := rfl
theorem XS.chr_w_spat (x : XS) (v : Nat → Nat → Nat) : (x.w_spat v).chr = x.chr := rfl
theorem XS.rgt_w_spat (x : XS) (v : Nat → Nat → Nat) : (x.w_spat v).rgt = x.rgt := rfl
theorem XS.mon_w_spat (x : XS) (v : Nat → Nat → Nat) : (x.w_spat v).mon = x.mon := rfl
theorem XS.err_w_spat (x : XS) (v : Nat → Nat → Nat) : (x.w_spat v).err = x.err := rfl
theorem XS.nm_w_early (x : XS) (v : Nat → Bool) : (x.w_early v).nm = x.nm := rfl
theorem XS.ns_w_early (x : XS) (v : Nat → Bool) : (x.w_early v).ns = x.ns := rfl
theorem XS.lim_w_early (x : XS) (v : Nat → Bool) : (x.w_early v).lim = x.lim := rfl
theorem XS.pol_w_early (x : XS) (v : Nat → Bool) : (x.w_early v).pol = x.pol := rfl
theorem XS.whole_w_early (x : XS) (v : Nat → Bool) : (x.w_early v).whole = x.whole := rfl
theorem XS.time_w_early (x : XS) (v : Nat → Bool) : (x.w_early v).time = x.time := rfl
theorem XS.dbeat_w_early (x : XS) (v : Nat → Bool) : (x.w_early v).dbeat = x.dbeat := rfl
theorem XS.moved_w_early (x : XS) (v : Nat → Bool) : (x.w_early v).moved = x.moved := rfl
theorem XS.pages_w_early (x : XS) (v : Nat → Bool) : (x.w_early v).pages = x.pages := rfl
theorem XS.mpat_w_early (x : XS) (v : Nat → Bool) : (x.w_early v).mpat = x.mpat := rfl
theorem XS.spat_w_early (x : XS) (v : Nat → Bool) : (x.w_early v).spat = x.spat := rfl
theorem XS.early_w_early (x : XS) (v : Nat → Bool) : (x.w_early v).early = v := rfl
theorem XS.delay_w_early (x : XS) (v : Nat → Bool) : (x.w_early v).delay = x.delay := rfl
theorem XS.way_w_early (x : XS) (v : Nat → Bool) : (x.w_early v).way = x.way := rfl
theorem XS.mem_w_early (x : XS) (v : Nat → Bool) : (x.w_early v).mem = x.mem := rfl
theorem XS.spo_w_early (x : XS) (v : Nat → Bool) : (x.w_early v).spo = x.spo := rfl
theorem XS.tk_w_early (x : XS) (v : Nat → Bool) : (x.w_early v).tk = x.tk := rfl
theorem XS.wi_w_early (x : XS) (v : Nat → Bool) : (x.w_early v).wi = x.wi := rfl
theorem XS.tr_w_early (x : XS) (v : Nat → Bool) : (x.w_early v).tr = x.tr := rfl
theorem XS.row_w_early (x : XS) (v : Nat → Bool) : (x.w_early v).row = x.row := rfl
theorem XS.uw_w_early (x : XS) (v : Nat → Bool) : (x.w_early v).uw = x.uw := rfl
theorem XS.ur_w_early (x : XS) (v : Nat → Bool) : (x.w_early v).ur = x.ur := rfl
theorem XS.la_w_early (x : XS) (v : Nat → Bool) : (x.w_early v).la = x.la := rfl
theorem XS.lr_w_early (x : XS) (v : Nat → Bool) : (x.w_early v).lr = x.lr := rfl
theorem XS.lb_w_early (x : XS) (v : Nat → Bool) : (x.w_early v).lb = x.lb := rfl
theorem XS.lg_w_early (x : XS) (v : Nat → Bool) : (x.w_early v).lg = x.lg := rfl
theorem XS.inb_w_early (x : XS) (v : Nat → Bool) : (x.w_early v).inb = x.inb := rfl
theorem XS.sw_w_early (x : XS) (v : Nat → Bool) : (x.w_early v).sw = x.sw := rfl
theorem XS.sr_w_early (x : XS) (v : Nat → Bool) : (x.w_early v).sr = x.sr := rfl
theorem XS.rnum_w_early (x : XS) (v : Nat → Bool) : (x.w_early v).rnum = x.rnum := rfl
theorem XS.lat_w_early (x : XS) (v : Nat → Bool) : (x.w_early v).lat = x.lat := rfl
theorem XS.chb_w_early (x : XS) (v : Nat → Bool) : (x.w_early v).chb = x.chb := rfl
theorem XS.chr_w_early (x : XS) (v : Nat → Bool) : (x.w_early v).chr = x.chr := rfl
theorem XS.rgt_w_early (x : XS) (v : Nat → Bool) : (x.w_early v).rgt = x.rgt := rfl
theorem XS.mon_w_early (x : XS) (v : Nat → Bool) : (x.w_early v).mon = x.mon := rfl
theorem XS.err_w_early (x : XS) (v : Nat → Bool) : (x.w_early v).err = x.err := rfl
theorem XS.nm_w_delay (x : XS) (v : Nat → Nat) : (x.w_delay v).nm = x.nm := rfl
theorem XS.ns_w_delay (x : XS) (v : Nat → Nat) : (x.w_delay v).ns = x.ns := rfl
theorem XS.lim_w_delay (x : XS) (v : Nat → Nat) : (x.w_delay v).lim = x.lim := rfl
theorem XS.pol_w_delay (x : XS) (v : Nat → Nat) : (x.w_delay v).pol = x.pol := rfl
theorem XS.whole_w_delay (x : XS) (v : Nat → Nat) : (x.w_delay v).whole = x.whole := rfl
theorem XS.time_w_delay (x : XS) (v : Nat → Nat) : (x.w_delay v).time = x.time := rfl
theorem XS.dbeat_w_delay (x : XS) (v : Nat → Nat) : (x.w_delay v).dbeat = x.dbeat := rfl
theorem XS.moved_w_delay (x : XS) (v : Nat → Nat) : (x.w_delay v).moved = x.moved := rfl
theorem XS.pages_w_delay (x : XS) (v : Nat → Nat) : (x.w_delay v).pages = x.pages := rfl
theorem XS.mpat_w_delay (x : XS) (v : Nat → Nat) : (x.w_delay v).mpat = x.mpat := rfl
theorem XS.spat_w_delay (x : XS) (v : Nat → Nat) : (x.w_delay v).spat = x.spat := rfl
theorem XS.early_w_delay (x : XS) (v : Nat → Nat) : (x.w_delay v).early = x.early := rfl
theorem XS.delay_w_delay (x : XS) (v : Nat → Nat) : (x.w_delay v).delay = v := rfl
theorem XS.way_w_delay (x : XS) (v : Nat → Nat) : (x.w_delay v).way = x.way := rfl
theorem XS.mem_w_delay (x : XS) (v : Nat → Nat) : (x.w_delay v).mem = x.mem := rfl
theorem XS.spo_w_delay (x : XS) (v : Nat → Nat) : (x.w_delay v).spo = x.spo := rfl
theorem XS.tk_w_delay (x : XS) (v : Nat → Nat) : (x.w_delay v).tk = x.tk := rfl
theorem XS.wi_w_delay (x : XS) (v : Nat → Nat) : (x.w_delay v).wi = x.wi := rfl
theorem XS.tr_w_delay (x : XS) (v : Nat → Nat) : (x.w_delay v).tr = x.tr := rfl
theorem XS.row_w_delay (x : XS) (v : Nat → Nat) : (x.w_delay v).row = x.row := rfl
theorem XS.uw_w_delay (x : XS) (v : Nat → Nat) : (x.w_delay v).uw = x.uw := rfl
theorem XS.ur_w_delay (x : XS) (v : Nat → Nat) : (x.w_delay v).ur = x.ur := rfl
theorem XS.la_w_delay (x : XS) (v : Nat → Nat) : (x.w_delay v).la = x.la := rfl
theorem XS.lr_w_delay (x : XS) (v : Nat → Nat) : (x.w_delay v).lr = x.lr := rfl
theorem XS.lb_w_delay (x : XS) (v : Nat → Nat) : (x.w_delay v).lb = x.lb := rfl
theorem XS.lg_w_delay (x : XS) (v : Nat → Nat) : (x.w_delay v).lg = x.lg := rfl
theorem XS.inb_w_delay (x : XS) (v : Nat → Nat) : (x.w_delay v).inb = x.inb := rfl
theorem XS.sw_w_delay (x : XS) (v : Nat → Nat) : (x.w_delay v).sw = x.sw := rfl
theorem XS.sr_w_delay (x : XS) (v : Nat → Nat) : (x.w_delay v).sr = x.sr := rfl
theorem XS.rnum_w_delay (x : XS) (v : Nat → Nat) : (x.w_delay v).rnum = x.rnum := rfl
theorem XS.lat_w_delay (x : XS) (v : Nat → Nat) : (x.w_delay v).lat = x.lat := rfl
theorem XS.chb_w_delay (x : XS) (v : Nat → Nat) : (x.w_delay v).chb = x.chb := rfl
theorem XS.chr_w_delay (x : XS) (v : Nat → Nat) : (x.w_delay v).chr = x.chr := rfl
theorem XS.rgt_w_delay (x : XS) (v : Nat → Nat) : (x.w_delay v).rgt = x.rgt := rfl
theorem XS.mon_w_delay (x : XS) (v : Nat → Nat) : (x.w_delay v).mon = x.mon := rfl
theorem XS.err_w_delay (x : XS) (v : Nat → Nat) : (x.w_delay v).err = x.err := rfl
theorem XS.nm_w_way (x : XS) (v : Nat → Nat) : (x.w_way v).nm = x.nm := rfl
theorem XS.ns_w_way (x : XS) (v : Nat → Nat) : (x.w_way v).ns = x.ns := rfl
theorem XS.lim_w_way (x : XS) (v : Nat → Nat) : (x.w_way v).lim = x.lim := rfl
theorem XS.pol_w_way (x : XS) (v : Nat → Nat) : (x.w_way v).pol = x.pol := rfl
theorem XS.whole_w_way (x : XS) (v : Nat → Nat) : (x.w_way v).whole = x.whole := rfl
theorem XS.time_w_way (x : XS) (v : Nat → Nat) : (x.w_way v).time = x.time := rfl
theorem XS.dbeat_w_way (x : XS) (v : Nat → Nat) : (x.w_way v).dbeat = x.dbeat := rfl
theorem XS.moved_w_way (x : XS) (v : Nat → Nat) : (x.w_way v).moved = x.moved := rfl
theorem XS.pages_w_way (x : XS) (v : Nat → Nat) : (x.w_way v).pages = x.pages := rfl
theorem XS.mpat_w_way (x : XS) (v : Nat → Nat) : (x.w_way v).mpat = x.mpat := rfl
theorem XS.spat_w_way (x : XS) (v : Nat → Nat) : (x.w_way v).spat = x.spat := rfl
theorem XS.early_w_way (x : XS) (v : Nat → Nat) : (x.w_way v).early = x.early := rfl
theorem XS.delay_w_way (x : XS) (v : Nat → Nat) : (x.w_way v).delay = x.delay := rfl
theorem XS.way_w_way (x : XS) (v : Nat → Nat) : (x.w_way v).way = v := rfl
theorem XS.mem_w_way (x : XS) (v : Nat → Nat) : (x.w_way v).mem = x.mem := rfl
theorem XS.spo_w_way (x : XS) (v : Nat → Nat) : (x.w_way v).spo = x.spo := rfl
theorem XS.tk_w_way (x : XS) (v : Nat → Nat) : (x.w_way v).tk = x.tk := rfl
theorem XS.wi_w_way (x : XS) (v : Nat → Nat) : (x.w_way v).wi = x.wi := rfl
theorem XS.tr_w_way (x : XS) (v : Nat → Nat) : (x.w_way v).tr = x.tr := rfl
theorem XS.row_w_way (x : XS) (v : Nat → Nat) : (x.w_way v).row = x.row := rfl
theorem XS.uw_w_way (x : XS) (v : Nat → Nat) : (x.w_way v).uw = x.uw := rfl
theorem XS.ur_w_way (x : XS) (v : Nat → Nat) : (x.w_way v).ur = x.ur := rfl
theorem XS.la_w_way (x : XS) (v : Nat → Nat) : (x.w_way v).la = x.la := rfl
theorem XS.lr_w_way (x : XS) (v : Nat → Nat) : (x.w_way v).lr = x.lr := rfl
theorem XS.lb_w_way (x : XS) (v : Nat → Nat) : (x.w_way v).lb = x.lb := rfl
theorem XS.lg_w_way (x : XS) (v : Nat → Nat) : (x.w_way v).lg = x.lg := rfl
theorem XS.inb_w_way (x : XS) (v : Nat → Nat) : (x.w_way v).inb = x.inb := rfl
theorem XS.sw_w_way (x : XS) (v : Nat → Nat) : (x.w_way v).sw = x.sw := rfl
theorem XS.sr_w_way (x : XS) (v : Nat → Nat) : (x.w_way v).sr = x.sr := rfl
theorem XS.rnum_w_way (x : XS) (v : Nat → Nat) : (x.w_way v).rnum = x.rnum := rfl
theorem XS.lat_w_way (x : XS) (v : Nat → Nat) : (x.w_way v).lat = x.lat := rfl
theorem XS.chb_w_way (x : XS) (v : Nat → Nat) : (x.w_way v).chb = x.chb := rfl
theorem XS.chr_w_way (x : XS) (v : Nat → Nat) : (x.w_way v).chr = x.chr := rfl
theorem XS.rgt_w_way (x : XS) (v : Nat → Nat) : (x.w_way v).rgt = x.rgt := rfl
theorem XS.mon_w_way (x : XS) (v : Nat → Nat) : (x.w_way v).mon = x.mon := rfl
theorem XS.err_w_way (x : XS) (v : Nat → Nat) : (x.w_way v).err = x.err := rfl
theorem XS.nm_w_mem (x : XS) (v : Nat → Nat) : (x.w_mem v).nm = x.nm := rfl
theorem XS.ns_w_mem (x : XS) (v : Nat → Nat) : (x.w_mem v).ns = x.ns := rfl
theorem XS.lim_w_mem (x : XS) (v : Nat → Nat) : (x.w_mem v).lim = x.lim := rfl
theorem XS.pol_w_mem (x : XS) (v : Nat → Nat) : (x.w_mem v).pol = x.pol := rfl
theorem XS.whole_w_mem (x : XS) (v : Nat → Nat) : (x.w_mem v).whole = x.whole := rfl
theorem XS.time_w_mem (x : XS) (v : Nat → Nat) : (x.w_mem v).time = x.time := rfl
theorem XS.dbeat_w_mem (x : XS) (v : Nat → Nat) : (x.w_mem v).dbeat = x.dbeat := rfl
theorem XS.moved_w_mem (x : XS) (v : Nat → Nat) : (x.w_mem v).moved = x.moved := rfl
theorem XS.pages_w_mem (x : XS) (v : Nat → Nat) : (x.w_mem v).pages = x.pages := rfl
theorem XS.mpat_w_mem (x : XS) (v : Nat → Nat) : (x.w_mem v).mpat = x.mpat := rfl
theorem XS.spat_w_mem (x : XS) (v : Nat → Nat) : (x.w_mem v).spat = x.spat := rfl
theorem XS.early_w_mem (x : XS) (v : Nat → Nat) : (x.w_mem v).early = x.early := rfl
theorem XS.delay_w_mem (x : XS) (v : Nat → Nat) : (x.w_mem v).delay = x.delay := rfl
theorem XS.way_w_mem (x : XS) (v : Nat → Nat) : (x.w_mem v).way = x.way := rfl
theorem XS.mem_w_mem (x : XS) (v : Nat → Nat) : (x.w_mem v).mem = v := rfl
theorem XS.spo_w_mem (x : XS) (v : Nat → Nat) : (x.w_mem v).spo = x.spo := rfl
theorem XS.tk_w_mem (x : XS) (v : Nat → Nat) : (x.w_mem v).tk = x.tk := rfl
theorem XS.wi_w_mem (x : XS) (v : Nat → Nat) : (x.w_mem v).wi = x.wi := rfl
theorem XS.tr_w_mem (x : XS) (v : Nat → Nat) : (x.w_mem v).tr = x.tr := rfl
theorem XS.row_w_mem (x : XS) (v : Nat → Nat) : (x.w_mem v).row = x.row := rfl
theorem XS.uw_w_mem (x : XS) (v : Nat → Nat) : (x.w_mem v).uw = x.uw := rfl
theorem XS.ur_w_mem (x : XS) (v : Nat → Nat) : (x.w_mem v).ur = x.ur := rfl
theorem XS.la_w_mem (x : XS) (v : Nat → Nat) : (x.w_mem v).la = x.la := rfl
theorem XS.lr_w_mem (x : XS) (v : Nat → Nat) : (x.w_mem v).lr = x.lr := rfl
theorem XS.lb_w_mem (x : XS) (v : Nat → Nat) : (x.w_mem v).lb = x.lb := rfl
theorem XS.lg_w_mem (x : XS) (v : Nat → Nat) : (x.w_mem v).lg = x.lg := rfl
theorem XS.inb_w_mem (x : XS) (v : Nat → Nat) : (x.w_mem v).inb = x.inb := rfl
theorem XS.sw_w_mem (x : XS) (v : Nat → Nat) : (x.w_mem v).sw = x.sw := rfl
theorem XS.sr_w_mem (x : XS) (v : Nat → Nat) : (x.w_mem v).sr = x.sr := rfl
theorem XS.rnum_w_mem (x : XS) (v : Nat → Nat) : (x.w_mem v).rnum = x.rnum := rfl
theorem XS.lat_w_mem (x : XS) (v : Nat → Nat) : (x.w_mem v).lat = x.lat := rfl
theorem XS.chb_w_mem (x : XS) (v : Nat → Nat) : (x.w_mem v).chb = x.chb := rfl
theorem XS.chr_w_mem (x : XS) (v : Nat → Nat) : (x.w_mem v).chr = x.chr := rfl
theorem XS.rgt_w_mem (x : XS) (v : Nat → Nat) : (x.w_mem v).rgt = x.rgt := rfl
theorem XS.mon_w_mem (x : XS) (v : Nat → Nat) : (x.w_mem v).mon = x.mon := rfl
theorem XS.err_w_mem (x : XS) (v : Nat → Nat) : (x.w_mem v).err = x.err := rfl
theorem XS.nm_w_spo (x : XS) (v : Nat → Bool) : (x.w_spo v).nm = x.nm := rfl
theorem XS.ns_w_spo (x : XS) (v : Nat → Bool) : (x.w_spo v).ns = x.ns := rfl
theorem XS.lim_w_spo (x : XS) (v : Nat → Bool) : (x.w_spo v).lim = x.lim := rfl
theorem XS.pol_w_spo (x : XS) (v : Nat → Bool) : (x.w_spo v).pol = x.pol := rfl
theorem XS.whole_w_spo (x : XS) (v : Nat → Bool) : (x.w_spo v).whole = x.whole := rfl
theorem XS.time_w_spo (x : XS) (v : Nat → Bool) : (x.w_spo v).time = x.time := rfl
theorem XS.dbeat_w_spo (x : XS) (v : Nat → Bool) : (x.w_spo v).dbeat = x.dbeat := rfl
theorem XS.moved_w_spo (x : XS) (v : Nat → Bool) : (x.w_spo v).moved = x.moved := rfl
theorem XS.pages_w_spo (x : XS) (v : Nat → Bool) : (x.w_spo v).pages = x.pages := rfl
theorem XS.mpat_w_spo (x : XS) (v : Nat → Bool) : (x.w_spo v).mpat = x.mpat := rfl
theorem XS.spat_w_spo (x : XS) (v : Nat → Bool) : (x.w_spo v).spat = x.spat := rfl
theorem XS.early_w_spo (x : XS) (v : Nat → Bool) : (x.w_spo v).early = x.early := rfl
theorem XS.delay_w_spo (x : XS) (v : Nat → Bool) : (x.w_spo v).delay = x.delay := rfl
theorem XS.way_w_spo (x : XS) (v : Nat → Bool) : (x.w_spo v).way = x.way := rfl
theorem XS.mem_w_spo (x : XS) (v : Nat → Bool) : (x.w_spo v).mem = x.mem := rfl
theorem XS.spo_w_spo (x : XS) (v : Nat → Bool) : (x.w_spo v).spo = v := rfl
theorem XS.tk_w_spo (x : XS) (v : Nat → Bool) : (x.w_spo v).tk = x.tk := rfl
theorem XS.wi_w_spo (x : XS) (v : Nat → Bool) : (x.w_spo v).wi = x.wi := rfl
theorem XS.tr_w_spo (x : XS) (v : Nat → Bool) : (x.w_spo v).tr = x.tr := rfl
theorem XS.row_w_spo (x : XS) (v : Nat → Bool) : (x.w_spo v).row = x.row := rfl
theorem XS.uw_w_spo (x : XS) (v : Nat → Bool) : (x.w_spo v).uw = x.uw := rfl
theorem XS.ur_w_spo (x : XS) (v : Nat → Bool) : (x.w_spo v).ur = x.ur := rfl
theorem XS.la_w_spo (x : XS) (v : Nat → Bool) : (x.w_spo v).la = x.la := rfl
theorem XS.lr_w_spo (x : XS) (v : Nat → Bool) : (x.w_spo v).lr = x.lr := rfl
theorem XS.lb_w_spo (x : XS) (v : Nat → Bool) : (x.w_spo v).lb = x.lb := rfl
theorem XS.lg_w_spo (x : XS) (v : Nat → Bool) : (x.w_spo v).lg = x.lg := rfl
theorem XS.inb_w_spo (x : XS) (v : Nat → Bool) : (x.w_spo v).inb = x.inb := rfl
theorem XS.sw_w_spo (x : XS) (v : Nat → Bool) : (x.w_spo v).sw = x.sw := rfl
theorem XS.sr_w_spo (x : XS) (v : Nat → Bool) : (x.w_spo v).sr = x.sr := rfl
theorem XS.rnum_w_spo (x : XS) (v : Nat → Bool) : (x.w_spo v).rnum = x.rnum := rfl
theorem XS.lat_w_spo (x : XS) (v : Nat → Bool) : (x.w_spo v).lat = x.lat := rfl
theorem XS.chb_w_spo (x : XS) (v : Nat → Bool) : (x.w_spo v).chb = x.chb := rfl
theorem XS.chr_w_spo (x : XS) (v : Nat → Bool) : (x.w_spo v).chr = x.chr := rfl
theorem XS.rgt_w_spo (x : XS) (v : Nat → Bool) : (x.w_spo v).rgt = x.rgt := rfl
theorem XS.mon_w_spo (x : XS) (v : Nat → Bool) : (x.w_spo v).mon = x.mon := rfl
theorem XS.err_w_spo (x : XS) (v : Nat → Bool) : (x.w_spo v).err = x.err := rfl
theorem XS.nm_w_tk (x : XS) (v : List TK) : (x.w_tk v).nm = x.nm := rfl
theorem XS.ns_w_tk (x : XS) (v : List TK) : (x.w_tk v).ns = x.ns := rfl
theorem XS.lim_w_tk (x : XS) (v : List TK) : (x.w_tk v).lim = x.lim := rfl
theorem XS.pol_w_tk (x : XS) (v : List TK) : (x.w_tk v).pol = x.pol := rfl
theorem XS.whole_w_tk (x : XS) (v : List TK) : (x.w_tk v).whole = x.whole := rfl
theorem XS.time_w_tk (x : XS) (v : List TK) : (x.w_tk v).time = x.time := rfl
theorem XS.dbeat_w_tk (x : XS) (v : List TK) : (x.w_tk v).dbeat = x.dbeat := rfl
theorem XS.moved_w_tk (x : XS) (v : List TK) : (x.w_tk v).moved = x.moved := rfl
theorem XS.pages_w_tk (x : XS) (v : List TK) : (x.w_tk v).pages = x.pages := rfl
theorem XS.mpat_w_tk (x : XS) (v : List TK) : (x.w_tk v).mpat = x.mpat := rfl
theorem XS.spat_w_tk (x : XS) (v : List TK) : (x.w_tk v).spat = x.spat := rfl
theorem XS.early_w_tk (x : XS) (v : List TK) : (x.w_tk v).early = x.early := rfl
theorem XS.delay_w_tk (x : XS) (v : List TK) : (x.w_tk v).delay = x.delay := rfl
theorem XS.way_w_tk (x : XS) (v : List TK) : (x.w_tk v).way = x.way := rfl
theorem XS.mem_w_tk (x : XS) (v : List TK) : (x.w_tk v).mem = x.mem := rfl
theorem XS.spo_w_tk (x : XS) (v : List TK) : (x.w_tk v).spo = x.spo := rfl
theorem XS.tk_w_tk (x : XS) (v : List TK) : (x.w_tk v).tk = v := rfl
theorem XS.wi_w_tk (x : XS) (v : List TK) : (x.w_tk v).wi = x.wi := rfl
theorem XS.tr_w_tk (x : XS) (v : List TK) : (x.w_tk v).tr = x.tr := rfl
theorem XS.row_w_tk (x : XS) (v : List TK) : (x.w_tk v).row = x.row := rfl
theorem XS.uw_w_tk (x : XS) (v : List TK) : (x.w_tk v).uw = x.uw := rfl
theorem XS.ur_w_tk (x : XS) (v : List TK) : (x.w_tk v).ur = x.ur := rfl
theorem XS.la_w_tk (x : XS) (v : List TK) : (x.w_tk v).la = x.la := rfl
theorem XS.lr_w_tk (x : XS) (v : List TK) : (x.w_tk v).lr = x.lr := rfl
theorem XS.lb_w_tk (x : XS) (v : List TK) : (x.w_tk v).lb = x.lb := rfl
theorem XS.lg_w_tk (x : XS) (v : List TK) : (x.w_tk v).lg = x.lg := rfl
theorem XS.inb_w_tk (x : XS) (v : List TK) : (x.w_tk v).inb = x.inb := rfl
theorem XS.sw_w_tk (x : XS) (v : List TK) : (x.w_tk v).sw = x.sw := rfl
theorem XS.sr_w_tk (x : XS) (v : List TK) : (x.w_tk v).sr = x.sr := rfl
theorem XS.rnum_w_tk (x : XS) (v : List TK) : (x.w_tk v).rnum = x.rnum := rfl
theorem XS.lat_w_tk (x : XS) (v : List TK) : (x.w_tk v).lat = x.lat := rfl
theorem XS.chb_w_tk (x : XS) (v : List TK) : (x.w_tk v).chb = x.chb := rfl
theorem XS.chr_w_tk (x : XS) (v : List TK) : (x.w_tk v).chr = x.chr := rfl
theorem XS.rgt_w_tk (x : XS) (v : List TK) : (x.w_tk v).rgt = x.rgt := rfl
theorem XS.mon_w_tk (x : XS) (v : List TK) : (x.w_tk v).mon = x.mon := rfl
theorem XS.err_w_tk (x : XS) (v : List TK) : (x.w_tk v).err = x.err := rfl
theorem XS.nm_w_wi (x : XS) (v : Nat → WI) : (x.w_wi v).nm = x.nm := rfl
theorem XS.ns_w_wi (x : XS) (v : Nat → WI) : (x.w_wi v).ns = x.ns := rfl
theorem XS.lim_w_wi (x : XS) (v : Nat → WI) : (x.w_wi v).lim = x.lim := rfl
theorem XS.pol_w_wi (x : XS) (v : Nat → WI) : (x.w_wi v).pol = x.pol := rfl
theorem XS.whole_w_wi (x : XS) (v : Nat → WI) : (x.w_wi v).whole = x.whole := rfl
theorem XS.time_w_wi (x : XS) (v : Nat → WI) : (x.w_wi v).time = x.time := rfl
theorem XS.dbeat_w_wi (x : XS) (v : Nat → WI) : (x.w_wi v).dbeat = x.dbeat := rfl
theorem XS.moved_w_wi (x : XS) (v : Nat → WI) : (x.w_wi v).moved = x.moved := rfl
theorem XS.pages_w_wi (x : XS) (v : Nat → WI) : (x.w_wi v).pages = x.pages := rfl
theorem XS.mpat_w_wi (x : XS) (v : Nat → WI) : (x.w_wi v).mpat = x.mpat := rfl
theorem XS.spat_w_wi (x : XS) (v : Nat → WI) : (x.w_wi v).spat = x.spat := rfl
theorem XS.early_w_wi (x : XS) (v : Nat → WI) : (x.w_wi v).early = x.early := rfl
theorem XS.delay_w_wi (x : XS) (v : Nat → WI) : (x.w_wi v).delay = x.delay := rfl
theorem XS.way_w_wi (x : XS) (v : Nat → WI) : (x.w_wi v).way = x.way := rfl
theorem XS.mem_w_wi (x : XS) (v : Nat → WI) : (x.w_wi v).mem = x.mem := rfl
theorem XS.spo_w_wi (x : XS) (v : Nat → WI) : (x.w_wi v).spo = x.spo := rfl
theorem XS.tk_w_wi (x : XS) (v : Nat → WI) : (x.w_wi v).tk = x.tk := rfl
theorem XS.wi_w_wi (x : XS) (v : Nat → WI) : (x.w_wi v).wi = v := rfl
theorem XS.tr_w_wi (x : XS) (v : Nat → WI) : (x.w_wi v).tr = x.tr := rfl
theorem XS.row_w_wi (x : XS) (v : Nat → WI) : (x.w_wi v).row = x.row := rfl
theorem XS.uw_w_wi (x : XS) (v : Nat → WI) : (x.w_wi v).uw = x.uw := rfl
theorem XS.ur_w_wi (x : XS) (v : Nat → WI) : (x.w_wi v).ur = x.ur := rfl
theorem XS.la_w_wi (x : XS) (v : Nat → WI) : (x.w_wi v).la = x.la := rfl
theorem XS.lr_w_wi (x : XS) (v : Nat → WI) : (x.w_wi v).lr = x.lr := rfl
theorem XS.lb_w_wi (x : XS) (v : Nat → WI) : (x.w_wi v).lb = x.lb := rfl
theorem XS.lg_w_wi (x : XS) (v : Nat → WI) : (x.w_wi v).lg = x.lg := rfl
theorem XS.inb_w_wi (x : XS) (v : Nat → WI) : (x.w_wi v).inb = x.inb := rfl
theorem XS.sw_w_wi (x : XS) (v : Nat → WI) : (x.w_wi v).sw = x.sw := rfl
theorem XS.sr_w_wi (x : XS) (v : Nat → WI) : (x.w_wi v).sr = x.sr := rfl
theorem XS.rnum_w_wi (x : XS) (v : Nat → WI) : (x.w_wi v).rnum = x.rnum := rfl
theorem XS.lat_w_wi (x : XS) (v : Nat → WI) : (x.w_wi v).lat = x.lat := rfl
theorem XS.chb_w_wi (x : XS) (v : Nat → WI) : (x.w_wi v).chb = x.chb := rfl
theorem XS.chr_w_wi (x : XS) (v : Nat → WI) : (x.w_wi v).chr = x.chr := rfl
theorem XS.rgt_w_wi (x : XS) (v : Nat → WI) : (x.w_wi v).rgt = x.rgt := rfl
theorem XS.mon_w_wi (x : XS) (v : Nat → WI) : (x.w_wi v).mon = x.mon := rfl
theorem XS.err_w_wi (x : XS) (v : Nat → WI) : (x.w_wi v).err = x.err := rfl
theorem XS.nm_w_tr (x : XS) (v : Nat → Nat → Int32) : (x.w_tr v).nm = x.nm := rfl
theorem XS.ns_w_tr (x : XS) (v : Nat → Nat → Int32) : (x.w_tr v).ns = x.ns := rfl
theorem XS.lim_w_tr (x : XS) (v : Nat → Nat → Int32) : (x.w_tr v).lim = x.lim := rfl
theorem XS.pol_w_tr (x : XS) (v : Nat → Nat → Int32) : (x.w_tr v).pol = x.pol := rfl
theorem XS.whole_w_tr (x : XS) (v : Nat → Nat → Int32) : (x.w_tr v).whole = x.whole := rfl
theorem XS.time_w_tr (x : XS) (v : Nat → Nat → Int32) : (x.w_tr v).time = x.time := rfl
theorem XS.dbeat_w_tr (x : XS) (v : Nat → Nat → Int32) : (x.w_tr v).dbeat = x.dbeat := rfl
theorem XS.moved_w_tr (x : XS) (v : Nat → Nat → Int32) : (x.w_tr v).moved = x.moved := rfl
theorem XS.pages_w_tr (x : XS) (v : Nat → Nat → Int32) : (x.w_tr v).pages = x.pages := rfl
theorem XS.mpat_w_tr (x : XS) (v : Nat → Nat → Int32) : (x.w_tr v).mpat = x.mpat := rfl
theorem XS.spat_w_tr (x : XS) (v : Nat → Nat → Int32) : (x.w_tr v).spat = x.spat := rfl
theorem XS.early_w_tr (x : XS) (v : Nat → Nat → Int32) : (x.w_tr v).early = x.early := rfl
theorem XS.delay_w_tr (x : XS) (v : Nat → Nat → Int32) : (x.w_tr v).delay = x.delay := rfl
theorem XS.way_w_tr (x : XS) (v : Nat → Nat → Int32) : (x.w_tr v).way = x.way := rfl
theorem XS.mem_w_tr (x : XS) (v : Nat → Nat → Int32) : (x.w_tr v).mem = x.mem := rfl
theorem XS.spo_w_tr (x : XS) (v : Nat → Nat → Int32) : (x.w_tr v).spo = x.spo := rfl
theorem XS.tk_w_tr (x : XS) (v : Nat → Nat → Int32) : (x.w_tr v).tk = x.tk := rfl
theorem XS.wi_w_tr (x : XS) (v : Nat → Nat → Int32) : (x.w_tr v).wi = x.wi := rfl
theorem XS.tr_w_tr (x : XS) (v : Nat → Nat → Int32) : (x.w_tr v).tr = v := rfl
theorem XS.row_w_tr (x : XS) (v : Nat → Nat → Int32) : (x.w_tr v).row = x.row := rfl
theorem XS.uw_w_tr (x : XS) (v : Nat → Nat → Int32) : (x.w_tr v).uw = x.uw := rfl
theorem XS.ur_w_tr (x : XS) (v : Nat → Nat → Int32) : (x.w_tr v).ur = x.ur := rfl
theorem XS.la_w_tr (x : XS) (v : Nat → Nat → Int32) : (x.w_tr v).la = x.la := rfl
theorem XS.lr_w_tr (x : XS) (v : Nat → Nat → Int32) : (x.w_tr v).lr = x.lr := rfl
theorem XS.lb_w_tr (x : XS) (v : Nat → Nat → Int32) : (x.w_tr v).lb = x.lb := rfl
theorem XS.lg_w_tr (x : XS) (v : Nat → Nat → Int32) : (x.w_tr v).lg = x.lg := rfl
theorem XS.inb_w_tr (x : XS) (v : Nat → Nat → Int32) : (x.w_tr v).inb = x.inb := rfl
theorem XS.sw_w_tr (x : XS) (v : Nat → Nat → Int32) : (x.w_tr v).sw = x.sw := rfl
theorem XS.sr_w_tr (x : XS) (v : Nat → Nat → Int32) : (x.w_tr v).sr = x.sr := rfl
theorem XS.rnum_w_tr (x : XS) (v : Nat → Nat → Int32) : (x.w_tr v).rnum = x.rnum := rfl
theorem XS.lat_w_tr (x : XS) (v : Nat → Nat → Int32) : (x.w_tr v).lat = x.lat := rfl
theorem XS.chb_w_tr (x : XS) (v : Nat → Nat → Int32) : (x.w_tr v).chb = x.chb := rfl
theorem XS.chr_w_tr (x : XS) (v : Nat → Nat → Int32) : (x.w_tr v).chr = x.chr := rfl
theorem XS.rgt_w_tr (x : XS) (v : Nat → Nat → Int32) : (x.w_tr v).rgt = x.rgt := rfl
theorem XS.mon_w_tr (x : XS) (v : Nat → Nat → Int32) : (x.w_tr v).mon = x.mon := rfl
theorem XS.err_w_tr (x : XS) (v : Nat → Nat → Int32) : (x.w_tr v).err = x.err := rfl
theorem XS.nm_w_row (x : XS) (v : Nat → List RE) : (x.w_row v).nm = x.nm := rfl
theorem XS.ns_w_row (x : XS) (v : Nat → List RE) : (x.w_row v).ns = x.ns := rfl
theorem XS.lim_w_row (x : XS) (v : Nat → List RE) : (x.w_row v).lim = x.lim := rfl
theorem XS.pol_w_row (x : XS) (v : Nat → List RE) : (x.w_row v).pol = x.pol := rfl
theorem XS.whole_w_row (x : XS) (v : Nat → List RE) : (x.w_row v).whole = x.whole := rfl
theorem XS.time_w_row (x : XS) (v : Nat → List RE) : (x.w_row v).time = x.time := rfl
theorem XS.dbeat_w_row (x : XS) (v : Nat → List RE) : (x.w_row v).dbeat = x.dbeat := rfl
theorem XS.moved_w_row (x : XS) (v : Nat → List RE) : (x.w_row v).moved = x.moved := rfl
theorem XS.pages_w_row (x : XS) (v : Nat → List RE) : (x.w_row v).pages = x.pages := rfl
theorem XS.mpat_w_row (x : XS) (v : Nat → List RE) : (x.w_row v).mpat = x.mpat := rfl
theorem XS.spat_w_row (x : XS) (v : Nat → List RE) : (x.w_row v).spat = x.spat := rfl
theorem XS.early_w_row (x : XS) (v : Nat → List RE) : (x.w_row v).early = x.early := rfl
theorem XS.delay_w_row (x : XS) (v : Nat → List RE) : (x.w_row v).delay = x.delay := rfl
theorem XS.way_w_row (x : XS) (v : Nat → List RE) : (x.w_row v).way = x.way := rfl
theorem XS.mem_w_row (x : XS) (v : Nat → List RE) : (x.w_row v).mem = x.mem := rfl
theorem XS.spo_w_row (x : XS) (v : Nat → List RE) : (x.w_row v).spo = x.spo := rfl
theorem XS.tk_w_row (x : XS) (v : Nat → List RE) : (x.w_row v).tk = x.tk := rfl
theorem XS.wi_w_row (x : XS) (v : Nat → List RE) : (x.w_row v).wi = x.wi := rfl
theorem XS.tr_w_row (x : XS) (v : Nat → List RE) : (x.w_row v).tr = x.tr := rfl
theorem XS.row_w_row (x : XS) (v : Nat → List RE) : (x.w_row v).row = v := rfl
theorem XS.uw_w_row (x : XS) (v : Nat → List RE) : (x.w_row v).uw = x.uw := rfl
theorem XS.ur_w_row (x : XS) (v : Nat → List RE) : (x.w_row v).ur = x.ur := rfl
theorem XS.la_w_row (x : XS) (v : Nat → List RE) : (x.w_row v).la = x.la := rfl
theorem XS.lr_w_row (x : XS) (v : Nat → List RE) : (x.w_row v).lr = x.lr := rfl
theorem XS.lb_w_row (x : XS) (v : Nat → List RE) : (x.w_row v).lb = x.lb := rfl
theorem XS.lg_w_row (x : XS) (v : Nat → List RE) : (x.w_row v).lg = x.lg := rfl
theorem XS.inb_w_row (x : XS) (v : Nat → List RE) : (x.w_row v).inb = x.inb := rfl
theorem XS.sw_w_row (x : XS) (v : Nat → List RE) : (x.w_row v).sw = x.sw := rfl
theorem XS.sr_w_row (x : XS) (v : Nat → List RE) : (x.w_row v).sr = x.sr := rfl
theorem XS.rnum_w_row (x : XS) (v : Nat → List RE) : (x.w_row v).rnum = x.rnum := rfl
theorem XS.lat_w_row (x : XS) (v : Nat → List RE) : (x.w_row v).lat = x.lat := rfl
theorem XS.chb_w_row (x : XS) (v : Nat → List RE) : (x.w_row v).chb = x.chb := rfl
theorem XS.chr_w_row (x : XS) (v : Nat → List RE) : (x.w_row v).chr = x.chr := rfl
theorem XS.rgt_w_row (x : XS) (v : Nat → List RE) : (x.w_row v).rgt = x.rgt := rfl
theorem XS.mon_w_row (x : XS) (v : Nat → List RE) : (x.w_row v).mon = x.mon := rfl
theorem XS.err_w_row (x : XS) (v : Nat → List RE) : (x.w_row v).err = x.err := rfl
theorem XS.nm_w_uw (x : XS) (v : List UE) : (x.w_uw v).nm = x.nm := rfl
theorem XS.ns_w_uw (x : XS) (v : List UE) : (x.w_uw v).ns = x.ns := rfl
theorem XS.lim_w_uw (x : XS) (v : List UE) : (x.w_uw v).lim = x.lim := rfl
theorem XS.pol_w_uw (x : XS) (v : List UE) : (x.w_uw v).pol = x.pol := rfl
theorem XS.whole_w_uw (x : XS) (v : List UE) : (x.w_uw v).whole = x.whole := rfl
theorem XS.time_w_uw (x : XS) (v : List UE) : (x.w_uw v).time = x.time := rfl
theorem XS.dbeat_w_uw (x : XS) (v : List UE) : (x.w_uw v).dbeat = x.dbeat := rfl
theorem XS.moved_w_uw (x : XS) (v : List UE) : (x.w_uw v).moved = x.moved := rfl
theorem XS.pages_w_uw (x : XS) (v : List UE) : (x.w_uw v).pages = x.pages := rfl
theorem XS.mpat_w_uw (x : XS) (v : List UE) : (x.w_uw v).mpat = x.mpat := rfl
theorem XS.spat_w_uw (x : XS) (v : List UE) : (x.w_uw v).spat = x.spat := rfl
theorem XS.early_w_uw (x : XS) (v : List UE) : (x.w_uw v).early = x.early := rfl
theorem XS.delay_w_uw (x : XS) (v : List UE) : (x.w_uw v).delay = x.delay := rfl
theorem XS.way_w_uw (x : XS) (v : List UE) : (x.w_uw v).way = x.way := rfl
theorem XS.mem_w_uw (x : XS) (v : List UE) : (x.w_uw v).mem = x.mem := rfl
theorem XS.spo_w_uw (x : XS) (v : List UE) : (x.w_uw v).spo = x.spo := rfl
theorem XS.tk_w_uw (x : XS) (v : List UE) : (x.w_uw v).tk = x.tk := rfl
theorem XS.wi_w_uw (x : XS) (v : List UE) : (x.w_uw v).wi = x.wi := rfl
theorem XS.tr_w_uw (x : XS) (v : List UE) : (x.w_uw v).tr = x.tr := rfl
theorem XS.row_w_uw (x : XS) (v : List UE) : (x.w_uw v).row = x.row := rfl
theorem XS.uw_w_uw (x : XS) (v : List UE) : (x.w_uw v).uw = v := rfl
theorem XS.ur_w_uw (x : XS) (v : List UE) : (x.w_uw v).ur = x.ur := rfl
theorem XS.la_w_uw (x : XS) (v : List UE) : (x.w_uw v).la = x.la := rfl
theorem XS.lr_w_uw (x : XS) (v : List UE) : (x.w_uw v).lr = x.lr := rfl
theorem XS.lb_w_uw (x : XS) (v : List UE) : (x.w_uw v).lb = x.lb := rfl
theorem XS.lg_w_uw (x : XS) (v : List UE) : (x.w_uw v).lg = x.lg := rfl
theorem XS.inb_w_uw (x : XS) (v : List UE) : (x.w_uw v).inb = x.inb := rfl
theorem XS.sw_w_uw (x : XS) (v : List UE) : (x.w_uw v).sw = x.sw := rfl
theorem XS.sr_w_uw (x : XS) (v : List UE) : (x.w_uw v).sr = x.sr := rfl
theorem XS.rnum_w_uw (x : XS) (v : List UE) : (x.w_uw v).rnum = x.rnum := rfl
theorem XS.lat_w_uw (x : XS) (v : List UE) : (x.w_uw v).lat = x.lat := rfl
theorem XS.chb_w_uw (x : XS) (v : List UE) : (x.w_uw v).chb = x.chb := rfl
theorem XS.chr_w_uw (x : XS) (v : List UE) : (x.w_uw v).chr = x.chr := rfl
theorem XS.rgt_w_uw (x : XS) (v : List UE) : (x.w_uw v).rgt = x.rgt := rfl
theorem XS.mon_w_uw (x : XS) (v : List UE) : (x.w_uw v).mon = x.mon := rfl
theorem XS.err_w_uw (x : XS) (v : List UE) : (x.w_uw v).err = x.err := rfl
theorem XS.nm_w_ur (x : XS) (v : List UE) : (x.w_ur v).nm = x.nm := rfl
theorem XS.ns_w_ur (x : XS) (v : List UE) : (x.w_ur v).ns = x.ns := rfl
theorem XS.lim_w_ur (x : XS) (v : List UE) : (x.w_ur v).lim = x.lim := rfl
theorem XS.pol_w_ur (x : XS) (v : List UE) : (x.w_ur v).pol = x.pol := rfl
theorem XS.whole_w_ur (x : XS) (v : List UE) : (x.w_ur v).whole = x.whole := rfl
theorem XS.time_w_ur (x : XS) (v : List UE) : (x.w_ur v).time = x.time := rfl
theorem XS.dbeat_w_ur (x : XS) (v : List UE) : (x.w_ur v).dbeat = x.dbeat := rfl
theorem XS.moved_w_ur (x : XS) (v : List UE) : (x.w_ur v).moved = x.moved := rfl
theorem XS.pages_w_ur (x : XS) (v : List UE) : (x.w_ur v).pages = x.pages := rfl
theorem XS.mpat_w_ur (x : XS) (v : List UE) : (x.w_ur v).mpat = x.mpat := rfl
theorem XS.spat_w_ur (x : XS) (v : List UE) : (x.w_ur v).spat = x.spat := rfl
theorem XS.early_w_ur (x : XS) (v : List UE) : (x.w_ur v).early = x.early := rfl
theorem XS.delay_w_ur (x : XS) (v : List UE) : (x.w_ur v).delay = x.delay := rfl
theorem XS.way_w_ur (x : XS) (v : List UE) : (x.w_ur v).way = x.way := rfl
theorem XS.mem_w_ur (x : XS) (v : List UE) : (x.w_ur v).mem = x.mem := rfl
theorem XS.spo_w_ur (x : XS) (v : List UE) : (x.w_ur v).spo = x.spo := rfl
theorem XS.tk_w_ur (x : XS) (v : List UE) : (x.w_ur v).tk = x.tk := rfl
theorem XS.wi_w_ur (x : XS) (v : List UE) : (x.w_ur v).wi = x.wi := rfl
theorem XS.tr_w_ur (x : XS) (v : List UE) : (x.w_ur v).tr = x.tr := rfl
theorem XS.row_w_ur (x : XS) (v : List UE) : (x.w_ur v).row = x.row := rfl
theorem XS.uw_w_ur (x : XS) (v : List UE) : (x.w_ur v).uw = x.uw := rfl
theorem XS.ur_w_ur (x : XS) (v : List UE) : (x.w_ur v).ur = v := rfl
theorem XS.la_w_ur (x : XS) (v : List UE) : (x.w_ur v).la = x.la := rfl
theorem XS.lr_w_ur (x : XS) (v : List UE) : (x.w_ur v).lr = x.lr := rfl
theorem XS.lb_w_ur (x : XS) (v : List UE) : (x.w_ur v).lb = x.lb := rfl
theorem XS.lg_w_ur (x : XS) (v : List UE) : (x.w_ur v).lg = x.lg := rfl
theorem XS.inb_w_ur (x : XS) (v : List UE) : (x.w_ur v).inb = x.inb := rfl
theorem XS.sw_w_ur (x : XS) (v : List UE) : (x.w_ur v).sw = x.sw := rfl
theorem XS.sr_w_ur (x : XS) (v : List UE) : (x.w_ur v).sr = x.sr := rfl
theorem XS.rnum_w_ur (x : XS) (v : List UE) : (x.w_ur v).rnum = x.rnum := rfl
theorem XS.lat_w_ur (x : XS) (v : List UE) : (x.w_ur v).lat = x.lat := rfl
theorem XS.chb_w_ur (x : XS) (v : List UE) : (x.w_ur v).chb = x.chb := rfl
theorem XS.chr_w_ur (x : XS) (v : List UE) : (x.w_ur v).chr = x.chr := rfl
theorem XS.rgt_w_ur (x : XS) (v : List UE) : (x.w_ur v).rgt = x.rgt := rfl
theorem XS.mon_w_ur (x : XS) (v : List UE) : (x.w_ur v).mon = x.mon := rfl
theorem XS.err_w_ur (x : XS) (v : List UE) : (x.w_ur v).err = x.err := rfl
theorem XS.nm_w_la (x : XS) (v : Nat → Option Nat) : (x.w_la v).nm = x.nm := rfl
theorem XS.ns_w_la (x : XS) (v : Nat → Option Nat) : (x.w_la v).ns = x.ns := rfl
theorem XS.lim_w_la (x : XS) (v : Nat → Option Nat) : (x.w_la v).lim = x.lim := rfl
theorem XS.pol_w_la (x : XS) (v : Nat → Option Nat) : (x.w_la v).pol = x.pol := rfl
theorem XS.whole_w_la (x : XS) (v : Nat → Option Nat) : (x.w_la v).whole = x.whole := rfl
theorem XS.time_w_la (x : XS) (v : Nat → Option Nat) : (x.w_la v).time = x.time := rfl
theorem XS.dbeat_w_la (x : XS) (v : Nat → Option Nat) : (x.w_la v).dbeat = x.dbeat := rfl
theorem XS.moved_w_la (x : XS) (v : Nat → Option Nat) : (x.w_la v).moved = x.moved := rfl
theorem XS.pages_w_la (x : XS) (v : Nat → Option Nat) : (x.w_la v).pages = x.pages := rfl
theorem XS.mpat_w_la (x : XS) (v : Nat → Option Nat) : (x.w_la v).mpat = x.mpat := rfl
theorem XS.spat_w_la (x : XS) (v : Nat → Option Nat) : (x.w_la v).spat = x.spat := rfl
theorem XS.early_w_la (x : XS) (v : Nat → Option Nat) : (x.w_la v).early = x.early := rfl
theorem XS.delay_w_la (x : XS) (v : Nat → Option Nat) : (x.w_la v).delay = x.delay := rfl
theorem XS.way_w_la (x : XS) (v : Nat → Option Nat) : (x.w_la v).way = x.way := rfl
theorem XS.mem_w_la (x : XS) (v : Nat → Option Nat) : (x.w_la v).mem = x.mem := rfl
theorem XS.spo_w_la (x : XS) (v : Nat → Option Nat) : (x.w_la v).spo = x.spo := rfl
theorem XS.tk_w_la (x : XS) (v : Nat → Option Nat) : (x.w_la v).tk = x.tk := rfl
theorem XS.wi_w_la (x : XS) (v : Nat → Option Nat) : (x.w_la v).wi = x.wi := rfl
theorem XS.tr_w_la (x : XS) (v : Nat → Option Nat) : (x.w_la v).tr = x.tr := rfl
theorem XS.row_w_la (x : XS) (v : Nat → Option Nat) : (x.w_la v).row = x.row := rfl
theorem XS.uw_w_la (x : XS) (v : Nat → Option Nat) : (x.w_la v).uw = x.uw := rfl
theorem XS.ur_w_la (x : XS) (v : Nat → Option Nat) : (x.w_la v).ur = x.ur := rfl
theorem XS.la_w_la (x : XS) (v : Nat → Option Nat) : (x.w_la v).la = v := rfl
theorem XS.lr_w_la (x : XS) (v : Nat → Option Nat) : (x.w_la v).lr = x.lr := rfl
theorem XS.lb_w_la (x : XS) (v : Nat → Option Nat) : (x.w_la v).lb = x.lb := rfl
theorem XS.lg_w_la (x : XS) (v : Nat → Option Nat) : (x.w_la v).lg = x.lg := rfl
theorem XS.inb_w_la (x : XS) (v : Nat → Option Nat) : (x.w_la v).inb = x.inb := rfl
theorem XS.sw_w_la (x : XS) (v : Nat → Option Nat) : (x.w_la v).sw = x.sw := rfl
theorem XS.sr_w_la (x : XS) (v : Nat → Option Nat) : (x.w_la v).sr = x.sr := rfl
theorem XS.rnum_w_la (x : XS) (v : Nat → Option Nat) : (x.w_la v).rnum = x.rnum := rfl
theorem XS.lat_w_la (x : XS) (v : Nat → Option Nat) : (x.w_la v).lat = x.lat := rfl
theorem XS.chb_w_la (x : XS) (v : Nat → Option Nat) : (x.w_la v).chb = x.chb := rfl
theorem XS.chr_w_la (x : XS) (v : Nat → Option Nat) : (x.w_la v).chr = x.chr := rfl
theorem XS.rgt_w_la (x : XS) (v : Nat → Option Nat) : (x.w_la v).rgt = x.rgt := rfl
theorem XS.mon_w_la (x : XS) (v : Nat → Option Nat) : (x.w_la v).mon = x.mon := rfl
theorem XS.err_w_la (x : XS) (v : Nat → Option Nat) : (x.w_la v).err = x.err := rfl
theorem XS.nm_w_lr (x : XS) (v : Nat → Option Nat) : (x.w_lr v).nm = x.nm := rfl
theorem XS.ns_w_lr (x : XS) (v : Nat → Option Nat) : (x.w_lr v).ns = x.ns := rfl
theorem XS.lim_w_lr (x : XS) (v : Nat → Option Nat) : (x.w_lr v).lim = x.lim := rfl
theorem XS.pol_w_lr (x : XS) (v : Nat → Option Nat) : (x.w_lr v).pol = x.pol := rfl
theorem XS.whole_w_lr (x : XS) (v : Nat → Option Nat) : (x.w_lr v).whole = x.whole := rfl
theorem XS.time_w_lr (x : XS) (v : Nat → Option Nat) : (x.w_lr v).time = x.time := rfl
theorem XS.dbeat_w_lr (x : XS) (v : Nat → Option Nat) : (x.w_lr v).dbeat = x.dbeat := rfl
theorem XS.moved_w_lr (x : XS) (v : Nat → Option Nat) : (x.w_lr v).moved = x.moved := rfl
theorem XS.pages_w_lr (x : XS) (v : Nat → Option Nat) : (x.w_lr v).pages = x.pages := rfl
theorem XS.mpat_w_lr (x : XS) (v : Nat → Option Nat) : (x.w_lr v).mpat = x.mpat := rfl
theorem XS.spat_w_lr (x : XS) (v : Nat → Option Nat) : (x.w_lr v).spat = x.spat := rfl
theorem XS.early_w_lr (x : XS) (v : Nat → Option Nat) : (x.w_lr v).early = x.early := rfl
theorem XS.delay_w_lr (x : XS) (v : Nat → Option Nat) : (x.w_lr v).delay = x.delay := rfl
theorem XS.way_w_lr (x : XS) (v : Nat → Option Nat) : (x.w_lr v).way = x.way := rfl
theorem XS.mem_w_lr (x : XS) (v : Nat → Option Nat) : (x.w_lr v).mem = x.mem := rfl
theorem XS.spo_w_lr (x : XS) (v : Nat → Option Nat) : (x.w_lr v).spo = x.spo := rfl
theorem XS.tk_w_lr (x : XS) (v : Nat → Option Nat) : (x.w_lr v).tk = x.tk := rfl
theorem XS.wi_w_lr (x : XS) (v : Nat → Option Nat) : (x.w_lr v).wi = x.wi := rfl
theorem XS.tr_w_lr (x : XS) (v : Nat → Option Nat) : (x.w_lr v).tr = x.tr := rfl
theorem XS.row_w_lr (x : XS) (v : Nat → Option Nat) : (x.w_lr v).row = x.row := rfl
theorem XS.uw_w_lr (x : XS) (v : Nat → Option Nat) : (x.w_lr v).uw = x.uw := rfl
theorem XS.ur_w_lr (x : XS) (v : Nat → Option Nat) : (x.w_lr v).ur = x.ur := rfl
theorem XS.la_w_lr (x : XS) (v : Nat → Option Nat) : (x.w_lr v).la = x.la := rfl
theorem XS.lr_w_lr (x : XS) (v : Nat → Option Nat) : (x.w_lr v).lr = v := rfl
theorem XS.lb_w_lr (x : XS) (v : Nat → Option Nat) : (x.w_lr v).lb = x.lb := rfl
theorem XS.lg_w_lr (x : XS) (v : Nat → Option Nat) : (x.w_lr v).lg = x.lg := rfl
theorem XS.inb_w_lr (x : XS) (v : Nat → Option Nat) : (x.w_lr v).inb = x.inb := rfl
theorem XS.sw_w_lr (x : XS) (v : Nat → Option Nat) : (x.w_lr v).sw = x.sw := rfl
theorem XS.sr_w_lr (x : XS) (v : Nat → Option Nat) : (x.w_lr v).sr = x.sr := rfl
theorem XS.rnum_w_lr (x : XS) (v : Nat → Option Nat) : (x.w_lr v).rnum = x.rnum := rfl
theorem XS.lat_w_lr (x : XS) (v : Nat → Option Nat) : (x.w_lr v).lat = x.lat := rfl
theorem XS.chb_w_lr (x : XS) (v : Nat → Option Nat) : (x.w_lr v).chb = x.chb := rfl
theorem XS.chr_w_lr (x : XS) (v : Nat → Option Nat) : (x.w_lr v).chr = x.chr := rfl
theorem XS.rgt_w_lr (x : XS) (v : Nat → Option Nat) : (x.w_lr v).rgt = x.rgt := rfl
theorem XS.mon_w_lr (x : XS) (v : Nat → Option Nat) : (x.w_lr v).mon = x.mon := rfl
theorem XS.err_w_lr (x : XS) (v : Nat → Option Nat) : (x.w_lr v).err = x.err := rfl
theorem XS.nm_w_lb (x : XS) (v : Nat → Option Nat) : (x.w_lb v).nm = x.nm := rfl
theorem XS.ns_w_lb (x : XS) (v : Nat → Option Nat) : (x.w_lb v).ns = x.ns := rfl
theorem XS.lim_w_lb (x : XS) (v : Nat → Option Nat) : (x.w_lb v).lim = x.lim := rfl
theorem XS.pol_w_lb (x : XS) (v : Nat → Option Nat) : (x.w_lb v).pol = x.pol := rfl
theorem XS.whole_w_lb (x : XS) (v : Nat → Option Nat) : (x.w_lb v).whole = x.whole := rfl
theorem XS.time_w_lb (x : XS) (v : Nat → Option Nat) : (x.w_lb v).time = x.time := rfl
theorem XS.dbeat_w_lb (x : XS) (v : Nat → Option Nat) : (x.w_lb v).dbeat = x.dbeat := rfl
theorem XS.moved_w_lb (x : XS) (v : Nat → Option Nat) : (x.w_lb v).moved = x.moved := rfl
theorem XS.pages_w_lb (x : XS) (v : Nat → Option Nat) : (x.w_lb v).pages = x.pages := rfl
theorem XS.mpat_w_lb (x : XS) (v : Nat → Option Nat) : (x.w_lb v).mpat = x.mpat := rfl
theorem XS.spat_w_lb (x : XS) (v : Nat → Option Nat) : (x.w_lb v).spat = x.spat := rfl
theorem XS.early_w_lb (x : XS) (v : Nat → Option Nat) : (x.w_lb v).early = x.early := rfl
theorem XS.delay_w_lb (x : XS) (v : Nat → Option Nat) : (x.w_lb v).delay = x.delay := rfl
theorem XS.way_w_lb (x : XS) (v : Nat → Option Nat) : (x.w_lb v).way = x.way := rfl
theorem XS.mem_w_lb (x : XS) (v : Nat → Option Nat) : (x.w_lb v).mem = x.mem := rfl
theorem XS.spo_w_lb (x : XS) (v : Nat → Option Nat) : (x.w_lb v).spo = x.spo := rfl
theorem XS.tk_w_lb (x : XS) (v : Nat → Option Nat) : (x.w_lb v).tk = x.tk := rfl
theorem XS.wi_w_lb (x : XS) (v : Nat → Option Nat) : (x.w_lb v).wi = x.wi := rfl
theorem XS.tr_w_lb (x : XS) (v : Nat → Option Nat) : (x.w_lb v).tr = x.tr := rfl
theorem XS.row_w_lb (x : XS) (v : Nat → Option Nat) : (x.w_lb v).row = x.row := rfl
theorem XS.uw_w_lb (x : XS) (v : Nat → Option Nat) : (x.w_lb v).uw = x.uw := rfl
theorem XS.ur_w_lb (x : XS) (v : Nat → Option Nat) : (x.w_lb v).ur = x.ur := rfl
theorem XS.la_w_lb (x : XS) (v : Nat → Option Nat) : (x.w_lb v).la = x.la := rfl
theorem XS.lr_w_lb (x : XS) (v : Nat → Option Nat) : (x.w_lb v).lr = x.lr := rfl
theorem XS.lb_w_lb (x : XS) (v : Nat → Option Nat) : (x.w_lb v).lb = v := rfl
theorem XS.lg_w_lb (x : XS) (v : Nat → Option Nat) : (x.w_lb v).lg = x.lg := rfl
theorem XS.inb_w_lb (x : XS) (v : Nat → Option Nat) : (x.w_lb v).inb = x.inb := rfl
theorem XS.sw_w_lb (x : XS) (v : Nat → Option Nat) : (x.w_lb v).sw = x.sw := rfl
theorem XS.sr_w_lb (x : XS) (v : Nat → Option Nat) : (x.w_lb v).sr = x.sr := rfl
theorem XS.rnum_w_lb (x : XS) (v : Nat → Option Nat) : (x.w_lb v).rnum = x.rnum := rfl
theorem XS.lat_w_lb (x : XS) (v : Nat → Option Nat) : (x.w_lb v).lat = x.lat := rfl
theorem XS.chb_w_lb (x : XS) (v : Nat → Option Nat) : (x.w_lb v).chb = x.chb := rfl
theorem XS.chr_w_lb (x : XS) (v : Nat → Option Nat) : (x.w_lb v).chr = x.chr := rfl
theorem XS.rgt_w_lb (x : XS) (v : Nat → Option Nat) : (x.w_lb v).rgt = x.rgt := rfl
theorem XS.mon_w_lb (x : XS) (v : Nat → Option Nat) : (x.w_lb v).mon = x.mon := rfl
theorem XS.err_w_lb (x : XS) (v : Nat → Option Nat) : (x.w_lb v).err = x.err := rfl
theorem XS.nm_w_lg (x : XS) (v : Nat → Option Nat) : (x.w_lg v).nm = x.nm := rfl
theorem XS.ns_w_lg (x : XS) (v : Nat → Option Nat) : (x.w_lg v).ns = x.ns := rfl
theorem XS.lim_w_lg (x : XS) (v : Nat → Option Nat) : (x.w_lg v).lim = x.lim := rfl
theorem XS.pol_w_lg (x : XS) (v : Nat → Option Nat) : (x.w_lg v).pol = x.pol := rfl
theorem XS.whole_w_lg (x : XS) (v : Nat → Option Nat) : (x.w_lg v).whole = x.whole := rfl
theorem XS.time_w_lg (x : XS) (v : Nat → Option Nat) : (x.w_lg v).time = x.time := rfl
theorem XS.dbeat_w_lg (x : XS) (v : Nat → Option Nat) : (x.w_lg v).dbeat = x.dbeat := rfl
theorem XS.moved_w_lg (x : XS) (v : Nat → Option Nat) : (x.w_lg v).moved = x.moved := rfl
theorem XS.pages_w_lg (x : XS) (v : Nat → Option Nat) : (x.w_lg v).pages = x.pages := rfl
theorem XS.mpat_w_lg (x : XS) (v : Nat → Option Nat) : (x.w_lg v).mpat = x.mpat := rfl
theorem XS.spat_w_lg (x : XS) (v : Nat → Option Nat) : (x.w_lg v).spat = x.spat := rfl
theorem XS.early_w_lg (x : XS) (v : Nat → Option Nat) : (x.w_lg v).early = x.early := rfl
theorem XS.delay_w_lg (x : XS) (v : Nat → Option Nat) : (x.w_lg v).delay = x.delay := rfl
theorem XS.way_w_lg (x : XS) (v : Nat → Option Nat) : (x.w_lg v).way = x.way := rfl
theorem XS.mem_w_lg (x : XS) (v : Nat → Option Nat) : (x.w_lg v).mem = x.mem := rfl
theorem XS.spo_w_lg (x : XS) (v : Nat → Option Nat) : (x.w_lg v).spo = x.spo := rfl
theorem XS.tk_w_lg (x : XS) (v : Nat → Option Nat) : (x.w_lg v).tk = x.tk := rfl
theorem XS.wi_w_lg (x : XS) (v : Nat → Option Nat) : (x.w_lg v).wi = x.wi := rfl
theorem XS.tr_w_lg (x : XS) (v : Nat → Option Nat) : (x.w_lg v).tr = x.tr := rfl
theorem XS.row_w_lg (x : XS) (v : Nat → Option Nat) : (x.w_lg v).row = x.row := rfl
theorem XS.uw_w_lg (x : XS) (v : Nat → Option Nat) : (x.w_lg v).uw = x.uw := rfl
theorem XS.ur_w_lg (x : XS) (v : Nat → Option Nat) : (x.w_lg v).ur = x.ur := rfl
theorem XS.la_w_lg (x : XS) (v : Nat → Option Nat) : (x.w_lg v).la = x.la := rfl
theorem XS.lr_w_lg (x : XS) (v : Nat → Option Nat) : (x.w_lg v).lr = x.lr := rfl
theorem XS.lb_w_lg (x : XS) (v : Nat → Option Nat) : (x.w_lg v).lb = x.lb := rfl
theorem XS.lg_w_lg (x : XS) (v : Nat → Option Nat) : (x.w_lg v).lg = v := rfl
theorem XS.inb_w_lg (x : XS) (v : Nat → Option Nat) : (x.w_lg v).inb = x.inb := rfl
theorem XS.sw_w_lg (x : XS) (v : Nat → Option Nat) : (x.w_lg v).sw = x.sw := rfl
theorem XS.sr_w_lg (x : XS) (v : Nat → Option Nat) : (x.w_lg v).sr = x.sr := rfl
theorem XS.rnum_w_lg (x : XS) (v : Nat → Option Nat) : (x.w_lg v).rnum = x.rnum := rfl
theorem XS.lat_w_lg (x : XS) (v : Nat → Option Nat) : (x.w_lg v).lat = x.lat := rfl
theorem XS.chb_w_lg (x : XS) (v : Nat → Option Nat) : (x.w_lg v).chb = x.chb := rfl
theorem XS.chr_w_lg (x : XS) (v : Nat → Option Nat) : (x.w_lg v).chr = x.chr := rfl
theorem XS.rgt_w_lg (x : XS) (v : Nat → Option Nat) : (x.w_lg v).rgt = x.rgt := rfl
theorem XS.mon_w_lg (x : XS) (v : Nat → Option Nat) : (x.w_lg v).mon = x.mon := rfl
theorem XS.err_w_lg (x : XS) (v : Nat → Option Nat) : (x.w_lg v).err = x.err := rfl
theorem XS.nm_w_inb (x : XS) (v : Nat → Bool) : (x.w_inb v).nm = x.nm := rfl
theorem XS.ns_w_inb (x : XS) (v : Nat → Bool) : (x.w_inb v).ns = x.ns := rfl
theorem XS.lim_w_inb (x : XS) (v : Nat → Bool) : (x.w_inb v).lim = x.lim := rfl
theorem XS.pol_w_inb (x : XS) (v : Nat → Bool) : (x.w_inb v).pol = x.pol := rfl
theorem XS.whole_w_inb (x : XS) (v : Nat → Bool) : (x.w_inb v).whole = x.whole := rfl
theorem XS.time_w_inb (x : XS) (v : Nat → Bool) : (x.w_inb v).time = x.time := rfl
theorem XS.dbeat_w_inb (x : XS) (v : Nat → Bool) : (x.w_inb v).dbeat = x.dbeat := rfl
theorem XS.moved_w_inb (x : XS) (v : Nat → Bool) : (x.w_inb v).moved = x.moved := rfl
theorem XS.pages_w_inb (x : XS) (v : Nat → Bool) : (x.w_inb v).pages = x.pages := rfl
theorem XS.mpat_w_inb (x : XS) (v : Nat → Bool) : (x.w_inb v).mpat = x.mpat := rfl
theorem XS.spat_w_inb (x : XS) (v : Nat → Bool) : (x.w_inb v).spat = x.spat := rfl
theorem XS.early_w_inb (x : XS) (v : Nat → Bool) : (x.w_inb v).early = x.early := rfl
theorem XS.delay_w_inb (x : XS) (v : Nat → Bool) : (x.w_inb v).delay = x.delay := rfl
theorem XS.way_w_inb (x : XS) (v : Nat → Bool) : (x.w_inb v).way = x.way := rfl
theorem XS.mem_w_inb (x : XS) (v : Nat → Bool) : (x.w_inb v).mem = x.mem := rfl
theorem XS.spo_w_inb (x : XS) (v : Nat → Bool) : (x.w_inb v).spo = x.spo := rfl
theorem XS.tk_w_inb (x : XS) (v : Nat → Bool) : (x.w_inb v).tk = x.tk := rfl
theorem XS.wi_w_inb (x : XS) (v : Nat → Bool) : (x.w_inb v).wi = x.wi := rfl
theorem XS.tr_w_inb (x : XS) (v : Nat → Bool) : (x.w_inb v).tr = x.tr := rfl
theorem XS.row_w_inb (x : XS) (v : Nat → Bool) : (x.w_inb v).row = x.row := rfl
theorem XS.uw_w_inb (x : XS) (v : Nat → Bool) : (x.w_inb v).uw = x.uw := rfl
theorem XS.ur_w_inb (x : XS) (v : Nat → Bool) : (x.w_inb v).ur = x.ur := rfl
theorem XS.la_w_inb (x : XS) (v : Nat → Bool) : (x.w_inb v).la = x.la := rfl
theorem XS.lr_w_inb (x : XS) (v : Nat → Bool) : (x.w_inb v).lr = x.lr := rfl
theorem XS.lb_w_inb (x : XS) (v : Nat → Bool) : (x.w_inb v).lb = x.lb := rfl
theorem XS.lg_w_inb (x : XS) (v : Nat → Bool) : (x.w_inb v).lg = x.lg := rfl
theorem XS.inb_w_inb (x : XS) (v : Nat → Bool) : (x.w_inb v).inb = v := rfl
theorem XS.sw_w_inb (x : XS) (v : Nat → Bool) : (x.w_inb v).sw = x.sw := rfl
theorem XS.sr_w_inb (x : XS) (v : Nat → Bool) : (x.w_inb v).sr = x.sr := rfl
theorem XS.rnum_w_inb (x : XS) (v : Nat → Bool) : (x.w_inb v).rnum = x.rnum := rfl
theorem XS.lat_w_inb (x : XS) (v : Nat → Bool) : (x.w_inb v).lat = x.lat := rfl
theorem XS.chb_w_inb (x : XS) (v : Nat → Bool) : (x.w_inb v).chb = x.chb := rfl
theorem XS.chr_w_inb (x : XS) (v : Nat → Bool) : (x.w_inb v).chr = x.chr := rfl
theorem XS.rgt_w_inb (x : XS) (v : Nat → Bool) : (x.w_inb v).rgt = x.rgt := rfl
theorem XS.mon_w_inb (x : XS) (v : Nat → Bool) : (x.w_inb v).mon = x.mon := rfl
theorem XS.err_w_inb (x : XS) (v : Nat → Bool) : (x.w_inb v).err = x.err := rfl
theorem XS.nm_w_sw (x : XS) (v : Nat → List WE) : (x.w_sw v).nm = x.nm := rfl
theorem XS.ns_w_sw (x : XS) (v : Nat → List WE) : (x.w_sw v).ns = x.ns := rfl
theorem XS.lim_w_sw (x : XS) (v : Nat → List WE) : (x.w_sw v).lim = x.lim := rfl
theorem XS.pol_w_sw (x : XS) (v : Nat → List WE) : (x.w_sw v).pol = x.pol := rfl
theorem XS.whole_w_sw (x : XS) (v : Nat → List WE) : (x.w_sw v).whole = x.whole := rfl
theorem XS.time_w_sw (x : XS) (v : Nat → List WE) : (x.w_sw v).time = x.time := rfl
theorem XS.dbeat_w_sw (x : XS) (v : Nat → List WE) : (x.w_sw v).dbeat = x.dbeat := rfl
theorem XS.moved_w_sw (x : XS) (v : Nat → List WE) : (x.w_sw v).moved = x.moved := rfl
theorem XS.pages_w_sw (x : XS) (v : Nat → List WE) : (x.w_sw v).pages = x.pages := rfl
theorem XS.mpat_w_sw (x : XS) (v : Nat → List WE) : (x.w_sw v).mpat = x.mpat := rfl
theorem XS.spat_w_sw (x : XS) (v : Nat → List WE) : (x.w_sw v).spat = x.spat := rfl
theorem XS.early_w_sw (x : XS) (v : Nat → List WE) : (x.w_sw v).early = x.early := rfl
theorem XS.delay_w_sw (x : XS) (v : Nat → List WE) : (x.w_sw v).delay = x.delay := rfl
theorem XS.way_w_sw (x : XS) (v : Nat → List WE) : (x.w_sw v).way = x.way := rfl
theorem XS.mem_w_sw (x : XS) (v : Nat → List WE) : (x.w_sw v).mem = x.mem := rfl
theorem XS.spo_w_sw (x : XS) (v : Nat → List WE) : (x.w_sw v).spo = x.spo := rfl
theorem XS.tk_w_sw (x : XS) (v : Nat → List WE) : (x.w_sw v).tk = x.tk := rfl
theorem XS.wi_w_sw (x : XS) (v : Nat → List WE) : (x.w_sw v).wi = x.wi := rfl
theorem XS.tr_w_sw (x : XS) (v : Nat → List WE) : (x.w_sw v).tr = x.tr := rfl
theorem XS.row_w_sw (x : XS) (v : Nat → List WE) : (x.w_sw v).row = x.row := rfl
theorem XS.uw_w_sw (x : XS) (v : Nat → List WE) : (x.w_sw v).uw = x.uw := rfl
theorem XS.ur_w_sw (x : XS) (v : Nat → List WE) : (x.w_sw v).ur = x.ur := rfl
theorem XS.la_w_sw (x : XS) (v : Nat → List WE) : (x.w_sw v).la = x.la := rfl
theorem XS.lr_w_sw (x : XS) (v : Nat → List WE) : (x.w_sw v).lr = x.lr := rfl
theorem XS.lb_w_sw (x : XS) (v : Nat → List WE) : (x.w_sw v).lb = x.lb := rfl
theorem XS.lg_w_sw (x : XS) (v : Nat → List WE) : (x.w_sw v).lg = x.lg := rfl
theorem XS.inb_w_sw (x : XS) (v : Nat → List WE) : (x.w_sw v).inb = x.inb := rfl
theorem XS.sw_w_sw (x : XS) (v : Nat → List WE) : (x.w_sw v).sw = v := rfl
theorem XS.sr_w_sw (x : XS) (v : Nat → List WE) : (x.w_sw v).sr = x.sr := rfl
theorem XS.rnum_w_sw (x : XS) (v : Nat → List WE) : (x.w_sw v).rnum = x.rnum := rfl
theorem XS.lat_w_sw (x : XS) (v : Nat → List WE) : (x.w_sw v).lat = x.lat := rfl
theorem XS.chb_w_sw (x : XS) (v : Nat → List WE) : (x.w_sw v).chb = x.chb := rfl
theorem XS.chr_w_sw (x : XS) (v : Nat → List WE) : (x.w_sw v).chr = x.chr := rfl
theorem XS.rgt_w_sw (x : XS) (v : Nat → List WE) : (x.w_sw v).rgt = x.rgt := rfl
theorem XS.mon_w_sw (x : XS) (v : Nat → List WE) : (x.w_sw v).mon = x.mon := rfl
theorem XS.err_w_sw (x : XS) (v : Nat → List WE) : (x.w_sw v).err = x.err := rfl
theorem XS.nm_w_sr (x : XS) (v : Nat → List QE) : (x.w_sr v).nm = x.nm := rfl
theorem XS.ns_w_sr (x : XS) (v : Nat → List QE) : (x.w_sr v).ns = x.ns := rfl
theorem XS.lim_w_sr (x : XS) (v : Nat → List QE) : (x.w_sr v).lim = x.lim := rfl
theorem XS.pol_w_sr (x : XS) (v : Nat → List QE) : (x.w_sr v).pol = x.pol := rfl
theorem XS.whole_w_sr (x : XS) (v : Nat → List QE) : (x.w_sr v).whole = x.whole := rfl
theorem XS.time_w_sr (x : XS) (v : Nat → List QE) : (x.w_sr v).time = x.time := rfl
theorem XS.dbeat_w_sr (x : XS) (v : Nat → List QE) : (x.w_sr v).dbeat = x.dbeat := rfl
theorem XS.moved_w_sr (x : XS) (v : Nat → List QE) : (x.w_sr v).moved = x.moved := rfl
theorem XS.pages_w_sr (x : XS) (v : Nat → List QE) : (x.w_sr v).pages = x.pages := rfl
theorem XS.mpat_w_sr (x : XS) (v : Nat → List QE) : (x.w_sr v).mpat = x.mpat := rfl
theorem XS.spat_w_sr (x : XS) (v : Nat → List QE) : (x.w_sr v).spat = x.spat := rfl
theorem XS.early_w_sr (x : XS) (v : Nat → List QE) : (x.w_sr v).early = x.early := rfl
theorem XS.delay_w_sr (x : XS) (v : Nat → List QE) : (x.w_sr v).delay = x.delay := rfl
theorem XS.way_w_sr (x : XS) (v : Nat → List QE) : (x.w_sr v).way = x.way := rfl
theorem XS.mem_w_sr (x : XS) (v : Nat → List QE) : (x.w_sr v).mem = x.mem := rfl
theorem XS.spo_w_sr (x : XS) (v : Nat → List QE) : (x.w_sr v).spo = x.spo := rfl
theorem XS.tk_w_sr (x : XS) (v : Nat → List QE) : (x.w_sr v).tk = x.tk := rfl
theorem XS.wi_w_sr (x : XS) (v : Nat → List QE) : (x.w_sr v).wi = x.wi := rfl
theorem XS.tr_w_sr (x : XS) (v : Nat → List QE) : (x.w_sr v).tr = x.tr := rfl
theorem XS.row_w_sr (x : XS) (v : Nat → List QE) : (x.w_sr v).row = x.row := rfl
theorem XS.uw_w_sr (x : XS) (v : Nat → List QE) : (x.w_sr v).uw = x.uw := rfl
theorem XS.ur_w_sr (x : XS) (v : Nat → List QE) : (x.w_sr v).ur = x.ur := rfl
theorem XS.la_w_sr (x : XS) (v : Nat → List QE) : (x.w_sr v).la = x.la := rfl
theorem XS.lr_w_sr (x : XS) (v : Nat → List QE) : (x.w_sr v).lr = x.lr := rfl
theorem XS.lb_w_sr (x : XS) (v : Nat → List QE) : (x.w_sr v).lb = x.lb := rfl
theorem XS.lg_w_sr (x : XS) (v : Nat → List QE) : (x.w_sr v).lg = x.lg := rfl
theorem XS.inb_w_sr (x : XS) (v : Nat → List QE) : (x.w_sr v).inb = x.inb := rfl
theorem XS.sw_w_sr (x : XS) (v : Nat → List QE) : (x.w_sr v).sw = x.sw := rfl
theorem XS.sr_w_sr (x : XS) (v : Nat → List QE) : (x.w_sr v).sr = v := rfl
theorem XS.rnum_w_sr (x : XS) (v : Nat → List QE) : (x.w_sr v).rnum = x.rnum := rfl
theorem XS.lat_w_sr (x : XS) (v : Nat → List QE) : (x.w_sr v).lat = x.lat := rfl
theorem XS.chb_w_sr (x : XS) (v : Nat → List QE) : (x.w_sr v).chb = x.chb := rfl
theorem XS.chr_w_sr (x : XS) (v : Nat → List QE) : (x.w_sr v).chr = x.chr := rfl
theorem XS.rgt_w_sr (x : XS) (v : Nat → List QE) : (x.w_sr v).rgt = x.rgt := rfl
theorem XS.mon_w_sr (x : XS) (v : Nat → List QE) : (x.w_sr v).mon = x.mon := rfl
theorem XS.err_w_sr (x : XS) (v : Nat → List QE) : (x.w_sr v).err = x.err := rfl
theorem XS.nm_w_rnum (x : XS) (v : Nat → Nat) : (x.w_rnum v).nm = x.nm := rfl
theorem XS.ns_w_rnum (x : XS) (v : Nat → Nat) : (x.w_rnum v).ns = x.ns := rfl
theorem XS.lim_w_rnum (x : XS) (v : Nat → Nat) : (x.w_rnum v).lim = x.lim := rfl
theorem XS.pol_w_rnum (x : XS) (v : Nat → Nat) : (x.w_rnum v).pol = x.pol := rfl
theorem XS.whole_w_rnum (x : XS) (v : Nat → Nat) : (x.w_rnum v).whole = x.whole := rfl
theorem XS.time_w_rnum (x : XS) (v : Nat → Nat) : (x.w_rnum v).time = x.time := rfl
theorem XS.dbeat_w_rnum (x : XS) (v : Nat → Nat) : (x.w_rnum v).dbeat = x.dbeat := rfl
theorem XS.moved_w_rnum (x : XS) (v : Nat → Nat) : (x.w_rnum v).moved = x.moved := rfl
theorem XS.pages_w_rnum (x : XS) (v : Nat → Nat) : (x.w_rnum v).pages = x.pages := rfl
theorem XS.mpat_w_rnum (x : XS) (v : Nat → Nat) : (x.w_rnum v).mpat = x.mpat := rfl
theorem XS.spat_w_rnum (x : XS) (v : Nat → Nat) : (x.w_rnum v).spat = x.spat := rfl
theorem XS.early_w_rnum (x : XS) (v : Nat → Nat) : (x.w_rnum v).early = x.early := rfl
theorem XS.delay_w_rnum (x : XS) (v : Nat → Nat) : (x.w_rnum v).delay = x.delay := rfl
theorem XS.way_w_rnum (x : XS) (v : Nat → Nat) : (x.w_rnum v).way = x.way := rfl
theorem XS.mem_w_rnum (x : XS) (v : Nat → Nat) : (x.w_rnum v).mem = x.mem := rfl
theorem XS.spo_w_rnum (x : XS) (v : Nat → Nat) : (x.w_rnum v).spo = x.spo := rfl
theorem XS.tk_w_rnum (x : XS) (v : Nat → Nat) : (x.w_rnum v).tk = x.tk := rfl
theorem XS.wi_w_rnum (x : XS) (v : Nat → Nat) : (x.w_rnum v).wi = x.wi := rfl
theorem XS.tr_w_rnum (x : XS) (v : Nat → Nat) : (x.w_rnum v).tr = x.tr := rfl
theorem XS.row_w_rnum (x : XS) (v : Nat → Nat) : (x.w_rnum v).row = x.row := rfl
theorem XS.uw_w_rnum (x : XS) (v : Nat → Nat) : (x.w_rnum v).uw = x.uw := rfl
theorem XS.ur_w_rnum (x : XS) (v : Nat → Nat) : (x.w_rnum v).ur = x.ur := rfl
theorem XS.la_w_rnum (x : XS) (v : Nat → Nat) : (x.w_rnum v).la = x.la := rfl
theorem XS.lr_w_rnum (x : XS) (v : Nat → Nat) : (x.w_rnum v).lr = x.lr := rfl
theorem XS.lb_w_rnum (x : XS) (v : Nat → Nat) : (x.w_rnum v).lb = x.lb := rfl
theorem XS.lg_w_rnum (x : XS) (v : Nat → Nat) : (x.w_rnum v).lg = x.lg := rfl
theorem XS.inb_w_rnum (x : XS) (v : Nat → Nat) : (x.w_rnum v).inb = x.inb := rfl
theorem XS.sw_w_rnum (x : XS) (v : Nat → Nat) : (x.w_rnum v).sw = x.sw := rfl
theorem XS.sr_w_rnum (x : XS) (v : Nat → Nat) : (x.w_rnum v).sr = x.sr := rfl
theorem XS.rnum_w_rnum (x : XS) (v : Nat → Nat) : (x.w_rnum v).rnum = v := rfl
theorem XS.lat_w_rnum (x : XS) (v : Nat → Nat) : (x.w_rnum v).lat = x.lat := rfl
theorem XS.chb_w_rnum (x : XS) (v : Nat → Nat) : (x.w_rnum v).chb = x.chb := rfl
theorem XS.chr_w_rnum (x : XS) (v : Nat → Nat) : (x.w_rnum v).chr = x.chr := rfl
theorem XS.rgt_w_rnum (x : XS) (v : Nat → Nat) : (x.w_rnum v).rgt = x.rgt := rfl
theorem XS.mon_w_rnum (x : XS) (v : Nat → Nat) : (x.w_rnum v).mon = x.mon := rfl
theorem XS.err_w_rnum (x : XS) (v : Nat → Nat) : (x.w_rnum v).err = x.err := rfl
theorem XS.nm_w_lat (x : XS) (v : Nat → Option (Nat × Nat)) : (x.w_lat v).nm = x.nm := rfl
theorem XS.ns_w_lat (x : XS) (v : Nat → Option (Nat × Nat)) : (x.w_lat v).ns = x.ns := rfl
theorem XS.lim_w_lat (x : XS) (v : Nat → Option (Nat × Nat)) : (x.w_lat v).lim = x.lim := rfl
theorem XS.pol_w_lat (x : XS) (v : Nat → Option (Nat × Nat)) : (x.w_lat v).pol = x.pol := rfl
theorem XS.whole_w_lat (x : XS) (v : Nat → Option (Nat × Nat)) : (x.w_lat v).whole = x.whole := rfl
theorem XS.time_w_lat (x : XS) (v : Nat → Option (Nat × Nat)) : (x.w_lat v).time = x.time := rfl
theorem XS.dbeat_w_lat (x : XS) (v : Nat → Option (Nat × Nat)) : (x.w_lat v).dbeat = x.dbeat := rfl
theorem XS.moved_w_lat (x : XS) (v : Nat → Option (Nat × Nat)) : (x.w_lat v).moved = x.moved := rfl
theorem XS.pages_w_lat (x : XS) (v : Nat → Option (Nat × Nat)) : (x.w_lat v).pages = x.pages := rfl
theorem XS.mpat_w_lat (x : XS) (v : Nat → Option (Nat × Nat)) : (x.w_lat v).mpat = x.mpat := rfl
theorem XS.spat_w_lat (x : XS) (v : Nat → Option (Nat × Nat)) : (x.w_lat v).spat = x.spat := rfl
theorem XS.early_w_lat (x : XS) (v : Nat → Option (Nat × Nat)) : (x.w_lat v).early = x.early := rfl
theorem XS.delay_w_lat (x : XS) (v : Nat → Option (Nat × Nat)) : (x.w_lat v).delay = x.delay := rfl
theorem XS.way_w_lat (x : XS) (v : Nat → Option (Nat × Nat)) : (x.w_lat v).way = x.way := rfl
theorem XS.mem_w_lat (x : XS) (v : Nat → Option (Nat × Nat)) : (x.w_lat v).mem = x.mem := rfl
theorem XS.spo_w_lat (x : XS) (v : Nat → Option (Nat × Nat)) : (x.w_lat v).spo = x.spo := rfl
theorem XS.tk_w_lat (x : XS) (v : Nat → Option (Nat × Nat)) : (x.w_lat v).tk = x.tk := rfl
theorem XS.wi_w_lat (x : XS) (v : Nat → Option (Nat × Nat)) : (x.w_lat v).wi = x.wi := rfl
theorem XS.tr_w_lat (x : XS) (v : Nat → Option (Nat × Nat)) : (x.w_lat v).tr = x.tr := rfl
theorem XS.row_w_lat (x : XS) (v : Nat → Option (Nat × Nat)) : (x.w_lat v).row = x.row := rfl
theorem XS.uw_w_lat (x : XS) (v : Nat → Option (Nat × Nat)) : (x.w_lat v).uw = x.uw := rfl
theorem XS.ur_w_lat (x : XS) (v : Nat → Option (Nat × Nat)) : (x.w_lat v).ur = x.ur := rfl
theorem XS.la_w_lat (x : XS) (v : Nat → Option (Nat × Nat)) : (x.w_lat v).la = x.la := rfl
theorem XS.lr_w_lat (x : XS) (v : Nat → Option (Nat × Nat)) : (x.w_lat v).lr = x.lr := rfl
theorem XS.lb_w_lat (x : XS) (v : Nat → Option (Nat × Nat)) : (x.w_lat v).lb = x.lb := rfl
theorem XS.lg_w_lat (x : XS) (v : Nat → Option (Nat × Nat)) : (x.w_lat v).lg = x.lg := rfl
theorem XS.inb_w_lat (x : XS) (v : Nat → Option (Nat × Nat)) : (x.w_lat v).inb = x.inb := rfl
theorem XS.sw_w_lat (x : XS) (v : Nat → Option (Nat × Nat)) : (x.w_lat v).sw = x.sw := rfl
theorem XS.sr_w_lat (x : XS) (v : Nat → Option (Nat × Nat)) : (x.w_lat v).sr = x.sr := rfl
theorem XS.rnum_w_lat (x : XS) (v : Nat → Option (Nat × Nat)) : (x.w_lat v).rnum = x.rnum := rfl
theorem XS.lat_w_lat (x : XS) (v : Nat → Option (Nat × Nat)) : (x.w_lat v).lat = v := rfl
theorem XS.chb_w_lat (x : XS) (v : Nat → Option (Nat × Nat)) : (x.w_lat v).chb = x.chb := rfl
theorem XS.chr_w_lat (x : XS) (v : Nat → Option (Nat × Nat)) : (x.w_lat v).chr = x.chr := rfl
theorem XS.rgt_w_lat (x : XS) (v : Nat → Option (Nat × Nat)) : (x.w_lat v).rgt = x.rgt := rfl
theorem XS.mon_w_lat (x : XS) (v : Nat → Option (Nat × Nat)) : (x.w_lat v).mon = x.mon := rfl
theorem XS.err_w_lat (x : XS) (v : Nat → Option (Nat × Nat)) : (x.w_lat v).err = x.err := rfl
theorem XS.nm_w_chb (x : XS) (v : Nat → Option Nat) : (x.w_chb v).nm = x.nm := rfl
theorem XS.ns_w_chb (x : XS) (v : Nat → Option Nat) : (x.w_chb v).ns = x.ns := rfl
theorem XS.lim_w_chb (x : XS) (v : Nat → Option Nat) : (x.w_chb v).lim = x.lim := rfl
theorem XS.pol_w_chb (x : XS) (v : Nat → Option Nat) : (x.w_chb v).pol = x.pol := rfl
theorem XS.whole_w_chb (x : XS) (v : Nat → Option Nat) : (x.w_chb v).whole = x.whole := rfl
theorem XS.time_w_chb (x : XS) (v : Nat → Option Nat) : (x.w_chb v).time = x.time := rfl
theorem XS.dbeat_w_chb (x : XS) (v : Nat → Option Nat) : (x.w_chb v).dbeat = x.dbeat := rfl
theorem XS.moved_w_chb (x : XS) (v : Nat → Option Nat) : (x.w_chb v).moved = x.moved := rfl
theorem XS.pages_w_chb (x : XS) (v : Nat → Option Nat) : (x.w_chb v).pages = x.pages := rfl
theorem XS.mpat_w_chb (x : XS) (v : Nat → Option Nat) : (x.w_chb v).mpat = x.mpat := rfl
theorem XS.spat_w_chb (x : XS) (v : Nat → Option Nat) : (x.w_chb v).spat = x.spat := rfl
theorem XS.early_w_chb (x : XS) (v : Nat → Option Nat) : (x.w_chb v).early = x.early := rfl
theorem XS.delay_w_chb (x : XS) (v : Nat → Option Nat) : (x.w_chb v).delay = x.delay := rfl
theorem XS.way_w_chb (x : XS) (v : Nat → Option Nat) : (x.w_chb v).way = x.way := rfl
theorem XS.mem_w_chb (x : XS) (v : Nat → Option Nat) : (x.w_chb v).mem = x.mem := rfl
theorem XS.spo_w_chb (x : XS) (v : Nat → Option Nat) : (x.w_chb v).spo = x.spo := rfl
theorem XS.tk_w_chb (x : XS) (v : Nat → Option Nat) : (x.w_chb v).tk = x.tk := rfl
theorem XS.wi_w_chb (x : XS) (v : Nat → Option Nat) : (x.w_chb v).wi = x.wi := rfl
theorem XS.tr_w_chb (x : XS) (v : Nat → Option Nat) : (x.w_chb v).tr = x.tr := rfl
theorem XS.row_w_chb (x : XS) (v : Nat → Option Nat) : (x.w_chb v).row = x.row := rfl
theorem XS.uw_w_chb (x : XS) (v : Nat → Option Nat) : (x.w_chb v).uw = x.uw := rfl
theorem XS.ur_w_chb (x : XS) (v : Nat → Option Nat) : (x.w_chb v).ur = x.ur := rfl
theorem XS.la_w_chb (x : XS) (v : Nat → Option Nat) : (x.w_chb v).la = x.la := rfl
theorem XS.lr_w_chb (x : XS) (v : Nat → Option Nat) : (x.w_chb v).lr = x.lr := rfl
theorem XS.lb_w_chb (x : XS) (v : Nat → Option Nat) : (x.w_chb v).lb = x.lb := rfl
theorem XS.lg_w_chb (x : XS) (v : Nat → Option Nat) : (x.w_chb v).lg = x.lg := rfl
theorem XS.inb_w_chb (x : XS) (v : Nat → Option Nat) : (x.w_chb v).inb = x.inb := rfl
theorem XS.sw_w_chb (x : XS) (v : Nat → Option Nat) : (x.w_chb v).sw = x.sw := rfl
theorem XS.sr_w_chb (x : XS) (v : Nat → Option Nat) : (x.w_chb v).sr = x.sr := rfl
theorem XS.rnum_w_chb (x : XS) (v : Nat → Option Nat) : (x.w_chb v).rnum = x.rnum := rfl
theorem XS.lat_w_chb (x : XS) (v : Nat → Option Nat) : (x.w_chb v).lat = x.lat := rfl
theorem XS.chb_w_chb (x : XS) (v : Nat → Option Nat) : (x.w_chb v).chb = v := rfl
theorem XS.chr_w_chb (x : XS) (v : Nat → Option Nat) : (x.w_chb v).chr = x.chr := rfl
theorem XS.rgt_w_chb (x : XS) (v : Nat → Option Nat) : (x.w_chb v).rgt = x.rgt := rfl
theorem XS.mon_w_chb (x : XS) (v : Nat → Option Nat) : (x.w_chb v).mon = x.mon := rfl
theorem XS.err_w_chb (x : XS) (v : Nat → Option Nat) : (x.w_chb v).err = x.err := rfl
theorem XS.nm_w_chr (x : XS) (v : Nat → Option Nat) : (x.w_chr v).nm = x.nm := rfl
theorem XS.ns_w_chr (x : XS) (v : Nat → Option Nat) : (x.w_chr v).ns = x.ns := rfl
theorem XS.lim_w_chr (x : XS) (v : Nat → Option Nat) : (x.w_chr v).lim = x.lim := rfl
theorem XS.pol_w_chr (x : XS) (v : Nat → Option Nat) : (x.w_chr v).pol = x.pol := rfl
theorem XS.whole_w_chr (x : XS) (v : Nat → Option Nat) : (x.w_chr v).whole = x.whole := rfl
theorem XS.time_w_chr (x : XS) (v : Nat → Option Nat) : (x.w_chr v).time = x.time := rfl
theorem XS.dbeat_w_chr (x : XS) (v : Nat → Option Nat) : (x.w_chr v).dbeat = x.dbeat := rfl
theorem XS.moved_w_chr (x : XS) (v : Nat → Option Nat) : (x.w_chr v).moved = x.moved := rfl
theorem XS.pages_w_chr (x : XS) (v : Nat → Option Nat) : (x.w_chr v).pages = x.pages := rfl
theorem XS.mpat_w_chr (x : XS) (v : Nat → Option Nat) : (x.w_chr v).mpat = x.mpat := rfl
theorem XS.spat_w_chr (x : XS) (v : Nat → Option Nat) : (x.w_chr v).spat = x.spat := rfl
theorem XS.early_w_chr (x : XS) (v : Nat → Option Nat) : (x.w_chr v).early = x.early := rfl
theorem XS.delay_w_chr (x : XS) (v : Nat → Option Nat) : (x.w_chr v).delay = x.delay := rfl
theorem XS.way_w_chr (x : XS) (v : Nat → Option Nat) : (x.w_chr v).way = x.way := rfl
theorem XS.mem_w_chr (x : XS) (v : Nat → Option Nat) : (x.w_chr v).mem = x.mem := rfl
theorem XS.spo_w_chr (x : XS) (v : Nat → Option Nat) : (x.w_chr v).spo = x.spo := rfl
theorem XS.tk_w_chr (x : XS) (v : Nat → Option Nat) : (x.w_chr v).tk = x.tk := rfl
theorem XS.wi_w_chr (x : XS) (v : Nat → Option Nat) : (x.w_chr v).wi = x.wi := rfl
theorem XS.tr_w_chr (x : XS) (v : Nat → Option Nat) : (x.w_chr v).tr = x.tr := rfl
theorem XS.row_w_chr (x : XS) (v : Nat → Option Nat) : (x.w_chr v).row = x.row := rfl
theorem XS.uw_w_chr (x : XS) (v : Nat → Option Nat) : (x.w_chr v).uw = x.uw := rfl
theorem XS.ur_w_chr (x : XS) (v : Nat → Option Nat) : (x.w_chr v).ur = x.ur := rfl
theorem XS.la_w_chr (x : XS) (v : Nat → Option Nat) : (x.w_chr v).la = x.la := rfl
theorem XS.lr_w_chr (x : XS) (v : Nat → Option Nat) : (x.w_chr v).lr = x.lr := rfl
theorem XS.lb_w_chr (x : XS) (v : Nat → Option Nat) : (x.w_chr v).lb = x.lb := rfl
theorem XS.lg_w_chr (x : XS) (v : Nat → Option Nat) : (x.w_chr v).lg = x.lg := rfl
theorem XS.inb_w_chr (x : XS) (v : Nat → Option Nat) : (x.w_chr v).inb = x.inb := rfl
theorem XS.sw_w_chr (x : XS) (v : Nat → Option Nat) : (x.w_chr v).sw = x.sw := rfl
theorem XS.sr_w_chr (x : XS) (v : Nat → Option Nat) : (x.w_chr v).sr = x.sr := rfl
theorem XS.rnum_w_chr (x : XS) (v : Nat → Option Nat) : (x.w_chr v).rnum = x.rnum := rfl
theorem XS.lat_w_chr (x : XS) (v : Nat → Option Nat) : (x.w_chr v).lat = x.lat := rfl
theorem XS.chb_w_chr (x : XS) (v : Nat → Option Nat) : (x.w_chr v).chb = x.chb := rfl
theorem XS.chr_w_chr (x : XS) (v : Nat → Option Nat) : (x.w_chr v).chr = v := rfl
theorem XS.rgt_w_chr (x : XS) (v : Nat → Option Nat) : (x.w_chr v).rgt = x.rgt := rfl
theorem XS.mon_w_chr (x : XS) (v : Nat → Option Nat) : (x.w_chr v).mon = x.mon := rfl
theorem XS.err_w_chr (x : XS) (v : Nat → Option Nat) : (x.w_chr v).err = x.err := rfl
theorem XS.nm_w_rgt (x : XS) (v : Nat → Nat → Option (Nat × Nat)) : (x.w_rgt v).nm = x.nm := rfl
theorem XS.ns_w_rgt (x : XS) (v : Nat → Nat → Option (Nat × Nat)) : (x.w_rgt v).ns = x.ns := rfl
theorem XS.lim_w_rgt (x : XS) (v : Nat → Nat → Option (Nat × Nat)) : (x.w_rgt v).lim = x.lim := rfl
theorem XS.pol_w_rgt (x : XS) (v : Nat → Nat → Option (Nat × Nat)) : (x.w_rgt v).pol = x.pol := rfl
theorem XS.whole_w_rgt (x : XS) (v : Nat → Nat → Option (Nat × Nat)) : (x.w_rgt v).whole = x.whole := rfl
theorem XS.time_w_rgt (x : XS) (v : Nat → Nat → Option (Nat × Nat)) : (x.w_rgt v).time = x.time := rfl
theorem XS.dbeat_w_rgt (x : XS) (v : Nat → Nat → Option (Nat × Nat)) : (x.w_rgt v).dbeat = x.dbeat := rfl
theorem XS.moved_w_rgt (x : XS) (v : Nat → Nat → Option (Nat × Nat)) : (x.w_rgt v).moved = x.moved := rfl
theorem XS.pages_w_rgt (x : XS) (v : Nat → Nat → Option (Nat × Nat)) : (x.w_rgt v).pages = x.pages := rfl
theorem XS.mpat_w_rgt (x : XS) (v : Nat → Nat → Option (Nat × Nat)) : (x.w_rgt v).mpat = x.mpat := rfl
theorem XS.spat_w_rgt (x : XS) (v : Nat → Nat → Option (Nat × Nat)) : (x.w_rgt v).spat = x.spat := rfl
theorem XS.early_w_rgt (x : XS) (v : Nat → Nat → Option (Nat × Nat)) : (x.w_rgt v).early = x.early := rfl
theorem XS.delay_w_rgt (x : XS) (v : Nat → Nat → Option (Nat × Nat)) : (x.w_rgt v).delay = x.delay := rfl
theorem XS.way_w_rgt (x : XS) (v : Nat → Nat → Option (Nat × Nat)) : (x.w_rgt v).way = x.way := rfl
theorem XS.mem_w_rgt (x : XS) (v : Nat → Nat → Option (Nat × Nat)) : (x.w_rgt v).mem = x.mem := rfl
theorem XS.spo_w_rgt (x : XS) (v : Nat → Nat → Option (Nat × Nat)) : (x.w_rgt v).spo = x.spo := rfl
theorem XS.tk_w_rgt (x : XS) (v : Nat → Nat → Option (Nat × Nat)) : (x.w_rgt v).tk = x.tk := rfl
theorem XS.wi_w_rgt (x : XS) (v : Nat → Nat → Option (Nat × Nat)) : (x.w_rgt v).wi = x.wi := rfl
theorem XS.tr_w_rgt (x : XS) (v : Nat → Nat → Option (Nat × Nat)) : (x.w_rgt v).tr = x.tr := rfl
theorem XS.row_w_rgt (x : XS) (v : Nat → Nat → Option (Nat × Nat)) : (x.w_rgt v).row = x.row := rfl
theorem XS.uw_w_rgt (x : XS) (v : Nat → Nat → Option (Nat × Nat)) : (x.w_rgt v).uw = x.uw := rfl
theorem XS.ur_w_rgt (x : XS) (v : Nat → Nat → Option (Nat × Nat)) : (x.w_rgt v).ur = x.ur := rfl
theorem XS.la_w_rgt (x : XS) (v : Nat → Nat → Option (Nat × Nat)) : (x.w_rgt v).la = x.la := rfl
theorem XS.lr_w_rgt (x : XS) (v : Nat → Nat → Option (Nat × Nat)) : (x.w_rgt v).lr = x.lr := rfl
theorem XS.lb_w_rgt (x : XS) (v : Nat → Nat → Option (Nat × Nat)) : (x.w_rgt v).lb = x.lb := rfl
theorem XS.lg_w_rgt (x : XS) (v : Nat → Nat → Option (Nat × Nat)) : (x.w_rgt v).lg = x.lg := rfl
theorem XS.inb_w_rgt (x : XS) (v : Nat → Nat → Option (Nat × Nat)) : (x.w_rgt v).inb = x.inb := rfl
theorem XS.sw_w_rgt (x : XS) (v : Nat → Nat → Option (Nat × Nat)) : (x.w_rgt v).sw = x.sw := rfl
theorem XS.sr_w_rgt (x : XS) (v : Nat → Nat → Option (Nat × Nat)) : (x.w_rgt v).sr = x.sr := rfl
theorem XS.rnum_w_rgt (x : XS) (v : Nat → Nat → Option (Nat × Nat)) : (x.w_rgt v).rnum = x.rnum := rfl
theorem XS.lat_w_rgt (x : XS) (v : Nat → Nat → Option (Nat × Nat)) : (x.w_rgt v).lat = x.lat := rfl
theorem XS.chb_w_rgt (x : XS) (v : Nat → Nat → Option (Nat × Nat)) : (x.w_rgt v).chb = x.chb := rfl
theorem XS.chr_w_rgt (x : XS) (v : Nat → Nat → Option (Nat × Nat)) : (x.w_rgt v).chr = x.chr := rfl
theorem XS.rgt_w_rgt (x : XS) (v : Nat → Nat → Option (Nat × Nat)) : (x.w_rgt v).rgt = v := rfl
theorem XS.mon_w_rgt (x : XS) (v : Nat → Nat → Option (Nat × Nat)) : (x.w_rgt v).mon = x.mon := rfl
theorem XS.err_w_rgt (x : XS) (v : Nat → Nat → Option (Nat × Nat)) : (x.w_rgt v).err = x.err := rfl
theorem XS.nm_w_mon (x : XS) (v : Nat → MO) : (x.w_mon v).nm = x.nm := rfl
theorem XS.ns_w_mon (x : XS) (v : Nat → MO) : (x.w_mon v).ns = x.ns := rfl
theorem XS.lim_w_mon (x : XS) (v : Nat → MO) : (x.w_mon v).lim = x.lim := rfl
theorem XS.pol_w_mon (x : XS) (v : Nat → MO) : (x.w_mon v).pol = x.pol := rfl
theorem XS.whole_w_mon (x : XS) (v : Nat → MO) : (x.w_mon v).whole = x.whole := rfl
theorem XS.time_w_mon (x : XS) (v : Nat → MO) : (x.w_mon v).time = x.time := rfl
theorem XS.dbeat_w_mon (x : XS) (v : Nat → MO) : (x.w_mon v).dbeat = x.dbeat := rfl
theorem XS.moved_w_mon (x : XS) (v : Nat → MO) : (x.w_mon v).moved = x.moved := rfl
theorem XS.pages_w_mon (x : XS) (v : Nat → MO) : (x.w_mon v).pages = x.pages := rfl
theorem XS.mpat_w_mon (x : XS) (v : Nat → MO) : (x.w_mon v).mpat = x.mpat := rfl
theorem XS.spat_w_mon (x : XS) (v : Nat → MO) : (x.w_mon v).spat = x.spat := rfl
theorem XS.early_w_mon (x : XS) (v : Nat → MO) : (x.w_mon v).early = x.early := rfl
theorem XS.delay_w_mon (x : XS) (v : Nat → MO) : (x.w_mon v).delay = x.delay := rfl
theorem XS.way_w_mon (x : XS) (v : Nat → MO) : (x.w_mon v).way = x.way := rfl
theorem XS.mem_w_mon (x : XS) (v : Nat → MO) : (x.w_mon v).mem = x.mem := rfl
theorem XS.spo_w_mon (x : XS) (v : Nat → MO) : (x.w_mon v).spo = x.spo := rfl
theorem XS.tk_w_mon (x : XS) (v : Nat → MO) : (x.w_mon v).tk = x.tk := rfl
theorem XS.wi_w_mon (x : XS) (v : Nat → MO) : (x.w_mon v).wi = x.wi := rfl
theorem XS.tr_w_mon (x : XS) (v : Nat → MO) : (x.w_mon v).tr = x.tr := rfl
theorem XS.row_w_mon (x : XS) (v : Nat → MO) : (x.w_mon v).row = x.row := rfl
theorem XS.uw_w_mon (x : XS) (v : Nat → MO) : (x.w_mon v).uw = x.uw := rfl
theorem XS.ur_w_mon (x : XS) (v : Nat → MO) : (x.w_mon v).ur = x.ur := rfl
theorem XS.la_w_mon (x : XS) (v : Nat → MO) : (x.w_mon v).la = x.la := rfl
theorem XS.lr_w_mon (x : XS) (v : Nat → MO) : (x.w_mon v).lr = x.lr := rfl
theorem XS.lb_w_mon (x : XS) (v : Nat → MO) : (x.w_mon v).lb = x.lb := rfl
theorem XS.lg_w_mon (x : XS) (v : Nat → MO) : (x.w_mon v).lg = x.lg := rfl
theorem XS.inb_w_mon (x : XS) (v : Nat → MO) : (x.w_mon v).inb = x.inb := rfl
theorem XS.sw_w_mon (x : XS) (v : Nat → MO) : (x.w_mon v).sw = x.sw := rfl
theorem XS.sr_w_mon (x : XS) (v : Nat → MO) : (x.w_mon v).sr = x.sr := rfl
theorem XS.rnum_w_mon (x : XS) (v : Nat → MO) : (x.w_mon v).rnum = x.rnum := rfl
theorem XS.lat_w_mon (x : XS) (v : Nat → MO) : (x.w_mon v).lat = x.lat := rfl
theorem XS.chb_w_mon (x : XS) (v : Nat → MO) : (x.w_mon v).chb = x.chb := rfl
theorem XS.chr_w_mon (x : XS) (v : Nat → MO) : (x.w_mon v).chr = x.chr := rfl
theorem XS.rgt_w_mon (x : XS) (v : Nat → MO) : (x.w_mon v).rgt = x.rgt := rfl
theorem XS.mon_w_mon (x : XS) (v : Nat → MO) : (x.w_mon v).mon = v := rfl
theorem XS.err_w_mon (x : XS) (v : Nat → MO) : (x.w_mon v).err = x.err := rfl
theorem XS.nm_w_err (x : XS) (v : Nat) : (x.w_err v).nm = x.nm := rfl
theorem XS.ns_w_err (x : XS) (v : Nat) : (x.w_err v).ns = x.ns := rfl
theorem XS.lim_w_err (x : XS) (v : Nat) : (x.w_err v).lim = x.lim := rfl
theorem XS.pol_w_err (x : XS) (v : Nat) : (x.w_err v).pol = x.pol := rfl
theorem XS.whole_w_err (x : XS) (v : Nat) : (x.w_err v).whole = x.whole := rfl
theorem XS.time_w_err (x : XS) (v : Nat) : (x.w_err v).time = x.time := rfl
theorem XS.dbeat_w_err (x : XS) (v : Nat) : (x.w_err v).dbeat = x.dbeat := rfl
theorem XS.moved_w_err (x : XS) (v : Nat) : (x.w_err v).moved = x.moved := rfl
theorem XS.pages_w_err (x : XS) (v : Nat) : (x.w_err v).pages = x.pages := rfl
theorem XS.mpat_w_err (x : XS) (v : Nat) : (x.w_err v).mpat = x.mpat := rfl
theorem XS.spat_w_err (x : XS) (v : Nat) : (x.w_err v).spat = x.spat := rfl
theorem XS.early_w_err (x : XS) (v : Nat) : (x.w_err v).early = x.early := rfl
theorem XS.delay_w_err (x : XS) (v : Nat) : (x.w_err v).delay = x.delay := rfl
theorem XS.way_w_err (x : XS) (v : Nat) : (x.w_err v).way = x.way := rfl
theorem XS.mem_w_err (x : XS) (v : Nat) : (x.w_err v).mem = x.mem := rfl
theorem XS.spo_w_err (x : XS) (v : Nat) : (x.w_err v).spo = x.spo := rfl
theorem XS.tk_w_err (x : XS) (v : Nat) : (x.w_err v).tk = x.tk := rfl
theorem XS.wi_w_err (x : XS) (v : Nat) : (x.w_err v).wi = x.wi := rfl
theorem XS.tr_w_err (x : XS) (v : Nat) : (x.w_err v).tr = x.tr := rfl
theorem XS.row_w_err (x : XS) (v : Nat) : (x.w_err v).row = x.row := rfl
theorem XS.uw_w_err (x : XS) (v : Nat) : (x.w_err v).uw = x.uw := rfl
theorem XS.ur_w_err (x : XS) (v : Nat) : (x.w_err v).ur = x.ur := rfl
theorem XS.la_w_err (x : XS) (v : Nat) : (x.w_err v).la = x.la := rfl
theorem XS.lr_w_err (x : XS) (v : Nat) : (x.w_err v).lr = x.lr := rfl
theorem XS.lb_w_err (x : XS) (v : Nat) : (x.w_err v).lb = x.lb := rfl
theorem XS.lg_w_err (x : XS) (v : Nat) : (x.w_err v).lg = x.lg := rfl
theorem XS.inb_w_err (x : XS) (v : Nat) : (x.w_err v).inb = x.inb := rfl
theorem XS.sw_w_err (x : XS) (v : Nat) : (x.w_err v).sw = x.sw := rfl
theorem XS.sr_w_err (x : XS) (v : Nat) : (x.w_err v).sr = x.sr := rfl
theorem XS.rnum_w_err (x : XS) (v : Nat) : (x.w_err v).rnum = x.rnum := rfl
theorem XS.lat_w_err (x : XS) (v : Nat) : (x.w_err v).lat = x.lat := rfl
theorem XS.chb_w_err (x : XS) (v : Nat) : (x.w_err v).chb = x.chb := rfl
theorem XS.chr_w_err (x : XS) (v : Nat) : (x.w_err v).chr = x.chr := rfl
theorem XS.rgt_w_err (x : XS) (v : Nat) : (x.w_err v).rgt = x.rgt := rfl
theorem XS.mon_w_err (x : XS) (v : Nat) : (x.w_err v).mon = x.mon := rfl
theorem XS.err_w_err (x : XS) (v : Nat) : (x.w_err v).err = v := rfl
theorem XS.w_nm_w_nm (x : XS) (u v : Nat) : (x.w_nm u).w_nm v = x.w_nm v := by unfold XS.w_nm XS.up; funext i; split <;> rfl
theorem XS.w_ns_w_ns (x : XS) (u v : Nat) : (x.w_ns u).w_ns v = x.w_ns v := by unfold XS.w_ns XS.up; funext i; split <;> rfl
theorem XS.w_lim_w_lim (x : XS) (u v : Nat) : (x.w_lim u).w_lim v = x.w_lim v := by unfold XS.w_lim XS.up; funext i; split <;> rfl
theorem XS.w_pol_w_pol (x : XS) (u v : Nat) : (x.w_pol u).w_pol v = x.w_pol v := by unfold XS.w_pol XS.up; funext i; split <;> rfl
theorem XS.w_whole_w_whole (x : XS) (u v : Bool) : (x.w_whole u).w_whole v = x.w_whole v := by unfold XS.w_whole XS.up; funext i; split <;> rfl
theorem XS.w_time_w_time (x : XS) (u v : Nat) : (x.w_time u).w_time v = x.w_time v := by unfold XS.w_time XS.up; funext i; split <;> rfl
theorem XS.w_dbeat_w_dbeat (x : XS) (u v : Nat) : (x.w_dbeat u).w_dbeat v = x.w_dbeat v := by unfold XS.w_dbeat XS.up; funext i; split <;> rfl
theorem XS.w_moved_w_moved (x : XS) (u v : Nat) : (x.w_moved u).w_moved v = x.w_moved v := by unfold XS.w_moved XS.up; funext i; split <;> rfl
theorem XS.w_pages_w_pages (x : XS) (u v : Nat → Nat) : (x.w_pages u).w_pages v = x.w_pages v := by unfold XS.w_pages XS.up; funext i; split <;> rfl
theorem XS.w_mpat_w_mpat (x : XS) (u v : Nat → Nat → Nat) : (x.w_mpat u).w_mpat v = x.w_mpat v := by unfold XS.w_mpat XS.up; funext i; split <;> rfl
theorem XS.w_spat_w_spat (x : XS) (u v : Nat → Nat → Nat) : (x.w_spat u).w_spat v = x.w_spat v := by unfold XS.w_spat XS.up; funext i; split <;> rfl
theorem XS.w_early_w_early (x : XS) (u v : Nat → Bool) : (x.w_early u).w_early v = x.w_early v := by unfold XS.w_early XS.up; funext i; split <;> rfl
theorem XS.w_delay_w_delay (x : XS) (u v : Nat → Nat) : (x.w_delay u).w_delay v = x.w_delay v := by unfold XS.w_delay XS.up; funext i; split <;> rfl
theorem XS.w_way_w_way (x : XS) (u v : Nat → Nat) : (x.w_way u).w_way v = x.w_way v := by unfold XS.w_way XS.up; funext i; split <;> rfl
theorem XS.w_mem_w_mem (x : XS) (u v : Nat → Nat) : (x.w_mem u).w_mem v = x.w_mem v := by unfold XS.w_mem XS.up; funext i; split <;> rfl
theorem XS.w_spo_w_spo (x : XS) (u v : Nat → Bool) : (x.w_spo u).w_spo v = x.w_spo v := by unfold XS.w_spo XS.up; funext i; split <;> rfl
theorem XS.w_tk_w_tk (x : XS) (u v : List TK) : (x.w_tk u).w_tk v = x.w_tk v := by unfold XS.w_tk XS.up; funext i; split <;> rfl
theorem XS.w_wi_w_wi (x : XS) (u v : Nat → WI) : (x.w_wi u).w_wi v = x.w_wi v := by unfold XS.w_wi XS.up; funext i; split <;> rfl
theorem XS.w_tr_w_tr (x : XS) (u v : Nat → Nat → Int32) : (x.w_tr u).w_tr v = x.w_tr v := by unfold XS.w_tr XS.up; funext i; split <;> rfl
theorem XS.w_row_w_row (x : XS) (u v : Nat → List RE) : (x.w_row u).w_row v = x.w_row v := by unfold XS.w_row XS.up; funext i; split <;> rfl
theorem XS.w_uw_w_uw (x : XS) (u v : List UE) : (x.w_uw u).w_uw v = x.w_uw v := by unfold XS.w_uw XS.up; funext i; split <;> rfl
theorem XS.w_ur_w_ur (x : XS) (u v : List UE) : (x.w_ur u).w_ur v = x.w_ur v := by unfold XS.w_ur XS.up; funext i; split <;> rfl
theorem XS.w_la_w_la (x : XS) (u v : Nat → Option Nat) : (x.w_la u).w_la v = x.w_la v := by unfold XS.w_la XS.up; funext i; split <;> rfl
theorem XS.w_lr_w_lr (x : XS) (u v : Nat → Option Nat) : (x.w_lr u).w_lr v = x.w_lr v := by unfold XS.w_lr XS.up; funext i; split <;> rfl
theorem XS.w_lb_w_lb (x : XS) (u v : Nat → Option Nat) : (x.w_lb u).w_lb v = x.w_lb v := by unfold XS.w_lb XS.up; funext i; split <;> rfl
theorem XS.w_lg_w_lg (x : XS) (u v : Nat → Option Nat) : (x.w_lg u).w_lg v = x.w_lg v := by unfold XS.w_lg XS.up; funext i; split <;> rfl
theorem XS.w_inb_w_inb (x : XS) (u v : Nat → Bool) : (x.w_inb u).w_inb v = x.w_inb v := by unfold XS.w_inb XS.up; funext i; split <;> rfl
theorem XS.w_sw_w_sw (x : XS) (u v : Nat → List WE) : (x.w_sw u).w_sw v = x.w_sw v := by unfold XS.w_sw XS.up; funext i; split <;> rfl
theorem XS.w_sr_w_sr (x : XS) (u v : Nat → List QE) : (x.w_sr u).w_sr v = x.w_sr v := by unfold XS.w_sr XS.up; funext i; split <;> rfl
theorem XS.w_rnum_w_rnum (x : XS) (u v : Nat → Nat) : (x.w_rnum u).w_rnum v = x.w_rnum v := by unfold XS.w_rnum XS.up; funext i; split <;> rfl
theorem XS.w_lat_w_lat (x : XS) (u v : Nat → Option (Nat × Nat)) : (x.w_lat u).w_lat v = x.w_lat v := by unfold XS.w_lat XS.up; funext i; split <;> rfl
theorem XS.w_chb_w_chb (x : XS) (u v : Nat → Option Nat) : (x.w_chb u).w_chb v = x.w_chb v := by unfold XS.w_chb XS.up; funext i; split <;> rfl
theorem XS.w_chr_w_chr (x : XS) (u v : Nat → Option Nat) : (x.w_chr u).w_chr v = x.w_chr v := by unfold XS.w_chr XS.up; funext i; split <;> rfl
theorem XS.w_rgt_w_rgt (x : XS) (u v : Nat → Nat → Option (Nat × Nat)) : (x.w_rgt u).w_rgt v = x.w_rgt v := by unfold XS.w_rgt XS.up; funext i; split <;> rfl
theorem XS.w_mon_w_mon (x : XS) (u v : Nat → MO) : (x.w_mon u).w_mon v = x.w_mon v := by unfold XS.w_mon XS.up; funext i; split <;> rfl
theorem XS.w_err_w_err (x : XS) (u v : Nat) : (x.w_err u).w_err v = x.w_err v := by unfold XS.w_err XS.up; funext i; split <;> rfl
theorem XS.w_nm_self (x : XS) : x.w_nm x.nm = x := by
  unfold XS.w_nm XS.up XS.nm
  funext i
  split
  · rename_i h
    subst h
    rfl
  · rfl
theorem XS.w_ns_self (x : XS) : x.w_ns x.ns = x := by
  unfold XS.w_ns XS.up XS.ns
  funext i
  split
  · rename_i h
    subst h
    rfl
  · rfl
theorem XS.w_lim_self (x : XS) : x.w_lim x.lim = x := by
  unfold XS.w_lim XS.up XS.lim
  funext i
  split
  · rename_i h
    subst h
    rfl
  · rfl
theorem XS.w_pol_self (x : XS) : x.w_pol x.pol = x := by
  unfold XS.w_pol XS.up XS.pol
  funext i
  split
  · rename_i h
    subst h
    rfl
  · rfl
theorem XS.w_whole_self (x : XS) : x.w_whole x.whole = x := by
  unfold XS.w_whole XS.up XS.whole
  funext i
  split
  · rename_i h
    subst h
    rfl
  · rfl
theorem XS.w_time_self (x : XS) : x.w_time x.time = x := by
  unfold XS.w_time XS.up XS.time
  funext i
  split
  · rename_i h
    subst h
    rfl
  · rfl
theorem XS.w_dbeat_self (x : XS) : x.w_dbeat x.dbeat = x := by
  unfold XS.w_dbeat XS.up XS.dbeat
  funext i
  split
  · rename_i h
    subst h
    rfl
  · rfl
theorem XS.w_moved_self (x : XS) : x.w_moved x.moved = x := by
  unfold XS.w_moved XS.up XS.moved
  funext i
  split
  · rename_i h
    subst h
    rfl
  · rfl
theorem XS.w_pages_self (x : XS) : x.w_pages x.pages = x := by
  unfold XS.w_pages XS.up XS.pages
  funext i
  split
  · rename_i h
    subst h
    rfl
  · rfl
theorem XS.w_mpat_self (x : XS) : x.w_mpat x.mpat = x := by
  unfold XS.w_mpat XS.up XS.mpat
  funext i
  split
  · rename_i h
    subst h
    rfl
  · rfl
theorem XS.w_spat_self (x : XS) : x.w_spat x.spat = x := by
  unfold XS.w_spat XS.up XS.spat
  funext i
  split
  · rename_i h
    subst h
    rfl
  · rfl
theorem XS.w_early_self (x : XS) : x.w_early x.early = x := by
  unfold XS.w_early XS.up XS.early
  funext i
  split
  · rename_i h
    subst h
    rfl
  · rfl
theorem XS.w_delay_self (x : XS) : x.w_delay x.delay = x := by
  unfold XS.w_delay XS.up XS.delay
  funext i
  split
  · rename_i h
    subst h
    rfl
  · rfl
theorem XS.w_way_self (x : XS) : x.w_way x.way = x := by
  unfold XS.w_way XS.up XS.way
  funext i
  split
  · rename_i h
    subst h
    rfl
  · rfl
theorem XS.w_mem_self (x : XS) : x.w_mem x.mem = x := by
  unfold XS.w_mem XS.up XS.mem
  funext i
  split
  · rename_i h
    subst h
    rfl
  · rfl
theorem XS.w_spo_self (x : XS) : x.w_spo x.spo = x := by
  unfold XS.w_spo XS.up XS.spo
  funext i
  split
  · rename_i h
    subst h
    rfl
  · rfl
theorem XS.w_tk_self (x : XS) : x.w_tk x.tk = x := by
  unfold XS.w_tk XS.up XS.tk
  funext i
  split
  · rename_i h
    subst h
    rfl
  · rfl
theorem XS.w_wi_self (x : XS) : x.w_wi x.wi = x := by
  unfold XS.w_wi XS.up XS.wi
  funext i
  split
  · rename_i h
    subst h
    rfl
  · rfl
theorem XS.w_tr_self (x : XS) : x.w_tr x.tr = x := by
  unfold XS.w_tr XS.up XS.tr
  funext i
  split
  · rename_i h
    subst h
    rfl
  · rfl
theorem XS.w_row_self (x : XS) : x.w_row x.row = x := by
  unfold XS.w_row XS.up XS.row
  funext i
  split
  · rename_i h
    subst h
    rfl
  · rfl
theorem XS.w_uw_self (x : XS) : x.w_uw x.uw = x := by
  unfold XS.w_uw XS.up XS.uw
  funext i
  split
  · rename_i h
    subst h
    rfl
  · rfl
theorem XS.w_ur_self (x : XS) : x.w_ur x.ur = x := by
  unfold XS.w_ur XS.up XS.ur
  funext i
  split
  · rename_i h
    subst h
    rfl
  · rfl
theorem XS.w_la_self (x : XS) : x.w_la x.la = x := by
  unfold XS.w_la XS.up XS.la
  funext i
  split
  · rename_i h
    subst h
    rfl
  · rfl
theorem XS.w_lr_self (x : XS) : x.w_lr x.lr = x := by
  unfold XS.w_lr XS.up XS.lr
  funext i
  split
  · rename_i h
    subst h
    rfl
  · rfl
theorem XS.w_lb_self (x : XS) : x.w_lb x.lb = x := by
  unfold XS.w_lb XS.up XS.lb
  funext i
  split
  · rename_i h
    subst h
    rfl
  · rfl
theorem XS.w_lg_self (x : XS) : x.w_lg x.lg = x := by
  unfold XS.w_lg XS.up XS.lg
  funext i
  split
  · rename_i h
    subst h
    rfl
  · rfl
theorem XS.w_inb_self (x : XS) : x.w_inb x.inb = x := by
  unfold XS.w_inb XS.up XS.inb
  funext i
  split
  · rename_i h
    subst h
    rfl
  · rfl
theorem XS.w_sw_self (x : XS) : x.w_sw x.sw = x := by
  unfold XS.w_sw XS.up XS.sw
  funext i
  split
  · rename_i h
    subst h
    rfl
  · rfl
theorem XS.w_sr_self (x : XS) : x.w_sr x.sr = x := by
  unfold XS.w_sr XS.up XS.sr
  funext i
  split
  · rename_i h
    subst h
    rfl
  · rfl
theorem XS.w_rnum_self (x : XS) : x.w_rnum x.rnum = x := by
  unfold XS.w_rnum XS.up XS.rnum
  funext i
  split
  · rename_i h
    subst h
    rfl
  · rfl
theorem XS.w_lat_self (x : XS) : x.w_lat x.lat = x := by
  unfold XS.w_lat XS.up XS.lat
  funext i
  split
  · rename_i h
    subst h
    rfl
  · rfl
theorem XS.w_chb_self (x : XS) : x.w_chb x.chb = x := by
  unfold XS.w_chb XS.up XS.chb
  funext i
  split
  · rename_i h
    subst h
    rfl
  · rfl
theorem XS.w_chr_self (x : XS) : x.w_chr x.chr = x := by
  unfold XS.w_chr XS.up XS.chr
  funext i
  split
  · rename_i h
    subst h
    rfl
  · rfl
theorem XS.w_rgt_self (x : XS) : x.w_rgt x.rgt = x := by
  unfold XS.w_rgt XS.up XS.rgt
  funext i
  split
  · rename_i h
    subst h
    rfl
  · rfl
theorem XS.w_mon_self (x : XS) : x.w_mon x.mon = x := by
  unfold XS.w_mon XS.up XS.mon
  funext i
  split
  · rename_i h
    subst h
    rfl
  · rfl
theorem XS.w_err_self (x : XS) : x.w_err x.err = x := by
  unfold XS.w_err XS.up XS.err
  funext i
  split
  · rename_i h
    subst h
    rfl
  · rfl
theorem XS.up_comm (x : XS) {k l : Nat} (h : k ≠ l) (u : XF k) (v : XF l) : (x.up k u).up l v = (x.up l v).up k u := by
  unfold XS.up
  funext i
  by_cases h1 : i = k
  · subst h1
    simp [h]
  · by_cases h2 : i = l
    · subst h2
      simp [h1]
    · simp [h1, h2]
def on (p t : Nat) : Bool := Nat.testBit p (t % 16)
def roomN (c : Nat) : Nat := if c = 1 ∨ c = 4 then 4 else 2
def WV0 : WV := ⟨false, 0, 0⟩
def WI0 : WI := ⟨fun _ => WV0, fun _ => false⟩
def hdW (x : WI) (c : Nat) : Bool := (x.w c).v && !(x.rd c)
def mvW (x : WI) (c : Nat) : Bool := (x.w c).v && x.rd c
def rowW : List RE → WV
  | [] => WV0
  | e :: _ => ⟨true, e.c, e.r⟩
def XS.hasRm (S : XS) (i : Nat) : Bool := decide ((S.row i).length < roomN (i % 5))
def XS.tgt (S : XS) (c : Int64) : Nat := S.pages (adN c / 4096)
/-- tickets by what they wait for -/
def isUns (m : Nat) (wr : Bool) (t : TK) : Bool := decide (t.m = m) && (t.wr == wr) && decide (t.sent = m1)
def isUnf (m : Nat) (t : TK) : Bool := decide (t.m = m) && t.wr && decide (t.beats < leN t.con)
def isAns (m : Nat) (wr : Bool) (id : Nat) (t : TK) : Bool := decide (t.m = m) && (t.wr == wr) && decide (idN t.con = id) && !decide (t.sent = m1) && decide (t.done = m1)
def isOpn (t : TK) : Bool := decide (t.done = m1)
def XS.opn (S : XS) : Nat := S.tk.countP isOpn
/-- a master's wires -/
def XS.adrW (S : XS) (m c : Nat) (wr : Bool) : WV :=
  if hdW (S.wi m) c = true then (S.wi m).w c
  else match S.tk.find? (isUns m wr) with
    | some t => if on (S.mpat m c) S.time = true then ⟨true, t.con, 0⟩ else WV0
    | none => WV0
def XS.datW (S : XS) (m : Nat) : WV :=
  if hdW (S.wi m) 1 = true then (S.wi m).w 1
  else match S.tk.find? (isUnf m) with
    | some t => if on (S.mpat m 1) S.time = true ∧ (S.early m = true ∨ t.sent ≠ m1) then ⟨true, t.dat t.beats, t.rst t.beats⟩ else WV0
    | none => WV0
def XS.showM (S : XS) (m : Nat) : WI := ⟨
  fun c => if c = 0 then S.adrW m 0 true else if c = 1 then S.datW m else if c = 3 then S.adrW m 3 false else rowW (S.row (5 * m + c)),
  fun c => if c = 2 ∨ c = 4 then on (S.mpat m c) S.time else S.hasRm (5 * m + c)⟩
/-- what a slave chooses -/
def frsN (p : Nat → Bool) (n : Nat) : Option Nat := (List.range n).find? p
def lstN (p : Nat → Bool) : Nat → Option Nat
  | 0 => none
  | n + 1 => if p n = true then some n else lstN p n
def XS.ripeW (S : XS) (s : Nat) (e : WE) : Bool := decide (e.got = leN e.con) && decide (e.since + S.delay s < S.time)
def XS.ripeR (S : XS) (s : Nat) (e : QE) : Bool := decide (e.since + S.delay s < S.time)
def fstId (ids : List Nat) (i : Nat) : Bool := (List.range i).all fun j => decide (ids[j]? ≠ ids[i]?)
def XS.canW (S : XS) (s i : Nat) : Bool := match (S.sw s)[i]? with
  | none => false
  | some e => S.ripeW s e && (if S.way s = 0 then decide (i = 0) else fstId ((S.sw s).map fun e => idN e.con) i)
def XS.canR (S : XS) (s i : Nat) : Bool := match (S.sr s)[i]? with
  | none => false
  | some e => S.ripeR s e && (if S.way s = 0 then decide (i = 0) else fstId ((S.sr s).map fun e => idN e.con) i)
def XS.chW (S : XS) (s : Nat) : Option Nat := lstN (S.canW s) (S.sw s).length
def XS.begun (S : XS) (s i : Nat) : Bool := S.canR s i && (match (S.sr s)[i]? with
  | none => false
  | some e => decide (0 < e.got))
def XS.behind (S : XS) (s i : Nat) : Bool := S.canR s i && (match (S.sr s)[i]?, S.lat s with
  | none, _ => false
  | some _, none => true
  | some e, some l => decide (l.2 < e.num))
def XS.chR (S : XS) (s : Nat) : Option Nat :=
  if S.way s = 2 then (frsN (S.behind s) (S.sr s).length).or (frsN (S.canR s) (S.sr s).length)
  else if S.way s = 1 then (frsN (S.begun s) (S.sr s).length).or (lstN (S.canR s) (S.sr s).length)
  else lstN (S.canR s) (S.sr s).length
def XS.chB' (S : XS) (s : Nat) : Option Nat := if hdW (S.wi (4 + s)) 2 = true then S.chb s else if on (S.spat s 2) S.time = true then S.chW s else none
def XS.chR' (S : XS) (s : Nat) : Option Nat := if hdW (S.wi (4 + s)) 4 = true then S.chr s else if on (S.spat s 4) S.time = true then S.chR s else none
def ansR (id resp : Nat) (last : Bool) : Nat := id + 64 * resp + (if last = true then 256 else 0)
def wvB (e : WE) : WV := ⟨true, 0, nI (ansR (idN e.con) e.resp false)⟩
def wvR (e : QE) : WV := ⟨true, e.dat e.got, nI (ansR (idN e.con) (e.rsp e.got) (decide (e.got = leN e.con - 1)))⟩
def XS.wB (S : XS) (s : Nat) : WV := if hdW (S.wi (4 + s)) 2 = true then (S.wi (4 + s)).w 2 else match (S.chB' s).bind (fun i => (S.sw s)[i]?) with
  | some e => wvB e
  | none => WV0
def XS.wR (S : XS) (s : Nat) : WV := if hdW (S.wi (4 + s)) 4 = true then (S.wi (4 + s)).w 4 else match (S.chR' s).bind (fun i => (S.sr s)[i]?) with
  | some e => wvR e
  | none => WV0
def lacks (l : List WE) : Bool := l.any fun e => decide (e.got < leN e.con)
def XS.showS (S : XS) (s : Nat) : WI := ⟨
  fun c => if c = 2 then S.wB s else if c = 4 then S.wR s else rowW (S.row (5 * (4 + s) + c)),
  fun c => if c = 0 then on (S.spat s 0) S.time && decide ((S.sw s).length < 4)
    else if c = 1 then on (S.spat s 1) S.time && lacks (S.sw s)
    else if c = 3 then on (S.spat s 3) S.time && decide ((S.sr s).length < 4)
    else S.hasRm (5 * (4 + s) + c)⟩
/-- monitors -/
def isMwA (id : Nat) (e : MW) : Bool := e.has && e.last && decide (idN e.con = id)
def rId (r : Int32) : Nat := r.toBitVec.toNat % 64
def rRe (r : Int32) : Nat := r.toBitVec.toNat / 64 % 4
def rLa (r : Int32) : Bool := decide (r.toBitVec.toNat / 256 % 2 = 1)
def rSt (r : Int32) : Nat := r.toBitVec.toNat % 256
def MO.look1 (o : MO) (c : Nat) (w : WV) : Nat :=
  if o.held c = true then
    if w.v = false then 1 else if w.c = o.hc c ∧ w.r = o.hr c then 0 else 2
  else if w.v = false then 0
  else if c = 0 ∨ c = 3 then ruN w.c
  else if c = 2 then match o.ws.find? (isMwA (rId w.r)) with
    | none => 9
    | some e => if rRe w.r = 1 ∧ exN e.con = 0 then 11 else 0
  else if c = 4 then match o.rs.find? (fun e => decide (idN e.con = rId w.r)) with
    | none => 10
    | some e => if decide (e.n = leN e.con - 1) ≠ rLa w.r then 7 else if rRe w.r = 1 ∧ exN e.con = 0 then 11 else 0
  else 0
def MO.note (o : MO) (x c : Nat) : MO := if o.rule = 0 ∧ x ≠ 0 then (((o.w_rule (x)).w_chan (nI c)).w_tick (o.ticks)) else o
/-- the first channel from c on that breaks a rule -/
def MO.lookF (o : MO) (w : Nat → WV) : Nat → Nat → MO
  | 0, _ => o
  | d + 1, c => MO.lookF (o.note (if o.rule = 0 then o.look1 c (w c) else 0) c) w d (c + 1)
def MO.goB (o : MO) (r : Int32) : MO := (o.w_ws (o.ws.eraseP (isMwA (rId r))))
def bumpR (id : Nat) : List MR → List MR
  | [] => []
  | e :: l => if idN e.con = id then (if e.n + 1 = leN e.con then l else (e.w_n (e.n + 1)) :: l) else e :: bumpR id l
def MO.goR (o : MO) (r : Int32) : MO := (o.w_rs (bumpR (rId r) o.rs))
def MO.goAr (o : MO) (c : Int64) : MO := if o.rs.length = 16 then o.note 12 3 else (o.w_rs (o.rs ++ [⟨c, 0⟩]))
def badB (e : MW) (k : Nat) : Nat :=
  if decide (k = leN e.con - 1) ≠ rLa (e.rst k) ∨ leN e.con ≤ k then 7
  else if rSt (e.rst k) &&& (255 ^^^ laN (baN e.con k) (szN e.con)) ≠ 0 then 8 else 0
def badAll (e : MW) : Nat → Nat → Nat
  | 0, _ => 0
  | d + 1, k => if badB e k ≠ 0 then badB e k else badAll e d (k + 1)
def mw0 : MW := ⟨false, 0, 0, fun _ => 0, false⟩
/-- the first that fits, or a new one at the end -/
def MO.goAw (o : MO) (c : Int64) : MO :=
  match o.ws.findIdx? (fun e => !e.has) with
  | some i => match o.ws[i]? with
    | some e => let e' := ((e.w_has (true)).w_con (c)); (o.w_ws (o.ws.set i e')).note (badAll e' e'.n 0) 0
    | none => o
  | none => if o.ws.length = 16 then o.note 12 0 else (o.w_ws (o.ws ++ [((mw0.w_has (true)).w_con (c))]))
def MW.beat (e : MW) (r : Int32) : MW := (((e.w_n (e.n + 1)).w_rst (va_up e.rst e.n r)).w_last (rLa r))
def MO.goW (o : MO) (r : Int32) : MO :=
  match o.ws.findIdx? (fun e => !e.last) with
  | some i => match o.ws[i]? with
    | some e => if e.n = 16 then o.note 7 1 else
      let e' := e.beat r; (o.w_ws (o.ws.set i e')).note (if e'.has = true then badB e' (e'.n - 1) else 0) 1
    | none => o
  | none => if o.ws.length = 16 then o.note 12 1 else (o.w_ws (o.ws ++ [mw0.beat r]))
def MO.go1 (o : MO) (x : WI) : MO := if mvW x 2 = true then o.goB (x.w 2).r else o
def MO.go2 (o : MO) (x : WI) : MO := if mvW x 4 = true then o.goR (x.w 4).r else o
def MO.go3 (o : MO) (x : WI) : MO := if mvW x 3 = true then o.goAr (x.w 3).c else o
def MO.go4 (o : MO) (x : WI) : MO := if o.rule = 0 ∧ mvW x 0 = true then o.goAw (x.w 0).c else o
def MO.go5 (o : MO) (x : WI) : MO := if o.rule = 0 ∧ mvW x 1 = true then o.goW (x.w 1).r else o
def MO.go (o : MO) (x : WI) : MO := if o.rule = 0 then ((((o.go1 x).go2 x).go3 x).go4 x).go5 x else o
def MO.rem (o : MO) (x : WI) : MO := ((((o.w_held (fun c => hdW x c)).w_hc (fun c => (x.w c).c)).w_hr (fun c => (x.w c).r)).w_ticks (o.ticks + 1))
def MO.look (o : MO) (x : WI) : MO := ((o.lookF x.w 5 0).go x).rem x
def MO0 : MO := ⟨[], [], fun _ => false, fun _ => 0, fun _ => 0, 0, m1, m1, 0⟩
/-- what a write's beats hold -/
def mskF (lanes : Nat) : Nat → Nat → Int64 → Int64
  | 0, _, a => a
  | d + 1, i, a => mskF lanes d (i + 1) (if Nat.testBit lanes i = true then a ||| ((255 : Int64) <<< nL (8 * i)) else a)
def mskL (lanes : Nat) : Int64 := mskF lanes 8 0 0
def lcg (x : Int64) : Int64 := x * 6364136223846793005 + 1442695040888963407
def itN {α : Type} (f : α → α) : Nat → α → α
  | 0, x => x
  | n + 1, x => itN f n (f x)
theorem itN_1 {α : Type} (f : α → α) (x : α) : itN f 1 x = f x := rfl
theorem itN_s {α : Type} (f : α → α) (n : Nat) (x : α) : itN f (n + 1) x = itN f n (f x) := rfl
def lcgN (n : Nat) (x : Int64) : Int64 := itN lcg n x
theorem lcgN_1 (x : Int64) : lcgN 1 x = lcg x := itN_1 lcg x
theorem lcgN_s (n : Nat) (x : Int64) : lcgN (n + 1) x = lcgN n (lcg x) := itN_s lcg n x
def gdat (c : Int64) (k : Nat) (x : Int64) : Int64 := x &&& mskL (laN (baN c k) (szN c))
def grst (c : Int64) (k : Nat) (sp : Bool) (x : Int64) : Int32 := nI ((if sp = true then laN (baN c k) (szN c) &&& (uN x / 2 ^ 56) else laN (baN c k) (szN c)) + if k = leN c - 1 then 256 else 0)
def XS.setW (S : XS) (p k : Nat) (x : WV) : XS := (S.w_wi (va_up S.wi p ((S.wi p).w_w (va_up (S.wi p).w k x))))
def XS.setR (S : XS) (p k : Nat) (x : Bool) : XS := (S.w_wi (va_up S.wi p ((S.wi p).w_rd (va_up (S.wi p).rd k x))))
/-- transfers at a master's port -/
def XS.setRow (S : XS) (i : Nat) (l : List RE) : XS := (S.w_row (va_up S.row i l))
def XS.put (S : XS) (i : Nat) (e : RE) : XS := S.setRow i (S.row i ++ [e])
def XS.drop (S : XS) (i : Nat) : XS := S.setRow i (S.row i).tail
def updF {α : Type} (p : α → Bool) (f : α → α) : List α → List α
  | [] => []
  | x :: l => if p x = true then f x :: l else x :: updF p f l
def XS.passM (S : XS) (m c : Nat) : XS :=
  let w := (S.wi m).w c
  if c = 0 ∨ c = 3 then (((S.put (5 * m + c) ⟨w.c, w.r, S.time⟩)).w_tk (updF (isUns m (decide (c = 0))) (fun t => (t.w_sent (nI S.time))) S.tk))
  else if c = 1 then (((S.put (5 * m + c) ⟨w.c, w.r, S.time⟩)).w_tk (updF (isUnf m) (fun t => ((t.w_beats (t.beats + 1)).w_seed (lcg t.seed))) S.tk))
  else if c = 2 then (((S.drop (5 * m + c))).w_tk (updF (isAns m true (rId w.r)) (fun t => ((t.w_resp (rRe w.r)).w_done (nI S.time))) S.tk))
  else (((S.drop (5 * m + c))).w_tk (updF (isAns m false (rId w.r)) (fun t => ((((t.w_dat (va_up t.dat t.beats w.c)).w_beats (t.beats + 1)).w_resp (max t.resp (rRe w.r))).w_done (if t.beats + 1 = leN t.con then nI S.time else m1))) S.tk))
/-- memory: what a write does -/
def byN (d : Int64) (i : Nat) : Nat := uN d / 2 ^ (8 * i) % 256
def spoB (spo : Nat → Bool) (x st : Nat) : Bool := (List.range 8).any fun i => Nat.testBit st i && spo (x - x % 8 + i)
def badW (spo : Nat → Bool) (e : WE) : Bool := (List.range (leN e.con)).any fun k => spoB spo (baN e.con k) (rSt (e.rst k))
def stB (mem : Nat → Nat) (x st : Nat) (d : Int64) : Nat → Nat := fun y => if y / 8 = x / 8 ∧ Nat.testBit st (y % 8) = true then byN d (y % 8) else mem y
def stN (e : WE) : Nat → (Nat → Nat) → (Nat → Nat)
  | 0, mem => mem
  | k + 1, mem => stB (stN e k mem) (baN e.con k) (rSt (e.rst k)) (e.dat k)
def hitB (a b x st : Nat) : Bool := (List.range 8).any fun i => Nat.testBit st i && decide (a ≤ x - x % 8 + i) && decide (x - x % 8 + i < a + b)
def rgN (e : WE) : Nat → (Nat → Option (Nat × Nat)) → (Nat → Option (Nat × Nat))
  | 0, g => g
  | k + 1, g => fun j => match rgN e k g j with
    | none => none
    | some q => if hitB q.1 q.2 (baN e.con k) (rSt (e.rst k)) = true then none else some q
def XS.doWrite (S : XS) (s : Nat) (e : WE) : XS × Nat :=
  let ex := decide (exN e.con = 1)
  let has := decide (S.rgt s (idN e.con) = some (adN e.con, leN e.con * szN e.con))
  let g := if ex = true then va_up (S.rgt s) (idN e.con) none else S.rgt s
  if badW S.spo e = true then ((S.w_rgt (va_up S.rgt s g)), 2)
  else if ex = true ∧ has = false then ((S.w_rgt (va_up S.rgt s g)), 0)
  else (((S.w_mem (stN e (leN e.con) S.mem)).w_rgt (va_up S.rgt s (rgN e (leN e.con) g))), if ex = true then 1 else 0)
/-- memory: what a read finds -/
def spoR (spo : Nat → Bool) (c : Int64) (k : Nat) : Bool := spoB spo (baN c k) (laN (baN c k) (szN c))
def ldB (mem : Nat → Nat) (x st : Nat) : Nat := (List.range 8).foldl (fun a i => if Nat.testBit st i = true then a + mem (x - x % 8 + i) * 2 ^ (8 * i) else a) 0
def XS.newQ (S : XS) (s : Nat) (c : Int64) (place : Nat) : QE := ⟨c, 0, fun k => if spoR S.spo c k = true then 0 else nL (ldB S.mem (baN c k) (laN (baN c k) (szN c))), fun k => if spoR S.spo c k = true then 2 else exN c, S.time, S.rnum s, place⟩
def XS.newRgt (S : XS) (s : Nat) (c : Int64) : Nat → Option (Nat × Nat) :=
  if exN c = 1 ∧ ((List.range (leN c)).any fun k => spoR S.spo c k) = false then va_up (S.rgt s) (idN c) (some (adN c, leN c * szN c)) else S.rgt s
def freeP (used : List Nat) (p : Nat) : Nat → Nat
  | 0 => p
  | d + 1 => if p ∈ used then freeP used (p + 1) d else p
def rmO {α : Type} (o : Option Nat) (l : List α) : List α := match o with
  | some j => l.eraseIdx j
  | none => l
def bmO (o : Option Nat) (l : List QE) : List QE := match o with
  | some j => match l[j]? with
    | some e => if e.got + 1 = leN e.con then l.eraseIdx j else l.set j (e.w_got (e.got + 1))
    | none => l
  | none => l
def ltO (o : Option Nat) (l : List QE) (d : Option (Nat × Nat)) : Option (Nat × Nat) := match o.bind (fun j => l[j]?) with
  | some e => some (e.since, e.num)
  | none => d
def XS.passS (S : XS) (s c : Nat) : XS :=
  let w := (S.wi (4 + s)).w c
  let i := 5 * (4 + s) + c
  if c = 0 then (((S.drop i)).w_sw (va_up S.sw s (S.sw s ++ [⟨w.c, 0, fun _ => 0, fun _ => 0, 0, 0, freeP ((S.sw s).map WE.place) (4 * s) 4⟩])))
  else if c = 1 then
    match (S.sw s).find? (fun e => decide (e.got < leN e.con)) with
    | none => S.drop i
    | some e =>
      let e' : WE := (((e.w_got (e.got + 1)).w_dat (va_up e.dat e.got w.c)).w_rst (va_up e.rst e.got w.r))
      if e.got + 1 = leN e.con then
        let q := (S.drop i).doWrite s e'
        (q.1.w_sw (va_up S.sw s (updF (fun e => decide (e.got < leN e.con)) (fun _ => ((e'.w_since (S.time)).w_resp (q.2))) (S.sw s))))
      else (((S.drop i)).w_sw (va_up S.sw s (updF (fun e => decide (e.got < leN e.con)) (fun _ => e') (S.sw s))))
  else if c = 2 then ((((S.put i ⟨0, w.r, S.time⟩)).w_sw (va_up S.sw s (rmO (S.chb s) (S.sw s)))).w_chb (va_up S.chb s none))
  else if c = 3 then (((((S.drop i)).w_sr (va_up S.sr s (S.sr s ++ [S.newQ s w.c (freeP ((S.sr s).map QE.place) (4 * s) 4)]))).w_rnum (va_up S.rnum s (S.rnum s + 1))).w_rgt (va_up S.rgt s (S.newRgt s w.c)))
  else (((((S.put i ⟨w.c, w.r, S.time⟩)).w_sr (va_up S.sr s (bmO (S.chr s) (S.sr s)))).w_lat (va_up S.lat s (ltO (S.chr s) (S.sr s) (S.lat s)))).w_chr (va_up S.chr s none))
/-- moves of the crossbar -/
def nxt (o : Option Nat) (n : Nat) : Nat := match o with
  | none => 0
  | some x => (x + 1) % n
def XS.mayG (S : XS) (l : List UE) (m t : Nat) (id : Nat) : Bool :=
  decide ((l.filter fun e => decide (e.m = m)).length < S.lim) && (l.filter fun e => decide (e.m = m)).all fun e => decide (e.tg = t) || (decide (e.id ≠ id) && decide (e.left = 0))
def XS.may (S : XS) (c m t : Nat) : Bool := match S.row (5 * m + c) with
  | [] => false
  | e :: _ => decide (S.tgt e.c = t) && S.mayG (if c = 0 then S.uw else S.ur) m t (idN e.c)
def XS.came (S : XS) (i : Nat) : Nat := match S.row i with
  | [] => 0
  | e :: _ => e.t
def XS.urg (S : XS) (i : Nat) : Nat := match S.row i with
  | [] => 0
  | e :: _ => urN e.c
def XS.bef (S : XS) (c m o : Nat) : Bool :=
  if S.pol = 2 then decide (S.came (5 * m + c) < S.came (5 * o + c))
  else if S.pol = 3 then decide (S.urg (5 * o + c) < S.urg (5 * m + c)) else false
def XS.arbF (S : XS) (c t st : Nat) : Nat → Nat → Option Nat → Option Nat
  | 0, _, b => b
  | d + 1, i, b => S.arbF c t st d (i + 1) (if S.may c ((st + i) % S.nm) t = true ∧ (match b with
      | none => true
      | some o => S.bef c ((st + i) % S.nm) o) = true then some ((st + i) % S.nm) else b)
def XS.arb (S : XS) (c t : Nat) : Option Nat :=
  S.arbF c t (if S.pol = 1 ∨ S.pol = 3 then nxt (if c = 0 then S.la t else S.lr t) S.nm else 0) S.nm 0 none
def XS.movA (S : XS) (c t : Nat) : XS :=
  if S.hasRm (5 * (4 + t) + c) = false then S else
  match S.arb c t with
  | none => S
  | some m => match S.row (5 * m + c) with
    | [] => S
    | e :: _ =>
      let S1 := (S.drop (5 * m + c)).put (5 * (4 + t) + c) ⟨e.c + nL (16 * m), 0, S.time⟩
      if c = 0 then (((S1.w_uw (S.uw ++ [⟨m, idN e.c, t, leN e.c, S.moved⟩])).w_la (va_up S.la t (some m))).w_moved (S.moved + 1))
      else (((S1.w_ur (S.ur ++ [⟨m, idN e.c, t, 0, S.moved⟩])).w_lr (va_up S.lr t (some m))).w_moved (S.moved + 1))
def XS.movD (S : XS) (m : Nat) : XS :=
  match S.row (5 * m + 1), S.uw.findIdx? (fun e => decide (e.m = m) && decide (0 < e.left)) with
  | e :: _, some k => match S.uw[k]? with
    | none => S
    | some u =>
      if S.hasRm (5 * (4 + u.tg) + 1) = true ∧ S.uw.findIdx? (fun x => decide (x.tg = u.tg) && decide (0 < x.left)) = some k then
        ((((S.put (5 * (4 + u.tg) + 1) ⟨e.c, e.r, S.time⟩).drop (5 * m + 1))).w_uw (S.uw.set k (u.w_left (u.left - 1))))
      else S
  | _, _ => S
def XS.refW (S : XS) : XS :=
  match S.row (5 * (4 + S.ns) + 1) with
  | [] => S
  | d :: _ =>
    if rLa d.r = true then
      if S.hasRm (5 * (4 + S.ns) + 2) = true then
        match S.row (5 * (4 + S.ns)) with
        | [] => S
        | a :: _ => ((S.drop (5 * (4 + S.ns) + 1)).put (5 * (4 + S.ns) + 2) ⟨0, nI (ansR (idN a.c) 3 false), S.time⟩).drop (5 * (4 + S.ns))
      else S
    else S.drop (5 * (4 + S.ns) + 1)
def XS.refR (S : XS) : XS :=
  match S.row (5 * (4 + S.ns) + 3) with
  | [] => S
  | a :: _ =>
    if S.hasRm (5 * (4 + S.ns) + 4) = true then
      if S.dbeat + 1 = leN a.c then
        ((((S.put (5 * (4 + S.ns) + 4) ⟨0, nI (ansR (idN a.c) 3 true), S.time⟩).drop (5 * (4 + S.ns) + 3))).w_dbeat (0))
      else (((S.put (5 * (4 + S.ns) + 4) ⟨0, nI (ansR (idN a.c) 3 false), S.time⟩)).w_dbeat (S.dbeat + 1))
    else S
def XS.gives (S : XS) (m c t : Nat) : Bool := match S.row (5 * (4 + t) + c) with
  | [] => false
  | e :: _ => decide (rId e.r / 16 = m)
def XS.giv (S : XS) (m c : Nat) (l : Option Nat) : Option Nat :=
  ((List.range (S.ns + 1)).find? fun i => S.gives m c ((nxt l (S.ns + 1) + i) % (S.ns + 1))).map fun i => (nxt l (S.ns + 1) + i) % (S.ns + 1)
def XS.movB (S : XS) (m : Nat) : XS :=
  if S.hasRm (5 * m + 2) = false then S else
  match S.giv m 2 (S.lb m) with
  | none => S
  | some t => match S.row (5 * (4 + t) + 2) with
    | [] => S
    | e :: _ => (((((S.drop (5 * (4 + t) + 2)).put (5 * m + 2) ⟨0, e.r - nI (16 * m), S.time⟩)).w_lb (va_up S.lb m (some t))).w_uw (S.uw.eraseP (fun u => decide (u.m = m) && decide (u.id = rId e.r % 16))))
def XS.givR (S : XS) (m : Nat) : Option Nat :=
  match S.whole && S.inb m, S.lg m with
  | true, some l => if S.gives m 4 l = true then some l else none
  | _, _ => S.giv m 4 (S.lg m)
def XS.movR (S : XS) (m : Nat) : XS :=
  if S.hasRm (5 * m + 4) = false then S else
  match S.givR m with
  | none => S
  | some t => match S.row (5 * (4 + t) + 4) with
    | [] => S
    | e :: _ => ((((((S.drop (5 * (4 + t) + 4)).put (5 * m + 4) ⟨e.c, e.r - nI (16 * m), S.time⟩)).w_lg (va_up S.lg m (some t))).w_inb (va_up S.inb m (!rLa e.r))).w_ur (if rLa e.r = true then S.ur.eraseP (fun u => decide (u.m = m) && decide (u.id = rId e.r % 16)) else S.ur))
def iterN (f : XS → Nat → XS) : Nat → Nat → XS → XS
  | 0, _, S => S
  | d + 1, i, S => iterN f d (i + 1) (f S i)
def XS.move (S : XS) : XS :=
  let S1 := iterN (fun S t => S.movA 0 t) (S.ns + 1) 0 S
  let S2 := iterN (fun S t => S.movA 3 t) (S.ns + 1) 0 S1
  let S3 := iterN XS.movD S.nm 0 S2
  let S4 := S3.refW.refR
  let S5 := iterN XS.movB S.nm 0 S4
  iterN XS.movR S.nm 0 S5
/-- a tick -/
def XS.shM (S : XS) (m : Nat) : XS := ((S.w_wi (va_up S.wi m (S.showM m))).w_mon (va_up S.mon m ((S.mon m).look (S.showM m))))
def XS.shS (S : XS) (s : Nat) : XS := ((((S.w_wi (va_up S.wi (4 + s) (S.showS s))).w_mon (va_up S.mon (4 + s) ((S.mon (4 + s)).look (S.showS s)))).w_chb (va_up S.chb s (S.chB' s))).w_chr (va_up S.chr s (S.chR' s)))
def XS.goM (S : XS) (m c : Nat) : XS := if mvW (S.wi m) c = true then (((S.passM m c)).w_tr (va_up S.tr m (va_up (S.tr m) c (S.tr m c + 1)))) else S
def XS.goS (S : XS) (s c : Nat) : XS := if mvW (S.wi (4 + s)) c = true then (((S.passS s c)).w_tr (va_up S.tr (4 + s) (va_up (S.tr (4 + s)) c (S.tr (4 + s) c + 1)))) else S
def XS.go5M (S : XS) (m : Nat) : XS := iterN (fun S c => S.goM m c) 5 0 S
def XS.go5S (S : XS) (s : Nat) : XS := iterN (fun S c => S.goS s c) 5 0 S
def cntW (x : WI) : Nat := (List.range 5).countP fun c => mvW x c
def XS.shAll (S : XS) : XS := iterN XS.shS S.ns 0 (iterN XS.shM S.nm 0 S)
def XS.goAll (S : XS) : XS := iterN XS.go5S S.ns 0 (iterN XS.go5M S.nm 0 S)
def XS.tick1 (S : XS) : XS := let S' := S.shAll.goAll.move; (S'.w_time (S.time + 1))
