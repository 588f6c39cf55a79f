/-! THE REFERENCE's VIEW of the state -/
abbrev aI : Type := Nat → Int32
abbrev aL : Type := Nat → Int64
def oI (o : Option Nat) (d : Int32) : Int32 := match o with
  | none => d
  | some x => nI x
def VSc (f : aI) (S : XS) : Prop := (f 1 = nI S.nm) ∧ (f 2 = nI S.ns) ∧ (f 3 = nI S.lim) ∧ (f 4 = nI S.pol) ∧ (f 5 = bI S.whole) ∧ (f 6 = nI S.time) ∧ (f 15 = nI S.tk.length) ∧ (f 47 = nI S.uw.length) ∧ (f 51 = nI S.ur.length) ∧ (f 57 = nI S.dbeat) ∧ (f 0 = nI S.err)
theorem VSc.nm {f : aI} {S : XS} (h : VSc f S) : f 1 = nI S.nm := h.1
theorem VSc.ns {f : aI} {S : XS} (h : VSc f S) : f 2 = nI S.ns := h.2.1
theorem VSc.lim {f : aI} {S : XS} (h : VSc f S) : f 3 = nI S.lim := h.2.2.1
theorem VSc.pol {f : aI} {S : XS} (h : VSc f S) : f 4 = nI S.pol := h.2.2.2.1
theorem VSc.whole {f : aI} {S : XS} (h : VSc f S) : f 5 = bI S.whole := h.2.2.2.2.1
theorem VSc.time {f : aI} {S : XS} (h : VSc f S) : f 6 = nI S.time := h.2.2.2.2.2.1
theorem VSc.tk {f : aI} {S : XS} (h : VSc f S) : f 15 = nI S.tk.length := h.2.2.2.2.2.2.1
theorem VSc.wm {f : aI} {S : XS} (h : VSc f S) : f 47 = nI S.uw.length := h.2.2.2.2.2.2.2.1
theorem VSc.rm {f : aI} {S : XS} (h : VSc f S) : f 51 = nI S.ur.length := h.2.2.2.2.2.2.2.2.1
theorem VSc.db {f : aI} {S : XS} (h : VSc f S) : f 57 = nI S.dbeat := h.2.2.2.2.2.2.2.2.2.1
theorem VSc.er {f : aI} {S : XS} (h : VSc f S) : f 0 = nI S.err := h.2.2.2.2.2.2.2.2.2.2
def VPg (f : aI) (ns : Nat) (pages : Nat → Nat) : Prop := ∀ p, p < 16 → f p = if pages p = ns then m1 else nI (pages p)
def VPat (f : aI) (g : Nat → Nat → Nat) : Prop := ∀ m c, m < 4 → c < 5 → f (5 * m + c) = nI (g m c)
def VB4 (f : aI) (g : Nat → Bool) : Prop := ∀ m, m < 4 → f m = bI (g m)
def VN4 (f : aI) (g : Nat → Nat) : Prop := ∀ m, m < 4 → f m = nI (g m)
def VMem (f g : aI) (mem : Nat → Nat) (spo : Nat → Bool) : Prop := ∀ y, y < 65536 → f y = nI (mem y) ∧ g y = bI (spo y)
def seN (c : Int64) : Nat := uN c / 67108864 % 4
/-- a ticket's fields -/
def VTk (mas len siz kin wri alo spa urg adr idd ask sen don bea res : aI) (see dat : aL) (l : List TK) : Prop := (l.length ≤ 64) ∧ (∀ (t : Nat) (e : TK), l[t]? = some e → e.m < 4 ∧ e.beats ≤ 16 ∧ uN e.con < 2 ^ 35 ∧ ruN e.con = 0) ∧ (∀ (t : Nat) (e : TK), l[t]? = some e → e.wr = true → ∀ k, e.beats + k < leN e.con → e.dat (e.beats + k) = gdat e.con (e.beats + k) (lcgN (k + 1) e.seed) ∧ e.rst (e.beats + k) = grst e.con (e.beats + k) e.sp (lcgN (k + 1) e.seed)) ∧ (∀ (t : Nat) (e : TK), l[t]? = some e → mas t = nI e.m) ∧ (∀ (t : Nat) (e : TK), l[t]? = some e → len t = nI (leN e.con)) ∧ (∀ (t : Nat) (e : TK), l[t]? = some e → siz t = nI (seN e.con)) ∧ (∀ (t : Nat) (e : TK), l[t]? = some e → kin t = nI (kiN e.con)) ∧ (∀ (t : Nat) (e : TK), l[t]? = some e → wri t = bI e.wr) ∧ (∀ (t : Nat) (e : TK), l[t]? = some e → alo t = nI (exN e.con)) ∧ (∀ (t : Nat) (e : TK), l[t]? = some e → spa t = bI e.sp) ∧ (∀ (t : Nat) (e : TK), l[t]? = some e → urg t = nI (urN e.con)) ∧ (∀ (t : Nat) (e : TK), l[t]? = some e → adr t = nI (adN e.con)) ∧ (∀ (t : Nat) (e : TK), l[t]? = some e → idd t = nI (idN e.con)) ∧ (∀ (t : Nat) (e : TK), l[t]? = some e → ask t = e.asked) ∧ (∀ (t : Nat) (e : TK), l[t]? = some e → sen t = e.sent) ∧ (∀ (t : Nat) (e : TK), l[t]? = some e → don t = e.done) ∧ (∀ (t : Nat) (e : TK), l[t]? = some e → bea t = nI e.beats) ∧ (∀ (t : Nat) (e : TK), l[t]? = some e → res t = nI e.resp) ∧ (∀ (t : Nat) (e : TK), l[t]? = some e → see t = e.seed) ∧ (∀ (t : Nat) (e : TK), l[t]? = some e → ∀ k, k < e.beats → k < 16 → dat (16 * t + k) = e.dat k)
theorem VTk.hle {mas len siz kin wri alo spa urg adr idd ask sen don bea res : aI} {see dat : aL} {l : List TK} (h : VTk mas len siz kin wri alo spa urg adr idd ask sen don bea res see dat l) : l.length ≤ 64 := h.1
theorem VTk.hbd {mas len siz kin wri alo spa urg adr idd ask sen don bea res : aI} {see dat : aL} {l : List TK} (h : VTk mas len siz kin wri alo spa urg adr idd ask sen don bea res see dat l) : ∀ (t : Nat) (e : TK), l[t]? = some e → e.m < 4 ∧ e.beats ≤ 16 ∧ uN e.con < 2 ^ 35 ∧ ruN e.con = 0 := h.2.1
theorem VTk.hgen {mas len siz kin wri alo spa urg adr idd ask sen don bea res : aI} {see dat : aL} {l : List TK} (h : VTk mas len siz kin wri alo spa urg adr idd ask sen don bea res see dat l) : ∀ (t : Nat) (e : TK), l[t]? = some e → e.wr = true → ∀ k, e.beats + k < leN e.con → e.dat (e.beats + k) = gdat e.con (e.beats + k) (lcgN (k + 1) e.seed) ∧ e.rst (e.beats + k) = grst e.con (e.beats + k) e.sp (lcgN (k + 1) e.seed) := h.2.2.1
theorem VTk.hmas {mas len siz kin wri alo spa urg adr idd ask sen don bea res : aI} {see dat : aL} {l : List TK} (h : VTk mas len siz kin wri alo spa urg adr idd ask sen don bea res see dat l) : ∀ (t : Nat) (e : TK), l[t]? = some e → mas t = nI e.m := h.2.2.2.1
theorem VTk.hlen {mas len siz kin wri alo spa urg adr idd ask sen don bea res : aI} {see dat : aL} {l : List TK} (h : VTk mas len siz kin wri alo spa urg adr idd ask sen don bea res see dat l) : ∀ (t : Nat) (e : TK), l[t]? = some e → len t = nI (leN e.con) := h.2.2.2.2.1
theorem VTk.hsiz {mas len siz kin wri alo spa urg adr idd ask sen don bea res : aI} {see dat : aL} {l : List TK} (h : VTk mas len siz kin wri alo spa urg adr idd ask sen don bea res see dat l) : ∀ (t : Nat) (e : TK), l[t]? = some e → siz t = nI (seN e.con) := h.2.2.2.2.2.1
theorem VTk.hkin {mas len siz kin wri alo spa urg adr idd ask sen don bea res : aI} {see dat : aL} {l : List TK} (h : VTk mas len siz kin wri alo spa urg adr idd ask sen don bea res see dat l) : ∀ (t : Nat) (e : TK), l[t]? = some e → kin t = nI (kiN e.con) := h.2.2.2.2.2.2.1
theorem VTk.hwri {mas len siz kin wri alo spa urg adr idd ask sen don bea res : aI} {see dat : aL} {l : List TK} (h : VTk mas len siz kin wri alo spa urg adr idd ask sen don bea res see dat l) : ∀ (t : Nat) (e : TK), l[t]? = some e → wri t = bI e.wr := h.2.2.2.2.2.2.2.1
theorem VTk.halo {mas len siz kin wri alo spa urg adr idd ask sen don bea res : aI} {see dat : aL} {l : List TK} (h : VTk mas len siz kin wri alo spa urg adr idd ask sen don bea res see dat l) : ∀ (t : Nat) (e : TK), l[t]? = some e → alo t = nI (exN e.con) := h.2.2.2.2.2.2.2.2.1
theorem VTk.hspa {mas len siz kin wri alo spa urg adr idd ask sen don bea res : aI} {see dat : aL} {l : List TK} (h : VTk mas len siz kin wri alo spa urg adr idd ask sen don bea res see dat l) : ∀ (t : Nat) (e : TK), l[t]? = some e → spa t = bI e.sp := h.2.2.2.2.2.2.2.2.2.1
theorem VTk.hurg {mas len siz kin wri alo spa urg adr idd ask sen don bea res : aI} {see dat : aL} {l : List TK} (h : VTk mas len siz kin wri alo spa urg adr idd ask sen don bea res see dat l) : ∀ (t : Nat) (e : TK), l[t]? = some e → urg t = nI (urN e.con) := h.2.2.2.2.2.2.2.2.2.2.1
theorem VTk.hadr {mas len siz kin wri alo spa urg adr idd ask sen don bea res : aI} {see dat : aL} {l : List TK} (h : VTk mas len siz kin wri alo spa urg adr idd ask sen don bea res see dat l) : ∀ (t : Nat) (e : TK), l[t]? = some e → adr t = nI (adN e.con) := h.2.2.2.2.2.2.2.2.2.2.2.1
theorem VTk.hidd {mas len siz kin wri alo spa urg adr idd ask sen don bea res : aI} {see dat : aL} {l : List TK} (h : VTk mas len siz kin wri alo spa urg adr idd ask sen don bea res see dat l) : ∀ (t : Nat) (e : TK), l[t]? = some e → idd t = nI (idN e.con) := h.2.2.2.2.2.2.2.2.2.2.2.2.1
theorem VTk.hask {mas len siz kin wri alo spa urg adr idd ask sen don bea res : aI} {see dat : aL} {l : List TK} (h : VTk mas len siz kin wri alo spa urg adr idd ask sen don bea res see dat l) : ∀ (t : Nat) (e : TK), l[t]? = some e → ask t = e.asked := h.2.2.2.2.2.2.2.2.2.2.2.2.2.1
theorem VTk.hsen {mas len siz kin wri alo spa urg adr idd ask sen don bea res : aI} {see dat : aL} {l : List TK} (h : VTk mas len siz kin wri alo spa urg adr idd ask sen don bea res see dat l) : ∀ (t : Nat) (e : TK), l[t]? = some e → sen t = e.sent := h.2.2.2.2.2.2.2.2.2.2.2.2.2.2.1
theorem VTk.hdon {mas len siz kin wri alo spa urg adr idd ask sen don bea res : aI} {see dat : aL} {l : List TK} (h : VTk mas len siz kin wri alo spa urg adr idd ask sen don bea res see dat l) : ∀ (t : Nat) (e : TK), l[t]? = some e → don t = e.done := h.2.2.2.2.2.2.2.2.2.2.2.2.2.2.2.1
theorem VTk.hbea {mas len siz kin wri alo spa urg adr idd ask sen don bea res : aI} {see dat : aL} {l : List TK} (h : VTk mas len siz kin wri alo spa urg adr idd ask sen don bea res see dat l) : ∀ (t : Nat) (e : TK), l[t]? = some e → bea t = nI e.beats := h.2.2.2.2.2.2.2.2.2.2.2.2.2.2.2.2.1
theorem VTk.hres {mas len siz kin wri alo spa urg adr idd ask sen don bea res : aI} {see dat : aL} {l : List TK} (h : VTk mas len siz kin wri alo spa urg adr idd ask sen don bea res see dat l) : ∀ (t : Nat) (e : TK), l[t]? = some e → res t = nI e.resp := h.2.2.2.2.2.2.2.2.2.2.2.2.2.2.2.2.2.1
theorem VTk.hsee {mas len siz kin wri alo spa urg adr idd ask sen don bea res : aI} {see dat : aL} {l : List TK} (h : VTk mas len siz kin wri alo spa urg adr idd ask sen don bea res see dat l) : ∀ (t : Nat) (e : TK), l[t]? = some e → see t = e.seed := h.2.2.2.2.2.2.2.2.2.2.2.2.2.2.2.2.2.2.1
theorem VTk.hdat {mas len siz kin wri alo spa urg adr idd ask sen don bea res : aI} {see dat : aL} {l : List TK} (h : VTk mas len siz kin wri alo spa urg adr idd ask sen don bea res see dat l) : ∀ (t : Nat) (e : TK), l[t]? = some e → ∀ k, k < e.beats → k < 16 → dat (16 * t + k) = e.dat k := h.2.2.2.2.2.2.2.2.2.2.2.2.2.2.2.2.2.2.2
def VWi (v rd : aI) (c : aL) (rs : aI) (n : Nat) (wi : Nat → WI) : Prop := ∀ p k, p < n → k < 5 → v (5 * p + k) = bI ((wi p).w k).v ∧ rd (5 * p + k) = bI ((wi p).rd k) ∧ c (5 * p + k) = ((wi p).w k).c ∧ rs (5 * p + k) = ((wi p).w k).r
def VTr (f : aI) (g : Nat → Nat → Int32) : Prop := ∀ p k, p < 8 → k < 5 → f (5 * p + k) = g p k
def VRow (c : aL) (rs came many : aI) (row : Nat → List RE) : Prop := (∀ i, i < 45 → many i = nI (row i).length) ∧ (∀ i, i < 45 → (row i).length ≤ roomN (i % 5)) ∧ (∀ (i k : Nat) (e : RE), i < 45 → (row i)[k]? = some e → c (4 * i + k) = e.c ∧ rs (4 * i + k) = e.r ∧ came (4 * i + k) = nI e.t)
theorem VRow.hmany {c : aL} {rs came many : aI} {row : Nat → List RE} (h : VRow c rs came many row) : ∀ i, i < 45 → many i = nI (row i).length := h.1
theorem VRow.hle {c : aL} {rs came many : aI} {row : Nat → List RE} (h : VRow c rs came many row) : ∀ i, i < 45 → (row i).length ≤ roomN (i % 5) := h.2.1
theorem VRow.hent {c : aL} {rs came many : aI} {row : Nat → List RE} (h : VRow c rs came many row) : ∀ (i k : Nat) (e : RE), i < 45 → (row i)[k]? = some e → c (4 * i + k) = e.c ∧ rs (4 * i + k) = e.r ∧ came (4 * i + k) = nI e.t := h.2.2
def VU (mas idd tg lef : aI) (l : List UE) : Prop := (l.length ≤ 32) ∧ (∀ (k : Nat) (e : UE), l[k]? = some e → mas k = nI e.m ∧ idd k = nI e.id ∧ tg k = nI e.tg ∧ lef k = nI e.left)
theorem VU.hle {mas idd tg lef : aI} {l : List UE} (h : VU mas idd tg lef l) : l.length ≤ 32 := h.1
theorem VU.hent {mas idd tg lef : aI} {l : List UE} (h : VU mas idd tg lef l) : ∀ (k : Nat) (e : UE), l[k]? = some e → mas k = nI e.m ∧ idd k = nI e.id ∧ tg k = nI e.tg ∧ lef k = nI e.left := h.2
def VU3 (mas idd tg : aI) (l : List UE) : Prop := (l.length ≤ 32) ∧ (∀ (k : Nat) (e : UE), l[k]? = some e → mas k = nI e.m ∧ idd k = nI e.id ∧ tg k = nI e.tg)
theorem VU3.hle {mas idd tg : aI} {l : List UE} (h : VU3 mas idd tg l) : l.length ≤ 32 := h.1
theorem VU3.hent {mas idd tg : aI} {l : List UE} (h : VU3 mas idd tg l) : ∀ (k : Nat) (e : UE), l[k]? = some e → mas k = nI e.m ∧ idd k = nI e.id ∧ tg k = nI e.tg := h.2
def VLast (aw ar b g inn : aI) (S : XS) : Prop := (∀ t, t < 5 → aw t = oI (S.la t) (nI (S.nm - 1))) ∧ (∀ t, t < 5 → ar t = oI (S.lr t) (nI (S.nm - 1))) ∧ (∀ m, m < 4 → b m = oI (S.lb m) (nI S.ns)) ∧ (∀ m, m < 4 → g m = oI (S.lg m) (nI S.ns)) ∧ (∀ m, m < 4 → inn m = bI (S.inb m))
theorem VLast.haw {aw ar b g inn : aI} {S : XS} (h : VLast aw ar b g inn S) : ∀ t, t < 5 → aw t = oI (S.la t) (nI (S.nm - 1)) := h.1
theorem VLast.har {aw ar b g inn : aI} {S : XS} (h : VLast aw ar b g inn S) : ∀ t, t < 5 → ar t = oI (S.lr t) (nI (S.nm - 1)) := h.2.1
theorem VLast.hb {aw ar b g inn : aI} {S : XS} (h : VLast aw ar b g inn S) : ∀ m, m < 4 → b m = oI (S.lb m) (nI S.ns) := h.2.2.1
theorem VLast.hg {aw ar b g inn : aI} {S : XS} (h : VLast aw ar b g inn S) : ∀ m, m < 4 → g m = oI (S.lg m) (nI S.ns) := h.2.2.2.1
theorem VLast.hinn {aw ar b g inn : aI} {S : XS} (h : VLast aw ar b g inn S) : ∀ m, m < 4 → inn m = bI (S.inb m) := h.2.2.2.2
def VSw (many at_ used : aI) (bur : aL) (bea don res : aI) (dat : aL) (str : aI) (sw : Nat → List WE) : Prop := (∀ s, s < 4 → (sw s).length ≤ 4) ∧ (∀ s, s < 4 → many s = nI (sw s).length) ∧ (∀ (s k : Nat) (e : WE), s < 4 → (sw s)[k]? = some e → at_ (4 * s + k) = nI e.place ∧ 4 * s ≤ e.place ∧ e.place < 4 * s + 4) ∧ (∀ s p, s < 4 → 4 * s ≤ p → p < 4 * s + 4 → used p = bI (decide (p ∈ (sw s).map WE.place))) ∧ (∀ s, s < 4 → ((sw s).map WE.place).Nodup) ∧ (∀ (s k : Nat) (e : WE), s < 4 → (sw s)[k]? = some e → bur e.place = e.con ∧ bea e.place = nI e.got ∧ don e.place = (if e.got = leN e.con then nI e.since else m1) ∧ (e.got = leN e.con → res e.place = nI e.resp)) ∧ (∀ (s k : Nat) (e : WE), s < 4 → (sw s)[k]? = some e → ∀ i, i < e.got → i < 16 → dat (16 * e.place + i) = e.dat i ∧ str (16 * e.place + i) = nI (rSt (e.rst i)))
theorem VSw.hle {many at_ used : aI} {bur : aL} {bea don res : aI} {dat : aL} {str : aI} {sw : Nat → List WE} (h : VSw many at_ used bur bea don res dat str sw) : ∀ s, s < 4 → (sw s).length ≤ 4 := h.1
theorem VSw.hmany {many at_ used : aI} {bur : aL} {bea don res : aI} {dat : aL} {str : aI} {sw : Nat → List WE} (h : VSw many at_ used bur bea don res dat str sw) : ∀ s, s < 4 → many s = nI (sw s).length := h.2.1
theorem VSw.hat {many at_ used : aI} {bur : aL} {bea don res : aI} {dat : aL} {str : aI} {sw : Nat → List WE} (h : VSw many at_ used bur bea don res dat str sw) : ∀ (s k : Nat) (e : WE), s < 4 → (sw s)[k]? = some e → at_ (4 * s + k) = nI e.place ∧ 4 * s ≤ e.place ∧ e.place < 4 * s + 4 := h.2.2.1
theorem VSw.hused {many at_ used : aI} {bur : aL} {bea don res : aI} {dat : aL} {str : aI} {sw : Nat → List WE} (h : VSw many at_ used bur bea don res dat str sw) : ∀ s p, s < 4 → 4 * s ≤ p → p < 4 * s + 4 → used p = bI (decide (p ∈ (sw s).map WE.place)) := h.2.2.2.1
theorem VSw.hnd {many at_ used : aI} {bur : aL} {bea don res : aI} {dat : aL} {str : aI} {sw : Nat → List WE} (h : VSw many at_ used bur bea don res dat str sw) : ∀ s, s < 4 → ((sw s).map WE.place).Nodup := h.2.2.2.2.1
theorem VSw.hent {many at_ used : aI} {bur : aL} {bea don res : aI} {dat : aL} {str : aI} {sw : Nat → List WE} (h : VSw many at_ used bur bea don res dat str sw) : ∀ (s k : Nat) (e : WE), s < 4 → (sw s)[k]? = some e → bur e.place = e.con ∧ bea e.place = nI e.got ∧ don e.place = (if e.got = leN e.con then nI e.since else m1) ∧ (e.got = leN e.con → res e.place = nI e.resp) := h.2.2.2.2.2.1
theorem VSw.hdat {many at_ used : aI} {bur : aL} {bea don res : aI} {dat : aL} {str : aI} {sw : Nat → List WE} (h : VSw many at_ used bur bea don res dat str sw) : ∀ (s k : Nat) (e : WE), s < 4 → (sw s)[k]? = some e → ∀ i, i < e.got → i < 16 → dat (16 * e.place + i) = e.dat i ∧ str (16 * e.place + i) = nI (rSt (e.rst i)) := h.2.2.2.2.2.2
def VSr (many at_ used : aI) (bur : aL) (bea cam num : aI) (dat : aL) (rsp : aI) (sr : Nat → List QE) : Prop := (∀ s, s < 4 → (sr s).length ≤ 4) ∧ (∀ s, s < 4 → many s = nI (sr s).length) ∧ (∀ (s k : Nat) (e : QE), s < 4 → (sr s)[k]? = some e → at_ (4 * s + k) = nI e.place ∧ 4 * s ≤ e.place ∧ e.place < 4 * s + 4) ∧ (∀ s p, s < 4 → 4 * s ≤ p → p < 4 * s + 4 → used p = bI (decide (p ∈ (sr s).map QE.place))) ∧ (∀ s, s < 4 → ((sr s).map QE.place).Nodup) ∧ (∀ (s k : Nat) (e : QE), s < 4 → (sr s)[k]? = some e → bur e.place = e.con ∧ bea e.place = nI e.got ∧ cam e.place = nI e.since ∧ num e.place = nI e.num) ∧ (∀ (s k : Nat) (e : QE), s < 4 → (sr s)[k]? = some e → ∀ i, i < leN e.con → dat (16 * e.place + i) = e.dat i ∧ rsp (16 * e.place + i) = nI (e.rsp i))
theorem VSr.hle {many at_ used : aI} {bur : aL} {bea cam num : aI} {dat : aL} {rsp : aI} {sr : Nat → List QE} (h : VSr many at_ used bur bea cam num dat rsp sr) : ∀ s, s < 4 → (sr s).length ≤ 4 := h.1
theorem VSr.hmany {many at_ used : aI} {bur : aL} {bea cam num : aI} {dat : aL} {rsp : aI} {sr : Nat → List QE} (h : VSr many at_ used bur bea cam num dat rsp sr) : ∀ s, s < 4 → many s = nI (sr s).length := h.2.1
theorem VSr.hat {many at_ used : aI} {bur : aL} {bea cam num : aI} {dat : aL} {rsp : aI} {sr : Nat → List QE} (h : VSr many at_ used bur bea cam num dat rsp sr) : ∀ (s k : Nat) (e : QE), s < 4 → (sr s)[k]? = some e → at_ (4 * s + k) = nI e.place ∧ 4 * s ≤ e.place ∧ e.place < 4 * s + 4 := h.2.2.1
theorem VSr.hused {many at_ used : aI} {bur : aL} {bea cam num : aI} {dat : aL} {rsp : aI} {sr : Nat → List QE} (h : VSr many at_ used bur bea cam num dat rsp sr) : ∀ s p, s < 4 → 4 * s ≤ p → p < 4 * s + 4 → used p = bI (decide (p ∈ (sr s).map QE.place)) := h.2.2.2.1
theorem VSr.hnd {many at_ used : aI} {bur : aL} {bea cam num : aI} {dat : aL} {rsp : aI} {sr : Nat → List QE} (h : VSr many at_ used bur bea cam num dat rsp sr) : ∀ s, s < 4 → ((sr s).map QE.place).Nodup := h.2.2.2.2.1
theorem VSr.hent {many at_ used : aI} {bur : aL} {bea cam num : aI} {dat : aL} {rsp : aI} {sr : Nat → List QE} (h : VSr many at_ used bur bea cam num dat rsp sr) : ∀ (s k : Nat) (e : QE), s < 4 → (sr s)[k]? = some e → bur e.place = e.con ∧ bea e.place = nI e.got ∧ cam e.place = nI e.since ∧ num e.place = nI e.num := h.2.2.2.2.2.1
theorem VSr.hdat {many at_ used : aI} {bur : aL} {bea cam num : aI} {dat : aL} {rsp : aI} {sr : Nat → List QE} (h : VSr many at_ used bur bea cam num dat rsp sr) : ∀ (s k : Nat) (e : QE), s < 4 → (sr s)[k]? = some e → ∀ i, i < leN e.con → dat (16 * e.place + i) = e.dat i ∧ rsp (16 * e.place + i) = nI (e.rsp i) := h.2.2.2.2.2.2
def VCh (nums lat chb chr : aI) (S : XS) : Prop := (∀ s, s < 4 → nums s = nI (S.rnum s)) ∧ (∀ s, s < 4 → lat s = oI ((S.lat s).map Prod.snd) m1) ∧ (∀ s i, s < 4 → S.chb s = some i → ∃ e : WE, (S.sw s)[i]? = some e ∧ chb s = nI e.place) ∧ (∀ s i, s < 4 → S.chr s = some i → ∃ e : QE, (S.sr s)[i]? = some e ∧ chr s = nI e.place)
theorem VCh.hnums {nums lat chb chr : aI} {S : XS} (h : VCh nums lat chb chr S) : ∀ s, s < 4 → nums s = nI (S.rnum s) := h.1
theorem VCh.hlat {nums lat chb chr : aI} {S : XS} (h : VCh nums lat chb chr S) : ∀ s, s < 4 → lat s = oI ((S.lat s).map Prod.snd) m1 := h.2.1
theorem VCh.hchb {nums lat chb chr : aI} {S : XS} (h : VCh nums lat chb chr S) : ∀ s i, s < 4 → S.chb s = some i → ∃ e : WE, (S.sw s)[i]? = some e ∧ chb s = nI e.place := h.2.2.1
theorem VCh.hchr {nums lat chb chr : aI} {S : XS} (h : VCh nums lat chb chr S) : ∀ s i, s < 4 → S.chr s = some i → ∃ e : QE, (S.sr s)[i]? = some e ∧ chr s = nI e.place := h.2.2.2
def VRg (at_ sz : aI) (g : Nat → Nat → Option (Nat × Nat)) : Prop := ∀ s j, s < 4 → j < 64 → at_ (64 * s + j) = oI ((g s j).map Prod.fst) m1 ∧ ∀ q, g s j = some q → sz (64 * s + j) = nI q.2
abbrev MA : Type := (aI) × (aL) × (aI) × (aI) × (aI) × (aI) × (aI) × (aI) × (aI) × (aI) × (aL) × (aI) × (aI) × (aI) × (aL) × (aI)
abbrev MA.hel (x : MA) : aI := x.1
abbrev MA.hc (x : MA) : aL := x.2.1
abbrev MA.hr (x : MA) : aI := x.2.2.1
abbrev MA.tks (x : MA) : aI := x.2.2.2.1
abbrev MA.rul (x : MA) : aI := x.2.2.2.2.1
abbrev MA.cha (x : MA) : aI := x.2.2.2.2.2.1
abbrev MA.tic (x : MA) : aI := x.2.2.2.2.2.2.1
abbrev MA.nw (x : MA) : aI := x.2.2.2.2.2.2.2.1
abbrev MA.nr (x : MA) : aI := x.2.2.2.2.2.2.2.2.1
abbrev MA.has (x : MA) : aI := x.2.2.2.2.2.2.2.2.2.1
abbrev MA.bur (x : MA) : aL := x.2.2.2.2.2.2.2.2.2.2.1
abbrev MA.bea (x : MA) : aI := x.2.2.2.2.2.2.2.2.2.2.2.1
abbrev MA.las (x : MA) : aI := x.2.2.2.2.2.2.2.2.2.2.2.2.1
abbrev MA.str (x : MA) : aI := x.2.2.2.2.2.2.2.2.2.2.2.2.2.1
abbrev MA.rea (x : MA) : aL := x.2.2.2.2.2.2.2.2.2.2.2.2.2.2.1
abbrev MA.rbe (x : MA) : aI := x.2.2.2.2.2.2.2.2.2.2.2.2.2.2.2
abbrev MA.mk (a0 : aI) (a1 : aL) (a2 : aI) (a3 : aI) (a4 : aI) (a5 : aI) (a6 : aI) (a7 : aI) (a8 : aI) (a9 : aI) (a10 : aL) (a11 : aI) (a12 : aI) (a13 : aI) (a14 : aL) (a15 : aI) : MA := (a0, a1, a2, a3, a4, a5, a6, a7, a8, a9, a10, a11, a12, a13, a14, a15)
theorem MA.hel_mk (a0 : aI) (a1 : aL) (a2 : aI) (a3 : aI) (a4 : aI) (a5 : aI) (a6 : aI) (a7 : aI) (a8 : aI) (a9 : aI) (a10 : aL) (a11 : aI) (a12 : aI) (a13 : aI) (a14 : aL) (a15 : aI) : MA.hel (a0, a1, a2, a3, a4, a5, a6, a7, a8, a9, a10, a11, a12, a13, a14, a15) = a0 := rfl
theorem MA.hc_mk (a0 : aI) (a1 : aL) (a2 : aI) (a3 : aI) (a4 : aI) (a5 : aI) (a6 : aI) (a7 : aI) (a8 : aI) (a9 : aI) (a10 : aL) (a11 : aI) (a12 : aI) (a13 : aI) (a14 : aL) (a15 : aI) : MA.hc (a0, a1, a2, a3, a4, a5, a6, a7, a8, a9, a10, a11, a12, a13, a14, a15) = a1 := rfl
theorem MA.hr_mk (a0 : aI) (a1 : aL) (a2 : aI) (a3 : aI) (a4 : aI) (a5 : aI) (a6 : aI) (a7 : aI) (a8 : aI) (a9 : aI) (a10 : aL) (a11 : aI) (a12 : aI) (a13 : aI) (a14 : aL) (a15 : aI) : MA.hr (a0, a1, a2, a3, a4, a5, a6, a7, a8, a9, a10, a11, a12, a13, a14, a15) = a2 := rfl
theorem MA.tks_mk (a0 : aI) (a1 : aL) (a2 : aI) (a3 : aI) (a4 : aI) (a5 : aI) (a6 : aI) (a7 : aI) (a8 : aI) (a9 : aI) (a10 : aL) (a11 : aI) (a12 : aI) (a13 : aI) (a14 : aL) (a15 : aI) : MA.tks (a0, a1, a2, a3, a4, a5, a6, a7, a8, a9, a10, a11, a12, a13, a14, a15) = a3 := rfl
theorem MA.rul_mk (a0 : aI) (a1 : aL) (a2 : aI) (a3 : aI) (a4 : aI) (a5 : aI) (a6 : aI) (a7 : aI) (a8 : aI) (a9 : aI) (a10 : aL) (a11 : aI) (a12 : aI) (a13 : aI) (a14 : aL) (a15 : aI) : MA.rul (a0, a1, a2, a3, a4, a5, a6, a7, a8, a9, a10, a11, a12, a13, a14, a15) = a4 := rfl
theorem MA.cha_mk (a0 : aI) (a1 : aL) (a2 : aI) (a3 : aI) (a4 : aI) (a5 : aI) (a6 : aI) (a7 : aI) (a8 : aI) (a9 : aI) (a10 : aL) (a11 : aI) (a12 : aI) (a13 : aI) (a14 : aL) (a15 : aI) : MA.cha (a0, a1, a2, a3, a4, a5, a6, a7, a8, a9, a10, a11, a12, a13, a14, a15) = a5 := rfl
theorem MA.tic_mk (a0 : aI) (a1 : aL) (a2 : aI) (a3 : aI) (a4 : aI) (a5 : aI) (a6 : aI) (a7 : aI) (a8 : aI) (a9 : aI) (a10 : aL) (a11 : aI) (a12 : aI) (a13 : aI) (a14 : aL) (a15 : aI) : MA.tic (a0, a1, a2, a3, a4, a5, a6, a7, a8, a9, a10, a11, a12, a13, a14, a15) = a6 := rfl
theorem MA.nw_mk (a0 : aI) (a1 : aL) (a2 : aI) (a3 : aI) (a4 : aI) (a5 : aI) (a6 : aI) (a7 : aI) (a8 : aI) (a9 : aI) (a10 : aL) (a11 : aI) (a12 : aI) (a13 : aI) (a14 : aL) (a15 : aI) : MA.nw (a0, a1, a2, a3, a4, a5, a6, a7, a8, a9, a10, a11, a12, a13, a14, a15) = a7 := rfl
theorem MA.nr_mk (a0 : aI) (a1 : aL) (a2 : aI) (a3 : aI) (a4 : aI) (a5 : aI) (a6 : aI) (a7 : aI) (a8 : aI) (a9 : aI) (a10 : aL) (a11 : aI) (a12 : aI) (a13 : aI) (a14 : aL) (a15 : aI) : MA.nr (a0, a1, a2, a3, a4, a5, a6, a7, a8, a9, a10, a11, a12, a13, a14, a15) = a8 := rfl
theorem MA.has_mk (a0 : aI) (a1 : aL) (a2 : aI) (a3 : aI) (a4 : aI) (a5 : aI) (a6 : aI) (a7 : aI) (a8 : aI) (a9 : aI) (a10 : aL) (a11 : aI) (a12 : aI) (a13 : aI) (a14 : aL) (a15 : aI) : MA.has (a0, a1, a2, a3, a4, a5, a6, a7, a8, a9, a10, a11, a12, a13, a14, a15) = a9 := rfl
theorem MA.bur_mk (a0 : aI) (a1 : aL) (a2 : aI) (a3 : aI) (a4 : aI) (a5 : aI) (a6 : aI) (a7 : aI) (a8 : aI) (a9 : aI) (a10 : aL) (a11 : aI) (a12 : aI) (a13 : aI) (a14 : aL) (a15 : aI) : MA.bur (a0, a1, a2, a3, a4, a5, a6, a7, a8, a9, a10, a11, a12, a13, a14, a15) = a10 := rfl
theorem MA.bea_mk (a0 : aI) (a1 : aL) (a2 : aI) (a3 : aI) (a4 : aI) (a5 : aI) (a6 : aI) (a7 : aI) (a8 : aI) (a9 : aI) (a10 : aL) (a11 : aI) (a12 : aI) (a13 : aI) (a14 : aL) (a15 : aI) : MA.bea (a0, a1, a2, a3, a4, a5, a6, a7, a8, a9, a10, a11, a12, a13, a14, a15) = a11 := rfl
theorem MA.las_mk (a0 : aI) (a1 : aL) (a2 : aI) (a3 : aI) (a4 : aI) (a5 : aI) (a6 : aI) (a7 : aI) (a8 : aI) (a9 : aI) (a10 : aL) (a11 : aI) (a12 : aI) (a13 : aI) (a14 : aL) (a15 : aI) : MA.las (a0, a1, a2, a3, a4, a5, a6, a7, a8, a9, a10, a11, a12, a13, a14, a15) = a12 := rfl
theorem MA.str_mk (a0 : aI) (a1 : aL) (a2 : aI) (a3 : aI) (a4 : aI) (a5 : aI) (a6 : aI) (a7 : aI) (a8 : aI) (a9 : aI) (a10 : aL) (a11 : aI) (a12 : aI) (a13 : aI) (a14 : aL) (a15 : aI) : MA.str (a0, a1, a2, a3, a4, a5, a6, a7, a8, a9, a10, a11, a12, a13, a14, a15) = a13 := rfl
theorem MA.rea_mk (a0 : aI) (a1 : aL) (a2 : aI) (a3 : aI) (a4 : aI) (a5 : aI) (a6 : aI) (a7 : aI) (a8 : aI) (a9 : aI) (a10 : aL) (a11 : aI) (a12 : aI) (a13 : aI) (a14 : aL) (a15 : aI) : MA.rea (a0, a1, a2, a3, a4, a5, a6, a7, a8, a9, a10, a11, a12, a13, a14, a15) = a14 := rfl
theorem MA.rbe_mk (a0 : aI) (a1 : aL) (a2 : aI) (a3 : aI) (a4 : aI) (a5 : aI) (a6 : aI) (a7 : aI) (a8 : aI) (a9 : aI) (a10 : aL) (a11 : aI) (a12 : aI) (a13 : aI) (a14 : aL) (a15 : aI) : MA.rbe (a0, a1, a2, a3, a4, a5, a6, a7, a8, a9, a10, a11, a12, a13, a14, a15) = a15 := rfl
abbrev MA.w_hel (x : MA) (v : aI) : MA := (v, MA.hc x, MA.hr x, MA.tks x, MA.rul x, MA.cha x, MA.tic x, MA.nw x, MA.nr x, MA.has x, MA.bur x, MA.bea x, MA.las x, MA.str x, MA.rea x, MA.rbe x)
abbrev MA.w_hc (x : MA) (v : aL) : MA := (MA.hel x, v, MA.hr x, MA.tks x, MA.rul x, MA.cha x, MA.tic x, MA.nw x, MA.nr x, MA.has x, MA.bur x, MA.bea x, MA.las x, MA.str x, MA.rea x, MA.rbe x)
abbrev MA.w_hr (x : MA) (v : aI) : MA := (MA.hel x, MA.hc x, v, MA.tks x, MA.rul x, MA.cha x, MA.tic x, MA.nw x, MA.nr x, MA.has x, MA.bur x, MA.bea x, MA.las x, MA.str x, MA.rea x, MA.rbe x)
abbrev MA.w_tks (x : MA) (v : aI) : MA := (MA.hel x, MA.hc x, MA.hr x, v, MA.rul x, MA.cha x, MA.tic x, MA.nw x, MA.nr x, MA.has x, MA.bur x, MA.bea x, MA.las x, MA.str x, MA.rea x, MA.rbe x)
abbrev MA.w_rul (x : MA) (v : aI) : MA := (MA.hel x, MA.hc x, MA.hr x, MA.tks x, v, MA.cha x, MA.tic x, MA.nw x, MA.nr x, MA.has x, MA.bur x, MA.bea x, MA.las x, MA.str x, MA.rea x, MA.rbe x)
abbrev MA.w_cha (x : MA) (v : aI) : MA := (MA.hel x, MA.hc x, MA.hr x, MA.tks x, MA.rul x, v, MA.tic x, MA.nw x, MA.nr x, MA.has x, MA.bur x, MA.bea x, MA.las x, MA.str x, MA.rea x, MA.rbe x)
abbrev MA.w_tic (x : MA) (v : aI) : MA := (MA.hel x, MA.hc x, MA.hr x, MA.tks x, MA.rul x, MA.cha x, v, MA.nw x, MA.nr x, MA.has x, MA.bur x, MA.bea x, MA.las x, MA.str x, MA.rea x, MA.rbe x)
abbrev MA.w_nw (x : MA) (v : aI) : MA := (MA.hel x, MA.hc x, MA.hr x, MA.tks x, MA.rul x, MA.cha x, MA.tic x, v, MA.nr x, MA.has x, MA.bur x, MA.bea x, MA.las x, MA.str x, MA.rea x, MA.rbe x)
abbrev MA.w_nr (x : MA) (v : aI) : MA := (MA.hel x, MA.hc x, MA.hr x, MA.tks x, MA.rul x, MA.cha x, MA.tic x, MA.nw x, v, MA.has x, MA.bur x, MA.bea x, MA.las x, MA.str x, MA.rea x, MA.rbe x)
abbrev MA.w_has (x : MA) (v : aI) : MA := (MA.hel x, MA.hc x, MA.hr x, MA.tks x, MA.rul x, MA.cha x, MA.tic x, MA.nw x, MA.nr x, v, MA.bur x, MA.bea x, MA.las x, MA.str x, MA.rea x, MA.rbe x)
abbrev MA.w_bur (x : MA) (v : aL) : MA := (MA.hel x, MA.hc x, MA.hr x, MA.tks x, MA.rul x, MA.cha x, MA.tic x, MA.nw x, MA.nr x, MA.has x, v, MA.bea x, MA.las x, MA.str x, MA.rea x, MA.rbe x)
abbrev MA.w_bea (x : MA) (v : aI) : MA := (MA.hel x, MA.hc x, MA.hr x, MA.tks x, MA.rul x, MA.cha x, MA.tic x, MA.nw x, MA.nr x, MA.has x, MA.bur x, v, MA.las x, MA.str x, MA.rea x, MA.rbe x)
abbrev MA.w_las (x : MA) (v : aI) : MA := (MA.hel x, MA.hc x, MA.hr x, MA.tks x, MA.rul x, MA.cha x, MA.tic x, MA.nw x, MA.nr x, MA.has x, MA.bur x, MA.bea x, v, MA.str x, MA.rea x, MA.rbe x)
abbrev MA.w_str (x : MA) (v : aI) : MA := (MA.hel x, MA.hc x, MA.hr x, MA.tks x, MA.rul x, MA.cha x, MA.tic x, MA.nw x, MA.nr x, MA.has x, MA.bur x, MA.bea x, MA.las x, v, MA.rea x, MA.rbe x)
abbrev MA.w_rea (x : MA) (v : aL) : MA := (MA.hel x, MA.hc x, MA.hr x, MA.tks x, MA.rul x, MA.cha x, MA.tic x, MA.nw x, MA.nr x, MA.has x, MA.bur x, MA.bea x, MA.las x, MA.str x, v, MA.rbe x)
abbrev MA.w_rbe (x : MA) (v : aI) : MA := (MA.hel x, MA.hc x, MA.hr x, MA.tks x, MA.rul x, MA.cha x, MA.tic x, MA.nw x, MA.nr x, MA.has x, MA.bur x, MA.bea x, MA.las x, MA.str x, MA.rea x, v)
theorem MA.hel_w_hel (x : MA) (v : aI) : (x.w_hel v).hel = v := rfl
theorem MA.hc_w_hel (x : MA) (v : aI) : (x.w_hel v).hc = x.hc := rfl
theorem MA.hr_w_hel (x : MA) (v : aI) : (x.w_hel v).hr = x.hr := rfl
theorem MA.tks_w_hel (x : MA) (v : aI) : (x.w_hel v).tks = x.tks := rfl
theorem MA.rul_w_hel (x : MA) (v : aI) : (x.w_hel v).rul = x.rul := rfl
theorem MA.cha_w_hel (x : MA) (v : aI) : (x.w_hel v).cha = x.cha := rfl
theorem MA.tic_w_hel (x : MA) (v : aI) : (x.w_hel v).tic = x.tic := rfl
theorem MA.nw_w_hel (x : MA) (v : aI) : (x.w_hel v).nw = x.nw := rfl
theorem MA.nr_w_hel (x : MA) (v : aI) : (x.w_hel v).nr = x.nr := rfl
theorem MA.has_w_hel (x : MA) (v : aI) : (x.w_hel v).has = x.has := rfl
theorem MA.bur_w_hel (x : MA) (v : aI) : (x.w_hel v).bur = x.bur := rfl
theorem MA.bea_w_hel (x : MA) (v : aI) : (x.w_hel v).bea = x.bea := rfl
theorem MA.las_w_hel (x : MA) (v : aI) : (x.w_hel v).las = x.las := rfl
theorem MA.str_w_hel (x : MA) (v : aI) : (x.w_hel v).str = x.str := rfl
theorem MA.rea_w_hel (x : MA) (v : aI) : (x.w_hel v).rea = x.rea := rfl
theorem MA.rbe_w_hel (x : MA) (v : aI) : (x.w_hel v).rbe = x.rbe := rfl
theorem MA.hel_w_hc (x : MA) (v : aL) : (x.w_hc v).hel = x.hel := rfl
theorem MA.hc_w_hc (x : MA) (v : aL) : (x.w_hc v).hc = v := rfl
theorem MA.hr_w_hc (x : MA) (v : aL) : (x.w_hc v).hr = x.hr := rfl
theorem MA.tks_w_hc (x : MA) (v : aL) : (x.w_hc v).tks = x.tks := rfl
theorem MA.rul_w_hc (x : MA) (v : aL) : (x.w_hc v).rul = x.rul := rfl
theorem MA.cha_w_hc (x : MA) (v : aL) : (x.w_hc v).cha = x.cha := rfl
theorem MA.tic_w_hc (x : MA) (v : aL) : (x.w_hc v).tic = x.tic := rfl
theorem MA.nw_w_hc (x : MA) (v : aL) : (x.w_hc v).nw = x.nw := rfl
theorem MA.nr_w_hc (x : MA) (v : aL) : (x.w_hc v).nr = x.nr := rfl
theorem MA.has_w_hc (x : MA) (v : aL) : (x.w_hc v).has = x.has := rfl
theorem MA.bur_w_hc (x : MA) (v : aL) : (x.w_hc v).bur = x.bur := rfl
theorem MA.bea_w_hc (x : MA) (v : aL) : (x.w_hc v).bea = x.bea := rfl
theorem MA.las_w_hc (x : MA) (v : aL) : (x.w_hc v).las = x.las := rfl
theorem MA.str_w_hc (x : MA) (v : aL) : (x.w_hc v).str = x.str := rfl
theorem MA.rea_w_hc (x : MA) (v : aL) : (x.w_hc v).rea = x.rea := rfl
theorem MA.rbe_w_hc (x : MA) (v : aL) : (x.w_hc v).rbe = x.rbe := rfl
theorem MA.hel_w_hr (x : MA) (v : aI) : (x.w_hr v).hel = x.hel := rfl
theorem MA.hc_w_hr (x : MA) (v : aI) : (x.w_hr v).hc = x.hc := rfl
theorem MA.hr_w_hr (x : MA) (v : aI) : (x.w_hr v).hr = v := rfl
theorem MA.tks_w_hr (x : MA) (v : aI) : (x.w_hr v).tks = x.tks := rfl
theorem MA.rul_w_hr (x : MA) (v : aI) : (x.w_hr v).rul = x.rul := rfl
theorem MA.cha_w_hr (x : MA) (v : aI) : (x.w_hr v).cha = x.cha := rfl
theorem MA.tic_w_hr (x : MA) (v : aI) : (x.w_hr v).tic = x.tic := rfl
theorem MA.nw_w_hr (x : MA) (v : aI) : (x.w_hr v).nw = x.nw := rfl
theorem MA.nr_w_hr (x : MA) (v : aI) : (x.w_hr v).nr = x.nr := rfl
theorem MA.has_w_hr (x : MA) (v : aI) : (x.w_hr v).has = x.has := rfl
theorem MA.bur_w_hr (x : MA) (v : aI) : (x.w_hr v).bur = x.bur := rfl
theorem MA.bea_w_hr (x : MA) (v : aI) : (x.w_hr v).bea = x.bea := rfl
theorem MA.las_w_hr (x : MA) (v : aI) : (x.w_hr v).las = x.las := rfl
theorem MA.str_w_hr (x : MA) (v : aI) : (x.w_hr v).str = x.str := rfl
theorem MA.rea_w_hr (x : MA) (v : aI) : (x.w_hr v).rea = x.rea := rfl
theorem MA.rbe_w_hr (x : MA) (v : aI) : (x.w_hr v).rbe = x.rbe := rfl
theorem MA.hel_w_tks (x : MA) (v : aI) : (x.w_tks v).hel = x.hel := rfl
theorem MA.hc_w_tks (x : MA) (v : aI) : (x.w_tks v).hc = x.hc := rfl
theorem MA.hr_w_tks (x : MA) (v : aI) : (x.w_tks v).hr = x.hr := rfl
theorem MA.tks_w_tks (x : MA) (v : aI) : (x.w_tks v).tks = v := rfl
theorem MA.rul_w_tks (x : MA) (v : aI) : (x.w_tks v).rul = x.rul := rfl
theorem MA.cha_w_tks (x : MA) (v : aI) : (x.w_tks v).cha = x.cha := rfl
theorem MA.tic_w_tks (x : MA) (v : aI) : (x.w_tks v).tic = x.tic := rfl
theorem MA.nw_w_tks (x : MA) (v : aI) : (x.w_tks v).nw = x.nw := rfl
theorem MA.nr_w_tks (x : MA) (v : aI) : (x.w_tks v).nr = x.nr := rfl
theorem MA.has_w_tks (x : MA) (v : aI) : (x.w_tks v).has = x.has := rfl
theorem MA.bur_w_tks (x : MA) (v : aI) : (x.w_tks v).bur = x.bur := rfl
theorem MA.bea_w_tks (x : MA) (v : aI) : (x.w_tks v).bea = x.bea := rfl
theorem MA.las_w_tks (x : MA) (v : aI) : (x.w_tks v).las = x.las := rfl
theorem MA.str_w_tks (x : MA) (v : aI) : (x.w_tks v).str = x.str := rfl
theorem MA.rea_w_tks (x : MA) (v : aI) : (x.w_tks v).rea = x.rea := rfl
theorem MA.rbe_w_tks (x : MA) (v : aI) : (x.w_tks v).rbe = x.rbe := rfl
theorem MA.hel_w_rul (x : MA) (v : aI) : (x.w_rul v).hel = x.hel := rfl
theorem MA.hc_w_rul (x : MA) (v : aI) : (x.w_rul v).hc = x.hc := rfl
theorem MA.hr_w_rul (x : MA) (v : aI) : (x.w_rul v).hr = x.hr := rfl
theorem MA.tks_w_rul (x : MA) (v : aI) : (x.w_rul v).tks = x.tks := rfl
theorem MA.rul_w_rul (x : MA) (v : aI) : (x.w_rul v).rul = v := rfl
theorem MA.cha_w_rul (x : MA) (v : aI) : (x.w_rul v).cha = x.cha := rfl
theorem MA.tic_w_rul (x : MA) (v : aI) : (x.w_rul v).tic = x.tic := rfl
theorem MA.nw_w_rul (x : MA) (v : aI) : (x.w_rul v).nw = x.nw := rfl
theorem MA.nr_w_rul (x : MA) (v : aI) : (x.w_rul v).nr = x.nr := rfl
theorem MA.has_w_rul (x : MA) (v : aI) : (x.w_rul v).has = x.has := rfl
theorem MA.bur_w_rul (x : MA) (v : aI) : (x.w_rul v).bur = x.bur := rfl
theorem MA.bea_w_rul (x : MA) (v : aI) : (x.w_rul v).bea = x.bea := rfl
theorem MA.las_w_rul (x : MA) (v : aI) : (x.w_rul v).las = x.las := rfl
theorem MA.str_w_rul (x : MA) (v : aI) : (x.w_rul v).str = x.str := rfl
theorem MA.rea_w_rul (x : MA) (v : aI) : (x.w_rul v).rea = x.rea := rfl
theorem MA.rbe_w_rul (x : MA) (v : aI) : (x.w_rul v).rbe = x.rbe := rfl
theorem MA.hel_w_cha (x : MA) (v : aI) : (x.w_cha v).hel = x.hel := rfl
theorem MA.hc_w_cha (x : MA) (v : aI) : (x.w_cha v).hc = x.hc := rfl
theorem MA.hr_w_cha (x : MA) (v : aI) : (x.w_cha v).hr = x.hr := rfl
theorem MA.tks_w_cha (x : MA) (v : aI) : (x.w_cha v).tks = x.tks := rfl
theorem MA.rul_w_cha (x : MA) (v : aI) : (x.w_cha v).rul = x.rul := rfl
theorem MA.cha_w_cha (x : MA) (v : aI) : (x.w_cha v).cha = v := rfl
theorem MA.tic_w_cha (x : MA) (v : aI) : (x.w_cha v).tic = x.tic := rfl
theorem MA.nw_w_cha (x : MA) (v : aI) : (x.w_cha v).nw = x.nw := rfl
theorem MA.nr_w_cha (x : MA) (v : aI) : (x.w_cha v).nr = x.nr := rfl
theorem MA.has_w_cha (x : MA) (v : aI) : (x.w_cha v).has = x.has := rfl
theorem MA.bur_w_cha (x : MA) (v : aI) : (x.w_cha v).bur = x.bur := rfl
theorem MA.bea_w_cha (x : MA) (v : aI) : (x.w_cha v).bea = x.bea := rfl
theorem MA.las_w_cha (x : MA) (v : aI) : (x.w_cha v).las = x.las := rfl
theorem MA.str_w_cha (x : MA) (v : aI) : (x.w_cha v).str = x.str := rfl
theorem MA.rea_w_cha (x : MA) (v : aI) : (x.w_cha v).rea = x.rea := rfl
theorem MA.rbe_w_cha (x : MA) (v : aI) : (x.w_cha v).rbe = x.rbe := rfl
theorem MA.hel_w_tic (x : MA) (v : aI) : (x.w_tic v).hel = x.hel := rfl
theorem MA.hc_w_tic (x : MA) (v : aI) : (x.w_tic v).hc = x.hc := rfl
theorem MA.hr_w_tic (x : MA) (v : aI) : (x.w_tic v).hr = x.hr := rfl
theorem MA.tks_w_tic (x : MA) (v : aI) : (x.w_tic v).tks = x.tks := rfl
theorem MA.rul_w_tic (x : MA) (v : aI) : (x.w_tic v).rul = x.rul := rfl
theorem MA.cha_w_tic (x : MA) (v : aI) : (x.w_tic v).cha = x.cha := rfl
theorem MA.tic_w_tic (x : MA) (v : aI) : (x.w_tic v).tic = v := rfl
theorem MA.nw_w_tic (x : MA) (v : aI) : (x.w_tic v).nw = x.nw := rfl
theorem MA.nr_w_tic (x : MA) (v : aI) : (x.w_tic v).nr = x.nr := rfl
theorem MA.has_w_tic (x : MA) (v : aI) : (x.w_tic v).has = x.has := rfl
theorem MA.bur_w_tic (x : MA) (v : aI) : (x.w_tic v).bur = x.bur := rfl
theorem MA.bea_w_tic (x : MA) (v : aI) : (x.w_tic v).bea = x.bea := rfl
theorem MA.las_w_tic (x : MA) (v : aI) : (x.w_tic v).las = x.las := rfl
theorem MA.str_w_tic (x : MA) (v : aI) : (x.w_tic v).str = x.str := rfl
theorem MA.rea_w_tic (x : MA) (v : aI) : (x.w_tic v).rea = x.rea := rfl
theorem MA.rbe_w_tic (x : MA) (v : aI) : (x.w_tic v).rbe = x.rbe := rfl
theorem MA.hel_w_nw (x : MA) (v : aI) : (x.w_nw v).hel = x.hel := rfl
theorem MA.hc_w_nw (x : MA) (v : aI) : (x.w_nw v).hc = x.hc := rfl
theorem MA.hr_w_nw (x : MA) (v : aI) : (x.w_nw v).hr = x.hr := rfl
theorem MA.tks_w_nw (x : MA) (v : aI) : (x.w_nw v).tks = x.tks := rfl
theorem MA.rul_w_nw (x : MA) (v : aI) : (x.w_nw v).rul = x.rul := rfl
theorem MA.cha_w_nw (x : MA) (v : aI) : (x.w_nw v).cha = x.cha := rfl
theorem MA.tic_w_nw (x : MA) (v : aI) : (x.w_nw v).tic = x.tic := rfl
theorem MA.nw_w_nw (x : MA) (v : aI) : (x.w_nw v).nw = v := rfl
theorem MA.nr_w_nw (x : MA) (v : aI) : (x.w_nw v).nr = x.nr := rfl
theorem MA.has_w_nw (x : MA) (v : aI) : (x.w_nw v).has = x.has := rfl
theorem MA.bur_w_nw (x : MA) (v : aI) : (x.w_nw v).bur = x.bur := rfl
theorem MA.bea_w_nw (x : MA) (v : aI) : (x.w_nw v).bea = x.bea := rfl
theorem MA.las_w_nw (x : MA) (v : aI) : (x.w_nw v).las = x.las := rfl
theorem MA.str_w_nw (x : MA) (v : aI) : (x.w_nw v).str = x.str := rfl
theorem MA.rea_w_nw (x : MA) (v : aI) : (x.w_nw v).rea = x.rea := rfl
theorem MA.rbe_w_nw (x : MA) (v : aI) : (x.w_nw v).rbe = x.rbe := rfl
theorem MA.hel_w_nr (x : MA) (v : aI) : (x.w_nr v).hel = x.hel := rfl
theorem MA.hc_w_nr (x : MA) (v : aI) : (x.w_nr v).hc = x.hc := rfl
theorem MA.hr_w_nr (x : MA) (v : aI) : (x.w_nr v).hr = x.hr := rfl
theorem MA.tks_w_nr (x : MA) (v : aI) : (x.w_nr v).tks = x.tks := rfl
theorem MA.rul_w_nr (x : MA) (v : aI) : (x.w_nr v).rul = x.rul := rfl
theorem MA.cha_w_nr (x : MA) (v : aI) : (x.w_nr v).cha = x.cha := rfl
theorem MA.tic_w_nr (x : MA) (v : aI) : (x.w_nr v).tic = x.tic := rfl
theorem MA.nw_w_nr (x : MA) (v : aI) : (x.w_nr v).nw = x.nw := rfl
theorem MA.nr_w_nr (x : MA) (v : aI) : (x.w_nr v).nr = v := rfl
theorem MA.has_w_nr (x : MA) (v : aI) : (x.w_nr v).has = x.has := rfl
theorem MA.bur_w_nr (x : MA) (v : aI) : (x.w_nr v).bur = x.bur := rfl
theorem MA.bea_w_nr (x : MA) (v : aI) : (x.w_nr v).bea = x.bea := rfl
theorem MA.las_w_nr (x : MA) (v : aI) : (x.w_nr v).las = x.las := rfl
theorem MA.str_w_nr (x : MA) (v : aI) : (x.w_nr v).str = x.str := rfl
theorem MA.rea_w_nr (x : MA) (v : aI) : (x.w_nr v).rea = x.rea := rfl
theorem MA.rbe_w_nr (x : MA) (v : aI) : (x.w_nr v).rbe = x.rbe := rfl
theorem MA.hel_w_has (x : MA) (v : aI) : (x.w_has v).hel = x.hel := rfl
theorem MA.hc_w_has (x : MA) (v : aI) : (x.w_has v).hc = x.hc := rfl
theorem MA.hr_w_has (x : MA) (v : aI) : (x.w_has v).hr = x.hr := rfl
theorem MA.tks_w_has (x : MA) (v : aI) : (x.w_has v).tks = x.tks := rfl
theorem MA.rul_w_has (x : MA) (v : aI) : (x.w_has v).rul = x.rul := rfl
theorem MA.cha_w_has (x : MA) (v : aI) : (x.w_has v).cha = x.cha := rfl
theorem MA.tic_w_has (x : MA) (v : aI) : (x.w_has v).tic = x.tic := rfl
theorem MA.nw_w_has (x : MA) (v : aI) : (x.w_has v).nw = x.nw := rfl
theorem MA.nr_w_has (x : MA) (v : aI) : (x.w_has v).nr = x.nr := rfl
theorem MA.has_w_has (x : MA) (v : aI) : (x.w_has v).has = v := rfl
theorem MA.bur_w_has (x : MA) (v : aI) : (x.w_has v).bur = x.bur := rfl
theorem MA.bea_w_has (x : MA) (v : aI) : (x.w_has v).bea = x.bea := rfl
theorem MA.las_w_has (x : MA) (v : aI) : (x.w_has v).las = x.las := rfl
theorem MA.str_w_has (x : MA) (v : aI) : (x.w_has v).str = x.str := rfl
theorem MA.rea_w_has (x : MA) (v : aI) : (x.w_has v).rea = x.rea := rfl
theorem MA.rbe_w_has (x : MA) (v : aI) : (x.w_has v).rbe = x.rbe := rfl
theorem MA.hel_w_bur (x : MA) (v : aL) : (x.w_bur v).hel = x.hel := rfl
theorem MA.hc_w_bur (x : MA) (v : aL) : (x.w_bur v).hc = x.hc := rfl
theorem MA.hr_w_bur (x : MA) (v : aL) : (x.w_bur v).hr = x.hr := rfl
theorem MA.tks_w_bur (x : MA) (v : aL) : (x.w_bur v).tks = x.tks := rfl
theorem MA.rul_w_bur (x : MA) (v : aL) : (x.w_bur v).rul = x.rul := rfl
theorem MA.cha_w_bur (x : MA) (v : aL) : (x.w_bur v).cha = x.cha := rfl
theorem MA.tic_w_bur (x : MA) (v : aL) : (x.w_bur v).tic = x.tic := rfl
theorem MA.nw_w_bur (x : MA) (v : aL) : (x.w_bur v).nw = x.nw := rfl
theorem MA.nr_w_bur (x : MA) (v : aL) : (x.w_bur v).nr = x.nr := rfl
theorem MA.has_w_bur (x : MA) (v : aL) : (x.w_bur v).has = x.has := rfl
theorem MA.bur_w_bur (x : MA) (v : aL) : (x.w_bur v).bur = v := rfl
theorem MA.bea_w_bur (x : MA) (v : aL) : (x.w_bur v).bea = x.bea := rfl
theorem MA.las_w_bur (x : MA) (v : aL) : (x.w_bur v).las = x.las := rfl
theorem MA.str_w_bur (x : MA) (v : aL) : (x.w_bur v).str = x.str := rfl
theorem MA.rea_w_bur (x : MA) (v : aL) : (x.w_bur v).rea = x.rea := rfl
theorem MA.rbe_w_bur (x : MA) (v : aL) : (x.w_bur v).rbe = x.rbe := rfl
theorem MA.hel_w_bea (x : MA) (v : aI) : (x.w_bea v).hel = x.hel := rfl
theorem MA.hc_w_bea (x : MA) (v : aI) : (x.w_bea v).hc = x.hc := rfl
theorem MA.hr_w_bea (x : MA) (v : aI) : (x.w_bea v).hr = x.hr := rfl
theorem MA.tks_w_bea (x : MA) (v : aI) : (x.w_bea v).tks = x.tks := rfl
theorem MA.rul_w_bea (x : MA) (v : aI) : (x.w_bea v).rul = x.rul := rfl
theorem MA.cha_w_bea (x : MA) (v : aI) : (x.w_bea v).cha = x.cha := rfl
theorem MA.tic_w_bea (x : MA) (v : aI) : (x.w_bea v).tic = x.tic := rfl
theorem MA.nw_w_bea (x : MA) (v : aI) : (x.w_bea v).nw = x.nw := rfl
theorem MA.nr_w_bea (x : MA) (v : aI) : (x.w_bea v).nr = x.nr := rfl
theorem MA.has_w_bea (x : MA) (v : aI) : (x.w_bea v).has = x.has := rfl
theorem MA.bur_w_bea (x : MA) (v : aI) : (x.w_bea v).bur = x.bur := rfl
theorem MA.bea_w_bea (x : MA) (v : aI) : (x.w_bea v).bea = v := rfl
theorem MA.las_w_bea (x : MA) (v : aI) : (x.w_bea v).las = x.las := rfl
theorem MA.str_w_bea (x : MA) (v : aI) : (x.w_bea v).str = x.str := rfl
theorem MA.rea_w_bea (x : MA) (v : aI) : (x.w_bea v).rea = x.rea := rfl
theorem MA.rbe_w_bea (x : MA) (v : aI) : (x.w_bea v).rbe = x.rbe := rfl
theorem MA.hel_w_las (x : MA) (v : aI) : (x.w_las v).hel = x.hel := rfl
theorem MA.hc_w_las (x : MA) (v : aI) : (x.w_las v).hc = x.hc := rfl
theorem MA.hr_w_las (x : MA) (v : aI) : (x.w_las v).hr = x.hr := rfl
theorem MA.tks_w_las (x : MA) (v : aI) : (x.w_las v).tks = x.tks := rfl
theorem MA.rul_w_las (x : MA) (v : aI) : (x.w_las v).rul = x.rul := rfl
theorem MA.cha_w_las (x : MA) (v : aI) : (x.w_las v).cha = x.cha := rfl
theorem MA.tic_w_las (x : MA) (v : aI) : (x.w_las v).tic = x.tic := rfl
theorem MA.nw_w_las (x : MA) (v : aI) : (x.w_las v).nw = x.nw := rfl
theorem MA.nr_w_las (x : MA) (v : aI) : (x.w_las v).nr = x.nr := rfl
theorem MA.has_w_las (x : MA) (v : aI) : (x.w_las v).has = x.has := rfl
theorem MA.bur_w_las (x : MA) (v : aI) : (x.w_las v).bur = x.bur := rfl
theorem MA.bea_w_las (x : MA) (v : aI) : (x.w_las v).bea = x.bea := rfl
theorem MA.las_w_las (x : MA) (v : aI) : (x.w_las v).las = v := rfl
theorem MA.str_w_las (x : MA) (v : aI) : (x.w_las v).str = x.str := rfl
theorem MA.rea_w_las (x : MA) (v : aI) : (x.w_las v).rea = x.rea := rfl
theorem MA.rbe_w_las (x : MA) (v : aI) : (x.w_las v).rbe = x.rbe := rfl
theorem MA.hel_w_str (x : MA) (v : aI) : (x.w_str v).hel = x.hel := rfl
theorem MA.hc_w_str (x : MA) (v : aI) : (x.w_str v).hc = x.hc := rfl
theorem MA.hr_w_str (x : MA) (v : aI) : (x.w_str v).hr = x.hr := rfl
theorem MA.tks_w_str (x : MA) (v : aI) : (x.w_str v).tks = x.tks := rfl
theorem MA.rul_w_str (x : MA) (v : aI) : (x.w_str v).rul = x.rul := rfl
theorem MA.cha_w_str (x : MA) (v : aI) : (x.w_str v).cha = x.cha := rfl
theorem MA.tic_w_str (x : MA) (v : aI) : (x.w_str v).tic = x.tic := rfl
theorem MA.nw_w_str (x : MA) (v : aI) : (x.w_str v).nw = x.nw := rfl
theorem MA.nr_w_str (x : MA) (v : aI) : (x.w_str v).nr = x.nr := rfl
theorem MA.has_w_str (x : MA) (v : aI) : (x.w_str v).has = x.has := rfl
theorem MA.bur_w_str (x : MA) (v : aI) : (x.w_str v).bur = x.bur := rfl
theorem MA.bea_w_str (x : MA) (v : aI) : (x.w_str v).bea = x.bea := rfl
theorem MA.las_w_str (x : MA) (v : aI) : (x.w_str v).las = x.las := rfl
theorem MA.str_w_str (x : MA) (v : aI) : (x.w_str v).str = v := rfl
theorem MA.rea_w_str (x : MA) (v : aI) : (x.w_str v).rea = x.rea := rfl
theorem MA.rbe_w_str (x : MA) (v : aI) : (x.w_str v).rbe = x.rbe := rfl
theorem MA.hel_w_rea (x : MA) (v : aL) : (x.w_rea v).hel = x.hel := rfl
theorem MA.hc_w_rea (x : MA) (v : aL) : (x.w_rea v).hc = x.hc := rfl
theorem MA.hr_w_rea (x : MA) (v : aL) : (x.w_rea v).hr = x.hr := rfl
theorem MA.tks_w_rea (x : MA) (v : aL) : (x.w_rea v).tks = x.tks := rfl
theorem MA.rul_w_rea (x : MA) (v : aL) : (x.w_rea v).rul = x.rul := rfl
theorem MA.cha_w_rea (x : MA) (v : aL) : (x.w_rea v).cha = x.cha := rfl
theorem MA.tic_w_rea (x : MA) (v : aL) : (x.w_rea v).tic = x.tic := rfl
theorem MA.nw_w_rea (x : MA) (v : aL) : (x.w_rea v).nw = x.nw := rfl
theorem MA.nr_w_rea (x : MA) (v : aL) : (x.w_rea v).nr = x.nr := rfl
theorem MA.has_w_rea (x : MA) (v : aL) : (x.w_rea v).has = x.has := rfl
theorem MA.bur_w_rea (x : MA) (v : aL) : (x.w_rea v).bur = x.bur := rfl
theorem MA.bea_w_rea (x : MA) (v : aL) : (x.w_rea v).bea = x.bea := rfl
theorem MA.las_w_rea (x : MA) (v : aL) : (x.w_rea v).las = x.las := rfl
theorem MA.str_w_rea (x : MA) (v : aL) : (x.w_rea v).str = x.str := rfl
theorem MA.rea_w_rea (x : MA) (v : aL) : (x.w_rea v).rea = v := rfl
theorem MA.rbe_w_rea (x : MA) (v : aL) : (x.w_rea v).rbe = x.rbe := rfl
theorem MA.hel_w_rbe (x : MA) (v : aI) : (x.w_rbe v).hel = x.hel := rfl
theorem MA.hc_w_rbe (x : MA) (v : aI) : (x.w_rbe v).hc = x.hc := rfl
theorem MA.hr_w_rbe (x : MA) (v : aI) : (x.w_rbe v).hr = x.hr := rfl
theorem MA.tks_w_rbe (x : MA) (v : aI) : (x.w_rbe v).tks = x.tks := rfl
theorem MA.rul_w_rbe (x : MA) (v : aI) : (x.w_rbe v).rul = x.rul := rfl
theorem MA.cha_w_rbe (x : MA) (v : aI) : (x.w_rbe v).cha = x.cha := rfl
theorem MA.tic_w_rbe (x : MA) (v : aI) : (x.w_rbe v).tic = x.tic := rfl
theorem MA.nw_w_rbe (x : MA) (v : aI) : (x.w_rbe v).nw = x.nw := rfl
theorem MA.nr_w_rbe (x : MA) (v : aI) : (x.w_rbe v).nr = x.nr := rfl
theorem MA.has_w_rbe (x : MA) (v : aI) : (x.w_rbe v).has = x.has := rfl
theorem MA.bur_w_rbe (x : MA) (v : aI) : (x.w_rbe v).bur = x.bur := rfl
theorem MA.bea_w_rbe (x : MA) (v : aI) : (x.w_rbe v).bea = x.bea := rfl
theorem MA.las_w_rbe (x : MA) (v : aI) : (x.w_rbe v).las = x.las := rfl
theorem MA.str_w_rbe (x : MA) (v : aI) : (x.w_rbe v).str = x.str := rfl
theorem MA.rea_w_rbe (x : MA) (v : aI) : (x.w_rbe v).rea = x.rea := rfl
theorem MA.rbe_w_rbe (x : MA) (v : aI) : (x.w_rbe v).rbe = v := rfl
def VM1 (A : MA) (p : Nat) (o : MO) : Prop := (o.ws.length ≤ 16) ∧ (o.rs.length ≤ 16) ∧ (∀ c, c < 5 → A.hel (5 * p + c) = bI (o.held c) ∧ A.hc (5 * p + c) = o.hc c ∧ A.hr (5 * p + c) = o.hr c) ∧ (A.tks p = o.ticks) ∧ (A.rul p = nI o.rule) ∧ (o.rule < 13) ∧ (A.cha p = o.chan) ∧ (A.tic p = o.tick) ∧ (A.nw p = nI o.ws.length) ∧ (A.nr p = nI o.rs.length) ∧ (∀ (k : Nat) (e : MW), o.ws[k]? = some e → A.has (16 * p + k) = bI e.has ∧ (e.has = true → A.bur (16 * p + k) = e.con ∧ kiN e.con ≠ 3) ∧ A.bea (16 * p + k) = nI e.n ∧ A.las (16 * p + k) = bI e.last ∧ e.n ≤ 16) ∧ (∀ (k : Nat) (e : MW), o.ws[k]? = some e → ∀ i, i < e.n → A.str (16 * (16 * p + k) + i) = e.rst i) ∧ (∀ (k : Nat) (e : MR), o.rs[k]? = some e → A.rea (16 * p + k) = e.con ∧ A.rbe (16 * p + k) = nI e.n ∧ e.n ≤ 16) ∧ (o.rule = 0 → (o.held 0 = true → kiN (o.hc 0) ≠ 3))
theorem VM1.lw {A : MA} {p : Nat} {o : MO} (h : VM1 A p o) : o.ws.length ≤ 16 := h.1
theorem VM1.lr {A : MA} {p : Nat} {o : MO} (h : VM1 A p o) : o.rs.length ≤ 16 := h.2.1
theorem VM1.hel {A : MA} {p : Nat} {o : MO} (h : VM1 A p o) : ∀ c, c < 5 → A.hel (5 * p + c) = bI (o.held c) ∧ A.hc (5 * p + c) = o.hc c ∧ A.hr (5 * p + c) = o.hr c := h.2.2.1
theorem VM1.tks {A : MA} {p : Nat} {o : MO} (h : VM1 A p o) : A.tks p = o.ticks := h.2.2.2.1
theorem VM1.rul {A : MA} {p : Nat} {o : MO} (h : VM1 A p o) : A.rul p = nI o.rule := h.2.2.2.2.1
theorem VM1.rl {A : MA} {p : Nat} {o : MO} (h : VM1 A p o) : o.rule < 13 := h.2.2.2.2.2.1
theorem VM1.cha {A : MA} {p : Nat} {o : MO} (h : VM1 A p o) : A.cha p = o.chan := h.2.2.2.2.2.2.1
theorem VM1.tic {A : MA} {p : Nat} {o : MO} (h : VM1 A p o) : A.tic p = o.tick := h.2.2.2.2.2.2.2.1
theorem VM1.nw {A : MA} {p : Nat} {o : MO} (h : VM1 A p o) : A.nw p = nI o.ws.length := h.2.2.2.2.2.2.2.2.1
theorem VM1.nr {A : MA} {p : Nat} {o : MO} (h : VM1 A p o) : A.nr p = nI o.rs.length := h.2.2.2.2.2.2.2.2.2.1
theorem VM1.ws {A : MA} {p : Nat} {o : MO} (h : VM1 A p o) : ∀ (k : Nat) (e : MW), o.ws[k]? = some e → A.has (16 * p + k) = bI e.has ∧ (e.has = true → A.bur (16 * p + k) = e.con ∧ kiN e.con ≠ 3) ∧ A.bea (16 * p + k) = nI e.n ∧ A.las (16 * p + k) = bI e.last ∧ e.n ≤ 16 := h.2.2.2.2.2.2.2.2.2.2.1
theorem VM1.st {A : MA} {p : Nat} {o : MO} (h : VM1 A p o) : ∀ (k : Nat) (e : MW), o.ws[k]? = some e → ∀ i, i < e.n → A.str (16 * (16 * p + k) + i) = e.rst i := h.2.2.2.2.2.2.2.2.2.2.2.1
theorem VM1.rs {A : MA} {p : Nat} {o : MO} (h : VM1 A p o) : ∀ (k : Nat) (e : MR), o.rs[k]? = some e → A.rea (16 * p + k) = e.con ∧ A.rbe (16 * p + k) = nI e.n ∧ e.n ≤ 16 := h.2.2.2.2.2.2.2.2.2.2.2.2.1
theorem VM1.leg {A : MA} {p : Nat} {o : MO} (h : VM1 A p o) : o.rule = 0 → (o.held 0 = true → kiN (o.hc 0) ≠ 3) := h.2.2.2.2.2.2.2.2.2.2.2.2.2
def VMo (A : MA) (mon : Nat → MO) : Prop := ∀ p, p < 10 → VM1 A p (mon p)
def maOf (φ : ph_T) (r : Nat) : MA := ⟨(φ.1 (r + 72)), (φ.2.1 (r + 73)), (φ.1 (r + 74)), (φ.1 (r + 75)), (φ.1 (r + 76)), (φ.1 (r + 77)), (φ.1 (r + 78)), (φ.1 (r + 79)), (φ.1 (r + 80)), (φ.1 (r + 81)), (φ.2.1 (r + 82)), (φ.1 (r + 83)), (φ.1 (r + 84)), (φ.1 (r + 85)), (φ.2.1 (r + 86)), (φ.1 (r + 87))⟩
def RV (Γ : gm_T) (φ : ph_T) (r : Nat) (S : XS) : Prop := (RL Γ φ r) ∧ (VSc (φ.1 r) S) ∧ (VPg (φ.1 (r + 1)) S.ns S.pages) ∧ (VPat (φ.1 (r + 2)) S.mpat) ∧ (VPat (φ.1 (r + 3)) S.spat) ∧ (VB4 (φ.1 (r + 4)) S.early) ∧ (VN4 (φ.1 (r + 5)) S.delay) ∧ (VN4 (φ.1 (r + 6)) S.way) ∧ (VMem (φ.1 (r + 7)) (φ.1 (r + 8)) S.mem S.spo) ∧ (VTk (φ.1 (r + 9)) (φ.1 (r + 10)) (φ.1 (r + 11)) (φ.1 (r + 12)) (φ.1 (r + 13)) (φ.1 (r + 14)) (φ.1 (r + 15)) (φ.1 (r + 16)) (φ.1 (r + 17)) (φ.1 (r + 18)) (φ.1 (r + 20)) (φ.1 (r + 21)) (φ.1 (r + 22)) (φ.1 (r + 23)) (φ.1 (r + 24)) (φ.2.1 (r + 19)) (φ.2.1 (r + 25)) S.tk) ∧ (VWi (φ.1 (r + 26)) (φ.1 (r + 27)) (φ.2.1 (r + 28)) (φ.1 (r + 29)) 8 S.wi) ∧ (VTr (φ.1 (r + 31)) S.tr) ∧ (VRow (φ.2.1 (r + 32)) (φ.1 (r + 33)) (φ.1 (r + 34)) (φ.1 (r + 35)) S.row) ∧ (VU (φ.1 (r + 36)) (φ.1 (r + 37)) (φ.1 (r + 38)) (φ.1 (r + 39)) S.uw) ∧ (VU3 (φ.1 (r + 40)) (φ.1 (r + 41)) (φ.1 (r + 42)) S.ur) ∧ (VLast (φ.1 (r + 43)) (φ.1 (r + 44)) (φ.1 (r + 45)) (φ.1 (r + 46)) (φ.1 (r + 47)) S) ∧ (VSw (φ.1 (r + 48)) (φ.1 (r + 49)) (φ.1 (r + 50)) (φ.2.1 (r + 51)) (φ.1 (r + 52)) (φ.1 (r + 53)) (φ.1 (r + 54)) (φ.2.1 (r + 55)) (φ.1 (r + 56)) S.sw) ∧ (VSr (φ.1 (r + 57)) (φ.1 (r + 58)) (φ.1 (r + 59)) (φ.2.1 (r + 60)) (φ.1 (r + 61)) (φ.1 (r + 62)) (φ.1 (r + 63)) (φ.2.1 (r + 64)) (φ.1 (r + 65)) S.sr) ∧ (VCh (φ.1 (r + 66)) (φ.1 (r + 67)) (φ.1 (r + 68)) (φ.1 (r + 69)) S) ∧ (VRg (φ.1 (r + 70)) (φ.1 (r + 71)) S.rgt) ∧ (VMo (maOf φ r) S.mon) ∧ (VWi (φ.1 (r + 88)) (φ.1 (r + 89)) (φ.2.1 (r + 90)) (φ.1 (r + 91)) 2 (fun p => S.wi (8 + p)))
theorem RV.rl {Γ : gm_T} {φ : ph_T} {r : Nat} {S : XS} (h : RV Γ φ r S) : RL Γ φ r := h.1
theorem RV.sc {Γ : gm_T} {φ : ph_T} {r : Nat} {S : XS} (h : RV Γ φ r S) : VSc (φ.1 r) S := h.2.1
theorem RV.pg {Γ : gm_T} {φ : ph_T} {r : Nat} {S : XS} (h : RV Γ φ r S) : VPg (φ.1 (r + 1)) S.ns S.pages := h.2.2.1
theorem RV.mp {Γ : gm_T} {φ : ph_T} {r : Nat} {S : XS} (h : RV Γ φ r S) : VPat (φ.1 (r + 2)) S.mpat := h.2.2.2.1
theorem RV.sp {Γ : gm_T} {φ : ph_T} {r : Nat} {S : XS} (h : RV Γ φ r S) : VPat (φ.1 (r + 3)) S.spat := h.2.2.2.2.1
theorem RV.ea {Γ : gm_T} {φ : ph_T} {r : Nat} {S : XS} (h : RV Γ φ r S) : VB4 (φ.1 (r + 4)) S.early := h.2.2.2.2.2.1
theorem RV.de {Γ : gm_T} {φ : ph_T} {r : Nat} {S : XS} (h : RV Γ φ r S) : VN4 (φ.1 (r + 5)) S.delay := h.2.2.2.2.2.2.1
theorem RV.wa {Γ : gm_T} {φ : ph_T} {r : Nat} {S : XS} (h : RV Γ φ r S) : VN4 (φ.1 (r + 6)) S.way := h.2.2.2.2.2.2.2.1
theorem RV.me {Γ : gm_T} {φ : ph_T} {r : Nat} {S : XS} (h : RV Γ φ r S) : VMem (φ.1 (r + 7)) (φ.1 (r + 8)) S.mem S.spo := h.2.2.2.2.2.2.2.2.1
theorem RV.tk {Γ : gm_T} {φ : ph_T} {r : Nat} {S : XS} (h : RV Γ φ r S) : VTk (φ.1 (r + 9)) (φ.1 (r + 10)) (φ.1 (r + 11)) (φ.1 (r + 12)) (φ.1 (r + 13)) (φ.1 (r + 14)) (φ.1 (r + 15)) (φ.1 (r + 16)) (φ.1 (r + 17)) (φ.1 (r + 18)) (φ.1 (r + 20)) (φ.1 (r + 21)) (φ.1 (r + 22)) (φ.1 (r + 23)) (φ.1 (r + 24)) (φ.2.1 (r + 19)) (φ.2.1 (r + 25)) S.tk := h.2.2.2.2.2.2.2.2.2.1
theorem RV.wi {Γ : gm_T} {φ : ph_T} {r : Nat} {S : XS} (h : RV Γ φ r S) : VWi (φ.1 (r + 26)) (φ.1 (r + 27)) (φ.2.1 (r + 28)) (φ.1 (r + 29)) 8 S.wi := h.2.2.2.2.2.2.2.2.2.2.1
theorem RV.tr {Γ : gm_T} {φ : ph_T} {r : Nat} {S : XS} (h : RV Γ φ r S) : VTr (φ.1 (r + 31)) S.tr := h.2.2.2.2.2.2.2.2.2.2.2.1
theorem RV.row {Γ : gm_T} {φ : ph_T} {r : Nat} {S : XS} (h : RV Γ φ r S) : VRow (φ.2.1 (r + 32)) (φ.1 (r + 33)) (φ.1 (r + 34)) (φ.1 (r + 35)) S.row := h.2.2.2.2.2.2.2.2.2.2.2.2.1
theorem RV.uw {Γ : gm_T} {φ : ph_T} {r : Nat} {S : XS} (h : RV Γ φ r S) : VU (φ.1 (r + 36)) (φ.1 (r + 37)) (φ.1 (r + 38)) (φ.1 (r + 39)) S.uw := h.2.2.2.2.2.2.2.2.2.2.2.2.2.1
theorem RV.ur {Γ : gm_T} {φ : ph_T} {r : Nat} {S : XS} (h : RV Γ φ r S) : VU3 (φ.1 (r + 40)) (φ.1 (r + 41)) (φ.1 (r + 42)) S.ur := h.2.2.2.2.2.2.2.2.2.2.2.2.2.2.1
theorem RV.la {Γ : gm_T} {φ : ph_T} {r : Nat} {S : XS} (h : RV Γ φ r S) : VLast (φ.1 (r + 43)) (φ.1 (r + 44)) (φ.1 (r + 45)) (φ.1 (r + 46)) (φ.1 (r + 47)) S := h.2.2.2.2.2.2.2.2.2.2.2.2.2.2.2.1
theorem RV.sw {Γ : gm_T} {φ : ph_T} {r : Nat} {S : XS} (h : RV Γ φ r S) : VSw (φ.1 (r + 48)) (φ.1 (r + 49)) (φ.1 (r + 50)) (φ.2.1 (r + 51)) (φ.1 (r + 52)) (φ.1 (r + 53)) (φ.1 (r + 54)) (φ.2.1 (r + 55)) (φ.1 (r + 56)) S.sw := h.2.2.2.2.2.2.2.2.2.2.2.2.2.2.2.2.1
theorem RV.sr {Γ : gm_T} {φ : ph_T} {r : Nat} {S : XS} (h : RV Γ φ r S) : VSr (φ.1 (r + 57)) (φ.1 (r + 58)) (φ.1 (r + 59)) (φ.2.1 (r + 60)) (φ.1 (r + 61)) (φ.1 (r + 62)) (φ.1 (r + 63)) (φ.2.1 (r + 64)) (φ.1 (r + 65)) S.sr := h.2.2.2.2.2.2.2.2.2.2.2.2.2.2.2.2.2.1
theorem RV.ch {Γ : gm_T} {φ : ph_T} {r : Nat} {S : XS} (h : RV Γ φ r S) : VCh (φ.1 (r + 66)) (φ.1 (r + 67)) (φ.1 (r + 68)) (φ.1 (r + 69)) S := h.2.2.2.2.2.2.2.2.2.2.2.2.2.2.2.2.2.2.1
theorem RV.rg {Γ : gm_T} {φ : ph_T} {r : Nat} {S : XS} (h : RV Γ φ r S) : VRg (φ.1 (r + 70)) (φ.1 (r + 71)) S.rgt := h.2.2.2.2.2.2.2.2.2.2.2.2.2.2.2.2.2.2.2.1
theorem RV.mo {Γ : gm_T} {φ : ph_T} {r : Nat} {S : XS} (h : RV Γ φ r S) : VMo (maOf φ r) S.mon := h.2.2.2.2.2.2.2.2.2.2.2.2.2.2.2.2.2.2.2.2.1
theorem RV.wt {Γ : gm_T} {φ : ph_T} {r : Nat} {S : XS} (h : RV Γ φ r S) : VWi (φ.1 (r + 88)) (φ.1 (r + 89)) (φ.2.1 (r + 90)) (φ.1 (r + 91)) 2 (fun p => S.wi (8 + p)) := h.2.2.2.2.2.2.2.2.2.2.2.2.2.2.2.2.2.2.2.2.2
def VHe (f : aI) (H : Nat → Nat → Bool) : Prop := ∀ p k, p < 8 → k < 5 → f (5 * p + k) = bI (H p k)
theorem uI_1 (φ : ph_T) (a k : Nat) (v : Int32) (b : Nat) : (uI φ a k v).1 b = if b = a then va_up (φ.1 a) k v else φ.1 b := rfl
theorem uI_2 (φ : ph_T) (a k : Nat) (v : Int32) : (uI φ a k v).2.1 = φ.2.1 := rfl
theorem uI_3 (φ : ph_T) (a k : Nat) (v : Int32) : (uI φ a k v).2.2 = φ.2.2 := rfl
theorem uL_1 (φ : ph_T) (a k : Nat) (v : Int64) : (uL φ a k v).1 = φ.1 := rfl
theorem uL_2 (φ : ph_T) (a k : Nat) (v : Int64) (b : Nat) : (uL φ a k v).2.1 b = if b = a then va_up (φ.2.1 a) k v else φ.2.1 b := rfl
theorem uL_3 (φ : ph_T) (a k : Nat) (v : Int64) : (uL φ a k v).2.2 = φ.2.2 := rfl
theorem vz_at {α : Type} (f : Nat → α) (k : Nat) (v : α) (j : Nat) : va_up f k v j = if j = k then v else f j := rfl
theorem RL.up {Γ : gm_T} {φ φ' : ph_T} {r : Nat} (h : RL Γ φ r) (e : φ'.2.2 r = φ.2.2 r) : RL Γ φ' r := ⟨h.o, fun q hq => by rw [e]; exact h.f q hq⟩
/-- the arrays of the reference that a step leaves alone -/
def RFr (r : Nat) (K : List Nat) (φ φ' : ph_T) : Prop := φ'.2.2 = φ.2.2 ∧ (∀ a, a ∉ K.map (r + ·) → φ'.1 a = φ.1 a ∧ φ'.2.1 a = φ.2.1 a)
theorem RFr.refl (r : Nat) (K : List Nat) (φ : ph_T) : RFr r K φ φ := ⟨rfl, fun _ _ => ⟨rfl, rfl⟩⟩
theorem RFr.trans {r : Nat} {K : List Nat} {φ φ' φ'' : ph_T} (h : RFr r K φ φ') (g : RFr r K φ' φ'') : RFr r K φ φ'' := ⟨g.1.trans h.1, fun a ha => ⟨(g.2 a ha).1.trans (h.2 a ha).1, (g.2 a ha).2.trans (h.2 a ha).2⟩⟩
theorem RFr.mono {r : Nat} {K L : List Nat} {φ φ' : ph_T} (h : RFr r K φ φ') (hl : ∀ x ∈ K, x ∈ L) : RFr r L φ φ' := ⟨h.1, fun a ha => h.2 a (fun hc => ha (by
  obtain ⟨x, hx, e⟩ := List.mem_map.mp hc
  exact List.mem_map.mpr ⟨x, hl x hx, e⟩))⟩
theorem RFr.i {r : Nat} {K : List Nat} {φ φ' : ph_T} (h : RFr r K φ φ') (c : Nat) (hc : c ∉ K) : φ'.1 (r + c) = φ.1 (r + c) := (h.2 _ (fun hm => hc (by
  obtain ⟨x, hx, e⟩ := List.mem_map.mp hm
  have : x = c := by omega
  exact this ▸ hx))).1
theorem RFr.l {r : Nat} {K : List Nat} {φ φ' : ph_T} (h : RFr r K φ φ') (c : Nat) (hc : c ∉ K) : φ'.2.1 (r + c) = φ.2.1 (r + c) := (h.2 _ (fun hm => hc (by
  obtain ⟨x, hx, e⟩ := List.mem_map.mp hm
  have : x = c := by omega
  exact this ▸ hx))).2
theorem RFr.uI {r : Nat} {K : List Nat} {φ φ' : ph_T} (h : RFr r K φ φ') {c : Nat} (hc : c ∈ K) (k : Nat) (v : Int32) : RFr r K φ (uI φ' (r + c) k v) := ⟨h.1, fun a ha => by
  have hn : a ≠ r + c := fun e => ha (List.mem_map.mpr ⟨c, hc, e.symm⟩)
  exact ⟨by rw [uI_1, if_neg hn]; exact (h.2 a ha).1, (h.2 a ha).2⟩⟩
theorem RFr.uL {r : Nat} {K : List Nat} {φ φ' : ph_T} (h : RFr r K φ φ') {c : Nat} (hc : c ∈ K) (k : Nat) (v : Int64) : RFr r K φ (uL φ' (r + c) k v) := ⟨h.1, fun a ha => by
  have hn : a ≠ r + c := fun e => ha (List.mem_map.mpr ⟨c, hc, e.symm⟩)
  exact ⟨(h.2 a ha).1, by rw [uL_2, if_neg hn]; exact (h.2 a ha).2⟩⟩
theorem RFr.o {r : Nat} {K : List Nat} {φ φ' : ph_T} (h : RFr r K φ φ') (hc : 0 ∉ K) : φ'.1 r = φ.1 r := h.i 0 hc
theorem zr1 {r c : Nat} (h : 0 < c) : (r = r + c) = False := eq_false (by omega)
theorem zr2 {r c : Nat} (h : 0 < c) : (r + c = r) = False := eq_false (by omega)
theorem rfr_uO {r : Nat} {K : List Nat} {φ φ' : ph_T} (h : RFr r K φ φ') (hc : 0 ∈ K) (k : Nat) (v : Int32) : RFr r K φ (uI φ' r k v) := RFr.uI (c := 0) h hc k v
