theorem ln_Ref_init : (parseMethodDescriptor y_Ref_init.desc).map (fun q => q.parameters.length) = some 3 := by decide +kernel
def f_Ref_init (Γ : gm_T) (φ : ph_T) (n : Nat) (this : Nat) (p0 : Int32) (p1 : Int32) (p2 : Int32) : Option (mq_T (Unit)) :=
  mR Γ φ n 0 (16 : Int32) fun Γ1 φ2 n3 =>
  @ite _ (Γ1 this = .inr 12) _ (
  mR Γ1 (uR φ2 this 7 (some n)) n3 0 (20 : Int32) fun Γ6 φ7 n8 =>
  @ite _ (Γ6 this = .inr 12) _ (
  mR Γ6 (uR φ7 this 8 (some n3)) n8 0 (20 : Int32) fun Γ11 φ12 n13 =>
  @ite _ (Γ11 this = .inr 12) _ (
  mR Γ11 (uR φ12 this 9 (some n8)) n13 2 (4 : Int32) fun Γ16 φ17 n18 =>
  @ite _ (Γ16 this = .inr 12) _ (
  mR Γ16 (uR φ17 this 10 (some n13)) n18 0 (4 : Int32) fun Γ21 φ22 n23 =>
  @ite _ (Γ21 this = .inr 12) _ (
  mR Γ21 (uR φ22 this 11 (some n18)) n23 0 (4 : Int32) fun Γ26 φ27 n28 =>
  @ite _ (Γ26 this = .inr 12) _ (
  mR Γ26 (uR φ27 this 12 (some n23)) n28 0 (65536 : Int32) fun Γ31 φ32 n33 =>
  @ite _ (Γ31 this = .inr 12) _ (
  mR Γ31 (uR φ32 this 13 (some n28)) n33 2 (65536 : Int32) fun Γ36 φ37 n38 =>
  @ite _ (Γ36 this = .inr 12) _ (
  mR Γ36 (uR φ37 this 14 (some n33)) n38 0 (64 : Int32) fun Γ41 φ42 n43 =>
  @ite _ (Γ41 this = .inr 12) _ (
  mR Γ41 (uR φ42 this 16 (some n38)) n43 0 (64 : Int32) fun Γ46 φ47 n48 =>
  @ite _ (Γ46 this = .inr 12) _ (
  mR Γ46 (uR φ47 this 17 (some n43)) n48 0 (64 : Int32) fun Γ51 φ52 n53 =>
  @ite _ (Γ51 this = .inr 12) _ (
  mR Γ51 (uR φ52 this 18 (some n48)) n53 0 (64 : Int32) fun Γ56 φ57 n58 =>
  @ite _ (Γ56 this = .inr 12) _ (
  mR Γ56 (uR φ57 this 19 (some n53)) n58 2 (64 : Int32) fun Γ61 φ62 n63 =>
  @ite _ (Γ61 this = .inr 12) _ (
  mR Γ61 (uR φ62 this 20 (some n58)) n63 2 (64 : Int32) fun Γ66 φ67 n68 =>
  @ite _ (Γ66 this = .inr 12) _ (
  mR Γ66 (uR φ67 this 21 (some n63)) n68 2 (64 : Int32) fun Γ71 φ72 n73 =>
  @ite _ (Γ71 this = .inr 12) _ (
  mR Γ71 (uR φ72 this 22 (some n68)) n73 0 (64 : Int32) fun Γ76 φ77 n78 =>
  @ite _ (Γ76 this = .inr 12) _ (
  mR Γ76 (uR φ77 this 23 (some n73)) n78 0 (64 : Int32) fun Γ81 φ82 n83 =>
  @ite _ (Γ81 this = .inr 12) _ (
  mR Γ81 (uR φ82 this 24 (some n78)) n83 0 (64 : Int32) fun Γ86 φ87 n88 =>
  @ite _ (Γ86 this = .inr 12) _ (
  mR Γ86 (uR φ87 this 25 (some n83)) n88 1 (64 : Int32) fun Γ91 φ92 n93 =>
  @ite _ (Γ91 this = .inr 12) _ (
  mR Γ91 (uR φ92 this 26 (some n88)) n93 0 (64 : Int32) fun Γ96 φ97 n98 =>
  @ite _ (Γ96 this = .inr 12) _ (
  mR Γ96 (uR φ97 this 27 (some n93)) n98 0 (64 : Int32) fun Γ101 φ102 n103 =>
  @ite _ (Γ101 this = .inr 12) _ (
  mR Γ101 (uR φ102 this 28 (some n98)) n103 0 (64 : Int32) fun Γ106 φ107 n108 =>
  @ite _ (Γ106 this = .inr 12) _ (
  mR Γ106 (uR φ107 this 29 (some n103)) n108 0 (64 : Int32) fun Γ111 φ112 n113 =>
  @ite _ (Γ111 this = .inr 12) _ (
  mR Γ111 (uR φ112 this 30 (some n108)) n113 0 (64 : Int32) fun Γ116 φ117 n118 =>
  @ite _ (Γ116 this = .inr 12) _ (
  mR Γ116 (uR φ117 this 31 (some n113)) n118 1 (1024 : Int32) fun Γ121 φ122 n123 =>
  @ite _ (Γ121 this = .inr 12) _ (
  mR Γ121 (uR φ122 this 32 (some n118)) n123 2 (40 : Int32) fun Γ126 φ127 n128 =>
  @ite _ (Γ126 this = .inr 12) _ (
  mR Γ126 (uR φ127 this 33 (some n123)) n128 2 (40 : Int32) fun Γ131 φ132 n133 =>
  @ite _ (Γ131 this = .inr 12) _ (
  mR Γ131 (uR φ132 this 34 (some n128)) n133 1 (40 : Int32) fun Γ136 φ137 n138 =>
  @ite _ (Γ136 this = .inr 12) _ (
  mR Γ136 (uR φ137 this 35 (some n133)) n138 0 (40 : Int32) fun Γ141 φ142 n143 =>
  @ite _ (Γ141 this = .inr 12) _ (
  mR Γ141 (uR φ142 this 36 (some n138)) n143 2 (40 : Int32) fun Γ146 φ147 n148 =>
  @ite _ (Γ146 this = .inr 12) _ (
  mR Γ146 (uR φ147 this 37 (some n143)) n148 0 (40 : Int32) fun Γ151 φ152 n153 =>
  @ite _ (Γ151 this = .inr 12) _ (
  mR Γ151 (uR φ152 this 38 (some n148)) n153 1 (180 : Int32) fun Γ156 φ157 n158 =>
  @ite _ (Γ156 this = .inr 12) _ (
  mR Γ156 (uR φ157 this 39 (some n153)) n158 0 (180 : Int32) fun Γ161 φ162 n163 =>
  @ite _ (Γ161 this = .inr 12) _ (
  mR Γ161 (uR φ162 this 40 (some n158)) n163 0 (180 : Int32) fun Γ166 φ167 n168 =>
  @ite _ (Γ166 this = .inr 12) _ (
  mR Γ166 (uR φ167 this 41 (some n163)) n168 0 (45 : Int32) fun Γ171 φ172 n173 =>
  @ite _ (Γ171 this = .inr 12) _ (
  mR Γ171 (uR φ172 this 42 (some n168)) n173 0 (40 : Int32) fun Γ176 φ177 n178 =>
  @ite _ (Γ176 this = .inr 12) _ (
  mR Γ176 (uR φ177 this 43 (some n173)) n178 0 (40 : Int32) fun Γ181 φ182 n183 =>
  @ite _ (Γ181 this = .inr 12) _ (
  mR Γ181 (uR φ182 this 44 (some n178)) n183 0 (40 : Int32) fun Γ186 φ187 n188 =>
  @ite _ (Γ186 this = .inr 12) _ (
  mR Γ186 (uR φ187 this 45 (some n183)) n188 0 (40 : Int32) fun Γ191 φ192 n193 =>
  @ite _ (Γ191 this = .inr 12) _ (
  mR Γ191 (uR φ192 this 46 (some n188)) n193 0 (40 : Int32) fun Γ196 φ197 n198 =>
  @ite _ (Γ196 this = .inr 12) _ (
  mR Γ196 (uR φ197 this 48 (some n193)) n198 0 (40 : Int32) fun Γ201 φ202 n203 =>
  @ite _ (Γ201 this = .inr 12) _ (
  mR Γ201 (uR φ202 this 49 (some n198)) n203 0 (40 : Int32) fun Γ206 φ207 n208 =>
  @ite _ (Γ206 this = .inr 12) _ (
  mR Γ206 (uR φ207 this 50 (some n203)) n208 0 (5 : Int32) fun Γ211 φ212 n213 =>
  @ite _ (Γ211 this = .inr 12) _ (
  mR Γ211 (uR φ212 this 52 (some n208)) n213 0 (5 : Int32) fun Γ216 φ217 n218 =>
  @ite _ (Γ216 this = .inr 12) _ (
  mR Γ216 (uR φ217 this 53 (some n213)) n218 0 (4 : Int32) fun Γ221 φ222 n223 =>
  @ite _ (Γ221 this = .inr 12) _ (
  mR Γ221 (uR φ222 this 54 (some n218)) n223 0 (4 : Int32) fun Γ226 φ227 n228 =>
  @ite _ (Γ226 this = .inr 12) _ (
  mR Γ226 (uR φ227 this 55 (some n223)) n228 2 (4 : Int32) fun Γ231 φ232 n233 =>
  @ite _ (Γ231 this = .inr 12) _ (
  mR Γ231 (uR φ232 this 56 (some n228)) n233 0 (4 : Int32) fun Γ236 φ237 n238 =>
  @ite _ (Γ236 this = .inr 12) _ (
  mR Γ236 (uR φ237 this 58 (some n233)) n238 0 (16 : Int32) fun Γ241 φ242 n243 =>
  @ite _ (Γ241 this = .inr 12) _ (
  mR Γ241 (uR φ242 this 59 (some n238)) n243 2 (16 : Int32) fun Γ246 φ247 n248 =>
  @ite _ (Γ246 this = .inr 12) _ (
  mR Γ246 (uR φ247 this 60 (some n243)) n248 1 (16 : Int32) fun Γ251 φ252 n253 =>
  @ite _ (Γ251 this = .inr 12) _ (
  mR Γ251 (uR φ252 this 61 (some n248)) n253 0 (16 : Int32) fun Γ256 φ257 n258 =>
  @ite _ (Γ256 this = .inr 12) _ (
  mR Γ256 (uR φ257 this 62 (some n253)) n258 0 (16 : Int32) fun Γ261 φ262 n263 =>
  @ite _ (Γ261 this = .inr 12) _ (
  mR Γ261 (uR φ262 this 63 (some n258)) n263 0 (16 : Int32) fun Γ266 φ267 n268 =>
  @ite _ (Γ266 this = .inr 12) _ (
  mR Γ266 (uR φ267 this 64 (some n263)) n268 1 (256 : Int32) fun Γ271 φ272 n273 =>
  @ite _ (Γ271 this = .inr 12) _ (
  mR Γ271 (uR φ272 this 65 (some n268)) n273 0 (256 : Int32) fun Γ276 φ277 n278 =>
  @ite _ (Γ276 this = .inr 12) _ (
  mR Γ276 (uR φ277 this 66 (some n273)) n278 0 (4 : Int32) fun Γ281 φ282 n283 =>
  @ite _ (Γ281 this = .inr 12) _ (
  mR Γ281 (uR φ282 this 67 (some n278)) n283 0 (16 : Int32) fun Γ286 φ287 n288 =>
  @ite _ (Γ286 this = .inr 12) _ (
  mR Γ286 (uR φ287 this 68 (some n283)) n288 2 (16 : Int32) fun Γ291 φ292 n293 =>
  @ite _ (Γ291 this = .inr 12) _ (
  mR Γ291 (uR φ292 this 69 (some n288)) n293 1 (16 : Int32) fun Γ296 φ297 n298 =>
  @ite _ (Γ296 this = .inr 12) _ (
  mR Γ296 (uR φ297 this 70 (some n293)) n298 0 (16 : Int32) fun Γ301 φ302 n303 =>
  @ite _ (Γ301 this = .inr 12) _ (
  mR Γ301 (uR φ302 this 71 (some n298)) n303 0 (16 : Int32) fun Γ306 φ307 n308 =>
  @ite _ (Γ306 this = .inr 12) _ (
  mR Γ306 (uR φ307 this 72 (some n303)) n308 0 (16 : Int32) fun Γ311 φ312 n313 =>
  @ite _ (Γ311 this = .inr 12) _ (
  mR Γ311 (uR φ312 this 73 (some n308)) n313 1 (256 : Int32) fun Γ316 φ317 n318 =>
  @ite _ (Γ316 this = .inr 12) _ (
  mR Γ316 (uR φ317 this 74 (some n313)) n318 0 (256 : Int32) fun Γ321 φ322 n323 =>
  @ite _ (Γ321 this = .inr 12) _ (
  mR Γ321 (uR φ322 this 75 (some n318)) n323 0 (4 : Int32) fun Γ326 φ327 n328 =>
  @ite _ (Γ326 this = .inr 12) _ (
  mR Γ326 (uR φ327 this 76 (some n323)) n328 0 (4 : Int32) fun Γ331 φ332 n333 =>
  @ite _ (Γ331 this = .inr 12) _ (
  mR Γ331 (uR φ332 this 77 (some n328)) n333 0 (4 : Int32) fun Γ336 φ337 n338 =>
  @ite _ (Γ336 this = .inr 12) _ (
  mR Γ336 (uR φ337 this 78 (some n333)) n338 0 (4 : Int32) fun Γ341 φ342 n343 =>
  @ite _ (Γ341 this = .inr 12) _ (
  mR Γ341 (uR φ342 this 79 (some n338)) n343 0 (256 : Int32) fun Γ346 φ347 n348 =>
  @ite _ (Γ346 this = .inr 12) _ (
  mR Γ346 (uR φ347 this 80 (some n343)) n348 0 (256 : Int32) fun Γ351 φ352 n353 =>
  @ite _ (Γ351 this = .inr 12) _ (
  mR Γ351 (uR φ352 this 81 (some n348)) n353 2 (50 : Int32) fun Γ356 φ357 n358 =>
  @ite _ (Γ356 this = .inr 12) _ (
  mR Γ356 (uR φ357 this 82 (some n353)) n358 1 (50 : Int32) fun Γ361 φ362 n363 =>
  @ite _ (Γ361 this = .inr 12) _ (
  mR Γ361 (uR φ362 this 83 (some n358)) n363 0 (50 : Int32) fun Γ366 φ367 n368 =>
  @ite _ (Γ366 this = .inr 12) _ (
  mR Γ366 (uR φ367 this 84 (some n363)) n368 0 (10 : Int32) fun Γ371 φ372 n373 =>
  @ite _ (Γ371 this = .inr 12) _ (
  mR Γ371 (uR φ372 this 85 (some n368)) n373 0 (10 : Int32) fun Γ376 φ377 n378 =>
  @ite _ (Γ376 this = .inr 12) _ (
  mR Γ376 (uR φ377 this 86 (some n373)) n378 0 (10 : Int32) fun Γ381 φ382 n383 =>
  @ite _ (Γ381 this = .inr 12) _ (
  mR Γ381 (uR φ382 this 87 (some n378)) n383 0 (10 : Int32) fun Γ386 φ387 n388 =>
  @ite _ (Γ386 this = .inr 12) _ (
  mR Γ386 (uR φ387 this 88 (some n383)) n388 0 (10 : Int32) fun Γ391 φ392 n393 =>
  @ite _ (Γ391 this = .inr 12) _ (
  mR Γ391 (uR φ392 this 89 (some n388)) n393 0 (10 : Int32) fun Γ396 φ397 n398 =>
  @ite _ (Γ396 this = .inr 12) _ (
  mR Γ396 (uR φ397 this 90 (some n393)) n398 2 (160 : Int32) fun Γ401 φ402 n403 =>
  @ite _ (Γ401 this = .inr 12) _ (
  mR Γ401 (uR φ402 this 91 (some n398)) n403 1 (160 : Int32) fun Γ406 φ407 n408 =>
  @ite _ (Γ406 this = .inr 12) _ (
  mR Γ406 (uR φ407 this 92 (some n403)) n408 0 (160 : Int32) fun Γ411 φ412 n413 =>
  @ite _ (Γ411 this = .inr 12) _ (
  mR Γ411 (uR φ412 this 93 (some n408)) n413 2 (160 : Int32) fun Γ416 φ417 n418 =>
  @ite _ (Γ416 this = .inr 12) _ (
  mR Γ416 (uR φ417 this 94 (some n413)) n418 0 (2560 : Int32) fun Γ421 φ422 n423 =>
  @ite _ (Γ421 this = .inr 12) _ (
  mR Γ421 (uR φ422 this 95 (some n418)) n423 1 (160 : Int32) fun Γ426 φ427 n428 =>
  @ite _ (Γ426 this = .inr 12) _ (
  mR Γ426 (uR φ427 this 96 (some n423)) n428 0 (160 : Int32) fun Γ431 φ432 n433 =>
  @ite _ (Γ431 this = .inr 12) _ (
  mR Γ431 (uR φ432 this 97 (some n428)) n433 2 (10 : Int32) fun Γ436 φ437 n438 =>
  @ite _ (Γ436 this = .inr 12) _ (
  mR Γ436 (uR φ437 this 98 (some n433)) n438 2 (10 : Int32) fun Γ441 φ442 n443 =>
  @ite _ (Γ441 this = .inr 12) _ (
  mR Γ441 (uR φ442 this 99 (some n438)) n443 1 (10 : Int32) fun Γ446 φ447 n448 =>
  @ite _ (Γ446 this = .inr 12) _ (
  mR Γ446 (uR φ447 this 100 (some n443)) n448 0 (10 : Int32) fun Γ451 φ452 n453 =>
  @ite _ (Γ451 this = .inr 12) _ (
  Option.bind (f_Ref_near Γ451 (uR φ452 this 101 (some n448)) p0 (4 : Int32)) fun q456 =>
  Option.bind (f_Ref_near Γ451 (uI q456.2 this 1 q456.1) p1 (4 : Int32)) fun q457 =>
  Option.bind (f_Ref_near Γ451 (uI q457.2 this 2 q457.1) p2 (8 : Int32)) fun q458 =>
  Option.bind (f_Ref_clear Γ451 (uI q458.2 this 3 q458.1) this) fun q459 =>
  some ((), (Γ451, q459.2, n453), (0, 0))
  ) none
  ) none
  ) none
  ) none
  ) none
  ) none
  ) none
  ) none
  ) none
  ) none
  ) none
  ) none
  ) none
  ) none
  ) none
  ) none
  ) none
  ) none
  ) none
  ) none
  ) none
  ) none
  ) none
  ) none
  ) none
  ) none
  ) none
  ) none
  ) none
  ) none
  ) none
  ) none
  ) none
  ) none
  ) none
  ) none
  ) none
  ) none
  ) none
  ) none
  ) none
  ) none
  ) none
  ) none
  ) none
  ) none
  ) none
  ) none
  ) none
  ) none
  ) none
  ) none
  ) none
  ) none
  ) none
  ) none
  ) none
  ) none
  ) none
  ) none
  ) none
  ) none
  ) none
  ) none
  ) none
  ) none
  ) none
  ) none
  ) none
  ) none
  ) none
  ) none
  ) none
  ) none
  ) none
  ) none
  ) none
  ) none
  ) none
  ) none
  ) none
  ) none
  ) none
  ) none
  ) none
  ) none
  ) none
  ) none
  ) none
  ) none
  ) none
set_option maxRecDepth 100000 in
set_option maxHeartbeats 8000000 in
theorem p_Ref_init {w : jw_T} (hw : jok w) {Γ : gm_T} {φ : ph_T} {n : Nat} {this : Nat} {p0 : Int32} {p1 : Int32} {p2 : Int32} {q : mq_T (Unit)} (hZ : gz w Γ n) (H : f_Ref_init Γ φ n this p0 p1 p2 = some q) : jc w M_Ref_init [.ref this, .int p0, .int p1, .int p2] (pic Γ φ) n true q.2.2.1 q.2.2.2 (mqQ w (.inl none) q.2.1) := by
  refine jc.of (by simp only [jent_r, jent_i, jent_l, jent_a, jent_0]; exact Nat.le_of_ble_eq_true rfl) ?_
  have hls : jents [.ref this, .int p0, .int p1, .int p2] (jm_nL M_Ref_init) = [some (.ref this), some (.int p0), some (.int p1), some (.int p2)] := by simp only [jents, jent_r, jent_i, jent_l, jent_a, jent_0]; rfl
  rw [hls]
  clear hls
  unfold f_Ref_init at H
  refine J_aload_n d_Ref_init_0 rfl ?_
  refine J_objInit (st := []) (tb6 hw (i := 222) (by decide +kernel)) (tb1 hw (i := 31) (by decide +kernel)) (objInit_code hw) d_Ref_init_1 rfl (by decide) (by decide) ?_
  refine J_aload_n d_Ref_init_4 rfl ?_
  refine J_bipush (v := 16) d_Ref_init_5 (by decide) ?_
  refine F_newa0 (r := (fun _ => .inl none)) hw hZ (tb1 hw (i := 86) (by decide +kernel)) d_Ref_init_7 H ?_
  clear H
  intro Γ1 φ2 n3 q hZ4 H
  have g5 : Γ1 this = .inr 12 := by
    apply Classical.byContradiction
    intro q9
    rw [if_neg q9] at H
    cases H
  rw [if_pos g5] at H
  refine F_putRF (ci := 12) (k := 7) (v := (some n)) hZ4.1 (cf_Ref hw) (tb7 hw (i := 11) (by decide +kernel)) (by decide) (by decide) rfl d_Ref_init_9 rfl rfl rfl rfl rfl g5 ?_
  refine J_aload_n d_Ref_init_12 rfl ?_
  refine J_bipush (v := 20) d_Ref_init_13 (by decide) ?_
  refine F_newa0 (r := (fun _ => .inl none)) hw hZ4 (tb1 hw (i := 86) (by decide +kernel)) d_Ref_init_15 H ?_
  clear H
  intro Γ6 φ7 n8 q hZ9 H
  have g10 : Γ6 this = .inr 12 := by
    apply Classical.byContradiction
    intro q9
    rw [if_neg q9] at H
    cases H
  rw [if_pos g10] at H
  refine F_putRF (ci := 12) (k := 8) (v := (some n3)) hZ9.1 (cf_Ref hw) (tb7 hw (i := 12) (by decide +kernel)) (by decide) (by decide) rfl d_Ref_init_17 rfl rfl rfl rfl rfl g10 ?_
  refine J_aload_n d_Ref_init_20 rfl ?_
  refine J_bipush (v := 20) d_Ref_init_21 (by decide) ?_
  refine F_newa0 (r := (fun _ => .inl none)) hw hZ9 (tb1 hw (i := 86) (by decide +kernel)) d_Ref_init_23 H ?_
  clear H
  intro Γ11 φ12 n13 q hZ14 H
  have g15 : Γ11 this = .inr 12 := by
    apply Classical.byContradiction
    intro q9
    rw [if_neg q9] at H
    cases H
  rw [if_pos g15] at H
  refine F_putRF (ci := 12) (k := 9) (v := (some n8)) hZ14.1 (cf_Ref hw) (tb7 hw (i := 13) (by decide +kernel)) (by decide) (by decide) rfl d_Ref_init_25 rfl rfl rfl rfl rfl g15 ?_
  refine J_aload_n d_Ref_init_28 rfl ?_
  refine J_iconst (v := 4) d_Ref_init_29 (by decide) ?_
  refine F_newa2 (r := (fun _ => .inl none)) hw hZ14 (tb1 hw (i := 177) (by decide +kernel)) d_Ref_init_30 H ?_
  clear H
  intro Γ16 φ17 n18 q hZ19 H
  have g20 : Γ16 this = .inr 12 := by
    apply Classical.byContradiction
    intro q9
    rw [if_neg q9] at H
    cases H
  rw [if_pos g20] at H
  refine F_putRF (ci := 12) (k := 10) (v := (some n13)) hZ19.1 (cf_Ref hw) (tb7 hw (i := 14) (by decide +kernel)) (by decide) (by decide) rfl d_Ref_init_32 rfl rfl rfl rfl rfl g20 ?_
  refine J_aload_n d_Ref_init_35 rfl ?_
  refine J_iconst (v := 4) d_Ref_init_36 (by decide) ?_
  refine F_newa0 (r := (fun _ => .inl none)) hw hZ19 (tb1 hw (i := 86) (by decide +kernel)) d_Ref_init_37 H ?_
  clear H
  intro Γ21 φ22 n23 q hZ24 H
  have g25 : Γ21 this = .inr 12 := by
    apply Classical.byContradiction
    intro q9
    rw [if_neg q9] at H
    cases H
  rw [if_pos g25] at H
  refine F_putRF (ci := 12) (k := 11) (v := (some n18)) hZ24.1 (cf_Ref hw) (tb7 hw (i := 15) (by decide +kernel)) (by decide) (by decide) rfl d_Ref_init_39 rfl rfl rfl rfl rfl g25 ?_
  refine J_aload_n d_Ref_init_42 rfl ?_
  refine J_iconst (v := 4) d_Ref_init_43 (by decide) ?_
  refine F_newa0 (r := (fun _ => .inl none)) hw hZ24 (tb1 hw (i := 86) (by decide +kernel)) d_Ref_init_44 H ?_
  clear H
  intro Γ26 φ27 n28 q hZ29 H
  have g30 : Γ26 this = .inr 12 := by
    apply Classical.byContradiction
    intro q9
    rw [if_neg q9] at H
    cases H
  rw [if_pos g30] at H
  refine F_putRF (ci := 12) (k := 12) (v := (some n23)) hZ29.1 (cf_Ref hw) (tb7 hw (i := 16) (by decide +kernel)) (by decide) (by decide) rfl d_Ref_init_46 rfl rfl rfl rfl rfl g30 ?_
  refine J_aload_n d_Ref_init_49 rfl ?_
  refine J_ldc (v := 65536) d_Ref_init_50 (kn_Ref_29 hw) ?_
  refine F_newa0 (r := (fun _ => .inl none)) hw hZ29 (tb1 hw (i := 86) (by decide +kernel)) d_Ref_init_52 H ?_
  clear H
  intro Γ31 φ32 n33 q hZ34 H
  have g35 : Γ31 this = .inr 12 := by
    apply Classical.byContradiction
    intro q9
    rw [if_neg q9] at H
    cases H
  rw [if_pos g35] at H
  refine F_putRF (ci := 12) (k := 13) (v := (some n28)) hZ34.1 (cf_Ref hw) (tb7 hw (i := 17) (by decide +kernel)) (by decide) (by decide) rfl d_Ref_init_54 rfl rfl rfl rfl rfl g35 ?_
  refine J_aload_n d_Ref_init_57 rfl ?_
  refine J_ldc (v := 65536) d_Ref_init_58 (kn_Ref_29 hw) ?_
  refine F_newa2 (r := (fun _ => .inl none)) hw hZ34 (tb1 hw (i := 177) (by decide +kernel)) d_Ref_init_60 H ?_
  clear H
  intro Γ36 φ37 n38 q hZ39 H
  have g40 : Γ36 this = .inr 12 := by
    apply Classical.byContradiction
    intro q9
    rw [if_neg q9] at H
    cases H
  rw [if_pos g40] at H
  refine F_putRF (ci := 12) (k := 14) (v := (some n33)) hZ39.1 (cf_Ref hw) (tb7 hw (i := 18) (by decide +kernel)) (by decide) (by decide) rfl d_Ref_init_62 rfl rfl rfl rfl rfl g40 ?_
  refine J_aload_n d_Ref_init_65 rfl ?_
  refine J_bipush (v := 64) d_Ref_init_66 (by decide) ?_
  refine F_newa0 (r := (fun _ => .inl none)) hw hZ39 (tb1 hw (i := 86) (by decide +kernel)) d_Ref_init_68 H ?_
  clear H
  intro Γ41 φ42 n43 q hZ44 H
  have g45 : Γ41 this = .inr 12 := by
    apply Classical.byContradiction
    intro q9
    rw [if_neg q9] at H
    cases H
  rw [if_pos g45] at H
  refine F_putRF (ci := 12) (k := 16) (v := (some n38)) hZ44.1 (cf_Ref hw) (tb7 hw (i := 20) (by decide +kernel)) (by decide) (by decide) rfl d_Ref_init_70 rfl rfl rfl rfl rfl g45 ?_
  refine J_aload_n d_Ref_init_73 rfl ?_
  refine J_bipush (v := 64) d_Ref_init_74 (by decide) ?_
  refine F_newa0 (r := (fun _ => .inl none)) hw hZ44 (tb1 hw (i := 86) (by decide +kernel)) d_Ref_init_76 H ?_
  clear H
  intro Γ46 φ47 n48 q hZ49 H
  have g50 : Γ46 this = .inr 12 := by
    apply Classical.byContradiction
    intro q9
    rw [if_neg q9] at H
    cases H
  rw [if_pos g50] at H
  refine F_putRF (ci := 12) (k := 17) (v := (some n43)) hZ49.1 (cf_Ref hw) (tb7 hw (i := 21) (by decide +kernel)) (by decide) (by decide) rfl d_Ref_init_78 rfl rfl rfl rfl rfl g50 ?_
  refine J_aload_n d_Ref_init_81 rfl ?_
  refine J_bipush (v := 64) d_Ref_init_82 (by decide) ?_
  refine F_newa0 (r := (fun _ => .inl none)) hw hZ49 (tb1 hw (i := 86) (by decide +kernel)) d_Ref_init_84 H ?_
  clear H
  intro Γ51 φ52 n53 q hZ54 H
  have g55 : Γ51 this = .inr 12 := by
    apply Classical.byContradiction
    intro q9
    rw [if_neg q9] at H
    cases H
  rw [if_pos g55] at H
  refine F_putRF (ci := 12) (k := 18) (v := (some n48)) hZ54.1 (cf_Ref hw) (tb7 hw (i := 22) (by decide +kernel)) (by decide) (by decide) rfl d_Ref_init_86 rfl rfl rfl rfl rfl g55 ?_
  refine J_aload_n d_Ref_init_89 rfl ?_
  refine J_bipush (v := 64) d_Ref_init_90 (by decide) ?_
  refine F_newa0 (r := (fun _ => .inl none)) hw hZ54 (tb1 hw (i := 86) (by decide +kernel)) d_Ref_init_92 H ?_
  clear H
  intro Γ56 φ57 n58 q hZ59 H
  have g60 : Γ56 this = .inr 12 := by
    apply Classical.byContradiction
    intro q9
    rw [if_neg q9] at H
    cases H
  rw [if_pos g60] at H
  refine F_putRF (ci := 12) (k := 19) (v := (some n53)) hZ59.1 (cf_Ref hw) (tb7 hw (i := 23) (by decide +kernel)) (by decide) (by decide) rfl d_Ref_init_94 rfl rfl rfl rfl rfl g60 ?_
  refine J_aload_n d_Ref_init_97 rfl ?_
  refine J_bipush (v := 64) d_Ref_init_98 (by decide) ?_
  refine F_newa2 (r := (fun _ => .inl none)) hw hZ59 (tb1 hw (i := 177) (by decide +kernel)) d_Ref_init_100 H ?_
  clear H
  intro Γ61 φ62 n63 q hZ64 H
  have g65 : Γ61 this = .inr 12 := by
    apply Classical.byContradiction
    intro q9
    rw [if_neg q9] at H
    cases H
  rw [if_pos g65] at H
  refine F_putRF (ci := 12) (k := 20) (v := (some n58)) hZ64.1 (cf_Ref hw) (tb7 hw (i := 24) (by decide +kernel)) (by decide) (by decide) rfl d_Ref_init_102 rfl rfl rfl rfl rfl g65 ?_
  refine J_aload_n d_Ref_init_105 rfl ?_
  refine J_bipush (v := 64) d_Ref_init_106 (by decide) ?_
  refine F_newa2 (r := (fun _ => .inl none)) hw hZ64 (tb1 hw (i := 177) (by decide +kernel)) d_Ref_init_108 H ?_
  clear H
  intro Γ66 φ67 n68 q hZ69 H
  have g70 : Γ66 this = .inr 12 := by
    apply Classical.byContradiction
    intro q9
    rw [if_neg q9] at H
    cases H
  rw [if_pos g70] at H
  refine F_putRF (ci := 12) (k := 21) (v := (some n63)) hZ69.1 (cf_Ref hw) (tb7 hw (i := 25) (by decide +kernel)) (by decide) (by decide) rfl d_Ref_init_110 rfl rfl rfl rfl rfl g70 ?_
  refine J_aload_n d_Ref_init_113 rfl ?_
  refine J_bipush (v := 64) d_Ref_init_114 (by decide) ?_
  refine F_newa2 (r := (fun _ => .inl none)) hw hZ69 (tb1 hw (i := 177) (by decide +kernel)) d_Ref_init_116 H ?_
  clear H
  intro Γ71 φ72 n73 q hZ74 H
  have g75 : Γ71 this = .inr 12 := by
    apply Classical.byContradiction
    intro q9
    rw [if_neg q9] at H
    cases H
  rw [if_pos g75] at H
  refine F_putRF (ci := 12) (k := 22) (v := (some n68)) hZ74.1 (cf_Ref hw) (tb7 hw (i := 26) (by decide +kernel)) (by decide) (by decide) rfl d_Ref_init_118 rfl rfl rfl rfl rfl g75 ?_
  refine J_aload_n d_Ref_init_121 rfl ?_
  refine J_bipush (v := 64) d_Ref_init_122 (by decide) ?_
  refine F_newa0 (r := (fun _ => .inl none)) hw hZ74 (tb1 hw (i := 86) (by decide +kernel)) d_Ref_init_124 H ?_
  clear H
  intro Γ76 φ77 n78 q hZ79 H
  have g80 : Γ76 this = .inr 12 := by
    apply Classical.byContradiction
    intro q9
    rw [if_neg q9] at H
    cases H
  rw [if_pos g80] at H
  refine F_putRF (ci := 12) (k := 23) (v := (some n73)) hZ79.1 (cf_Ref hw) (tb7 hw (i := 27) (by decide +kernel)) (by decide) (by decide) rfl d_Ref_init_126 rfl rfl rfl rfl rfl g80 ?_
  refine J_aload_n d_Ref_init_129 rfl ?_
  refine J_bipush (v := 64) d_Ref_init_130 (by decide) ?_
  refine F_newa0 (r := (fun _ => .inl none)) hw hZ79 (tb1 hw (i := 86) (by decide +kernel)) d_Ref_init_132 H ?_
  clear H
  intro Γ81 φ82 n83 q hZ84 H
  have g85 : Γ81 this = .inr 12 := by
    apply Classical.byContradiction
    intro q9
    rw [if_neg q9] at H
    cases H
  rw [if_pos g85] at H
  refine F_putRF (ci := 12) (k := 24) (v := (some n78)) hZ84.1 (cf_Ref hw) (tb7 hw (i := 28) (by decide +kernel)) (by decide) (by decide) rfl d_Ref_init_134 rfl rfl rfl rfl rfl g85 ?_
  refine J_aload_n d_Ref_init_137 rfl ?_
  refine J_bipush (v := 64) d_Ref_init_138 (by decide) ?_
  refine F_newa0 (r := (fun _ => .inl none)) hw hZ84 (tb1 hw (i := 86) (by decide +kernel)) d_Ref_init_140 H ?_
  clear H
  intro Γ86 φ87 n88 q hZ89 H
  have g90 : Γ86 this = .inr 12 := by
    apply Classical.byContradiction
    intro q9
    rw [if_neg q9] at H
    cases H
  rw [if_pos g90] at H
  refine F_putRF (ci := 12) (k := 25) (v := (some n83)) hZ89.1 (cf_Ref hw) (tb7 hw (i := 29) (by decide +kernel)) (by decide) (by decide) rfl d_Ref_init_142 rfl rfl rfl rfl rfl g90 ?_
  refine J_aload_n d_Ref_init_145 rfl ?_
  refine J_bipush (v := 64) d_Ref_init_146 (by decide) ?_
  refine F_newa1 (r := (fun _ => .inl none)) hw hZ89 (tb1 hw (i := 55) (by decide +kernel)) d_Ref_init_148 H ?_
  clear H
  intro Γ91 φ92 n93 q hZ94 H
  have g95 : Γ91 this = .inr 12 := by
    apply Classical.byContradiction
    intro q9
    rw [if_neg q9] at H
    cases H
  rw [if_pos g95] at H
  refine F_putRF (ci := 12) (k := 26) (v := (some n88)) hZ94.1 (cf_Ref hw) (tb7 hw (i := 30) (by decide +kernel)) (by decide) (by decide) rfl d_Ref_init_150 rfl rfl rfl rfl rfl g95 ?_
  refine J_aload_n d_Ref_init_153 rfl ?_
  refine J_bipush (v := 64) d_Ref_init_154 (by decide) ?_
  refine F_newa0 (r := (fun _ => .inl none)) hw hZ94 (tb1 hw (i := 86) (by decide +kernel)) d_Ref_init_156 H ?_
  clear H
  intro Γ96 φ97 n98 q hZ99 H
  have g100 : Γ96 this = .inr 12 := by
    apply Classical.byContradiction
    intro q9
    rw [if_neg q9] at H
    cases H
  rw [if_pos g100] at H
  refine F_putRF (ci := 12) (k := 27) (v := (some n93)) hZ99.1 (cf_Ref hw) (tb7 hw (i := 31) (by decide +kernel)) (by decide) (by decide) rfl d_Ref_init_158 rfl rfl rfl rfl rfl g100 ?_
  refine J_aload_n d_Ref_init_161 rfl ?_
  refine J_bipush (v := 64) d_Ref_init_162 (by decide) ?_
  refine F_newa0 (r := (fun _ => .inl none)) hw hZ99 (tb1 hw (i := 86) (by decide +kernel)) d_Ref_init_164 H ?_
  clear H
  intro Γ101 φ102 n103 q hZ104 H
  have g105 : Γ101 this = .inr 12 := by
    apply Classical.byContradiction
    intro q9
    rw [if_neg q9] at H
    cases H
  rw [if_pos g105] at H
  refine F_putRF (ci := 12) (k := 28) (v := (some n98)) hZ104.1 (cf_Ref hw) (tb7 hw (i := 32) (by decide +kernel)) (by decide) (by decide) rfl d_Ref_init_166 rfl rfl rfl rfl rfl g105 ?_
  refine J_aload_n d_Ref_init_169 rfl ?_
  refine J_bipush (v := 64) d_Ref_init_170 (by decide) ?_
  refine F_newa0 (r := (fun _ => .inl none)) hw hZ104 (tb1 hw (i := 86) (by decide +kernel)) d_Ref_init_172 H ?_
  clear H
  intro Γ106 φ107 n108 q hZ109 H
  have g110 : Γ106 this = .inr 12 := by
    apply Classical.byContradiction
    intro q9
    rw [if_neg q9] at H
    cases H
  rw [if_pos g110] at H
  refine F_putRF (ci := 12) (k := 29) (v := (some n103)) hZ109.1 (cf_Ref hw) (tb7 hw (i := 33) (by decide +kernel)) (by decide) (by decide) rfl d_Ref_init_174 rfl rfl rfl rfl rfl g110 ?_
  refine J_aload_n d_Ref_init_177 rfl ?_
  refine J_bipush (v := 64) d_Ref_init_178 (by decide) ?_
  refine F_newa0 (r := (fun _ => .inl none)) hw hZ109 (tb1 hw (i := 86) (by decide +kernel)) d_Ref_init_180 H ?_
  clear H
  intro Γ111 φ112 n113 q hZ114 H
  have g115 : Γ111 this = .inr 12 := by
    apply Classical.byContradiction
    intro q9
    rw [if_neg q9] at H
    cases H
  rw [if_pos g115] at H
  refine F_putRF (ci := 12) (k := 30) (v := (some n108)) hZ114.1 (cf_Ref hw) (tb7 hw (i := 34) (by decide +kernel)) (by decide) (by decide) rfl d_Ref_init_182 rfl rfl rfl rfl rfl g115 ?_
  refine J_aload_n d_Ref_init_185 rfl ?_
  refine J_bipush (v := 64) d_Ref_init_186 (by decide) ?_
  refine F_newa0 (r := (fun _ => .inl none)) hw hZ114 (tb1 hw (i := 86) (by decide +kernel)) d_Ref_init_188 H ?_
  clear H
  intro Γ116 φ117 n118 q hZ119 H
  have g120 : Γ116 this = .inr 12 := by
    apply Classical.byContradiction
    intro q9
    rw [if_neg q9] at H
    cases H
  rw [if_pos g120] at H
  refine F_putRF (ci := 12) (k := 31) (v := (some n113)) hZ119.1 (cf_Ref hw) (tb7 hw (i := 35) (by decide +kernel)) (by decide) (by decide) rfl d_Ref_init_190 rfl rfl rfl rfl rfl g120 ?_
  refine J_aload_n d_Ref_init_193 rfl ?_
  refine J_sipush (v := 1024) d_Ref_init_194 (by decide) ?_
  refine F_newa1 (r := (fun _ => .inl none)) hw hZ119 (tb1 hw (i := 55) (by decide +kernel)) d_Ref_init_197 H ?_
  clear H
  intro Γ121 φ122 n123 q hZ124 H
  have g125 : Γ121 this = .inr 12 := by
    apply Classical.byContradiction
    intro q9
    rw [if_neg q9] at H
    cases H
  rw [if_pos g125] at H
  refine F_putRF (ci := 12) (k := 32) (v := (some n118)) hZ124.1 (cf_Ref hw) (tb7 hw (i := 36) (by decide +kernel)) (by decide) (by decide) rfl d_Ref_init_199 rfl rfl rfl rfl rfl g125 ?_
  refine J_aload_n d_Ref_init_202 rfl ?_
  refine J_bipush (v := 40) d_Ref_init_203 (by decide) ?_
  refine F_newa2 (r := (fun _ => .inl none)) hw hZ124 (tb1 hw (i := 177) (by decide +kernel)) d_Ref_init_205 H ?_
  clear H
  intro Γ126 φ127 n128 q hZ129 H
  have g130 : Γ126 this = .inr 12 := by
    apply Classical.byContradiction
    intro q9
    rw [if_neg q9] at H
    cases H
  rw [if_pos g130] at H
  refine F_putRF (ci := 12) (k := 33) (v := (some n123)) hZ129.1 (cf_Ref hw) (tb7 hw (i := 37) (by decide +kernel)) (by decide) (by decide) rfl d_Ref_init_207 rfl rfl rfl rfl rfl g130 ?_
  refine J_aload_n d_Ref_init_210 rfl ?_
  refine J_bipush (v := 40) d_Ref_init_211 (by decide) ?_
  refine F_newa2 (r := (fun _ => .inl none)) hw hZ129 (tb1 hw (i := 177) (by decide +kernel)) d_Ref_init_213 H ?_
  clear H
  intro Γ131 φ132 n133 q hZ134 H
  have g135 : Γ131 this = .inr 12 := by
    apply Classical.byContradiction
    intro q9
    rw [if_neg q9] at H
    cases H
  rw [if_pos g135] at H
  refine F_putRF (ci := 12) (k := 34) (v := (some n128)) hZ134.1 (cf_Ref hw) (tb7 hw (i := 38) (by decide +kernel)) (by decide) (by decide) rfl d_Ref_init_215 rfl rfl rfl rfl rfl g135 ?_
  refine J_aload_n d_Ref_init_218 rfl ?_
  refine J_bipush (v := 40) d_Ref_init_219 (by decide) ?_
  refine F_newa1 (r := (fun _ => .inl none)) hw hZ134 (tb1 hw (i := 55) (by decide +kernel)) d_Ref_init_221 H ?_
  clear H
  intro Γ136 φ137 n138 q hZ139 H
  have g140 : Γ136 this = .inr 12 := by
    apply Classical.byContradiction
    intro q9
    rw [if_neg q9] at H
    cases H
  rw [if_pos g140] at H
  refine F_putRF (ci := 12) (k := 35) (v := (some n133)) hZ139.1 (cf_Ref hw) (tb7 hw (i := 39) (by decide +kernel)) (by decide) (by decide) rfl d_Ref_init_223 rfl rfl rfl rfl rfl g140 ?_
  refine J_aload_n d_Ref_init_226 rfl ?_
  refine J_bipush (v := 40) d_Ref_init_227 (by decide) ?_
  refine F_newa0 (r := (fun _ => .inl none)) hw hZ139 (tb1 hw (i := 86) (by decide +kernel)) d_Ref_init_229 H ?_
  clear H
  intro Γ141 φ142 n143 q hZ144 H
  have g145 : Γ141 this = .inr 12 := by
    apply Classical.byContradiction
    intro q9
    rw [if_neg q9] at H
    cases H
  rw [if_pos g145] at H
  refine F_putRF (ci := 12) (k := 36) (v := (some n138)) hZ144.1 (cf_Ref hw) (tb7 hw (i := 40) (by decide +kernel)) (by decide) (by decide) rfl d_Ref_init_231 rfl rfl rfl rfl rfl g145 ?_
  refine J_aload_n d_Ref_init_234 rfl ?_
  refine J_bipush (v := 40) d_Ref_init_235 (by decide) ?_
  refine F_newa2 (r := (fun _ => .inl none)) hw hZ144 (tb1 hw (i := 177) (by decide +kernel)) d_Ref_init_237 H ?_
  clear H
  intro Γ146 φ147 n148 q hZ149 H
  have g150 : Γ146 this = .inr 12 := by
    apply Classical.byContradiction
    intro q9
    rw [if_neg q9] at H
    cases H
  rw [if_pos g150] at H
  refine F_putRF (ci := 12) (k := 37) (v := (some n143)) hZ149.1 (cf_Ref hw) (tb7 hw (i := 41) (by decide +kernel)) (by decide) (by decide) rfl d_Ref_init_239 rfl rfl rfl rfl rfl g150 ?_
  refine J_aload_n d_Ref_init_242 rfl ?_
  refine J_bipush (v := 40) d_Ref_init_243 (by decide) ?_
  refine F_newa0 (r := (fun _ => .inl none)) hw hZ149 (tb1 hw (i := 86) (by decide +kernel)) d_Ref_init_245 H ?_
  clear H
  intro Γ151 φ152 n153 q hZ154 H
  have g155 : Γ151 this = .inr 12 := by
    apply Classical.byContradiction
    intro q9
    rw [if_neg q9] at H
    cases H
  rw [if_pos g155] at H
  refine F_putRF (ci := 12) (k := 38) (v := (some n148)) hZ154.1 (cf_Ref hw) (tb7 hw (i := 42) (by decide +kernel)) (by decide) (by decide) rfl d_Ref_init_247 rfl rfl rfl rfl rfl g155 ?_
  refine J_aload_n d_Ref_init_250 rfl ?_
  refine J_sipush (v := 180) d_Ref_init_251 (by decide) ?_
  refine F_newa1 (r := (fun _ => .inl none)) hw hZ154 (tb1 hw (i := 55) (by decide +kernel)) d_Ref_init_254 H ?_
  clear H
  intro Γ156 φ157 n158 q hZ159 H
  have g160 : Γ156 this = .inr 12 := by
    apply Classical.byContradiction
    intro q9
    rw [if_neg q9] at H
    cases H
  rw [if_pos g160] at H
  refine F_putRF (ci := 12) (k := 39) (v := (some n153)) hZ159.1 (cf_Ref hw) (tb7 hw (i := 43) (by decide +kernel)) (by decide) (by decide) rfl d_Ref_init_256 rfl rfl rfl rfl rfl g160 ?_
  refine J_aload_n d_Ref_init_259 rfl ?_
  refine J_sipush (v := 180) d_Ref_init_260 (by decide) ?_
  refine F_newa0 (r := (fun _ => .inl none)) hw hZ159 (tb1 hw (i := 86) (by decide +kernel)) d_Ref_init_263 H ?_
  clear H
  intro Γ161 φ162 n163 q hZ164 H
  have g165 : Γ161 this = .inr 12 := by
    apply Classical.byContradiction
    intro q9
    rw [if_neg q9] at H
    cases H
  rw [if_pos g165] at H
  refine F_putRF (ci := 12) (k := 40) (v := (some n158)) hZ164.1 (cf_Ref hw) (tb7 hw (i := 44) (by decide +kernel)) (by decide) (by decide) rfl d_Ref_init_265 rfl rfl rfl rfl rfl g165 ?_
  refine J_aload_n d_Ref_init_268 rfl ?_
  refine J_sipush (v := 180) d_Ref_init_269 (by decide) ?_
  refine F_newa0 (r := (fun _ => .inl none)) hw hZ164 (tb1 hw (i := 86) (by decide +kernel)) d_Ref_init_272 H ?_
  clear H
  intro Γ166 φ167 n168 q hZ169 H
  have g170 : Γ166 this = .inr 12 := by
    apply Classical.byContradiction
    intro q9
    rw [if_neg q9] at H
    cases H
  rw [if_pos g170] at H
  refine F_putRF (ci := 12) (k := 41) (v := (some n163)) hZ169.1 (cf_Ref hw) (tb7 hw (i := 45) (by decide +kernel)) (by decide) (by decide) rfl d_Ref_init_274 rfl rfl rfl rfl rfl g170 ?_
  refine J_aload_n d_Ref_init_277 rfl ?_
  refine J_bipush (v := 45) d_Ref_init_278 (by decide) ?_
  refine F_newa0 (r := (fun _ => .inl none)) hw hZ169 (tb1 hw (i := 86) (by decide +kernel)) d_Ref_init_280 H ?_
  clear H
  intro Γ171 φ172 n173 q hZ174 H
  have g175 : Γ171 this = .inr 12 := by
    apply Classical.byContradiction
    intro q9
    rw [if_neg q9] at H
    cases H
  rw [if_pos g175] at H
  refine F_putRF (ci := 12) (k := 42) (v := (some n168)) hZ174.1 (cf_Ref hw) (tb7 hw (i := 46) (by decide +kernel)) (by decide) (by decide) rfl d_Ref_init_282 rfl rfl rfl rfl rfl g175 ?_
  refine J_aload_n d_Ref_init_285 rfl ?_
  refine J_bipush (v := 40) d_Ref_init_286 (by decide) ?_
  refine F_newa0 (r := (fun _ => .inl none)) hw hZ174 (tb1 hw (i := 86) (by decide +kernel)) d_Ref_init_288 H ?_
  clear H
  intro Γ176 φ177 n178 q hZ179 H
  have g180 : Γ176 this = .inr 12 := by
    apply Classical.byContradiction
    intro q9
    rw [if_neg q9] at H
    cases H
  rw [if_pos g180] at H
  refine F_putRF (ci := 12) (k := 43) (v := (some n173)) hZ179.1 (cf_Ref hw) (tb7 hw (i := 47) (by decide +kernel)) (by decide) (by decide) rfl d_Ref_init_290 rfl rfl rfl rfl rfl g180 ?_
  refine J_aload_n d_Ref_init_293 rfl ?_
  refine J_bipush (v := 40) d_Ref_init_294 (by decide) ?_
  refine F_newa0 (r := (fun _ => .inl none)) hw hZ179 (tb1 hw (i := 86) (by decide +kernel)) d_Ref_init_296 H ?_
  clear H
  intro Γ181 φ182 n183 q hZ184 H
  have g185 : Γ181 this = .inr 12 := by
    apply Classical.byContradiction
    intro q9
    rw [if_neg q9] at H
    cases H
  rw [if_pos g185] at H
  refine F_putRF (ci := 12) (k := 44) (v := (some n178)) hZ184.1 (cf_Ref hw) (tb7 hw (i := 48) (by decide +kernel)) (by decide) (by decide) rfl d_Ref_init_298 rfl rfl rfl rfl rfl g185 ?_
  refine J_aload_n d_Ref_init_301 rfl ?_
  refine J_bipush (v := 40) d_Ref_init_302 (by decide) ?_
  refine F_newa0 (r := (fun _ => .inl none)) hw hZ184 (tb1 hw (i := 86) (by decide +kernel)) d_Ref_init_304 H ?_
  clear H
  intro Γ186 φ187 n188 q hZ189 H
  have g190 : Γ186 this = .inr 12 := by
    apply Classical.byContradiction
    intro q9
    rw [if_neg q9] at H
    cases H
  rw [if_pos g190] at H
  refine F_putRF (ci := 12) (k := 45) (v := (some n183)) hZ189.1 (cf_Ref hw) (tb7 hw (i := 49) (by decide +kernel)) (by decide) (by decide) rfl d_Ref_init_306 rfl rfl rfl rfl rfl g190 ?_
  refine J_aload_n d_Ref_init_309 rfl ?_
  refine J_bipush (v := 40) d_Ref_init_310 (by decide) ?_
  refine F_newa0 (r := (fun _ => .inl none)) hw hZ189 (tb1 hw (i := 86) (by decide +kernel)) d_Ref_init_312 H ?_
  clear H
  intro Γ191 φ192 n193 q hZ194 H
  have g195 : Γ191 this = .inr 12 := by
    apply Classical.byContradiction
    intro q9
    rw [if_neg q9] at H
    cases H
  rw [if_pos g195] at H
  refine F_putRF (ci := 12) (k := 46) (v := (some n188)) hZ194.1 (cf_Ref hw) (tb7 hw (i := 50) (by decide +kernel)) (by decide) (by decide) rfl d_Ref_init_314 rfl rfl rfl rfl rfl g195 ?_
  refine J_aload_n d_Ref_init_317 rfl ?_
  refine J_bipush (v := 40) d_Ref_init_318 (by decide) ?_
  refine F_newa0 (r := (fun _ => .inl none)) hw hZ194 (tb1 hw (i := 86) (by decide +kernel)) d_Ref_init_320 H ?_
  clear H
  intro Γ196 φ197 n198 q hZ199 H
  have g200 : Γ196 this = .inr 12 := by
    apply Classical.byContradiction
    intro q9
    rw [if_neg q9] at H
    cases H
  rw [if_pos g200] at H
  refine F_putRF (ci := 12) (k := 48) (v := (some n193)) hZ199.1 (cf_Ref hw) (tb7 hw (i := 52) (by decide +kernel)) (by decide) (by decide) rfl d_Ref_init_322 rfl rfl rfl rfl rfl g200 ?_
  refine J_aload_n d_Ref_init_325 rfl ?_
  refine J_bipush (v := 40) d_Ref_init_326 (by decide) ?_
  refine F_newa0 (r := (fun _ => .inl none)) hw hZ199 (tb1 hw (i := 86) (by decide +kernel)) d_Ref_init_328 H ?_
  clear H
  intro Γ201 φ202 n203 q hZ204 H
  have g205 : Γ201 this = .inr 12 := by
    apply Classical.byContradiction
    intro q9
    rw [if_neg q9] at H
    cases H
  rw [if_pos g205] at H
  refine F_putRF (ci := 12) (k := 49) (v := (some n198)) hZ204.1 (cf_Ref hw) (tb7 hw (i := 53) (by decide +kernel)) (by decide) (by decide) rfl d_Ref_init_330 rfl rfl rfl rfl rfl g205 ?_
  refine J_aload_n d_Ref_init_333 rfl ?_
  refine J_bipush (v := 40) d_Ref_init_334 (by decide) ?_
  refine F_newa0 (r := (fun _ => .inl none)) hw hZ204 (tb1 hw (i := 86) (by decide +kernel)) d_Ref_init_336 H ?_
  clear H
  intro Γ206 φ207 n208 q hZ209 H
  have g210 : Γ206 this = .inr 12 := by
    apply Classical.byContradiction
    intro q9
    rw [if_neg q9] at H
    cases H
  rw [if_pos g210] at H
  refine F_putRF (ci := 12) (k := 50) (v := (some n203)) hZ209.1 (cf_Ref hw) (tb7 hw (i := 54) (by decide +kernel)) (by decide) (by decide) rfl d_Ref_init_338 rfl rfl rfl rfl rfl g210 ?_
  refine J_aload_n d_Ref_init_341 rfl ?_
  refine J_iconst (v := 5) d_Ref_init_342 (by decide) ?_
  refine F_newa0 (r := (fun _ => .inl none)) hw hZ209 (tb1 hw (i := 86) (by decide +kernel)) d_Ref_init_343 H ?_
  clear H
  intro Γ211 φ212 n213 q hZ214 H
  have g215 : Γ211 this = .inr 12 := by
    apply Classical.byContradiction
    intro q9
    rw [if_neg q9] at H
    cases H
  rw [if_pos g215] at H
  refine F_putRF (ci := 12) (k := 52) (v := (some n208)) hZ214.1 (cf_Ref hw) (tb7 hw (i := 56) (by decide +kernel)) (by decide) (by decide) rfl d_Ref_init_345 rfl rfl rfl rfl rfl g215 ?_
  refine J_aload_n d_Ref_init_348 rfl ?_
  refine J_iconst (v := 5) d_Ref_init_349 (by decide) ?_
  refine F_newa0 (r := (fun _ => .inl none)) hw hZ214 (tb1 hw (i := 86) (by decide +kernel)) d_Ref_init_350 H ?_
  clear H
  intro Γ216 φ217 n218 q hZ219 H
  have g220 : Γ216 this = .inr 12 := by
    apply Classical.byContradiction
    intro q9
    rw [if_neg q9] at H
    cases H
  rw [if_pos g220] at H
  refine F_putRF (ci := 12) (k := 53) (v := (some n213)) hZ219.1 (cf_Ref hw) (tb7 hw (i := 57) (by decide +kernel)) (by decide) (by decide) rfl d_Ref_init_352 rfl rfl rfl rfl rfl g220 ?_
  refine J_aload_n d_Ref_init_355 rfl ?_
  refine J_iconst (v := 4) d_Ref_init_356 (by decide) ?_
  refine F_newa0 (r := (fun _ => .inl none)) hw hZ219 (tb1 hw (i := 86) (by decide +kernel)) d_Ref_init_357 H ?_
  clear H
  intro Γ221 φ222 n223 q hZ224 H
  have g225 : Γ221 this = .inr 12 := by
    apply Classical.byContradiction
    intro q9
    rw [if_neg q9] at H
    cases H
  rw [if_pos g225] at H
  refine F_putRF (ci := 12) (k := 54) (v := (some n218)) hZ224.1 (cf_Ref hw) (tb7 hw (i := 58) (by decide +kernel)) (by decide) (by decide) rfl d_Ref_init_359 rfl rfl rfl rfl rfl g225 ?_
  refine J_aload_n d_Ref_init_362 rfl ?_
  refine J_iconst (v := 4) d_Ref_init_363 (by decide) ?_
  refine F_newa0 (r := (fun _ => .inl none)) hw hZ224 (tb1 hw (i := 86) (by decide +kernel)) d_Ref_init_364 H ?_
  clear H
  intro Γ226 φ227 n228 q hZ229 H
  have g230 : Γ226 this = .inr 12 := by
    apply Classical.byContradiction
    intro q9
    rw [if_neg q9] at H
    cases H
  rw [if_pos g230] at H
  refine F_putRF (ci := 12) (k := 55) (v := (some n223)) hZ229.1 (cf_Ref hw) (tb7 hw (i := 59) (by decide +kernel)) (by decide) (by decide) rfl d_Ref_init_366 rfl rfl rfl rfl rfl g230 ?_
  refine J_aload_n d_Ref_init_369 rfl ?_
  refine J_iconst (v := 4) d_Ref_init_370 (by decide) ?_
  refine F_newa2 (r := (fun _ => .inl none)) hw hZ229 (tb1 hw (i := 177) (by decide +kernel)) d_Ref_init_371 H ?_
  clear H
  intro Γ231 φ232 n233 q hZ234 H
  have g235 : Γ231 this = .inr 12 := by
    apply Classical.byContradiction
    intro q9
    rw [if_neg q9] at H
    cases H
  rw [if_pos g235] at H
  refine F_putRF (ci := 12) (k := 56) (v := (some n228)) hZ234.1 (cf_Ref hw) (tb7 hw (i := 60) (by decide +kernel)) (by decide) (by decide) rfl d_Ref_init_373 rfl rfl rfl rfl rfl g235 ?_
  refine J_aload_n d_Ref_init_376 rfl ?_
  refine J_iconst (v := 4) d_Ref_init_377 (by decide) ?_
  refine F_newa0 (r := (fun _ => .inl none)) hw hZ234 (tb1 hw (i := 86) (by decide +kernel)) d_Ref_init_378 H ?_
  clear H
  intro Γ236 φ237 n238 q hZ239 H
  have g240 : Γ236 this = .inr 12 := by
    apply Classical.byContradiction
    intro q9
    rw [if_neg q9] at H
    cases H
  rw [if_pos g240] at H
  refine F_putRF (ci := 12) (k := 58) (v := (some n233)) hZ239.1 (cf_Ref hw) (tb7 hw (i := 62) (by decide +kernel)) (by decide) (by decide) rfl d_Ref_init_380 rfl rfl rfl rfl rfl g240 ?_
  refine J_aload_n d_Ref_init_383 rfl ?_
  refine J_bipush (v := 16) d_Ref_init_384 (by decide) ?_
  refine F_newa0 (r := (fun _ => .inl none)) hw hZ239 (tb1 hw (i := 86) (by decide +kernel)) d_Ref_init_386 H ?_
  clear H
  intro Γ241 φ242 n243 q hZ244 H
  have g245 : Γ241 this = .inr 12 := by
    apply Classical.byContradiction
    intro q9
    rw [if_neg q9] at H
    cases H
  rw [if_pos g245] at H
  refine F_putRF (ci := 12) (k := 59) (v := (some n238)) hZ244.1 (cf_Ref hw) (tb7 hw (i := 63) (by decide +kernel)) (by decide) (by decide) rfl d_Ref_init_388 rfl rfl rfl rfl rfl g245 ?_
  refine J_aload_n d_Ref_init_391 rfl ?_
  refine J_bipush (v := 16) d_Ref_init_392 (by decide) ?_
  refine F_newa2 (r := (fun _ => .inl none)) hw hZ244 (tb1 hw (i := 177) (by decide +kernel)) d_Ref_init_394 H ?_
  clear H
  intro Γ246 φ247 n248 q hZ249 H
  have g250 : Γ246 this = .inr 12 := by
    apply Classical.byContradiction
    intro q9
    rw [if_neg q9] at H
    cases H
  rw [if_pos g250] at H
  refine F_putRF (ci := 12) (k := 60) (v := (some n243)) hZ249.1 (cf_Ref hw) (tb7 hw (i := 64) (by decide +kernel)) (by decide) (by decide) rfl d_Ref_init_396 rfl rfl rfl rfl rfl g250 ?_
  refine J_aload_n d_Ref_init_399 rfl ?_
  refine J_bipush (v := 16) d_Ref_init_400 (by decide) ?_
  refine F_newa1 (r := (fun _ => .inl none)) hw hZ249 (tb1 hw (i := 55) (by decide +kernel)) d_Ref_init_402 H ?_
  clear H
  intro Γ251 φ252 n253 q hZ254 H
  have g255 : Γ251 this = .inr 12 := by
    apply Classical.byContradiction
    intro q9
    rw [if_neg q9] at H
    cases H
  rw [if_pos g255] at H
  refine F_putRF (ci := 12) (k := 61) (v := (some n248)) hZ254.1 (cf_Ref hw) (tb7 hw (i := 65) (by decide +kernel)) (by decide) (by decide) rfl d_Ref_init_404 rfl rfl rfl rfl rfl g255 ?_
  refine J_aload_n d_Ref_init_407 rfl ?_
  refine J_bipush (v := 16) d_Ref_init_408 (by decide) ?_
  refine F_newa0 (r := (fun _ => .inl none)) hw hZ254 (tb1 hw (i := 86) (by decide +kernel)) d_Ref_init_410 H ?_
  clear H
  intro Γ256 φ257 n258 q hZ259 H
  have g260 : Γ256 this = .inr 12 := by
    apply Classical.byContradiction
    intro q9
    rw [if_neg q9] at H
    cases H
  rw [if_pos g260] at H
  refine F_putRF (ci := 12) (k := 62) (v := (some n253)) hZ259.1 (cf_Ref hw) (tb7 hw (i := 66) (by decide +kernel)) (by decide) (by decide) rfl d_Ref_init_412 rfl rfl rfl rfl rfl g260 ?_
  refine J_aload_n d_Ref_init_415 rfl ?_
  refine J_bipush (v := 16) d_Ref_init_416 (by decide) ?_
  refine F_newa0 (r := (fun _ => .inl none)) hw hZ259 (tb1 hw (i := 86) (by decide +kernel)) d_Ref_init_418 H ?_
  clear H
  intro Γ261 φ262 n263 q hZ264 H
  have g265 : Γ261 this = .inr 12 := by
    apply Classical.byContradiction
    intro q9
    rw [if_neg q9] at H
    cases H
  rw [if_pos g265] at H
  refine F_putRF (ci := 12) (k := 63) (v := (some n258)) hZ264.1 (cf_Ref hw) (tb7 hw (i := 67) (by decide +kernel)) (by decide) (by decide) rfl d_Ref_init_420 rfl rfl rfl rfl rfl g265 ?_
  refine J_aload_n d_Ref_init_423 rfl ?_
  refine J_bipush (v := 16) d_Ref_init_424 (by decide) ?_
  refine F_newa0 (r := (fun _ => .inl none)) hw hZ264 (tb1 hw (i := 86) (by decide +kernel)) d_Ref_init_426 H ?_
  clear H
  intro Γ266 φ267 n268 q hZ269 H
  have g270 : Γ266 this = .inr 12 := by
    apply Classical.byContradiction
    intro q9
    rw [if_neg q9] at H
    cases H
  rw [if_pos g270] at H
  refine F_putRF (ci := 12) (k := 64) (v := (some n263)) hZ269.1 (cf_Ref hw) (tb7 hw (i := 68) (by decide +kernel)) (by decide) (by decide) rfl d_Ref_init_428 rfl rfl rfl rfl rfl g270 ?_
  refine J_aload_n d_Ref_init_431 rfl ?_
  refine J_sipush (v := 256) d_Ref_init_432 (by decide) ?_
  refine F_newa1 (r := (fun _ => .inl none)) hw hZ269 (tb1 hw (i := 55) (by decide +kernel)) d_Ref_init_435 H ?_
  clear H
  intro Γ271 φ272 n273 q hZ274 H
  have g275 : Γ271 this = .inr 12 := by
    apply Classical.byContradiction
    intro q9
    rw [if_neg q9] at H
    cases H
  rw [if_pos g275] at H
  refine F_putRF (ci := 12) (k := 65) (v := (some n268)) hZ274.1 (cf_Ref hw) (tb7 hw (i := 69) (by decide +kernel)) (by decide) (by decide) rfl d_Ref_init_437 rfl rfl rfl rfl rfl g275 ?_
  refine J_aload_n d_Ref_init_440 rfl ?_
  refine J_sipush (v := 256) d_Ref_init_441 (by decide) ?_
  refine F_newa0 (r := (fun _ => .inl none)) hw hZ274 (tb1 hw (i := 86) (by decide +kernel)) d_Ref_init_444 H ?_
  clear H
  intro Γ276 φ277 n278 q hZ279 H
  have g280 : Γ276 this = .inr 12 := by
    apply Classical.byContradiction
    intro q9
    rw [if_neg q9] at H
    cases H
  rw [if_pos g280] at H
  refine F_putRF (ci := 12) (k := 66) (v := (some n273)) hZ279.1 (cf_Ref hw) (tb7 hw (i := 70) (by decide +kernel)) (by decide) (by decide) rfl d_Ref_init_446 rfl rfl rfl rfl rfl g280 ?_
  refine J_aload_n d_Ref_init_449 rfl ?_
  refine J_iconst (v := 4) d_Ref_init_450 (by decide) ?_
  refine F_newa0 (r := (fun _ => .inl none)) hw hZ279 (tb1 hw (i := 86) (by decide +kernel)) d_Ref_init_451 H ?_
  clear H
  intro Γ281 φ282 n283 q hZ284 H
  have g285 : Γ281 this = .inr 12 := by
    apply Classical.byContradiction
    intro q9
    rw [if_neg q9] at H
    cases H
  rw [if_pos g285] at H
  refine F_putRF (ci := 12) (k := 67) (v := (some n278)) hZ284.1 (cf_Ref hw) (tb7 hw (i := 71) (by decide +kernel)) (by decide) (by decide) rfl d_Ref_init_453 rfl rfl rfl rfl rfl g285 ?_
  refine J_aload_n d_Ref_init_456 rfl ?_
  refine J_bipush (v := 16) d_Ref_init_457 (by decide) ?_
  refine F_newa0 (r := (fun _ => .inl none)) hw hZ284 (tb1 hw (i := 86) (by decide +kernel)) d_Ref_init_459 H ?_
  clear H
  intro Γ286 φ287 n288 q hZ289 H
  have g290 : Γ286 this = .inr 12 := by
    apply Classical.byContradiction
    intro q9
    rw [if_neg q9] at H
    cases H
  rw [if_pos g290] at H
  refine F_putRF (ci := 12) (k := 68) (v := (some n283)) hZ289.1 (cf_Ref hw) (tb7 hw (i := 72) (by decide +kernel)) (by decide) (by decide) rfl d_Ref_init_461 rfl rfl rfl rfl rfl g290 ?_
  refine J_aload_n d_Ref_init_464 rfl ?_
  refine J_bipush (v := 16) d_Ref_init_465 (by decide) ?_
  refine F_newa2 (r := (fun _ => .inl none)) hw hZ289 (tb1 hw (i := 177) (by decide +kernel)) d_Ref_init_467 H ?_
  clear H
  intro Γ291 φ292 n293 q hZ294 H
  have g295 : Γ291 this = .inr 12 := by
    apply Classical.byContradiction
    intro q9
    rw [if_neg q9] at H
    cases H
  rw [if_pos g295] at H
  refine F_putRF (ci := 12) (k := 69) (v := (some n288)) hZ294.1 (cf_Ref hw) (tb7 hw (i := 73) (by decide +kernel)) (by decide) (by decide) rfl d_Ref_init_469 rfl rfl rfl rfl rfl g295 ?_
  refine J_aload_n d_Ref_init_472 rfl ?_
  refine J_bipush (v := 16) d_Ref_init_473 (by decide) ?_
  refine F_newa1 (r := (fun _ => .inl none)) hw hZ294 (tb1 hw (i := 55) (by decide +kernel)) d_Ref_init_475 H ?_
  clear H
  intro Γ296 φ297 n298 q hZ299 H
  have g300 : Γ296 this = .inr 12 := by
    apply Classical.byContradiction
    intro q9
    rw [if_neg q9] at H
    cases H
  rw [if_pos g300] at H
  refine F_putRF (ci := 12) (k := 70) (v := (some n293)) hZ299.1 (cf_Ref hw) (tb7 hw (i := 74) (by decide +kernel)) (by decide) (by decide) rfl d_Ref_init_477 rfl rfl rfl rfl rfl g300 ?_
  refine J_aload_n d_Ref_init_480 rfl ?_
  refine J_bipush (v := 16) d_Ref_init_481 (by decide) ?_
  refine F_newa0 (r := (fun _ => .inl none)) hw hZ299 (tb1 hw (i := 86) (by decide +kernel)) d_Ref_init_483 H ?_
  clear H
  intro Γ301 φ302 n303 q hZ304 H
  have g305 : Γ301 this = .inr 12 := by
    apply Classical.byContradiction
    intro q9
    rw [if_neg q9] at H
    cases H
  rw [if_pos g305] at H
  refine F_putRF (ci := 12) (k := 71) (v := (some n298)) hZ304.1 (cf_Ref hw) (tb7 hw (i := 75) (by decide +kernel)) (by decide) (by decide) rfl d_Ref_init_485 rfl rfl rfl rfl rfl g305 ?_
  refine J_aload_n d_Ref_init_488 rfl ?_
  refine J_bipush (v := 16) d_Ref_init_489 (by decide) ?_
  refine F_newa0 (r := (fun _ => .inl none)) hw hZ304 (tb1 hw (i := 86) (by decide +kernel)) d_Ref_init_491 H ?_
  clear H
  intro Γ306 φ307 n308 q hZ309 H
  have g310 : Γ306 this = .inr 12 := by
    apply Classical.byContradiction
    intro q9
    rw [if_neg q9] at H
    cases H
  rw [if_pos g310] at H
  refine F_putRF (ci := 12) (k := 72) (v := (some n303)) hZ309.1 (cf_Ref hw) (tb7 hw (i := 76) (by decide +kernel)) (by decide) (by decide) rfl d_Ref_init_493 rfl rfl rfl rfl rfl g310 ?_
  refine J_aload_n d_Ref_init_496 rfl ?_
  refine J_bipush (v := 16) d_Ref_init_497 (by decide) ?_
  refine F_newa0 (r := (fun _ => .inl none)) hw hZ309 (tb1 hw (i := 86) (by decide +kernel)) d_Ref_init_499 H ?_
  clear H
  intro Γ311 φ312 n313 q hZ314 H
  have g315 : Γ311 this = .inr 12 := by
    apply Classical.byContradiction
    intro q9
    rw [if_neg q9] at H
    cases H
  rw [if_pos g315] at H
  refine F_putRF (ci := 12) (k := 73) (v := (some n308)) hZ314.1 (cf_Ref hw) (tb7 hw (i := 77) (by decide +kernel)) (by decide) (by decide) rfl d_Ref_init_501 rfl rfl rfl rfl rfl g315 ?_
  refine J_aload_n d_Ref_init_504 rfl ?_
  refine J_sipush (v := 256) d_Ref_init_505 (by decide) ?_
  refine F_newa1 (r := (fun _ => .inl none)) hw hZ314 (tb1 hw (i := 55) (by decide +kernel)) d_Ref_init_508 H ?_
  clear H
  intro Γ316 φ317 n318 q hZ319 H
  have g320 : Γ316 this = .inr 12 := by
    apply Classical.byContradiction
    intro q9
    rw [if_neg q9] at H
    cases H
  rw [if_pos g320] at H
  refine F_putRF (ci := 12) (k := 74) (v := (some n313)) hZ319.1 (cf_Ref hw) (tb7 hw (i := 78) (by decide +kernel)) (by decide) (by decide) rfl d_Ref_init_510 rfl rfl rfl rfl rfl g320 ?_
  refine J_aload_n d_Ref_init_513 rfl ?_
  refine J_sipush (v := 256) d_Ref_init_514 (by decide) ?_
  refine F_newa0 (r := (fun _ => .inl none)) hw hZ319 (tb1 hw (i := 86) (by decide +kernel)) d_Ref_init_517 H ?_
  clear H
  intro Γ321 φ322 n323 q hZ324 H
  have g325 : Γ321 this = .inr 12 := by
    apply Classical.byContradiction
    intro q9
    rw [if_neg q9] at H
    cases H
  rw [if_pos g325] at H
  refine F_putRF (ci := 12) (k := 75) (v := (some n318)) hZ324.1 (cf_Ref hw) (tb7 hw (i := 79) (by decide +kernel)) (by decide) (by decide) rfl d_Ref_init_519 rfl rfl rfl rfl rfl g325 ?_
  refine J_aload_n d_Ref_init_522 rfl ?_
  refine J_iconst (v := 4) d_Ref_init_523 (by decide) ?_
  refine F_newa0 (r := (fun _ => .inl none)) hw hZ324 (tb1 hw (i := 86) (by decide +kernel)) d_Ref_init_524 H ?_
  clear H
  intro Γ326 φ327 n328 q hZ329 H
  have g330 : Γ326 this = .inr 12 := by
    apply Classical.byContradiction
    intro q9
    rw [if_neg q9] at H
    cases H
  rw [if_pos g330] at H
  refine F_putRF (ci := 12) (k := 76) (v := (some n323)) hZ329.1 (cf_Ref hw) (tb7 hw (i := 80) (by decide +kernel)) (by decide) (by decide) rfl d_Ref_init_526 rfl rfl rfl rfl rfl g330 ?_
  refine J_aload_n d_Ref_init_529 rfl ?_
  refine J_iconst (v := 4) d_Ref_init_530 (by decide) ?_
  refine F_newa0 (r := (fun _ => .inl none)) hw hZ329 (tb1 hw (i := 86) (by decide +kernel)) d_Ref_init_531 H ?_
  clear H
  intro Γ331 φ332 n333 q hZ334 H
  have g335 : Γ331 this = .inr 12 := by
    apply Classical.byContradiction
    intro q9
    rw [if_neg q9] at H
    cases H
  rw [if_pos g335] at H
  refine F_putRF (ci := 12) (k := 77) (v := (some n328)) hZ334.1 (cf_Ref hw) (tb7 hw (i := 81) (by decide +kernel)) (by decide) (by decide) rfl d_Ref_init_533 rfl rfl rfl rfl rfl g335 ?_
  refine J_aload_n d_Ref_init_536 rfl ?_
  refine J_iconst (v := 4) d_Ref_init_537 (by decide) ?_
  refine F_newa0 (r := (fun _ => .inl none)) hw hZ334 (tb1 hw (i := 86) (by decide +kernel)) d_Ref_init_538 H ?_
  clear H
  intro Γ336 φ337 n338 q hZ339 H
  have g340 : Γ336 this = .inr 12 := by
    apply Classical.byContradiction
    intro q9
    rw [if_neg q9] at H
    cases H
  rw [if_pos g340] at H
  refine F_putRF (ci := 12) (k := 78) (v := (some n333)) hZ339.1 (cf_Ref hw) (tb7 hw (i := 82) (by decide +kernel)) (by decide) (by decide) rfl d_Ref_init_540 rfl rfl rfl rfl rfl g340 ?_
  refine J_aload_n d_Ref_init_543 rfl ?_
  refine J_iconst (v := 4) d_Ref_init_544 (by decide) ?_
  refine F_newa0 (r := (fun _ => .inl none)) hw hZ339 (tb1 hw (i := 86) (by decide +kernel)) d_Ref_init_545 H ?_
  clear H
  intro Γ341 φ342 n343 q hZ344 H
  have g345 : Γ341 this = .inr 12 := by
    apply Classical.byContradiction
    intro q9
    rw [if_neg q9] at H
    cases H
  rw [if_pos g345] at H
  refine F_putRF (ci := 12) (k := 79) (v := (some n338)) hZ344.1 (cf_Ref hw) (tb7 hw (i := 83) (by decide +kernel)) (by decide) (by decide) rfl d_Ref_init_547 rfl rfl rfl rfl rfl g345 ?_
  refine J_aload_n d_Ref_init_550 rfl ?_
  refine J_sipush (v := 256) d_Ref_init_551 (by decide) ?_
  refine F_newa0 (r := (fun _ => .inl none)) hw hZ344 (tb1 hw (i := 86) (by decide +kernel)) d_Ref_init_554 H ?_
  clear H
  intro Γ346 φ347 n348 q hZ349 H
  have g350 : Γ346 this = .inr 12 := by
    apply Classical.byContradiction
    intro q9
    rw [if_neg q9] at H
    cases H
  rw [if_pos g350] at H
  refine F_putRF (ci := 12) (k := 80) (v := (some n343)) hZ349.1 (cf_Ref hw) (tb7 hw (i := 84) (by decide +kernel)) (by decide) (by decide) rfl d_Ref_init_556 rfl rfl rfl rfl rfl g350 ?_
  refine J_aload_n d_Ref_init_559 rfl ?_
  refine J_sipush (v := 256) d_Ref_init_560 (by decide) ?_
  refine F_newa0 (r := (fun _ => .inl none)) hw hZ349 (tb1 hw (i := 86) (by decide +kernel)) d_Ref_init_563 H ?_
  clear H
  intro Γ351 φ352 n353 q hZ354 H
  have g355 : Γ351 this = .inr 12 := by
    apply Classical.byContradiction
    intro q9
    rw [if_neg q9] at H
    cases H
  rw [if_pos g355] at H
  refine F_putRF (ci := 12) (k := 81) (v := (some n348)) hZ354.1 (cf_Ref hw) (tb7 hw (i := 85) (by decide +kernel)) (by decide) (by decide) rfl d_Ref_init_565 rfl rfl rfl rfl rfl g355 ?_
  refine J_aload_n d_Ref_init_568 rfl ?_
  refine J_bipush (v := 50) d_Ref_init_569 (by decide) ?_
  refine F_newa2 (r := (fun _ => .inl none)) hw hZ354 (tb1 hw (i := 177) (by decide +kernel)) d_Ref_init_571 H ?_
  clear H
  intro Γ356 φ357 n358 q hZ359 H
  have g360 : Γ356 this = .inr 12 := by
    apply Classical.byContradiction
    intro q9
    rw [if_neg q9] at H
    cases H
  rw [if_pos g360] at H
  refine F_putRF (ci := 12) (k := 82) (v := (some n353)) hZ359.1 (cf_Ref hw) (tb7 hw (i := 86) (by decide +kernel)) (by decide) (by decide) rfl d_Ref_init_573 rfl rfl rfl rfl rfl g360 ?_
  refine J_aload_n d_Ref_init_576 rfl ?_
  refine J_bipush (v := 50) d_Ref_init_577 (by decide) ?_
  refine F_newa1 (r := (fun _ => .inl none)) hw hZ359 (tb1 hw (i := 55) (by decide +kernel)) d_Ref_init_579 H ?_
  clear H
  intro Γ361 φ362 n363 q hZ364 H
  have g365 : Γ361 this = .inr 12 := by
    apply Classical.byContradiction
    intro q9
    rw [if_neg q9] at H
    cases H
  rw [if_pos g365] at H
  refine F_putRF (ci := 12) (k := 83) (v := (some n358)) hZ364.1 (cf_Ref hw) (tb7 hw (i := 87) (by decide +kernel)) (by decide) (by decide) rfl d_Ref_init_581 rfl rfl rfl rfl rfl g365 ?_
  refine J_aload_n d_Ref_init_584 rfl ?_
  refine J_bipush (v := 50) d_Ref_init_585 (by decide) ?_
  refine F_newa0 (r := (fun _ => .inl none)) hw hZ364 (tb1 hw (i := 86) (by decide +kernel)) d_Ref_init_587 H ?_
  clear H
  intro Γ366 φ367 n368 q hZ369 H
  have g370 : Γ366 this = .inr 12 := by
    apply Classical.byContradiction
    intro q9
    rw [if_neg q9] at H
    cases H
  rw [if_pos g370] at H
  refine F_putRF (ci := 12) (k := 84) (v := (some n363)) hZ369.1 (cf_Ref hw) (tb7 hw (i := 88) (by decide +kernel)) (by decide) (by decide) rfl d_Ref_init_589 rfl rfl rfl rfl rfl g370 ?_
  refine J_aload_n d_Ref_init_592 rfl ?_
  refine J_bipush (v := 10) d_Ref_init_593 (by decide) ?_
  refine F_newa0 (r := (fun _ => .inl none)) hw hZ369 (tb1 hw (i := 86) (by decide +kernel)) d_Ref_init_595 H ?_
  clear H
  intro Γ371 φ372 n373 q hZ374 H
  have g375 : Γ371 this = .inr 12 := by
    apply Classical.byContradiction
    intro q9
    rw [if_neg q9] at H
    cases H
  rw [if_pos g375] at H
  refine F_putRF (ci := 12) (k := 85) (v := (some n368)) hZ374.1 (cf_Ref hw) (tb7 hw (i := 89) (by decide +kernel)) (by decide) (by decide) rfl d_Ref_init_597 rfl rfl rfl rfl rfl g375 ?_
  refine J_aload_n d_Ref_init_600 rfl ?_
  refine J_bipush (v := 10) d_Ref_init_601 (by decide) ?_
  refine F_newa0 (r := (fun _ => .inl none)) hw hZ374 (tb1 hw (i := 86) (by decide +kernel)) d_Ref_init_603 H ?_
  clear H
  intro Γ376 φ377 n378 q hZ379 H
  have g380 : Γ376 this = .inr 12 := by
    apply Classical.byContradiction
    intro q9
    rw [if_neg q9] at H
    cases H
  rw [if_pos g380] at H
  refine F_putRF (ci := 12) (k := 86) (v := (some n373)) hZ379.1 (cf_Ref hw) (tb7 hw (i := 90) (by decide +kernel)) (by decide) (by decide) rfl d_Ref_init_605 rfl rfl rfl rfl rfl g380 ?_
  refine J_aload_n d_Ref_init_608 rfl ?_
  refine J_bipush (v := 10) d_Ref_init_609 (by decide) ?_
  refine F_newa0 (r := (fun _ => .inl none)) hw hZ379 (tb1 hw (i := 86) (by decide +kernel)) d_Ref_init_611 H ?_
  clear H
  intro Γ381 φ382 n383 q hZ384 H
  have g385 : Γ381 this = .inr 12 := by
    apply Classical.byContradiction
    intro q9
    rw [if_neg q9] at H
    cases H
  rw [if_pos g385] at H
  refine F_putRF (ci := 12) (k := 87) (v := (some n378)) hZ384.1 (cf_Ref hw) (tb7 hw (i := 91) (by decide +kernel)) (by decide) (by decide) rfl d_Ref_init_613 rfl rfl rfl rfl rfl g385 ?_
  refine J_aload_n d_Ref_init_616 rfl ?_
  refine J_bipush (v := 10) d_Ref_init_617 (by decide) ?_
  refine F_newa0 (r := (fun _ => .inl none)) hw hZ384 (tb1 hw (i := 86) (by decide +kernel)) d_Ref_init_619 H ?_
  clear H
  intro Γ386 φ387 n388 q hZ389 H
  have g390 : Γ386 this = .inr 12 := by
    apply Classical.byContradiction
    intro q9
    rw [if_neg q9] at H
    cases H
  rw [if_pos g390] at H
  refine F_putRF (ci := 12) (k := 88) (v := (some n383)) hZ389.1 (cf_Ref hw) (tb7 hw (i := 92) (by decide +kernel)) (by decide) (by decide) rfl d_Ref_init_621 rfl rfl rfl rfl rfl g390 ?_
  refine J_aload_n d_Ref_init_624 rfl ?_
  refine J_bipush (v := 10) d_Ref_init_625 (by decide) ?_
  refine F_newa0 (r := (fun _ => .inl none)) hw hZ389 (tb1 hw (i := 86) (by decide +kernel)) d_Ref_init_627 H ?_
  clear H
  intro Γ391 φ392 n393 q hZ394 H
  have g395 : Γ391 this = .inr 12 := by
    apply Classical.byContradiction
    intro q9
    rw [if_neg q9] at H
    cases H
  rw [if_pos g395] at H
  refine F_putRF (ci := 12) (k := 89) (v := (some n388)) hZ394.1 (cf_Ref hw) (tb7 hw (i := 93) (by decide +kernel)) (by decide) (by decide) rfl d_Ref_init_629 rfl rfl rfl rfl rfl g395 ?_
  refine J_aload_n d_Ref_init_632 rfl ?_
  refine J_bipush (v := 10) d_Ref_init_633 (by decide) ?_
  refine F_newa0 (r := (fun _ => .inl none)) hw hZ394 (tb1 hw (i := 86) (by decide +kernel)) d_Ref_init_635 H ?_
  clear H
  intro Γ396 φ397 n398 q hZ399 H
  have g400 : Γ396 this = .inr 12 := by
    apply Classical.byContradiction
    intro q9
    rw [if_neg q9] at H
    cases H
  rw [if_pos g400] at H
  refine F_putRF (ci := 12) (k := 90) (v := (some n393)) hZ399.1 (cf_Ref hw) (tb7 hw (i := 94) (by decide +kernel)) (by decide) (by decide) rfl d_Ref_init_637 rfl rfl rfl rfl rfl g400 ?_
  refine J_aload_n d_Ref_init_640 rfl ?_
  refine J_sipush (v := 160) d_Ref_init_641 (by decide) ?_
  refine F_newa2 (r := (fun _ => .inl none)) hw hZ399 (tb1 hw (i := 177) (by decide +kernel)) d_Ref_init_644 H ?_
  clear H
  intro Γ401 φ402 n403 q hZ404 H
  have g405 : Γ401 this = .inr 12 := by
    apply Classical.byContradiction
    intro q9
    rw [if_neg q9] at H
    cases H
  rw [if_pos g405] at H
  refine F_putRF (ci := 12) (k := 91) (v := (some n398)) hZ404.1 (cf_Ref hw) (tb7 hw (i := 95) (by decide +kernel)) (by decide) (by decide) rfl d_Ref_init_646 rfl rfl rfl rfl rfl g405 ?_
  refine J_aload_n d_Ref_init_649 rfl ?_
  refine J_sipush (v := 160) d_Ref_init_650 (by decide) ?_
  refine F_newa1 (r := (fun _ => .inl none)) hw hZ404 (tb1 hw (i := 55) (by decide +kernel)) d_Ref_init_653 H ?_
  clear H
  intro Γ406 φ407 n408 q hZ409 H
  have g410 : Γ406 this = .inr 12 := by
    apply Classical.byContradiction
    intro q9
    rw [if_neg q9] at H
    cases H
  rw [if_pos g410] at H
  refine F_putRF (ci := 12) (k := 92) (v := (some n403)) hZ409.1 (cf_Ref hw) (tb7 hw (i := 96) (by decide +kernel)) (by decide) (by decide) rfl d_Ref_init_655 rfl rfl rfl rfl rfl g410 ?_
  refine J_aload_n d_Ref_init_658 rfl ?_
  refine J_sipush (v := 160) d_Ref_init_659 (by decide) ?_
  refine F_newa0 (r := (fun _ => .inl none)) hw hZ409 (tb1 hw (i := 86) (by decide +kernel)) d_Ref_init_662 H ?_
  clear H
  intro Γ411 φ412 n413 q hZ414 H
  have g415 : Γ411 this = .inr 12 := by
    apply Classical.byContradiction
    intro q9
    rw [if_neg q9] at H
    cases H
  rw [if_pos g415] at H
  refine F_putRF (ci := 12) (k := 93) (v := (some n408)) hZ414.1 (cf_Ref hw) (tb7 hw (i := 97) (by decide +kernel)) (by decide) (by decide) rfl d_Ref_init_664 rfl rfl rfl rfl rfl g415 ?_
  refine J_aload_n d_Ref_init_667 rfl ?_
  refine J_sipush (v := 160) d_Ref_init_668 (by decide) ?_
  refine F_newa2 (r := (fun _ => .inl none)) hw hZ414 (tb1 hw (i := 177) (by decide +kernel)) d_Ref_init_671 H ?_
  clear H
  intro Γ416 φ417 n418 q hZ419 H
  have g420 : Γ416 this = .inr 12 := by
    apply Classical.byContradiction
    intro q9
    rw [if_neg q9] at H
    cases H
  rw [if_pos g420] at H
  refine F_putRF (ci := 12) (k := 94) (v := (some n413)) hZ419.1 (cf_Ref hw) (tb7 hw (i := 98) (by decide +kernel)) (by decide) (by decide) rfl d_Ref_init_673 rfl rfl rfl rfl rfl g420 ?_
  refine J_aload_n d_Ref_init_676 rfl ?_
  refine J_sipush (v := 2560) d_Ref_init_677 (by decide) ?_
  refine F_newa0 (r := (fun _ => .inl none)) hw hZ419 (tb1 hw (i := 86) (by decide +kernel)) d_Ref_init_680 H ?_
  clear H
  intro Γ421 φ422 n423 q hZ424 H
  have g425 : Γ421 this = .inr 12 := by
    apply Classical.byContradiction
    intro q9
    rw [if_neg q9] at H
    cases H
  rw [if_pos g425] at H
  refine F_putRF (ci := 12) (k := 95) (v := (some n418)) hZ424.1 (cf_Ref hw) (tb7 hw (i := 99) (by decide +kernel)) (by decide) (by decide) rfl d_Ref_init_682 rfl rfl rfl rfl rfl g425 ?_
  refine J_aload_n d_Ref_init_685 rfl ?_
  refine J_sipush (v := 160) d_Ref_init_686 (by decide) ?_
  refine F_newa1 (r := (fun _ => .inl none)) hw hZ424 (tb1 hw (i := 55) (by decide +kernel)) d_Ref_init_689 H ?_
  clear H
  intro Γ426 φ427 n428 q hZ429 H
  have g430 : Γ426 this = .inr 12 := by
    apply Classical.byContradiction
    intro q9
    rw [if_neg q9] at H
    cases H
  rw [if_pos g430] at H
  refine F_putRF (ci := 12) (k := 96) (v := (some n423)) hZ429.1 (cf_Ref hw) (tb7 hw (i := 100) (by decide +kernel)) (by decide) (by decide) rfl d_Ref_init_691 rfl rfl rfl rfl rfl g430 ?_
  refine J_aload_n d_Ref_init_694 rfl ?_
  refine J_sipush (v := 160) d_Ref_init_695 (by decide) ?_
  refine F_newa0 (r := (fun _ => .inl none)) hw hZ429 (tb1 hw (i := 86) (by decide +kernel)) d_Ref_init_698 H ?_
  clear H
  intro Γ431 φ432 n433 q hZ434 H
  have g435 : Γ431 this = .inr 12 := by
    apply Classical.byContradiction
    intro q9
    rw [if_neg q9] at H
    cases H
  rw [if_pos g435] at H
  refine F_putRF (ci := 12) (k := 97) (v := (some n428)) hZ434.1 (cf_Ref hw) (tb7 hw (i := 101) (by decide +kernel)) (by decide) (by decide) rfl d_Ref_init_700 rfl rfl rfl rfl rfl g435 ?_
  refine J_aload_n d_Ref_init_703 rfl ?_
  refine J_bipush (v := 10) d_Ref_init_704 (by decide) ?_
  refine F_newa2 (r := (fun _ => .inl none)) hw hZ434 (tb1 hw (i := 177) (by decide +kernel)) d_Ref_init_706 H ?_
  clear H
  intro Γ436 φ437 n438 q hZ439 H
  have g440 : Γ436 this = .inr 12 := by
    apply Classical.byContradiction
    intro q9
    rw [if_neg q9] at H
    cases H
  rw [if_pos g440] at H
  refine F_putRF (ci := 12) (k := 98) (v := (some n433)) hZ439.1 (cf_Ref hw) (tb7 hw (i := 102) (by decide +kernel)) (by decide) (by decide) rfl d_Ref_init_708 rfl rfl rfl rfl rfl g440 ?_
  refine J_aload_n d_Ref_init_711 rfl ?_
  refine J_bipush (v := 10) d_Ref_init_712 (by decide) ?_
  refine F_newa2 (r := (fun _ => .inl none)) hw hZ439 (tb1 hw (i := 177) (by decide +kernel)) d_Ref_init_714 H ?_
  clear H
  intro Γ441 φ442 n443 q hZ444 H
  have g445 : Γ441 this = .inr 12 := by
    apply Classical.byContradiction
    intro q9
    rw [if_neg q9] at H
    cases H
  rw [if_pos g445] at H
  refine F_putRF (ci := 12) (k := 99) (v := (some n438)) hZ444.1 (cf_Ref hw) (tb7 hw (i := 103) (by decide +kernel)) (by decide) (by decide) rfl d_Ref_init_716 rfl rfl rfl rfl rfl g445 ?_
  refine J_aload_n d_Ref_init_719 rfl ?_
  refine J_bipush (v := 10) d_Ref_init_720 (by decide) ?_
  refine F_newa1 (r := (fun _ => .inl none)) hw hZ444 (tb1 hw (i := 55) (by decide +kernel)) d_Ref_init_722 H ?_
  clear H
  intro Γ446 φ447 n448 q hZ449 H
  have g450 : Γ446 this = .inr 12 := by
    apply Classical.byContradiction
    intro q9
    rw [if_neg q9] at H
    cases H
  rw [if_pos g450] at H
  refine F_putRF (ci := 12) (k := 100) (v := (some n443)) hZ449.1 (cf_Ref hw) (tb7 hw (i := 104) (by decide +kernel)) (by decide) (by decide) rfl d_Ref_init_724 rfl rfl rfl rfl rfl g450 ?_
  refine J_aload_n d_Ref_init_727 rfl ?_
  refine J_bipush (v := 10) d_Ref_init_728 (by decide) ?_
  refine F_newa0 (r := (fun _ => .inl none)) hw hZ449 (tb1 hw (i := 86) (by decide +kernel)) d_Ref_init_730 H ?_
  clear H
  intro Γ451 φ452 n453 q hZ454 H
  have g455 : Γ451 this = .inr 12 := by
    apply Classical.byContradiction
    intro q9
    rw [if_neg q9] at H
    cases H
  rw [if_pos g455] at H
  refine F_putRF (ci := 12) (k := 101) (v := (some n448)) hZ454.1 (cf_Ref hw) (tb7 hw (i := 105) (by decide +kernel)) (by decide) (by decide) rfl d_Ref_init_732 rfl rfl rfl rfl rfl g455 ?_
  refine J_aload_n d_Ref_init_735 rfl ?_
  refine J_iload_n d_Ref_init_736 rfl ?_
  refine J_iconst (v := 4) d_Ref_init_737 (by decide) ?_
  obtain ⟨q456, hq456, H⟩ := Option.bind_eq_some_iff.mp H
  refine J.kk (Nat.zero_add _) (Nat.zero_add _) ?_
  refine J_callS (kc := q.2.2.1) (ks := q.2.2.2) (kc' := 0) (ks' := 0) (as := [.int p0, .int (4 : Int32)]) (st := [.ref this]) (mf_Ref_near hw) (ms_Ref_286 hw) d_Ref_init_738 ln_Ref_near (by decide) (by first | exact Nat.le_of_ble_eq_true rfl | (simp only [List.map_cons, List.map_nil, List.sum_cons, List.sum_nil, va_rf_cat]; exact Nat.le_of_ble_eq_true rfl)) rfl (jc.exact (p_Ref_near hw hZ454.1 hq456)) ?_ (fun E9 h9 n9 x9 e9 => by cases e9.1)
  intro v9 h9 n9 x9 e9
  obtain ⟨e91, e92, e93, e94⟩ := e9
  cases e91
  subst e92
  have e95 : n453 = n9 := e93.symm
  subst e95
  subst e94
  show J _ _ _ _ (_ :: _) _ _ _ _ _ _
  refine F_putIF (ci := 12) (k := 1) hZ454.1 (cf_Ref hw) (tb7 hw (i := 5) (by decide +kernel)) (by decide) (by decide) rfl d_Ref_init_741 rfl rfl rfl rfl rfl g455 ?_
  refine J_aload_n d_Ref_init_744 rfl ?_
  refine J_iload_n d_Ref_init_745 rfl ?_
  refine J_iconst (v := 4) d_Ref_init_746 (by decide) ?_
  obtain ⟨q457, hq457, H⟩ := Option.bind_eq_some_iff.mp H
  refine J.kk (Nat.zero_add _) (Nat.zero_add _) ?_
  refine J_callS (kc := q.2.2.1) (ks := q.2.2.2) (kc' := 0) (ks' := 0) (as := [.int p1, .int (4 : Int32)]) (st := [.ref this]) (mf_Ref_near hw) (ms_Ref_286 hw) d_Ref_init_747 ln_Ref_near (by decide) (by first | exact Nat.le_of_ble_eq_true rfl | (simp only [List.map_cons, List.map_nil, List.sum_cons, List.sum_nil, va_rf_cat]; exact Nat.le_of_ble_eq_true rfl)) rfl (jc.exact (p_Ref_near hw hZ454.1 hq457)) ?_ (fun E9 h9 n9 x9 e9 => by cases e9.1)
  intro v9 h9 n9 x9 e9
  obtain ⟨e91, e92, e93, e94⟩ := e9
  cases e91
  subst e92
  have e95 : n453 = n9 := e93.symm
  subst e95
  subst e94
  show J _ _ _ _ (_ :: _) _ _ _ _ _ _
  refine F_putIF (ci := 12) (k := 2) hZ454.1 (cf_Ref hw) (tb7 hw (i := 6) (by decide +kernel)) (by decide) (by decide) rfl d_Ref_init_750 rfl rfl rfl rfl rfl g455 ?_
  refine J_aload_n d_Ref_init_753 rfl ?_
  refine J_iload_n d_Ref_init_754 rfl ?_
  refine J_bipush (v := 8) d_Ref_init_755 (by decide) ?_
  obtain ⟨q458, hq458, H⟩ := Option.bind_eq_some_iff.mp H
  refine J.kk (Nat.zero_add _) (Nat.zero_add _) ?_
  refine J_callS (kc := q.2.2.1) (ks := q.2.2.2) (kc' := 0) (ks' := 0) (as := [.int p2, .int (8 : Int32)]) (st := [.ref this]) (mf_Ref_near hw) (ms_Ref_286 hw) d_Ref_init_757 ln_Ref_near (by decide) (by first | exact Nat.le_of_ble_eq_true rfl | (simp only [List.map_cons, List.map_nil, List.sum_cons, List.sum_nil, va_rf_cat]; exact Nat.le_of_ble_eq_true rfl)) rfl (jc.exact (p_Ref_near hw hZ454.1 hq458)) ?_ (fun E9 h9 n9 x9 e9 => by cases e9.1)
  intro v9 h9 n9 x9 e9
  obtain ⟨e91, e92, e93, e94⟩ := e9
  cases e91
  subst e92
  have e95 : n453 = n9 := e93.symm
  subst e95
  subst e94
  show J _ _ _ _ (_ :: _) _ _ _ _ _ _
  refine F_putIF (ci := 12) (k := 3) hZ454.1 (cf_Ref hw) (tb7 hw (i := 7) (by decide +kernel)) (by decide) (by decide) rfl d_Ref_init_760 rfl rfl rfl rfl rfl g455 ?_
  refine J_aload_n d_Ref_init_763 rfl ?_
  obtain ⟨q459, hq459, H⟩ := Option.bind_eq_some_iff.mp H
  refine J.kk (Nat.zero_add _) (Nat.zero_add _) ?_
  refine J_callV (kc := q.2.2.1) (ks := q.2.2.2) (kc' := 0) (ks' := 0) (a := this) (ci := 12) (as := []) (st := []) (mf_Ref_clear hw) (mv_Ref_300 hw) d_Ref_init_764 ln_Ref_clear (by decide) (by first | exact Nat.le_of_ble_eq_true rfl | (simp only [List.map_cons, List.map_nil, List.sum_cons, List.sum_nil, va_rf_cat]; exact Nat.le_of_ble_eq_true rfl)) rfl ((hZ454.1 _).1 _ g455 (by decide)).1 ((hZ454.1 _).1 _ g455 (by decide)).2 (by unfold pic; rw [g455]; rfl) (jcl_at hw rfl) rfl (jc.exact (p_Ref_clear hw hZ454.1 hq459)) ?_ (fun E9 h9 n9 x9 e9 => by cases e9.1)
  intro v9 h9 n9 x9 e9
  obtain ⟨e91, e92, e93, e94⟩ := e9
  cases e91
  subst e92
  have e95 : n453 = n9 := e93.symm
  subst e95
  subst e94
  show J _ _ _ _ [] _ _ _ _ _ _
  have H := Option.some.inj H
  subst H
  exact J_vret (st := []) d_Ref_init_767 rfl ⟨rfl, rfl, rfl, rfl, hZ454⟩
