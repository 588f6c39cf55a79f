/-! THE REFERENCE's LAYOUT -/
def RLt : List (Nat × Nat × Nat × Nat) := [(7, 1, 0, 16), (8, 2, 0, 20), (9, 3, 0, 20), (10, 4, 2, 4), (11, 5, 0, 4), (12, 6, 0, 4), (13, 7, 0, 65536), (14, 8, 2, 65536), (16, 9, 0, 64), (17, 10, 0, 64), (18, 11, 0, 64), (19, 12, 0, 64), (20, 13, 2, 64), (21, 14, 2, 64), (22, 15, 2, 64), (23, 16, 0, 64), (24, 17, 0, 64), (25, 18, 0, 64), (26, 19, 1, 64), (27, 20, 0, 64), (28, 21, 0, 64), (29, 22, 0, 64), (30, 23, 0, 64), (31, 24, 0, 64), (32, 25, 1, 1024), (33, 26, 2, 40), (34, 27, 2, 40), (35, 28, 1, 40), (36, 29, 0, 40), (37, 30, 2, 40), (38, 31, 0, 40), (39, 32, 1, 180), (40, 33, 0, 180), (41, 34, 0, 180), (42, 35, 0, 45), (43, 36, 0, 40), (44, 37, 0, 40), (45, 38, 0, 40), (46, 39, 0, 40), (48, 40, 0, 40), (49, 41, 0, 40), (50, 42, 0, 40), (52, 43, 0, 5), (53, 44, 0, 5), (54, 45, 0, 4), (55, 46, 0, 4), (56, 47, 2, 4), (58, 48, 0, 4), (59, 49, 0, 16), (60, 50, 2, 16), (61, 51, 1, 16), (62, 52, 0, 16), (63, 53, 0, 16), (64, 54, 0, 16), (65, 55, 1, 256), (66, 56, 0, 256), (67, 57, 0, 4), (68, 58, 0, 16), (69, 59, 2, 16), (70, 60, 1, 16), (71, 61, 0, 16), (72, 62, 0, 16), (73, 63, 0, 16), (74, 64, 1, 256), (75, 65, 0, 256), (76, 66, 0, 4), (77, 67, 0, 4), (78, 68, 0, 4), (79, 69, 0, 4), (80, 70, 0, 256), (81, 71, 0, 256), (82, 72, 2, 50), (83, 73, 1, 50), (84, 74, 0, 50), (85, 75, 0, 10), (86, 76, 0, 10), (87, 77, 0, 10), (88, 78, 0, 10), (89, 79, 0, 10), (90, 80, 0, 10), (91, 81, 2, 160), (92, 82, 1, 160), (93, 83, 0, 160), (94, 84, 2, 160), (95, 85, 0, 2560), (96, 86, 1, 160), (97, 87, 0, 160), (98, 88, 2, 10), (99, 89, 2, 10), (100, 90, 1, 10), (101, 91, 0, 10)]
def RL (Γ : gm_T) (φ : ph_T) (r : Nat) : Prop := (Γ r = .inr 12) ∧ (∀ q ∈ RLt, φ.2.2 r q.1 = some (r + q.2.1) ∧ Γ (r + q.2.1) = .inl (q.2.2.1, q.2.2.2))
theorem RL.o {Γ : gm_T} {φ : ph_T} {r : Nat} (h : RL Γ φ r) : Γ r = .inr 12 := h.1
theorem RL.f {Γ : gm_T} {φ : ph_T} {r : Nat} (h : RL Γ φ r) : ∀ q ∈ RLt, φ.2.2 r q.1 = some (r + q.2.1) ∧ Γ (r + q.2.1) = .inl (q.2.2.1, q.2.2.2) := h.2
theorem gA_of {Γ : gm_T} {a t N : Nat} (h : Γ a = .inl (t, N)) : gA Γ a t = some N := by unfold gA; rw [h]; simp
theorem rf_7 {Γ : gm_T} {φ : ph_T} {r : Nat} (h : RL Γ φ r) : φ.2.2 r 7 = some (r + 1) := (h.f (7, 1, 0, 16) (by decide)).1
theorem rg_7 {Γ : gm_T} {φ : ph_T} {r : Nat} (h : RL Γ φ r) : gA Γ (r + 1) 0 = some 16 := gA_of (h.f (7, 1, 0, 16) (by decide)).2
theorem rf_8 {Γ : gm_T} {φ : ph_T} {r : Nat} (h : RL Γ φ r) : φ.2.2 r 8 = some (r + 2) := (h.f (8, 2, 0, 20) (by decide)).1
theorem rg_8 {Γ : gm_T} {φ : ph_T} {r : Nat} (h : RL Γ φ r) : gA Γ (r + 2) 0 = some 20 := gA_of (h.f (8, 2, 0, 20) (by decide)).2
theorem rf_9 {Γ : gm_T} {φ : ph_T} {r : Nat} (h : RL Γ φ r) : φ.2.2 r 9 = some (r + 3) := (h.f (9, 3, 0, 20) (by decide)).1
theorem rg_9 {Γ : gm_T} {φ : ph_T} {r : Nat} (h : RL Γ φ r) : gA Γ (r + 3) 0 = some 20 := gA_of (h.f (9, 3, 0, 20) (by decide)).2
theorem rf_10 {Γ : gm_T} {φ : ph_T} {r : Nat} (h : RL Γ φ r) : φ.2.2 r 10 = some (r + 4) := (h.f (10, 4, 2, 4) (by decide)).1
theorem rg_10 {Γ : gm_T} {φ : ph_T} {r : Nat} (h : RL Γ φ r) : gA Γ (r + 4) 2 = some 4 := gA_of (h.f (10, 4, 2, 4) (by decide)).2
theorem rf_11 {Γ : gm_T} {φ : ph_T} {r : Nat} (h : RL Γ φ r) : φ.2.2 r 11 = some (r + 5) := (h.f (11, 5, 0, 4) (by decide)).1
theorem rg_11 {Γ : gm_T} {φ : ph_T} {r : Nat} (h : RL Γ φ r) : gA Γ (r + 5) 0 = some 4 := gA_of (h.f (11, 5, 0, 4) (by decide)).2
theorem rf_12 {Γ : gm_T} {φ : ph_T} {r : Nat} (h : RL Γ φ r) : φ.2.2 r 12 = some (r + 6) := (h.f (12, 6, 0, 4) (by decide)).1
theorem rg_12 {Γ : gm_T} {φ : ph_T} {r : Nat} (h : RL Γ φ r) : gA Γ (r + 6) 0 = some 4 := gA_of (h.f (12, 6, 0, 4) (by decide)).2
theorem rf_13 {Γ : gm_T} {φ : ph_T} {r : Nat} (h : RL Γ φ r) : φ.2.2 r 13 = some (r + 7) := (h.f (13, 7, 0, 65536) (by decide)).1
theorem rg_13 {Γ : gm_T} {φ : ph_T} {r : Nat} (h : RL Γ φ r) : gA Γ (r + 7) 0 = some 65536 := gA_of (h.f (13, 7, 0, 65536) (by decide)).2
theorem rf_14 {Γ : gm_T} {φ : ph_T} {r : Nat} (h : RL Γ φ r) : φ.2.2 r 14 = some (r + 8) := (h.f (14, 8, 2, 65536) (by decide)).1
theorem rg_14 {Γ : gm_T} {φ : ph_T} {r : Nat} (h : RL Γ φ r) : gA Γ (r + 8) 2 = some 65536 := gA_of (h.f (14, 8, 2, 65536) (by decide)).2
theorem rf_16 {Γ : gm_T} {φ : ph_T} {r : Nat} (h : RL Γ φ r) : φ.2.2 r 16 = some (r + 9) := (h.f (16, 9, 0, 64) (by decide)).1
theorem rg_16 {Γ : gm_T} {φ : ph_T} {r : Nat} (h : RL Γ φ r) : gA Γ (r + 9) 0 = some 64 := gA_of (h.f (16, 9, 0, 64) (by decide)).2
theorem rf_17 {Γ : gm_T} {φ : ph_T} {r : Nat} (h : RL Γ φ r) : φ.2.2 r 17 = some (r + 10) := (h.f (17, 10, 0, 64) (by decide)).1
theorem rg_17 {Γ : gm_T} {φ : ph_T} {r : Nat} (h : RL Γ φ r) : gA Γ (r + 10) 0 = some 64 := gA_of (h.f (17, 10, 0, 64) (by decide)).2
theorem rf_18 {Γ : gm_T} {φ : ph_T} {r : Nat} (h : RL Γ φ r) : φ.2.2 r 18 = some (r + 11) := (h.f (18, 11, 0, 64) (by decide)).1
theorem rg_18 {Γ : gm_T} {φ : ph_T} {r : Nat} (h : RL Γ φ r) : gA Γ (r + 11) 0 = some 64 := gA_of (h.f (18, 11, 0, 64) (by decide)).2
theorem rf_19 {Γ : gm_T} {φ : ph_T} {r : Nat} (h : RL Γ φ r) : φ.2.2 r 19 = some (r + 12) := (h.f (19, 12, 0, 64) (by decide)).1
theorem rg_19 {Γ : gm_T} {φ : ph_T} {r : Nat} (h : RL Γ φ r) : gA Γ (r + 12) 0 = some 64 := gA_of (h.f (19, 12, 0, 64) (by decide)).2
theorem rf_20 {Γ : gm_T} {φ : ph_T} {r : Nat} (h : RL Γ φ r) : φ.2.2 r 20 = some (r + 13) := (h.f (20, 13, 2, 64) (by decide)).1
theorem rg_20 {Γ : gm_T} {φ : ph_T} {r : Nat} (h : RL Γ φ r) : gA Γ (r + 13) 2 = some 64 := gA_of (h.f (20, 13, 2, 64) (by decide)).2
theorem rf_21 {Γ : gm_T} {φ : ph_T} {r : Nat} (h : RL Γ φ r) : φ.2.2 r 21 = some (r + 14) := (h.f (21, 14, 2, 64) (by decide)).1
theorem rg_21 {Γ : gm_T} {φ : ph_T} {r : Nat} (h : RL Γ φ r) : gA Γ (r + 14) 2 = some 64 := gA_of (h.f (21, 14, 2, 64) (by decide)).2
theorem rf_22 {Γ : gm_T} {φ : ph_T} {r : Nat} (h : RL Γ φ r) : φ.2.2 r 22 = some (r + 15) := (h.f (22, 15, 2, 64) (by decide)).1
theorem rg_22 {Γ : gm_T} {φ : ph_T} {r : Nat} (h : RL Γ φ r) : gA Γ (r + 15) 2 = some 64 := gA_of (h.f (22, 15, 2, 64) (by decide)).2
theorem rf_23 {Γ : gm_T} {φ : ph_T} {r : Nat} (h : RL Γ φ r) : φ.2.2 r 23 = some (r + 16) := (h.f (23, 16, 0, 64) (by decide)).1
theorem rg_23 {Γ : gm_T} {φ : ph_T} {r : Nat} (h : RL Γ φ r) : gA Γ (r + 16) 0 = some 64 := gA_of (h.f (23, 16, 0, 64) (by decide)).2
theorem rf_24 {Γ : gm_T} {φ : ph_T} {r : Nat} (h : RL Γ φ r) : φ.2.2 r 24 = some (r + 17) := (h.f (24, 17, 0, 64) (by decide)).1
theorem rg_24 {Γ : gm_T} {φ : ph_T} {r : Nat} (h : RL Γ φ r) : gA Γ (r + 17) 0 = some 64 := gA_of (h.f (24, 17, 0, 64) (by decide)).2
theorem rf_25 {Γ : gm_T} {φ : ph_T} {r : Nat} (h : RL Γ φ r) : φ.2.2 r 25 = some (r + 18) := (h.f (25, 18, 0, 64) (by decide)).1
theorem rg_25 {Γ : gm_T} {φ : ph_T} {r : Nat} (h : RL Γ φ r) : gA Γ (r + 18) 0 = some 64 := gA_of (h.f (25, 18, 0, 64) (by decide)).2
theorem rf_26 {Γ : gm_T} {φ : ph_T} {r : Nat} (h : RL Γ φ r) : φ.2.2 r 26 = some (r + 19) := (h.f (26, 19, 1, 64) (by decide)).1
theorem rg_26 {Γ : gm_T} {φ : ph_T} {r : Nat} (h : RL Γ φ r) : gA Γ (r + 19) 1 = some 64 := gA_of (h.f (26, 19, 1, 64) (by decide)).2
theorem rf_27 {Γ : gm_T} {φ : ph_T} {r : Nat} (h : RL Γ φ r) : φ.2.2 r 27 = some (r + 20) := (h.f (27, 20, 0, 64) (by decide)).1
theorem rg_27 {Γ : gm_T} {φ : ph_T} {r : Nat} (h : RL Γ φ r) : gA Γ (r + 20) 0 = some 64 := gA_of (h.f (27, 20, 0, 64) (by decide)).2
theorem rf_28 {Γ : gm_T} {φ : ph_T} {r : Nat} (h : RL Γ φ r) : φ.2.2 r 28 = some (r + 21) := (h.f (28, 21, 0, 64) (by decide)).1
theorem rg_28 {Γ : gm_T} {φ : ph_T} {r : Nat} (h : RL Γ φ r) : gA Γ (r + 21) 0 = some 64 := gA_of (h.f (28, 21, 0, 64) (by decide)).2
theorem rf_29 {Γ : gm_T} {φ : ph_T} {r : Nat} (h : RL Γ φ r) : φ.2.2 r 29 = some (r + 22) := (h.f (29, 22, 0, 64) (by decide)).1
theorem rg_29 {Γ : gm_T} {φ : ph_T} {r : Nat} (h : RL Γ φ r) : gA Γ (r + 22) 0 = some 64 := gA_of (h.f (29, 22, 0, 64) (by decide)).2
theorem rf_30 {Γ : gm_T} {φ : ph_T} {r : Nat} (h : RL Γ φ r) : φ.2.2 r 30 = some (r + 23) := (h.f (30, 23, 0, 64) (by decide)).1
theorem rg_30 {Γ : gm_T} {φ : ph_T} {r : Nat} (h : RL Γ φ r) : gA Γ (r + 23) 0 = some 64 := gA_of (h.f (30, 23, 0, 64) (by decide)).2
theorem rf_31 {Γ : gm_T} {φ : ph_T} {r : Nat} (h : RL Γ φ r) : φ.2.2 r 31 = some (r + 24) := (h.f (31, 24, 0, 64) (by decide)).1
theorem rg_31 {Γ : gm_T} {φ : ph_T} {r : Nat} (h : RL Γ φ r) : gA Γ (r + 24) 0 = some 64 := gA_of (h.f (31, 24, 0, 64) (by decide)).2
theorem rf_32 {Γ : gm_T} {φ : ph_T} {r : Nat} (h : RL Γ φ r) : φ.2.2 r 32 = some (r + 25) := (h.f (32, 25, 1, 1024) (by decide)).1
theorem rg_32 {Γ : gm_T} {φ : ph_T} {r : Nat} (h : RL Γ φ r) : gA Γ (r + 25) 1 = some 1024 := gA_of (h.f (32, 25, 1, 1024) (by decide)).2
theorem rf_33 {Γ : gm_T} {φ : ph_T} {r : Nat} (h : RL Γ φ r) : φ.2.2 r 33 = some (r + 26) := (h.f (33, 26, 2, 40) (by decide)).1
theorem rg_33 {Γ : gm_T} {φ : ph_T} {r : Nat} (h : RL Γ φ r) : gA Γ (r + 26) 2 = some 40 := gA_of (h.f (33, 26, 2, 40) (by decide)).2
theorem rf_34 {Γ : gm_T} {φ : ph_T} {r : Nat} (h : RL Γ φ r) : φ.2.2 r 34 = some (r + 27) := (h.f (34, 27, 2, 40) (by decide)).1
theorem rg_34 {Γ : gm_T} {φ : ph_T} {r : Nat} (h : RL Γ φ r) : gA Γ (r + 27) 2 = some 40 := gA_of (h.f (34, 27, 2, 40) (by decide)).2
theorem rf_35 {Γ : gm_T} {φ : ph_T} {r : Nat} (h : RL Γ φ r) : φ.2.2 r 35 = some (r + 28) := (h.f (35, 28, 1, 40) (by decide)).1
theorem rg_35 {Γ : gm_T} {φ : ph_T} {r : Nat} (h : RL Γ φ r) : gA Γ (r + 28) 1 = some 40 := gA_of (h.f (35, 28, 1, 40) (by decide)).2
theorem rf_36 {Γ : gm_T} {φ : ph_T} {r : Nat} (h : RL Γ φ r) : φ.2.2 r 36 = some (r + 29) := (h.f (36, 29, 0, 40) (by decide)).1
theorem rg_36 {Γ : gm_T} {φ : ph_T} {r : Nat} (h : RL Γ φ r) : gA Γ (r + 29) 0 = some 40 := gA_of (h.f (36, 29, 0, 40) (by decide)).2
theorem rf_37 {Γ : gm_T} {φ : ph_T} {r : Nat} (h : RL Γ φ r) : φ.2.2 r 37 = some (r + 30) := (h.f (37, 30, 2, 40) (by decide)).1
theorem rg_37 {Γ : gm_T} {φ : ph_T} {r : Nat} (h : RL Γ φ r) : gA Γ (r + 30) 2 = some 40 := gA_of (h.f (37, 30, 2, 40) (by decide)).2
theorem rf_38 {Γ : gm_T} {φ : ph_T} {r : Nat} (h : RL Γ φ r) : φ.2.2 r 38 = some (r + 31) := (h.f (38, 31, 0, 40) (by decide)).1
theorem rg_38 {Γ : gm_T} {φ : ph_T} {r : Nat} (h : RL Γ φ r) : gA Γ (r + 31) 0 = some 40 := gA_of (h.f (38, 31, 0, 40) (by decide)).2
theorem rf_39 {Γ : gm_T} {φ : ph_T} {r : Nat} (h : RL Γ φ r) : φ.2.2 r 39 = some (r + 32) := (h.f (39, 32, 1, 180) (by decide)).1
theorem rg_39 {Γ : gm_T} {φ : ph_T} {r : Nat} (h : RL Γ φ r) : gA Γ (r + 32) 1 = some 180 := gA_of (h.f (39, 32, 1, 180) (by decide)).2
theorem rf_40 {Γ : gm_T} {φ : ph_T} {r : Nat} (h : RL Γ φ r) : φ.2.2 r 40 = some (r + 33) := (h.f (40, 33, 0, 180) (by decide)).1
theorem rg_40 {Γ : gm_T} {φ : ph_T} {r : Nat} (h : RL Γ φ r) : gA Γ (r + 33) 0 = some 180 := gA_of (h.f (40, 33, 0, 180) (by decide)).2
theorem rf_41 {Γ : gm_T} {φ : ph_T} {r : Nat} (h : RL Γ φ r) : φ.2.2 r 41 = some (r + 34) := (h.f (41, 34, 0, 180) (by decide)).1
theorem rg_41 {Γ : gm_T} {φ : ph_T} {r : Nat} (h : RL Γ φ r) : gA Γ (r + 34) 0 = some 180 := gA_of (h.f (41, 34, 0, 180) (by decide)).2
theorem rf_42 {Γ : gm_T} {φ : ph_T} {r : Nat} (h : RL Γ φ r) : φ.2.2 r 42 = some (r + 35) := (h.f (42, 35, 0, 45) (by decide)).1
theorem rg_42 {Γ : gm_T} {φ : ph_T} {r : Nat} (h : RL Γ φ r) : gA Γ (r + 35) 0 = some 45 := gA_of (h.f (42, 35, 0, 45) (by decide)).2
theorem rf_43 {Γ : gm_T} {φ : ph_T} {r : Nat} (h : RL Γ φ r) : φ.2.2 r 43 = some (r + 36) := (h.f (43, 36, 0, 40) (by decide)).1
theorem rg_43 {Γ : gm_T} {φ : ph_T} {r : Nat} (h : RL Γ φ r) : gA Γ (r + 36) 0 = some 40 := gA_of (h.f (43, 36, 0, 40) (by decide)).2
theorem rf_44 {Γ : gm_T} {φ : ph_T} {r : Nat} (h : RL Γ φ r) : φ.2.2 r 44 = some (r + 37) := (h.f (44, 37, 0, 40) (by decide)).1
theorem rg_44 {Γ : gm_T} {φ : ph_T} {r : Nat} (h : RL Γ φ r) : gA Γ (r + 37) 0 = some 40 := gA_of (h.f (44, 37, 0, 40) (by decide)).2
theorem rf_45 {Γ : gm_T} {φ : ph_T} {r : Nat} (h : RL Γ φ r) : φ.2.2 r 45 = some (r + 38) := (h.f (45, 38, 0, 40) (by decide)).1
theorem rg_45 {Γ : gm_T} {φ : ph_T} {r : Nat} (h : RL Γ φ r) : gA Γ (r + 38) 0 = some 40 := gA_of (h.f (45, 38, 0, 40) (by decide)).2
theorem rf_46 {Γ : gm_T} {φ : ph_T} {r : Nat} (h : RL Γ φ r) : φ.2.2 r 46 = some (r + 39) := (h.f (46, 39, 0, 40) (by decide)).1
theorem rg_46 {Γ : gm_T} {φ : ph_T} {r : Nat} (h : RL Γ φ r) : gA Γ (r + 39) 0 = some 40 := gA_of (h.f (46, 39, 0, 40) (by decide)).2
theorem rf_48 {Γ : gm_T} {φ : ph_T} {r : Nat} (h : RL Γ φ r) : φ.2.2 r 48 = some (r + 40) := (h.f (48, 40, 0, 40) (by decide)).1
theorem rg_48 {Γ : gm_T} {φ : ph_T} {r : Nat} (h : RL Γ φ r) : gA Γ (r + 40) 0 = some 40 := gA_of (h.f (48, 40, 0, 40) (by decide)).2
theorem rf_49 {Γ : gm_T} {φ : ph_T} {r : Nat} (h : RL Γ φ r) : φ.2.2 r 49 = some (r + 41) := (h.f (49, 41, 0, 40) (by decide)).1
theorem rg_49 {Γ : gm_T} {φ : ph_T} {r : Nat} (h : RL Γ φ r) : gA Γ (r + 41) 0 = some 40 := gA_of (h.f (49, 41, 0, 40) (by decide)).2
theorem rf_50 {Γ : gm_T} {φ : ph_T} {r : Nat} (h : RL Γ φ r) : φ.2.2 r 50 = some (r + 42) := (h.f (50, 42, 0, 40) (by decide)).1
theorem rg_50 {Γ : gm_T} {φ : ph_T} {r : Nat} (h : RL Γ φ r) : gA Γ (r + 42) 0 = some 40 := gA_of (h.f (50, 42, 0, 40) (by decide)).2
theorem rf_52 {Γ : gm_T} {φ : ph_T} {r : Nat} (h : RL Γ φ r) : φ.2.2 r 52 = some (r + 43) := (h.f (52, 43, 0, 5) (by decide)).1
theorem rg_52 {Γ : gm_T} {φ : ph_T} {r : Nat} (h : RL Γ φ r) : gA Γ (r + 43) 0 = some 5 := gA_of (h.f (52, 43, 0, 5) (by decide)).2
theorem rf_53 {Γ : gm_T} {φ : ph_T} {r : Nat} (h : RL Γ φ r) : φ.2.2 r 53 = some (r + 44) := (h.f (53, 44, 0, 5) (by decide)).1
theorem rg_53 {Γ : gm_T} {φ : ph_T} {r : Nat} (h : RL Γ φ r) : gA Γ (r + 44) 0 = some 5 := gA_of (h.f (53, 44, 0, 5) (by decide)).2
theorem rf_54 {Γ : gm_T} {φ : ph_T} {r : Nat} (h : RL Γ φ r) : φ.2.2 r 54 = some (r + 45) := (h.f (54, 45, 0, 4) (by decide)).1
theorem rg_54 {Γ : gm_T} {φ : ph_T} {r : Nat} (h : RL Γ φ r) : gA Γ (r + 45) 0 = some 4 := gA_of (h.f (54, 45, 0, 4) (by decide)).2
theorem rf_55 {Γ : gm_T} {φ : ph_T} {r : Nat} (h : RL Γ φ r) : φ.2.2 r 55 = some (r + 46) := (h.f (55, 46, 0, 4) (by decide)).1
theorem rg_55 {Γ : gm_T} {φ : ph_T} {r : Nat} (h : RL Γ φ r) : gA Γ (r + 46) 0 = some 4 := gA_of (h.f (55, 46, 0, 4) (by decide)).2
theorem rf_56 {Γ : gm_T} {φ : ph_T} {r : Nat} (h : RL Γ φ r) : φ.2.2 r 56 = some (r + 47) := (h.f (56, 47, 2, 4) (by decide)).1
theorem rg_56 {Γ : gm_T} {φ : ph_T} {r : Nat} (h : RL Γ φ r) : gA Γ (r + 47) 2 = some 4 := gA_of (h.f (56, 47, 2, 4) (by decide)).2
theorem rf_58 {Γ : gm_T} {φ : ph_T} {r : Nat} (h : RL Γ φ r) : φ.2.2 r 58 = some (r + 48) := (h.f (58, 48, 0, 4) (by decide)).1
theorem rg_58 {Γ : gm_T} {φ : ph_T} {r : Nat} (h : RL Γ φ r) : gA Γ (r + 48) 0 = some 4 := gA_of (h.f (58, 48, 0, 4) (by decide)).2
theorem rf_59 {Γ : gm_T} {φ : ph_T} {r : Nat} (h : RL Γ φ r) : φ.2.2 r 59 = some (r + 49) := (h.f (59, 49, 0, 16) (by decide)).1
theorem rg_59 {Γ : gm_T} {φ : ph_T} {r : Nat} (h : RL Γ φ r) : gA Γ (r + 49) 0 = some 16 := gA_of (h.f (59, 49, 0, 16) (by decide)).2
theorem rf_60 {Γ : gm_T} {φ : ph_T} {r : Nat} (h : RL Γ φ r) : φ.2.2 r 60 = some (r + 50) := (h.f (60, 50, 2, 16) (by decide)).1
theorem rg_60 {Γ : gm_T} {φ : ph_T} {r : Nat} (h : RL Γ φ r) : gA Γ (r + 50) 2 = some 16 := gA_of (h.f (60, 50, 2, 16) (by decide)).2
theorem rf_61 {Γ : gm_T} {φ : ph_T} {r : Nat} (h : RL Γ φ r) : φ.2.2 r 61 = some (r + 51) := (h.f (61, 51, 1, 16) (by decide)).1
theorem rg_61 {Γ : gm_T} {φ : ph_T} {r : Nat} (h : RL Γ φ r) : gA Γ (r + 51) 1 = some 16 := gA_of (h.f (61, 51, 1, 16) (by decide)).2
theorem rf_62 {Γ : gm_T} {φ : ph_T} {r : Nat} (h : RL Γ φ r) : φ.2.2 r 62 = some (r + 52) := (h.f (62, 52, 0, 16) (by decide)).1
theorem rg_62 {Γ : gm_T} {φ : ph_T} {r : Nat} (h : RL Γ φ r) : gA Γ (r + 52) 0 = some 16 := gA_of (h.f (62, 52, 0, 16) (by decide)).2
theorem rf_63 {Γ : gm_T} {φ : ph_T} {r : Nat} (h : RL Γ φ r) : φ.2.2 r 63 = some (r + 53) := (h.f (63, 53, 0, 16) (by decide)).1
theorem rg_63 {Γ : gm_T} {φ : ph_T} {r : Nat} (h : RL Γ φ r) : gA Γ (r + 53) 0 = some 16 := gA_of (h.f (63, 53, 0, 16) (by decide)).2
theorem rf_64 {Γ : gm_T} {φ : ph_T} {r : Nat} (h : RL Γ φ r) : φ.2.2 r 64 = some (r + 54) := (h.f (64, 54, 0, 16) (by decide)).1
theorem rg_64 {Γ : gm_T} {φ : ph_T} {r : Nat} (h : RL Γ φ r) : gA Γ (r + 54) 0 = some 16 := gA_of (h.f (64, 54, 0, 16) (by decide)).2
theorem rf_65 {Γ : gm_T} {φ : ph_T} {r : Nat} (h : RL Γ φ r) : φ.2.2 r 65 = some (r + 55) := (h.f (65, 55, 1, 256) (by decide)).1
theorem rg_65 {Γ : gm_T} {φ : ph_T} {r : Nat} (h : RL Γ φ r) : gA Γ (r + 55) 1 = some 256 := gA_of (h.f (65, 55, 1, 256) (by decide)).2
theorem rf_66 {Γ : gm_T} {φ : ph_T} {r : Nat} (h : RL Γ φ r) : φ.2.2 r 66 = some (r + 56) := (h.f (66, 56, 0, 256) (by decide)).1
theorem rg_66 {Γ : gm_T} {φ : ph_T} {r : Nat} (h : RL Γ φ r) : gA Γ (r + 56) 0 = some 256 := gA_of (h.f (66, 56, 0, 256) (by decide)).2
theorem rf_67 {Γ : gm_T} {φ : ph_T} {r : Nat} (h : RL Γ φ r) : φ.2.2 r 67 = some (r + 57) := (h.f (67, 57, 0, 4) (by decide)).1
theorem rg_67 {Γ : gm_T} {φ : ph_T} {r : Nat} (h : RL Γ φ r) : gA Γ (r + 57) 0 = some 4 := gA_of (h.f (67, 57, 0, 4) (by decide)).2
theorem rf_68 {Γ : gm_T} {φ : ph_T} {r : Nat} (h : RL Γ φ r) : φ.2.2 r 68 = some (r + 58) := (h.f (68, 58, 0, 16) (by decide)).1
theorem rg_68 {Γ : gm_T} {φ : ph_T} {r : Nat} (h : RL Γ φ r) : gA Γ (r + 58) 0 = some 16 := gA_of (h.f (68, 58, 0, 16) (by decide)).2
theorem rf_69 {Γ : gm_T} {φ : ph_T} {r : Nat} (h : RL Γ φ r) : φ.2.2 r 69 = some (r + 59) := (h.f (69, 59, 2, 16) (by decide)).1
theorem rg_69 {Γ : gm_T} {φ : ph_T} {r : Nat} (h : RL Γ φ r) : gA Γ (r + 59) 2 = some 16 := gA_of (h.f (69, 59, 2, 16) (by decide)).2
theorem rf_70 {Γ : gm_T} {φ : ph_T} {r : Nat} (h : RL Γ φ r) : φ.2.2 r 70 = some (r + 60) := (h.f (70, 60, 1, 16) (by decide)).1
theorem rg_70 {Γ : gm_T} {φ : ph_T} {r : Nat} (h : RL Γ φ r) : gA Γ (r + 60) 1 = some 16 := gA_of (h.f (70, 60, 1, 16) (by decide)).2
theorem rf_71 {Γ : gm_T} {φ : ph_T} {r : Nat} (h : RL Γ φ r) : φ.2.2 r 71 = some (r + 61) := (h.f (71, 61, 0, 16) (by decide)).1
theorem rg_71 {Γ : gm_T} {φ : ph_T} {r : Nat} (h : RL Γ φ r) : gA Γ (r + 61) 0 = some 16 := gA_of (h.f (71, 61, 0, 16) (by decide)).2
theorem rf_72 {Γ : gm_T} {φ : ph_T} {r : Nat} (h : RL Γ φ r) : φ.2.2 r 72 = some (r + 62) := (h.f (72, 62, 0, 16) (by decide)).1
theorem rg_72 {Γ : gm_T} {φ : ph_T} {r : Nat} (h : RL Γ φ r) : gA Γ (r + 62) 0 = some 16 := gA_of (h.f (72, 62, 0, 16) (by decide)).2
theorem rf_73 {Γ : gm_T} {φ : ph_T} {r : Nat} (h : RL Γ φ r) : φ.2.2 r 73 = some (r + 63) := (h.f (73, 63, 0, 16) (by decide)).1
theorem rg_73 {Γ : gm_T} {φ : ph_T} {r : Nat} (h : RL Γ φ r) : gA Γ (r + 63) 0 = some 16 := gA_of (h.f (73, 63, 0, 16) (by decide)).2
theorem rf_74 {Γ : gm_T} {φ : ph_T} {r : Nat} (h : RL Γ φ r) : φ.2.2 r 74 = some (r + 64) := (h.f (74, 64, 1, 256) (by decide)).1
theorem rg_74 {Γ : gm_T} {φ : ph_T} {r : Nat} (h : RL Γ φ r) : gA Γ (r + 64) 1 = some 256 := gA_of (h.f (74, 64, 1, 256) (by decide)).2
theorem rf_75 {Γ : gm_T} {φ : ph_T} {r : Nat} (h : RL Γ φ r) : φ.2.2 r 75 = some (r + 65) := (h.f (75, 65, 0, 256) (by decide)).1
theorem rg_75 {Γ : gm_T} {φ : ph_T} {r : Nat} (h : RL Γ φ r) : gA Γ (r + 65) 0 = some 256 := gA_of (h.f (75, 65, 0, 256) (by decide)).2
theorem rf_76 {Γ : gm_T} {φ : ph_T} {r : Nat} (h : RL Γ φ r) : φ.2.2 r 76 = some (r + 66) := (h.f (76, 66, 0, 4) (by decide)).1
theorem rg_76 {Γ : gm_T} {φ : ph_T} {r : Nat} (h : RL Γ φ r) : gA Γ (r + 66) 0 = some 4 := gA_of (h.f (76, 66, 0, 4) (by decide)).2
theorem rf_77 {Γ : gm_T} {φ : ph_T} {r : Nat} (h : RL Γ φ r) : φ.2.2 r 77 = some (r + 67) := (h.f (77, 67, 0, 4) (by decide)).1
theorem rg_77 {Γ : gm_T} {φ : ph_T} {r : Nat} (h : RL Γ φ r) : gA Γ (r + 67) 0 = some 4 := gA_of (h.f (77, 67, 0, 4) (by decide)).2
theorem rf_78 {Γ : gm_T} {φ : ph_T} {r : Nat} (h : RL Γ φ r) : φ.2.2 r 78 = some (r + 68) := (h.f (78, 68, 0, 4) (by decide)).1
theorem rg_78 {Γ : gm_T} {φ : ph_T} {r : Nat} (h : RL Γ φ r) : gA Γ (r + 68) 0 = some 4 := gA_of (h.f (78, 68, 0, 4) (by decide)).2
theorem rf_79 {Γ : gm_T} {φ : ph_T} {r : Nat} (h : RL Γ φ r) : φ.2.2 r 79 = some (r + 69) := (h.f (79, 69, 0, 4) (by decide)).1
theorem rg_79 {Γ : gm_T} {φ : ph_T} {r : Nat} (h : RL Γ φ r) : gA Γ (r + 69) 0 = some 4 := gA_of (h.f (79, 69, 0, 4) (by decide)).2
theorem rf_80 {Γ : gm_T} {φ : ph_T} {r : Nat} (h : RL Γ φ r) : φ.2.2 r 80 = some (r + 70) := (h.f (80, 70, 0, 256) (by decide)).1
theorem rg_80 {Γ : gm_T} {φ : ph_T} {r : Nat} (h : RL Γ φ r) : gA Γ (r + 70) 0 = some 256 := gA_of (h.f (80, 70, 0, 256) (by decide)).2
theorem rf_81 {Γ : gm_T} {φ : ph_T} {r : Nat} (h : RL Γ φ r) : φ.2.2 r 81 = some (r + 71) := (h.f (81, 71, 0, 256) (by decide)).1
theorem rg_81 {Γ : gm_T} {φ : ph_T} {r : Nat} (h : RL Γ φ r) : gA Γ (r + 71) 0 = some 256 := gA_of (h.f (81, 71, 0, 256) (by decide)).2
theorem rf_82 {Γ : gm_T} {φ : ph_T} {r : Nat} (h : RL Γ φ r) : φ.2.2 r 82 = some (r + 72) := (h.f (82, 72, 2, 50) (by decide)).1
theorem rg_82 {Γ : gm_T} {φ : ph_T} {r : Nat} (h : RL Γ φ r) : gA Γ (r + 72) 2 = some 50 := gA_of (h.f (82, 72, 2, 50) (by decide)).2
theorem rf_83 {Γ : gm_T} {φ : ph_T} {r : Nat} (h : RL Γ φ r) : φ.2.2 r 83 = some (r + 73) := (h.f (83, 73, 1, 50) (by decide)).1
theorem rg_83 {Γ : gm_T} {φ : ph_T} {r : Nat} (h : RL Γ φ r) : gA Γ (r + 73) 1 = some 50 := gA_of (h.f (83, 73, 1, 50) (by decide)).2
theorem rf_84 {Γ : gm_T} {φ : ph_T} {r : Nat} (h : RL Γ φ r) : φ.2.2 r 84 = some (r + 74) := (h.f (84, 74, 0, 50) (by decide)).1
theorem rg_84 {Γ : gm_T} {φ : ph_T} {r : Nat} (h : RL Γ φ r) : gA Γ (r + 74) 0 = some 50 := gA_of (h.f (84, 74, 0, 50) (by decide)).2
theorem rf_85 {Γ : gm_T} {φ : ph_T} {r : Nat} (h : RL Γ φ r) : φ.2.2 r 85 = some (r + 75) := (h.f (85, 75, 0, 10) (by decide)).1
theorem rg_85 {Γ : gm_T} {φ : ph_T} {r : Nat} (h : RL Γ φ r) : gA Γ (r + 75) 0 = some 10 := gA_of (h.f (85, 75, 0, 10) (by decide)).2
theorem rf_86 {Γ : gm_T} {φ : ph_T} {r : Nat} (h : RL Γ φ r) : φ.2.2 r 86 = some (r + 76) := (h.f (86, 76, 0, 10) (by decide)).1
theorem rg_86 {Γ : gm_T} {φ : ph_T} {r : Nat} (h : RL Γ φ r) : gA Γ (r + 76) 0 = some 10 := gA_of (h.f (86, 76, 0, 10) (by decide)).2
theorem rf_87 {Γ : gm_T} {φ : ph_T} {r : Nat} (h : RL Γ φ r) : φ.2.2 r 87 = some (r + 77) := (h.f (87, 77, 0, 10) (by decide)).1
theorem rg_87 {Γ : gm_T} {φ : ph_T} {r : Nat} (h : RL Γ φ r) : gA Γ (r + 77) 0 = some 10 := gA_of (h.f (87, 77, 0, 10) (by decide)).2
theorem rf_88 {Γ : gm_T} {φ : ph_T} {r : Nat} (h : RL Γ φ r) : φ.2.2 r 88 = some (r + 78) := (h.f (88, 78, 0, 10) (by decide)).1
theorem rg_88 {Γ : gm_T} {φ : ph_T} {r : Nat} (h : RL Γ φ r) : gA Γ (r + 78) 0 = some 10 := gA_of (h.f (88, 78, 0, 10) (by decide)).2
theorem rf_89 {Γ : gm_T} {φ : ph_T} {r : Nat} (h : RL Γ φ r) : φ.2.2 r 89 = some (r + 79) := (h.f (89, 79, 0, 10) (by decide)).1
theorem rg_89 {Γ : gm_T} {φ : ph_T} {r : Nat} (h : RL Γ φ r) : gA Γ (r + 79) 0 = some 10 := gA_of (h.f (89, 79, 0, 10) (by decide)).2
theorem rf_90 {Γ : gm_T} {φ : ph_T} {r : Nat} (h : RL Γ φ r) : φ.2.2 r 90 = some (r + 80) := (h.f (90, 80, 0, 10) (by decide)).1
theorem rg_90 {Γ : gm_T} {φ : ph_T} {r : Nat} (h : RL Γ φ r) : gA Γ (r + 80) 0 = some 10 := gA_of (h.f (90, 80, 0, 10) (by decide)).2
theorem rf_91 {Γ : gm_T} {φ : ph_T} {r : Nat} (h : RL Γ φ r) : φ.2.2 r 91 = some (r + 81) := (h.f (91, 81, 2, 160) (by decide)).1
theorem rg_91 {Γ : gm_T} {φ : ph_T} {r : Nat} (h : RL Γ φ r) : gA Γ (r + 81) 2 = some 160 := gA_of (h.f (91, 81, 2, 160) (by decide)).2
theorem rf_92 {Γ : gm_T} {φ : ph_T} {r : Nat} (h : RL Γ φ r) : φ.2.2 r 92 = some (r + 82) := (h.f (92, 82, 1, 160) (by decide)).1
theorem rg_92 {Γ : gm_T} {φ : ph_T} {r : Nat} (h : RL Γ φ r) : gA Γ (r + 82) 1 = some 160 := gA_of (h.f (92, 82, 1, 160) (by decide)).2
theorem rf_93 {Γ : gm_T} {φ : ph_T} {r : Nat} (h : RL Γ φ r) : φ.2.2 r 93 = some (r + 83) := (h.f (93, 83, 0, 160) (by decide)).1
theorem rg_93 {Γ : gm_T} {φ : ph_T} {r : Nat} (h : RL Γ φ r) : gA Γ (r + 83) 0 = some 160 := gA_of (h.f (93, 83, 0, 160) (by decide)).2
theorem rf_94 {Γ : gm_T} {φ : ph_T} {r : Nat} (h : RL Γ φ r) : φ.2.2 r 94 = some (r + 84) := (h.f (94, 84, 2, 160) (by decide)).1
theorem rg_94 {Γ : gm_T} {φ : ph_T} {r : Nat} (h : RL Γ φ r) : gA Γ (r + 84) 2 = some 160 := gA_of (h.f (94, 84, 2, 160) (by decide)).2
theorem rf_95 {Γ : gm_T} {φ : ph_T} {r : Nat} (h : RL Γ φ r) : φ.2.2 r 95 = some (r + 85) := (h.f (95, 85, 0, 2560) (by decide)).1
theorem rg_95 {Γ : gm_T} {φ : ph_T} {r : Nat} (h : RL Γ φ r) : gA Γ (r + 85) 0 = some 2560 := gA_of (h.f (95, 85, 0, 2560) (by decide)).2
theorem rf_96 {Γ : gm_T} {φ : ph_T} {r : Nat} (h : RL Γ φ r) : φ.2.2 r 96 = some (r + 86) := (h.f (96, 86, 1, 160) (by decide)).1
theorem rg_96 {Γ : gm_T} {φ : ph_T} {r : Nat} (h : RL Γ φ r) : gA Γ (r + 86) 1 = some 160 := gA_of (h.f (96, 86, 1, 160) (by decide)).2
theorem rf_97 {Γ : gm_T} {φ : ph_T} {r : Nat} (h : RL Γ φ r) : φ.2.2 r 97 = some (r + 87) := (h.f (97, 87, 0, 160) (by decide)).1
theorem rg_97 {Γ : gm_T} {φ : ph_T} {r : Nat} (h : RL Γ φ r) : gA Γ (r + 87) 0 = some 160 := gA_of (h.f (97, 87, 0, 160) (by decide)).2
theorem rf_98 {Γ : gm_T} {φ : ph_T} {r : Nat} (h : RL Γ φ r) : φ.2.2 r 98 = some (r + 88) := (h.f (98, 88, 2, 10) (by decide)).1
theorem rg_98 {Γ : gm_T} {φ : ph_T} {r : Nat} (h : RL Γ φ r) : gA Γ (r + 88) 2 = some 10 := gA_of (h.f (98, 88, 2, 10) (by decide)).2
theorem rf_99 {Γ : gm_T} {φ : ph_T} {r : Nat} (h : RL Γ φ r) : φ.2.2 r 99 = some (r + 89) := (h.f (99, 89, 2, 10) (by decide)).1
theorem rg_99 {Γ : gm_T} {φ : ph_T} {r : Nat} (h : RL Γ φ r) : gA Γ (r + 89) 2 = some 10 := gA_of (h.f (99, 89, 2, 10) (by decide)).2
theorem rf_100 {Γ : gm_T} {φ : ph_T} {r : Nat} (h : RL Γ φ r) : φ.2.2 r 100 = some (r + 90) := (h.f (100, 90, 1, 10) (by decide)).1
theorem rg_100 {Γ : gm_T} {φ : ph_T} {r : Nat} (h : RL Γ φ r) : gA Γ (r + 90) 1 = some 10 := gA_of (h.f (100, 90, 1, 10) (by decide)).2
theorem rf_101 {Γ : gm_T} {φ : ph_T} {r : Nat} (h : RL Γ φ r) : φ.2.2 r 101 = some (r + 91) := (h.f (101, 91, 0, 10) (by decide)).1
theorem rg_101 {Γ : gm_T} {φ : ph_T} {r : Nat} (h : RL Γ φ r) : gA Γ (r + 91) 0 = some 10 := gA_of (h.f (101, 91, 0, 10) (by decide)).2
