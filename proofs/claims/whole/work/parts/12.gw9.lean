/-! THE LAYER, 8: rows with plain sums, calls that answer one thing, where the objects lie when all is made -/
abbrev gw_M0 (ad : Nat → Nat) : Mem := (gw_N0, ad, gw_rh)
abbrev gw_D (v : Option AV) (M : Mem) (σ' : Sg) : Option AV → Mem → Sg → Prop := fun a b c => a = v ∧ b = M ∧ c = σ'
abbrev gw_no : String → Prop := fun _ => False
abbrev gw_is (cls : String) : String → Prop := fun E => E = cls
def gw_rows : List (Nat × Nat) := [(6, 8), (8, 3), (10, 60), (12, 60), (14, 60), (16, 60), (18, 60), (20, 60), (22, 60), (24, 480), (27, 60), (29, 60), (31, 60), (33, 60), (35, 60), (37, 60), (39, 60), (41, 60), (43, 60), (45, 3), (47, 3), (49, 8), (53, 8), (55, 3), (57, 60), (59, 60), (61, 60), (63, 60), (65, 60), (67, 60), (69, 60), (71, 480), (76, 8), (78, 3), (80, 60), (82, 60), (84, 60), (86, 60), (88, 60), (90, 60), (92, 60), (94, 480), (97, 60), (99, 60), (101, 60), (103, 60), (105, 60), (107, 60), (109, 60), (111, 60), (113, 60), (115, 3), (117, 3), (119, 8), (122, 8), (124, 8), (126, 9), (129, 8), (131, 8), (133, 8), (135, 9), (137, 9), (139, 9), (141, 8), (143, 60), (145, 60), (159, 8), (161, 3), (163, 60), (165, 60), (167, 60), (169, 60), (171, 60), (173, 60), (175, 60), (177, 480), (181, 8), (183, 3), (185, 60), (187, 60), (189, 60), (191, 60), (193, 60), (195, 60), (197, 60), (199, 480), (203, 8), (205, 3), (207, 60), (209, 60), (211, 60), (213, 60), (215, 60), (217, 60), (219, 60), (221, 480)]
def gw_laws : List Nat := [5, 52, 75, 158, 180, 202]
def gw_mills : List Nat := [4, 51, 74, 157, 179, 201]
def gw_runs : List (Nat × Nat) := [(26, 4), (96, 74)]
def gw_trays : List Nat := [149, 151, 153, 155]
theorem row_all : ∀ q ∈ gw_rows, (q.1 < gw_N0 ∧ gw_sh q.1 = (4, 1)) ∧ gw_rh q.1 0 = some (q.1 + 1) ∧ (q.1 + 1 < gw_N0 ∧ gw_sh (q.1 + 1) = (21, q.2)) ∧ q.2 ≤ 480 := by decide +kernel
theorem law_all : ∀ q ∈ gw_laws, (q < gw_N0 ∧ gw_sh q = (0, 3)) ∧ gw_rh q 0 = some (q + 1) ∧ (q + 1, 8) ∈ gw_rows := by decide +kernel
theorem tray_all : ∀ q ∈ gw_trays, (q < gw_N0 ∧ gw_sh q = (9, 3)) ∧ gw_rh q 0 = some (q + 1) ∧ (q + 1 < gw_N0 ∧ gw_sh (q + 1) = (22, 60)) := by decide +kernel
theorem mill_all : ∀ q ∈ gw_mills, (q < gw_N0 ∧ gw_sh q = (1, 16)) ∧ (gw_rh q 0 = some (q + 1) ∧ q + 1 ∈ gw_laws) := by decide +kernel
theorem mill_a7 : ∀ q ∈ gw_mills, gw_rh q 7 = some (q + 4) ∧ (q + 4, 3) ∈ gw_rows := by decide +kernel
theorem mill_a8 : ∀ q ∈ gw_mills, gw_rh q 8 = some (q + 6) ∧ (q + 6, 60) ∈ gw_rows := by decide +kernel
theorem mill_a9 : ∀ q ∈ gw_mills, gw_rh q 9 = some (q + 8) ∧ (q + 8, 60) ∈ gw_rows := by decide +kernel
theorem mill_a10 : ∀ q ∈ gw_mills, gw_rh q 10 = some (q + 10) ∧ (q + 10, 60) ∈ gw_rows := by decide +kernel
theorem mill_a11 : ∀ q ∈ gw_mills, gw_rh q 11 = some (q + 12) ∧ (q + 12, 60) ∈ gw_rows := by decide +kernel
theorem mill_a12 : ∀ q ∈ gw_mills, gw_rh q 12 = some (q + 14) ∧ (q + 14, 60) ∈ gw_rows := by decide +kernel
theorem mill_a13 : ∀ q ∈ gw_mills, gw_rh q 13 = some (q + 16) ∧ (q + 16, 60) ∈ gw_rows := by decide +kernel
theorem mill_a14 : ∀ q ∈ gw_mills, gw_rh q 14 = some (q + 18) ∧ (q + 18, 60) ∈ gw_rows := by decide +kernel
theorem mill_a15 : ∀ q ∈ gw_mills, gw_rh q 15 = some (q + 20) ∧ (q + 20, 480) ∈ gw_rows := by decide +kernel
theorem run_all : ∀ q ∈ gw_runs, (q.1 < gw_N0 ∧ gw_sh q.1 = (5, 15)) ∧ (gw_rh q.1 0 = some q.2 ∧ q.2 ∈ gw_mills) := by decide +kernel
theorem run_a3 : ∀ q ∈ gw_runs, gw_rh q.1 3 = some (q.1 + 1) ∧ (q.1 + 1, 60) ∈ gw_rows := by decide +kernel
theorem run_a4 : ∀ q ∈ gw_runs, gw_rh q.1 4 = some (q.1 + 3) ∧ (q.1 + 3, 60) ∈ gw_rows := by decide +kernel
theorem run_a5 : ∀ q ∈ gw_runs, gw_rh q.1 5 = some (q.1 + 5) ∧ (q.1 + 5, 60) ∈ gw_rows := by decide +kernel
theorem run_a6 : ∀ q ∈ gw_runs, gw_rh q.1 6 = some (q.1 + 7) ∧ (q.1 + 7, 60) ∈ gw_rows := by decide +kernel
theorem run_a7 : ∀ q ∈ gw_runs, gw_rh q.1 7 = some (q.1 + 9) ∧ (q.1 + 9, 60) ∈ gw_rows := by decide +kernel
theorem run_a8 : ∀ q ∈ gw_runs, gw_rh q.1 8 = some (q.1 + 11) ∧ (q.1 + 11, 60) ∈ gw_rows := by decide +kernel
theorem run_a9 : ∀ q ∈ gw_runs, gw_rh q.1 9 = some (q.1 + 13) ∧ (q.1 + 13, 60) ∈ gw_rows := by decide +kernel
theorem run_a10 : ∀ q ∈ gw_runs, gw_rh q.1 10 = some (q.1 + 15) ∧ (q.1 + 15, 60) ∈ gw_rows := by decide +kernel
theorem run_a11 : ∀ q ∈ gw_runs, gw_rh q.1 11 = some (q.1 + 17) ∧ (q.1 + 17, 60) ∈ gw_rows := by decide +kernel
theorem run_a12 : ∀ q ∈ gw_runs, gw_rh q.1 12 = some (q.1 + 19) ∧ (q.1 + 19, 3) ∈ gw_rows := by decide +kernel
theorem run_a13 : ∀ q ∈ gw_runs, gw_rh q.1 13 = some (q.1 + 21) ∧ (q.1 + 21, 3) ∈ gw_rows := by decide +kernel
theorem run_a14 : ∀ q ∈ gw_runs, gw_rh q.1 14 = some (q.1 + 23) ∧ (q.1 + 23, 8) ∈ gw_rows := by decide +kernel
theorem row_O {ad : Nat → Nat} {o n : Nat} (h : (o, n) ∈ gw_rows) : isO (gw_M0 ad) o 4 1 := (row_all _ h).1
theorem row_f {o n : Nat} (h : (o, n) ∈ gw_rows) : gw_rh o 0 = some (o + 1) := (row_all _ h).2.1
theorem row_c {ad : Nat → Nat} {o n : Nat} (h : (o, n) ∈ gw_rows) : isO (gw_M0 ad) (o + 1) 21 n := (row_all _ h).2.2.1
theorem row_n {o n : Nat} (h : (o, n) ∈ gw_rows) : n ≤ 480 := (row_all _ h).2.2.2
theorem law_O {ad : Nat → Nat} {o : Nat} (h : o ∈ gw_laws) : isO (gw_M0 ad) o 0 3 := (law_all _ h).1
theorem law_f {o : Nat} (h : o ∈ gw_laws) : gw_rh o 0 = some (o + 1) := (law_all _ h).2.1
theorem law_h {o : Nat} (h : o ∈ gw_laws) : (o + 1, 8) ∈ gw_rows := (law_all _ h).2.2
theorem tray_O {ad : Nat → Nat} {o : Nat} (h : o ∈ gw_trays) : isO (gw_M0 ad) o 9 3 := (tray_all _ h).1
theorem tray_f {o : Nat} (h : o ∈ gw_trays) : gw_rh o 0 = some (o + 1) := (tray_all _ h).2.1
theorem tray_c {ad : Nat → Nat} {o : Nat} (h : o ∈ gw_trays) : isO (gw_M0 ad) (o + 1) 22 60 := (tray_all _ h).2.2
theorem mill_O {ad : Nat → Nat} {o : Nat} (h : o ∈ gw_mills) : isO (gw_M0 ad) o 1 16 := (mill_all _ h).1
theorem run_O {ad : Nat → Nat} {o m : Nat} (h : (o, m) ∈ gw_runs) : isO (gw_M0 ad) o 5 15 := (run_all _ h).1
theorem mill_f0 {o : Nat} (h : o ∈ gw_mills) : gw_rh o 0 = some (o + 1) := (mill_all _ h).2.1
theorem mill_h0 {o : Nat} (h : o ∈ gw_mills) : o + 1 ∈ gw_laws := (mill_all _ h).2.2
theorem mill_f7 {o : Nat} (h : o ∈ gw_mills) : gw_rh o 7 = some (o + 4) := (mill_a7 _ h).1
theorem mill_h7 {o : Nat} (h : o ∈ gw_mills) : (o + 4, 3) ∈ gw_rows := (mill_a7 _ h).2
theorem mill_f8 {o : Nat} (h : o ∈ gw_mills) : gw_rh o 8 = some (o + 6) := (mill_a8 _ h).1
theorem mill_h8 {o : Nat} (h : o ∈ gw_mills) : (o + 6, 60) ∈ gw_rows := (mill_a8 _ h).2
theorem mill_f9 {o : Nat} (h : o ∈ gw_mills) : gw_rh o 9 = some (o + 8) := (mill_a9 _ h).1
theorem mill_h9 {o : Nat} (h : o ∈ gw_mills) : (o + 8, 60) ∈ gw_rows := (mill_a9 _ h).2
theorem mill_f10 {o : Nat} (h : o ∈ gw_mills) : gw_rh o 10 = some (o + 10) := (mill_a10 _ h).1
theorem mill_h10 {o : Nat} (h : o ∈ gw_mills) : (o + 10, 60) ∈ gw_rows := (mill_a10 _ h).2
theorem mill_f11 {o : Nat} (h : o ∈ gw_mills) : gw_rh o 11 = some (o + 12) := (mill_a11 _ h).1
theorem mill_h11 {o : Nat} (h : o ∈ gw_mills) : (o + 12, 60) ∈ gw_rows := (mill_a11 _ h).2
theorem mill_f12 {o : Nat} (h : o ∈ gw_mills) : gw_rh o 12 = some (o + 14) := (mill_a12 _ h).1
theorem mill_h12 {o : Nat} (h : o ∈ gw_mills) : (o + 14, 60) ∈ gw_rows := (mill_a12 _ h).2
theorem mill_f13 {o : Nat} (h : o ∈ gw_mills) : gw_rh o 13 = some (o + 16) := (mill_a13 _ h).1
theorem mill_h13 {o : Nat} (h : o ∈ gw_mills) : (o + 16, 60) ∈ gw_rows := (mill_a13 _ h).2
theorem mill_f14 {o : Nat} (h : o ∈ gw_mills) : gw_rh o 14 = some (o + 18) := (mill_a14 _ h).1
theorem mill_h14 {o : Nat} (h : o ∈ gw_mills) : (o + 18, 60) ∈ gw_rows := (mill_a14 _ h).2
theorem mill_f15 {o : Nat} (h : o ∈ gw_mills) : gw_rh o 15 = some (o + 20) := (mill_a15 _ h).1
theorem mill_h15 {o : Nat} (h : o ∈ gw_mills) : (o + 20, 480) ∈ gw_rows := (mill_a15 _ h).2
theorem run_f0 {o m : Nat} (h : (o, m) ∈ gw_runs) : gw_rh o 0 = some m := (run_all _ h).2.1
theorem run_h0 {o m : Nat} (h : (o, m) ∈ gw_runs) : m ∈ gw_mills := (run_all _ h).2.2
theorem run_f3 {o m : Nat} (h : (o, m) ∈ gw_runs) : gw_rh o 3 = some (o + 1) := (run_a3 _ h).1
theorem run_h3 {o m : Nat} (h : (o, m) ∈ gw_runs) : (o + 1, 60) ∈ gw_rows := (run_a3 _ h).2
theorem run_f4 {o m : Nat} (h : (o, m) ∈ gw_runs) : gw_rh o 4 = some (o + 3) := (run_a4 _ h).1
theorem run_h4 {o m : Nat} (h : (o, m) ∈ gw_runs) : (o + 3, 60) ∈ gw_rows := (run_a4 _ h).2
theorem run_f5 {o m : Nat} (h : (o, m) ∈ gw_runs) : gw_rh o 5 = some (o + 5) := (run_a5 _ h).1
theorem run_h5 {o m : Nat} (h : (o, m) ∈ gw_runs) : (o + 5, 60) ∈ gw_rows := (run_a5 _ h).2
theorem run_f6 {o m : Nat} (h : (o, m) ∈ gw_runs) : gw_rh o 6 = some (o + 7) := (run_a6 _ h).1
theorem run_h6 {o m : Nat} (h : (o, m) ∈ gw_runs) : (o + 7, 60) ∈ gw_rows := (run_a6 _ h).2
theorem run_f7 {o m : Nat} (h : (o, m) ∈ gw_runs) : gw_rh o 7 = some (o + 9) := (run_a7 _ h).1
theorem run_h7 {o m : Nat} (h : (o, m) ∈ gw_runs) : (o + 9, 60) ∈ gw_rows := (run_a7 _ h).2
theorem run_f8 {o m : Nat} (h : (o, m) ∈ gw_runs) : gw_rh o 8 = some (o + 11) := (run_a8 _ h).1
theorem run_h8 {o m : Nat} (h : (o, m) ∈ gw_runs) : (o + 11, 60) ∈ gw_rows := (run_a8 _ h).2
theorem run_f9 {o m : Nat} (h : (o, m) ∈ gw_runs) : gw_rh o 9 = some (o + 13) := (run_a9 _ h).1
theorem run_h9 {o m : Nat} (h : (o, m) ∈ gw_runs) : (o + 13, 60) ∈ gw_rows := (run_a9 _ h).2
theorem run_f10 {o m : Nat} (h : (o, m) ∈ gw_runs) : gw_rh o 10 = some (o + 15) := (run_a10 _ h).1
theorem run_h10 {o m : Nat} (h : (o, m) ∈ gw_runs) : (o + 15, 60) ∈ gw_rows := (run_a10 _ h).2
theorem run_f11 {o m : Nat} (h : (o, m) ∈ gw_runs) : gw_rh o 11 = some (o + 17) := (run_a11 _ h).1
theorem run_h11 {o m : Nat} (h : (o, m) ∈ gw_runs) : (o + 17, 60) ∈ gw_rows := (run_a11 _ h).2
theorem run_f12 {o m : Nat} (h : (o, m) ∈ gw_runs) : gw_rh o 12 = some (o + 19) := (run_a12 _ h).1
theorem run_h12 {o m : Nat} (h : (o, m) ∈ gw_runs) : (o + 19, 3) ∈ gw_rows := (run_a12 _ h).2
theorem run_f13 {o m : Nat} (h : (o, m) ∈ gw_runs) : gw_rh o 13 = some (o + 21) := (run_a13 _ h).1
theorem run_h13 {o m : Nat} (h : (o, m) ∈ gw_runs) : (o + 21, 3) ∈ gw_rows := (run_a13 _ h).2
theorem run_f14 {o m : Nat} (h : (o, m) ∈ gw_runs) : gw_rh o 14 = some (o + 23) := (run_a14 _ h).1
theorem run_h14 {o m : Nat} (h : (o, m) ∈ gw_runs) : (o + 23, 8) ∈ gw_rows := (run_a14 _ h).2
section GW
variable {X : Cx} {F : Fr} {G : Gl} {Z : State → Prop} {kc ks : Nat} {M : Mem} {σ : Sg} {pc pc' : Nat} {ls : List (Option AV)} {st : List AV}
theorem g_iadd1 {x y : Int} (fx : gw_FX X F G) (d : gw_dc F.2.1 pc .iadd 1 pc') (h : okI (x + y)) (k : gw_W X F G Z kc ks M σ pc' ls (vI (x + y) :: st)) : gw_W X F G Z kc ks M σ pc ls (vI y :: vI x :: st) := g_iadd fx d (by rw [wr_id h]; exact k)
theorem g_isub1 {x y : Int} (fx : gw_FX X F G) (d : gw_dc F.2.1 pc .isub 1 pc') (h : okI (x - y)) (k : gw_W X F G Z kc ks M σ pc' ls (vI (x - y) :: st)) : gw_W X F G Z kc ks M σ pc ls (vI y :: vI x :: st) := g_isub fx d (by rw [wr_id h]; exact k)
theorem g_imul1 {x y : Int} (fx : gw_FX X F G) (d : gw_dc F.2.1 pc .imul 1 pc') (h : okI (x * y)) (k : gw_W X F G Z kc ks M σ pc' ls (vI (x * y) :: st)) : gw_W X F G Z kc ks M σ pc ls (vI y :: vI x :: st) := g_imul fx d (by rw [wr_id h]; exact k)
theorem g_ineg1 {x : Int} (fx : gw_FX X F G) (d : gw_dc F.2.1 pc .ineg 1 pc') (h : okI (-x)) (k : gw_W X F G Z kc ks M σ pc' ls (vI (-x) :: st)) : gw_W X F G Z kc ks M σ pc ls (vI x :: st) := g_ineg fx d (by rw [wr_id h]; exact k)
theorem g_iinc1 {i : Nat} {n z : Int} {ls' : List (Option AV)} (fx : gw_FX X F G) (d : gw_dc F.2.1 pc (.iinc i n) 3 pc') (hi : i < F.2.2.1) (hz : ls[i]? = some (some (vI z))) (hs : gw_st ls i = true) (h : okI (z + n)) (hl : ls.set i (some (vI (z + n))) = ls') (k : gw_W X F G Z kc ks M σ pc' ls' st) : gw_W X F G Z kc ks M σ pc ls st := g_iinc fx d hi hz hs (by rw [wr_id h]; exact hl) k
theorem g_ldcS {idx j : Nat} {tx : String} (fx : gw_FX X F G) (d : gw_dc F.2.1 pc (.ldc idx) 2 pc') (hstr : (F.1, idx, tx, j) ∈ gw_strT) (k : gw_W X F G Z kc ks M σ pc' ls (vX j :: st)) : gw_W X F G Z kc ks M σ pc ls st := by
  obtain ⟨hd, rfl⟩ := d
  intro H locs lc hR hS hL ho
  exact va_ldcS fx.exec fx.code fx.own (fx.ex.1 _ hstr) hd (k H locs lc hR hS hL (gw_cons (v := vX j) trivial ho))
theorem g_callVD {idx n d' nL o ci N : Nat} {y : MethodName} {cc : ByteArray} {rt : Option FieldType} {as st0 : List AV} {v : AV} {σ' : Sg} {T : u_T} (fx : gw_FX X F G) (d : gw_dc F.2.1 pc (.invokevirtual idx) 3 pc') (hl : gw_mv F.1 idx y) (hm : gw_my y cc nL rt n)
    (hs : gw_Sp y cc nL rt d' 0 0 (vR (some o) :: as) M σ (gw_D (some v) M σ') gw_no) (hO : isO M o ci N) (hc : vwCl[ci]? = some (y.cls, T, N)) (hst : st0 = as.reverse ++ vR (some o) :: st) (hn : as.length = n) (hw : gw_wt st ≤ 8) (hd : d' + 1 ≤ F.2.2.2.2.1)
    (hk : kc ≤ F.2.2.2.2.2.1 ∧ ks ≤ F.2.2.2.2.2.2) (kk : gw_W X F G Z kc ks M σ' pc' ls (v :: st)) : gw_W X F G Z kc ks M σ pc ls st0 :=
  g_callV fx d hl hm hs hO hc hst hn hw hd hk (fun _ h => h.elim) (fun _ _ _ h _ => by obtain ⟨rfl, rfl, rfl⟩ := h; exact kk)
theorem g_callVD0 {idx n d' nL o ci N : Nat} {y : MethodName} {cc : ByteArray} {rt : Option FieldType} {as st0 : List AV} {σ' : Sg} {T : u_T} (fx : gw_FX X F G) (d : gw_dc F.2.1 pc (.invokevirtual idx) 3 pc') (hl : gw_mv F.1 idx y) (hm : gw_my y cc nL rt n)
    (hs : gw_Sp y cc nL rt d' 0 0 (vR (some o) :: as) M σ (gw_D none M σ') gw_no) (hO : isO M o ci N) (hc : vwCl[ci]? = some (y.cls, T, N)) (hst : st0 = as.reverse ++ vR (some o) :: st) (hn : as.length = n) (hw : gw_wt st ≤ 8) (hd : d' + 1 ≤ F.2.2.2.2.1)
    (hk : kc ≤ F.2.2.2.2.2.1 ∧ ks ≤ F.2.2.2.2.2.2) (kk : gw_W X F G Z kc ks M σ' pc' ls st) : gw_W X F G Z kc ks M σ pc ls st0 :=
  g_callV fx d hl hm hs hO hc hst hn hw hd hk (fun _ h => h.elim) (fun _ _ _ h _ => by obtain ⟨rfl, rfl, rfl⟩ := h; exact kk)
theorem g_callSD {idx n d' nL : Nat} {y : MethodName} {cc : ByteArray} {rt : Option FieldType} {as st0 : List AV} {v : AV} {σ' : Sg} (fx : gw_FX X F G) (d : gw_dc F.2.1 pc (.invokestatic idx) 3 pc') (hl : gw_mst F.1 idx y) (hm : gw_my y cc nL rt n)
    (hs : gw_Sp y cc nL rt d' 0 0 as M σ (gw_D (some v) M σ') gw_no) (hst : st0 = as.reverse ++ st) (hn : as.length = n) (hw : gw_wt st ≤ 8) (hd : d' + 1 ≤ F.2.2.2.2.1)
    (hk : kc ≤ F.2.2.2.2.2.1 ∧ ks ≤ F.2.2.2.2.2.2) (kk : gw_W X F G Z kc ks M σ' pc' ls (v :: st)) : gw_W X F G Z kc ks M σ pc ls st0 :=
  g_callS fx d hl hm hs hst hn hw hd hk (fun _ h => h.elim) (fun _ _ _ h _ => by obtain ⟨rfl, rfl, rfl⟩ := h; exact kk)
theorem g_callSD0 {idx n d' nL : Nat} {y : MethodName} {cc : ByteArray} {rt : Option FieldType} {as st0 : List AV} {σ' : Sg} (fx : gw_FX X F G) (d : gw_dc F.2.1 pc (.invokestatic idx) 3 pc') (hl : gw_mst F.1 idx y) (hm : gw_my y cc nL rt n)
    (hs : gw_Sp y cc nL rt d' 0 0 as M σ (gw_D none M σ') gw_no) (hst : st0 = as.reverse ++ st) (hn : as.length = n) (hw : gw_wt st ≤ 8) (hd : d' + 1 ≤ F.2.2.2.2.1)
    (hk : kc ≤ F.2.2.2.2.2.1 ∧ ks ≤ F.2.2.2.2.2.2) (kk : gw_W X F G Z kc ks M σ' pc' ls st) : gw_W X F G Z kc ks M σ pc ls st0 :=
  g_callS fx d hl hm hs hst hn hw hd hk (fun _ h => h.elim) (fun _ _ _ h _ => by obtain ⟨rfl, rfl, rfl⟩ := h; exact kk)
end GW
