/-! THE LAYER: a world of numbers and references by ids, and a judgement 'gw_W' over it: the frame at pc with locals and stack of plain values comes to Z -/
/-- the cells in the order of their making: kind (0 to 11 the classes of vwCl; 20 byte[], 21 int[], 22 long[], 23 boolean[], 24 Mill[], 25 Tray[]) and length -/
def gw_shL : List (Nat × Nat) := [(10, 14), (7, 2), (20, 900), (3, 8), (1, 16), (0, 3), (4, 1), (21, 8), (4, 1), (21, 3), (4, 1), (21, 60), (4, 1), (21, 60), (4, 1), (21, 60), (4, 1), (21, 60), (4, 1), (21, 60), (4, 1), (21, 60), (4, 1), (21, 60), (4, 1), (21, 480), (5, 15), (4, 1), (21, 60), (4, 1), (21, 60), (4, 1), (21, 60), (4, 1), (21, 60), (4, 1), (21, 60), (4, 1), (21, 60), (4, 1), (21, 60), (4, 1), (21, 60), (4, 1), (21, 60), (4, 1), (21, 3), (4, 1), (21, 3), (4, 1), (21, 8), (1, 16), (0, 3), (4, 1), (21, 8), (4, 1), (21, 3), (4, 1), (21, 60), (4, 1), (21, 60), (4, 1), (21, 60), (4, 1), (21, 60), (4, 1), (21, 60), (4, 1), (21, 60), (4, 1), (21, 60), (4, 1), (21, 480), (8, 2), (1, 16), (0, 3), (4, 1), (21, 8), (4, 1), (21, 3), (4, 1), (21, 60), (4, 1), (21, 60), (4, 1), (21, 60), (4, 1), (21, 60), (4, 1), (21, 60), (4, 1), (21, 60), (4, 1), (21, 60), (4, 1), (21, 480), (5, 15), (4, 1), (21, 60), (4, 1), (21, 60), (4, 1), (21, 60), (4, 1), (21, 60), (4, 1), (21, 60), (4, 1), (21, 60), (4, 1), (21, 60), (4, 1), (21, 60), (4, 1), (21, 60), (4, 1), (21, 3), (4, 1), (21, 3), (4, 1), (21, 8), (2, 8), (4, 1), (21, 8), (4, 1), (21, 8), (4, 1), (21, 9), (6, 10), (4, 1), (21, 8), (4, 1), (21, 8), (4, 1), (21, 8), (4, 1), (21, 9), (4, 1), (21, 9), (4, 1), (21, 9), (4, 1), (21, 8), (4, 1), (21, 60), (4, 1), (21, 60), (25, 4), (24, 3), (9, 3), (22, 60), (9, 3), (22, 60), (9, 3), (22, 60), (9, 3), (22, 60), (1, 16), (0, 3), (4, 1), (21, 8), (4, 1), (21, 3), (4, 1), (21, 60), (4, 1), (21, 60), (4, 1), (21, 60), (4, 1), (21, 60), (4, 1), (21, 60), (4, 1), (21, 60), (4, 1), (21, 60), (4, 1), (21, 480), (1, 16), (0, 3), (4, 1), (21, 8), (4, 1), (21, 3), (4, 1), (21, 60), (4, 1), (21, 60), (4, 1), (21, 60), (4, 1), (21, 60), (4, 1), (21, 60), (4, 1), (21, 60), (4, 1), (21, 60), (4, 1), (21, 480), (1, 16), (0, 3), (4, 1), (21, 8), (4, 1), (21, 3), (4, 1), (21, 60), (4, 1), (21, 60), (4, 1), (21, 60), (4, 1), (21, 60), (4, 1), (21, 60), (4, 1), (21, 60), (4, 1), (21, 60), (4, 1), (21, 480), (11, 42), (21, 672), (21, 672), (21, 672), (21, 2016), (23, 3), (21, 900), (21, 8), (21, 60), (21, 60), (21, 60), (21, 60), (21, 60), (21, 3), (21, 3), (21, 8), (21, 60), (21, 60), (21, 60), (21, 8), (21, 8), (21, 672), (21, 4), (21, 4), (22, 240), (22, 1)]
def gw_rhL : List (List (Option Nat)) := [
  [some 1, some 3, some 4, some 26, some 51, some 73, some 74, some 96, some 121, some 128, some 143, some 145, some 147, some 148],
  [some 2],
  [],
  [some 1],
  [some 5, none, none, none, none, none, none, some 8, some 10, some 12, some 14, some 16, some 18, some 20, some 22, some 24],
  [some 6],
  [some 7],
  [],
  [some 9],
  [],
  [some 11],
  [],
  [some 13],
  [],
  [some 15],
  [],
  [some 17],
  [],
  [some 19],
  [],
  [some 21],
  [],
  [some 23],
  [],
  [some 25],
  [],
  [some 4, none, none, some 27, some 29, some 31, some 33, some 35, some 37, some 39, some 41, some 43, some 45, some 47, some 49],
  [some 28],
  [],
  [some 30],
  [],
  [some 32],
  [],
  [some 34],
  [],
  [some 36],
  [],
  [some 38],
  [],
  [some 40],
  [],
  [some 42],
  [],
  [some 44],
  [],
  [some 46],
  [],
  [some 48],
  [],
  [some 50],
  [],
  [some 52, none, none, none, none, none, none, some 55, some 57, some 59, some 61, some 63, some 65, some 67, some 69, some 71],
  [some 53],
  [some 54],
  [],
  [some 56],
  [],
  [some 58],
  [],
  [some 60],
  [],
  [some 62],
  [],
  [some 64],
  [],
  [some 66],
  [],
  [some 68],
  [],
  [some 70],
  [],
  [some 72],
  [],
  [some 3, some 51],
  [some 75, none, none, none, none, none, none, some 78, some 80, some 82, some 84, some 86, some 88, some 90, some 92, some 94],
  [some 76],
  [some 77],
  [],
  [some 79],
  [],
  [some 81],
  [],
  [some 83],
  [],
  [some 85],
  [],
  [some 87],
  [],
  [some 89],
  [],
  [some 91],
  [],
  [some 93],
  [],
  [some 95],
  [],
  [some 74, none, none, some 97, some 99, some 101, some 103, some 105, some 107, some 109, some 111, some 113, some 115, some 117, some 119],
  [some 98],
  [],
  [some 100],
  [],
  [some 102],
  [],
  [some 104],
  [],
  [some 106],
  [],
  [some 108],
  [],
  [some 110],
  [],
  [some 112],
  [],
  [some 114],
  [],
  [some 116],
  [],
  [some 118],
  [],
  [some 120],
  [],
  [some 74, some 96, some 122, some 124, some 126],
  [some 123],
  [],
  [some 125],
  [],
  [some 127],
  [],
  [some 4, some 26, some 129, some 131, some 133, some 135, some 137, some 139, some 141],
  [some 130],
  [],
  [some 132],
  [],
  [some 134],
  [],
  [some 136],
  [],
  [some 138],
  [],
  [some 140],
  [],
  [some 142],
  [],
  [some 144],
  [],
  [some 146],
  [],
  [some 149, some 151, some 153, some 155],
  [some 157, some 179, some 201],
  [some 150],
  [],
  [some 152],
  [],
  [some 154],
  [],
  [some 156],
  [],
  [some 158, none, none, none, none, none, none, some 161, some 163, some 165, some 167, some 169, some 171, some 173, some 175, some 177],
  [some 159],
  [some 160],
  [],
  [some 162],
  [],
  [some 164],
  [],
  [some 166],
  [],
  [some 168],
  [],
  [some 170],
  [],
  [some 172],
  [],
  [some 174],
  [],
  [some 176],
  [],
  [some 178],
  [],
  [some 180, none, none, none, none, none, none, some 183, some 185, some 187, some 189, some 191, some 193, some 195, some 197, some 199],
  [some 181],
  [some 182],
  [],
  [some 184],
  [],
  [some 186],
  [],
  [some 188],
  [],
  [some 190],
  [],
  [some 192],
  [],
  [some 194],
  [],
  [some 196],
  [],
  [some 198],
  [],
  [some 200],
  [],
  [some 202, none, none, none, none, none, none, some 205, some 207, some 209, some 211, some 213, some 215, some 217, some 219, some 221],
  [some 203],
  [some 204],
  [],
  [some 206],
  [],
  [some 208],
  [],
  [some 210],
  [],
  [some 212],
  [],
  [some 214],
  [],
  [some 216],
  [],
  [some 218],
  [],
  [some 220],
  [],
  [some 222],
  [],
  [some 224, some 225, some 226, some 227, some 228, none, some 229, none, none, none, none, none, none, none, none, none, none, some 230, some 231, some 232, some 233, some 234, some 235, some 236, some 237, some 238, some 239, none, none, some 240, some 241, none, some 242, some 243, none, none, some 244, none, none, some 245, some 246, some 247],
  [],
  [],
  [],
  [],
  [],
  [],
  [],
  [],
  [],
  [],
  [],
  [],
  [],
  [],
  [],
  [],
  [],
  [],
  [],
  [],
  [],
  [],
  [],
  [],
  []]
def gw_ftL : List (List Nat) := [[1, 0, 0], [1, 0, 0, 0, 0, 0, 2, 1, 1, 1, 1, 1, 1, 1, 1, 1], [1, 1, 1, 1, 1, 0, 0, 0], [1, 0, 0, 0, 0, 0, 0, 0], [1], [1, 0, 0, 1, 1, 1, 1, 1, 1, 1, 1, 1, 1, 1, 1], [1, 1, 1, 1, 1, 1, 1, 1, 1, 0], [1, 0], [1, 1], [1, 0, 0], [1, 1, 1, 1, 1, 1, 1, 1, 1, 1, 1, 1, 1, 1], [1, 1, 1, 1, 1, 0, 1, 0, 0, 0, 0, 0, 0, 0, 0, 0, 0, 1, 1, 1, 1, 1, 1, 1, 1, 1, 1, 0, 0, 1, 1, 0, 1, 1, 0, 0, 1, 0, 0, 1, 1, 1]]
def gw_N0 : Nat := 249
def gw_sh (id : Nat) : Nat × Nat := gw_shL.getD id (99, 0)
def gw_rh (id k : Nat) : Option Nat := (gw_rhL.getD id []).getD k none
def gw_ft (ci k : Nat) : Nat := (gw_ftL.getD ci []).getD k 0
abbrev Sg : Type := Nat → Nat → Int
abbrev Rf : Type := Nat → Nat → Option Nat
abbrev AV : Type := Int ⊕ (Int ⊕ (Option Nat ⊕ Nat))
abbrev vI (z : Int) : AV := .inl z
abbrev vJ (z : Int) : AV := .inr (.inl z)
abbrev vR (r : Option Nat) : AV := .inr (.inr (.inl r))
abbrev vX (k : Nat) : AV := .inr (.inr (.inr k))
/-- how many cells are made, where they lie, what refers to what -/
abbrev Mem : Type := Nat × (Nat → Nat) × Rf
/-- class ids and slots, the arrays' class ids, the Strings' addresses, the law's first free address -/
abbrev Gl : Type := va_G × (Nat → ClassId) × (Nat → Nat) × Nat
abbrev gD (G : Gl) : va_G := G.1
abbrev gca (G : Gl) : Nat → ClassId := G.2.1
abbrev gex (G : Gl) : Nat → Nat := G.2.2.1
abbrev gb (G : Gl) : Nat := G.2.2.2
def gA (G : Gl) : Nat → Prop := fun q => gb G ≤ q
def wr (z : Int) : Int := (Int32.ofInt z).toInt
def wl (z : Int) : Int := (Int64.ofInt z).toInt
def okI (z : Int) : Prop := -2147483648 ≤ z ∧ z ≤ 2147483647
def okJ (z : Int) : Prop := -9223372036854775808 ≤ z ∧ z ≤ 9223372036854775807
theorem wr_ok (z : Int) : okI (wr z) := by
  have h1 := Int32.le_toInt (Int32.ofInt z)
  have h2 := Int32.toInt_lt (Int32.ofInt z)
  unfold okI wr; omega
theorem wl_ok (z : Int) : okJ (wl z) := by
  have h1 := Int64.le_toInt (Int64.ofInt z)
  have h2 := Int64.toInt_lt (Int64.ofInt z)
  unfold okJ wl; omega
theorem wr_bmod (z : Int) : wr z = z.bmod (2 ^ 32) := by unfold wr; rw [Int32.toInt_ofInt]
theorem wl_bmod (z : Int) : wl z = z.bmod (2 ^ 64) := by unfold wl; rw [Int64.toInt_ofInt]
theorem wr_id {z : Int} (h : okI z) : wr z = z := by
  unfold okI at h
  rw [wr_bmod, Int.bmod_eq_of_le (by omega) (by omega)]
theorem wl_id {z : Int} (h : okJ z) : wl z = z := by
  unfold okJ at h
  rw [wl_bmod, Int.bmod_eq_of_le (by omega) (by omega)]
theorem wr_of (z : Int) : Int32.ofInt (wr z) = Int32.ofInt z := by unfold wr; exact Int32.ofInt_toInt _
theorem wl_of (z : Int) : Int64.ofInt (wl z) = Int64.ofInt z := by unfold wl; exact Int64.ofInt_toInt _
theorem toI_of {z : Int} (h : okI z) : (Int32.ofInt z).toInt = z := wr_id h
theorem toJ_of {z : Int} (h : okJ z) : (Int64.ofInt z).toInt = z := wl_id h
theorem i_le {x y : Int} (hx : okI x) (hy : okI y) : Int32.ofInt x ≤ Int32.ofInt y ↔ x ≤ y := by rw [Int32.le_iff_toInt_le, toI_of hx, toI_of hy]
theorem i_lt {x y : Int} (hx : okI x) (hy : okI y) : Int32.ofInt x < Int32.ofInt y ↔ x < y := by rw [Int32.lt_iff_toInt_lt, toI_of hx, toI_of hy]
theorem i_eq {x y : Int} (hx : okI x) (hy : okI y) : Int32.ofInt x = Int32.ofInt y ↔ x = y := by rw [← Int32.toInt_inj, toI_of hx, toI_of hy]
theorem j_lt {x y : Int} (hx : okJ x) (hy : okJ y) : Int64.ofInt x < Int64.ofInt y ↔ x < y := by rw [Int64.lt_iff_toInt_lt, toJ_of hx, toJ_of hy]
theorem j_eq {x y : Int} (hx : okJ x) (hy : okJ y) : Int64.ofInt x = Int64.ofInt y ↔ x = y := by rw [← Int64.toInt_inj, toJ_of hx, toJ_of hy]
theorem i_0 : (0 : Int32) = Int32.ofInt 0 := by decide
theorem ok_0 : okI 0 := by unfold okI; omega
theorem i_in {i : Int} {n : Nat} (h0 : 0 ≤ i) (h1 : i < n) (hi : okI i) : vp_in (Int32.ofInt i) n ∧ (Int32.ofInt i).toNatClampNeg = i.toNat := by
  refine ⟨vp_in_iff.mpr ?_, ?_⟩
  · rw [toI_of hi]; exact ⟨h0, h1⟩
  · rw [Int32.toNatClampNeg, toI_of hi]
def gw_rg (k : Nat) (z : Int) : Prop := if k = 22 then okJ z else if k = 20 then -128 ≤ z ∧ z ≤ 127 else okI z
def gw_okS (n : Nat) (σ : Sg) : Prop := ∀ id, id < n → ∀ j, gw_rg (gw_sh id).1 (σ id j)
def gw_okR (M : Mem) : Prop := ∀ id, id < M.1 → ∀ k i, M.2.2 id k = some i → i < M.1
def gw_ok (n : Nat) : AV → Prop
  | .inl z => okI z
  | .inr (.inl z) => okJ z
  | .inr (.inr (.inl r)) => ∀ i, r = some i → i < n
  | .inr (.inr (.inr _)) => True
def gw_cv (G : Gl) (M : Mem) : AV → Value
  | .inl z => .int (Int32.ofInt z)
  | .inr (.inl z) => .long (Int64.ofInt z)
  | .inr (.inr (.inl r)) => va_rf (r.map M.2.1)
  | .inr (.inr (.inr k)) => .ref (gex G k)
def gw_fv (M : Mem) (σ : Sg) (ci id k : Nat) : Value := if gw_ft ci k = 1 then va_rf ((M.2.2 id k).map M.2.1) else .int (Int32.ofInt (σ id k))
def gw_rt (M : Mem) (id j : Nat) : Option Nat := (M.2.2 id j).map M.2.1
def gw_en (G : Gl) (M : Mem) (σ : Sg) (id : Nat) : va_E :=
  if (gw_sh id).1 = 21 then .inl (gca G 1, (gw_sh id).2, .inl (fun j => Int32.ofInt (σ id j)))
  else if (gw_sh id).1 = 20 then .inl (gca G 0, (gw_sh id).2, .inl (fun j => Int32.ofInt (σ id j)))
  else if (gw_sh id).1 = 22 then .inl (gca G 2, (gw_sh id).2, .inr (.inl (fun j => Int64.ofInt (σ id j))))
  else if (gw_sh id).1 = 23 then .inl (gca G 3, (gw_sh id).2, .inl (fun j => Int32.ofInt (σ id j)))
  else if (gw_sh id).1 = 24 then .inl (gca G 4, (gw_sh id).2, .inr (.inr (.inr (.inr (gw_rt M id)))))
  else if (gw_sh id).1 = 25 then .inl (gca G 5, (gw_sh id).2, .inr (.inr (.inr (.inr (gw_rt M id)))))
  else .inr ((gw_sh id).1, (List.range (gw_sh id).2).map (gw_fv M σ (gw_sh id).1 id))
def gw_wl (G : Gl) (M : Mem) (σ : Sg) : va_W := (List.range M.1).map (fun i => (M.2.1 i, gw_en G M σ i))
def gw_ty (G : Gl) : List (ClassId × FieldType) := [(gca G 0, .byte), (gca G 1, .int), (gca G 2, .long), (gca G 3, .boolean), (gca G 4, .object "LightestSack$Mill"), (gca G 5, .object "LightestSack$Tray")]
def su (σ : Sg) (o k : Nat) (v : Int) : Sg := fun i j => if i = o ∧ j = k then v else σ i j
def ru (ρ : Rf) (o k : Nat) (v : Option Nat) : Rf := fun i j => if i = o ∧ j = k then v else ρ i j
theorem su_same (σ : Sg) (o k : Nat) (v : Int) : su σ o k v o k = v := by simp [su]
theorem su_ne (σ : Sg) {o k i j : Nat} (v : Int) (h : i ≠ o ∨ j ≠ k) : su σ o k v i j = σ i j := by
  unfold su; rw [if_neg]; intro q; rcases h with h | h
  · exact h q.1
  · exact h q.2
theorem gw_get {G : Gl} {M : Mem} {σ : Sg} {o : Nat} (h : o < M.1) : (gw_wl G M σ)[o]? = some (M.2.1 o, gw_en G M σ o) := by simp [gw_wl, h]
theorem gw_set {G : Gl} {M : Mem} {σ σ' : Sg} {o : Nat} {e : va_E} (he : gw_en G M σ' o = e) (hne : ∀ i, i ≠ o → gw_en G M σ' i = gw_en G M σ i) : (gw_wl G M σ).set o (M.2.1 o, e) = gw_wl G M σ' := by
  apply List.ext_getElem?
  intro i
  simp only [gw_wl, List.getElem?_set, List.length_map, List.length_range, List.getElem?_map]
  by_cases hi : o = i
  · subst hi
    by_cases ho : o < M.1
    · simp [ho, he]
    · simp [ho]
  · rw [if_neg hi]
    by_cases hl : i < M.1
    · simp [hl, hne i (fun q => hi q.symm)]
    · simp [hl]
theorem gw_en_ne {G : Gl} {M : Mem} {σ σ' : Sg} {i : Nat} (h : ∀ j, σ' i j = σ i j) : gw_en G M σ' i = gw_en G M σ i := by
  have h1 : (fun j => Int32.ofInt (σ' i j)) = fun j => Int32.ofInt (σ i j) := funext fun j => by rw [h]
  have h2 : (fun j => Int64.ofInt (σ' i j)) = fun j => Int64.ofInt (σ i j) := funext fun j => by rw [h]
  have h3 : gw_fv M σ' (gw_sh i).1 i = gw_fv M σ (gw_sh i).1 i := funext fun k => by unfold gw_fv; rw [h]
  unfold gw_en
  rw [h1, h2, h3]
theorem gw_en_su {G : Gl} {M : Mem} {σ : Sg} {o k : Nat} {v : Int} (i : Nat) (h : i ≠ o) : gw_en G M (su σ o k v) i = gw_en G M σ i := gw_en_ne fun j => su_ne σ v (Or.inl h)
theorem gw_okS_su {n : Nat} {σ : Sg} {o k : Nat} {v : Int} (h : gw_okS n σ) (hv : gw_rg (gw_sh o).1 v) : gw_okS n (su σ o k v) := by
  intro id hid j
  by_cases q : id = o ∧ j = k
  · obtain ⟨rfl, rfl⟩ := q
    rw [su_same]; exact hv
  · rw [su_ne σ v (by by_cases a : id = o; exact Or.inr fun b => q ⟨a, b⟩; exact Or.inl a)]
    exact h id hid j
theorem gw_map_set {n k : Nat} {f g : Nat → Value} {v : Value} (hk : g k = v) (hne : ∀ j, j ≠ k → g j = f j) : ((List.range n).map f).set k v = (List.range n).map g := by
  apply List.ext_getElem?
  intro i
  simp only [List.getElem?_set, List.length_map, List.length_range, List.getElem?_map]
  by_cases hi : k = i
  · subst hi
    by_cases ho : k < n
    · simp [ho, hk]
    · simp [ho]
  · rw [if_neg hi]
    by_cases hl : i < n
    · simp [hl, hne i (fun q => hi q.symm)]
    · simp [hl]
/-- an object or array of a kind and length, made -/
def isO (M : Mem) (o ty n : Nat) : Prop := o < M.1 ∧ gw_sh o = (ty, n)
