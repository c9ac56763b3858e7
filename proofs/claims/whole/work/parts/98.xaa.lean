/-! MAKING, 1: rules of constructors; worlds of which a part is made -/
/-- references while the object o is being made (its places L are set), n cells being made; below o as ρ says -/
def rM (ρ : Rf) (o : Nat) (L : List Nat) (n : Nat) : Rf := fun i j => if i < o then ρ i j else if i = o then (if j ∈ L then gw_rh o j else none) else if i < n then gw_rh i j else none
/-- behind it -/
def rF (ρ : Rf) (o n : Nat) : Rf := fun i j => if i < o then ρ i j else if i < n then gw_rh i j else none
def adL (n : Nat) (ad : Nat → Nat) (n' : Nat) (ad' : Nat → Nat) : Prop := n ≤ n' ∧ ∀ i, i < n → ad' i = ad i
theorem adL.rf (n : Nat) (ad : Nat → Nat) : adL n ad n ad := ⟨Nat.le_refl _, fun _ _ => rfl⟩
theorem adL.trans {n n' n'' : Nat} {ad ad' ad'' : Nat → Nat} (h : adL n ad n' ad') (k : adL n' ad' n'' ad'') : adL n ad n'' ad'' := ⟨Nat.le_trans h.1 k.1, fun i hi => (k.2 i (Nat.lt_of_lt_of_le hi h.1)).trans (h.2 i hi)⟩
theorem adL.le {n n' : Nat} {ad ad' : Nat → Nat} (h : adL n ad n' ad') (ρ ρ' : Rf) : gw_le (n, ad, ρ) (n', ad', ρ') := h
theorem rM_put {ρ : Rf} {o k t n : Nat} {L : List Nat} (h : gw_rh o k = some t) : ru (rM ρ o L n) o k (some t) = rM ρ o (k :: L) n := by
  funext i j
  unfold ru rM
  by_cases q : i = o ∧ j = k
  · obtain ⟨rfl, rfl⟩ := q
    rw [if_pos ⟨rfl, rfl⟩, if_neg (Nat.lt_irrefl _), if_pos rfl, if_pos List.mem_cons_self, h]
  · rw [if_neg q]
    by_cases q2 : i < o
    · rw [if_pos q2, if_pos q2]
    · rw [if_neg q2, if_neg q2]
      by_cases q3 : i = o
      · rw [if_pos q3, if_pos q3]
        have : (j ∈ k :: L) ↔ j ∈ L := by
          rw [List.mem_cons]
          exact ⟨fun z => z.elim (fun e => absurd ⟨q3, e⟩ q) id, Or.inr⟩
        by_cases q4 : j ∈ L
        · rw [if_pos q4, if_pos (this.mpr q4)]
        · rw [if_neg q4, if_neg (fun z => q4 (this.mp z))]
      · rw [if_neg q3, if_neg q3]
theorem rM_arr {ρ : Rf} {o n : Nat} {L : List Nat} (h : ∀ j, gw_rh n j = none) : rM ρ o L n = rM ρ o L (n + 1) := by
  funext i j
  unfold rM
  by_cases q2 : i < o
  · rw [if_pos q2, if_pos q2]
  · rw [if_neg q2, if_neg q2]
    by_cases q3 : i = o
    · rw [if_pos q3, if_pos q3]
    · rw [if_neg q3, if_neg q3]
      by_cases q4 : i < n
      · rw [if_pos q4, if_pos (by omega)]
      · rw [if_neg q4]
        by_cases q5 : i = n
        · rw [if_pos (by omega), q5, h]
        · rw [if_neg (by omega)]
theorem rM_in {ρ : Rf} {o n : Nat} {L : List Nat} (ho : o < n) : rM ρ o L n = rM (rM ρ o L n) n [] (n + 1) := by
  funext i j
  show _ = if i < n then rM ρ o L n i j else if i = n then (if j ∈ [] then gw_rh n j else none) else if i < n + 1 then gw_rh i j else none
  by_cases q : i < n
  · rw [if_pos q]
  · rw [if_neg q]
    unfold rM
    rw [if_neg (by omega), if_neg (by omega), if_neg q]
    by_cases q2 : i = n
    · rw [if_pos q2, if_neg List.not_mem_nil]
    · rw [if_neg q2, if_neg (by omega)]
theorem rM_out {ρ : Rf} {o n K : Nat} {L : List Nat} (ho : o < n) : rF (rM ρ o L n) n (n + K) = rM ρ o L (n + K) := by
  funext i j
  unfold rF rM
  by_cases q : i < n
  · rw [if_pos q]
    by_cases q2 : i < o
    · rw [if_pos q2, if_pos q2]
    · rw [if_neg q2, if_neg q2]
      by_cases q3 : i = o
      · rw [if_pos q3, if_pos q3]
      · rw [if_neg q3, if_neg q3, if_pos q, if_pos (by omega)]
  · rw [if_neg q, if_neg (show ¬ i < o by omega), if_neg (show ¬ i = o by omega)]
theorem rh_big (id j : Nat) (hj : 42 ≤ j) : gw_rh id j = none := by
  have h : ∀ id, id < 249 → (gw_rhL.getD id []).length ≤ 42 := by decide +kernel
  have h2 : gw_rhL.length = 249 := by decide +kernel
  unfold gw_rh
  by_cases q : id < 249
  · have := h id q
    rw [List.getD_eq_getElem?_getD, List.getElem?_eq_none (by omega)]; rfl
  · rw [List.getD_eq_getElem?_getD (l := gw_rhL), List.getElem?_eq_none (by omega)]; rfl
theorem rM_all {ρ : Rf} {o n : Nat} {L : List Nat} (ho : o < n) (h : ∀ j, j < 42 → j ∉ L → gw_rh o j = none) : rM ρ o L n = rF ρ o n := by
  funext i j
  unfold rF rM
  by_cases q2 : i < o
  · rw [if_pos q2, if_pos q2]
  · rw [if_neg q2, if_neg q2]
    by_cases q3 : i = o
    · subst q3
      rw [if_pos rfl, if_pos ho]
      by_cases q4 : j ∈ L
      · rw [if_pos q4]
      · rw [if_neg q4]
        by_cases q5 : j < 42
        · exact (h j q5 q4).symm
        · exact (rh_big i j (by omega)).symm
    · rw [if_neg q3]
/-- what a constructor leaves: K cells from o on are made and refer as they must -/
def gw_Cn (o K : Nat) (ρ : Rf) (σ' : Sg) : Option AV → Mem → Sg → Prop := fun r M' s' => r = none ∧ (∃ ad', M' = (o + K, ad', rF ρ o (o + K))) ∧ s' = σ'
theorem gw_fv_app {n m : Nat} {ad ad' : Nat → Nat} {ρ : Rf} {σ : Sg} (hle : ∀ i, i < n → ad' i = ad i) (hok : gw_okR (n, ad, ρ)) {i : Nat} (hi : i < n) (c : Nat) : gw_fv (m, ad', ρ) σ c i = gw_fv (n, ad, ρ) σ c i := by
  funext k
  unfold gw_fv
  show (if gw_ft c k = 1 then va_rf ((ρ i k).map ad') else _) = if gw_ft c k = 1 then va_rf ((ρ i k).map ad) else _
  cases e : ρ i k with
  | none => rfl
  | some x => rw [Option.map_some, Option.map_some, hle x (hok i hi k x e)]
theorem gw_rt_app {n m : Nat} {ad ad' : Nat → Nat} {ρ : Rf} (hle : ∀ i, i < n → ad' i = ad i) (hok : gw_okR (n, ad, ρ)) {i : Nat} (hi : i < n) : gw_rt (m, ad', ρ) i = gw_rt (n, ad, ρ) i := by
  funext k
  unfold gw_rt
  show (ρ i k).map ad' = (ρ i k).map ad
  cases e : ρ i k with
  | none => rfl
  | some x => rw [Option.map_some, Option.map_some, hle x (hok i hi k x e)]
theorem gw_en_app {G : Gl} {n m : Nat} {ad ad' : Nat → Nat} {ρ : Rf} {σ : Sg} (hle : ∀ i, i < n → ad' i = ad i) (hok : gw_okR (n, ad, ρ)) {i : Nat} (hi : i < n) : gw_en G (m, ad', ρ) σ i = gw_en G (n, ad, ρ) σ i := by
  unfold gw_en
  rw [gw_fv_app hle hok hi, gw_rt_app hle hok hi]
theorem gw_wl_app {G : Gl} {n : Nat} {ad ad' : Nat → Nat} {ρ : Rf} {σ : Sg} (hle : ∀ i, i < n → ad' i = ad i) (hok : gw_okR (n, ad, ρ)) : gw_wl G (n + 1, ad', ρ) σ = gw_wl G (n, ad, ρ) σ ++ [(ad' n, gw_en G (n + 1, ad', ρ) σ n)] := by
  unfold gw_wl
  show (List.range (n + 1)).map _ = (List.range n).map _ ++ _
  rw [List.range_succ, List.map_append]
  congr 1
  refine List.map_congr_left fun i hi => ?_
  have hi := List.mem_range.mp hi
  show (ad' i, _) = (ad i, _)
  rw [hle i hi, gw_en_app hle hok hi]
theorem gw_okR_app {n : Nat} {ad ad' : Nat → Nat} {ρ : Rf} (hok : gw_okR (n, ad, ρ)) (hr : ∀ j, ρ n j = none) : gw_okR (n + 1, ad', ρ) := by
  intro id hid k i h
  change id < n + 1 at hid
  by_cases q : id = n
  · rw [q] at h
    change ρ n k = some i at h
    rw [hr] at h; cases h
  · have := hok id (by show id < n; omega) k i h
    change i < n at this
    show i < n + 1
    omega
def ad1 (ad : Nat → Nat) (n q : Nat) : Nat → Nat := fun i => if i = n then q else ad i
theorem ad1_lo (ad : Nat → Nat) (n q : Nat) : ∀ i, i < n → ad1 ad n q i = ad i := fun i hi => by unfold ad1; rw [if_neg (by omega)]
theorem ad1_at (ad : Nat → Nat) (n q : Nat) : ad1 ad n q n = q := by unfold ad1; rw [if_pos rfl]
section GW
variable {X : Cx} {F : Fr} {G : Gl} {Z : State → Prop} {kc ks : Nat} {σ : Sg} {pc pc' : Nat} {ls : List (Option AV)} {st : List AV}
variable {n : Nat} {ad : Nat → Nat} {ρ : Rf}
/-- one cell more, all else as it was -/
theorem gw_more {q N : Nat} {H H1 : Heap} {locs : List Loc} {lc : Array Slot} {pc1 : Nat} {st' : List AV} (fx : gw_FX X F G) (hR : gw_RH G (n, ad, ρ) σ H) (hr : ∀ j, ρ n j = none) (hsz : ∀ j, gw_rg (gw_sh n).1 (σ n j)) (hL : gw_LH G (n, ad, ρ) lc F.2.2.1 ls) (ho : ∀ v ∈ st', gw_ok n v)
    (kk : ∀ ad', adL n ad (n + 1) ad' → gw_W X F G Z (kc + 1) (ks + N) (n + 1, ad', ρ) σ pc1 ls (vR (some n) :: st'))
    (h1 : va_P (gD G) vwCl (gw_wl G (n, ad, ρ) σ ++ [(q, gw_en G (n + 1, ad1 ad n q, ρ) σ n)]) H1) (h2 : va_D (gA G) (gw_wl G (n, ad, ρ) σ ++ [(q, gw_en G (n + 1, ad1 ad n q, ρ) σ n)])) (h3 : va_S (gA G) (cS X).heap H1 locs) :
    gw_W0 X H1 locs (kc + 1) (ks + N) Z (F0 (cM X) pc1 lc (.ref q :: st'.map (gw_cv G (n, ad, ρ)))) := by
  have hle : adL n ad (n + 1) (ad1 ad n q) := ⟨Nat.le_succ n, ad1_lo ad n q⟩
  have e := gw_wl_app (G := G) (σ := σ) (ad1_lo ad n q) hR.2.2.2
  rw [ad1_at] at e
  rw [← e] at h1 h2
  have hk := kk _ hle H1 locs lc ⟨h1, h2, ?_, gw_okR_app hR.2.2.2 hr⟩ h3 (gw_LH_le hL (hle.le ρ ρ)) ?_
  · have e2 : (vR (some n) :: st').map (gw_cv G (n + 1, ad1 ad n q, ρ)) = .ref q :: st'.map (gw_cv G (n, ad, ρ)) := by
      rw [List.map_cons, gw_map_le (M := (n, ad, ρ)) (M' := (n + 1, ad1 ad n q, ρ)) (hle.le ρ ρ) ho]
      show va_rf (some (ad1 ad n q n)) :: _ = _
      rw [ad1_at]; rfl
    rw [e2] at hk
    exact hk
  · intro id hid j
    change id < n + 1 at hid
    by_cases z : id = n
    · rw [z]; exact hsz j
    · exact hR.2.2.1 id (by show id < n; omega) j
  · intro v hv
    rcases List.mem_cons.mp hv with rfl | hv
    · intro i hi
      cases hi
      exact Nat.lt_succ_self n
    · exact gw_ok_le (M := (n, ad, ρ)) (M' := (n + 1, ad1 ad n q, ρ)) (hle.le ρ ρ) (ho v hv)
theorem g_new {idx ci N : Nat} {C : String} {T : u_T} {ty : Nat → FieldType} (fx : gw_FX X F G) (d : gw_dc F.2.1 pc (.new idx) 3 pc') (hck : gw_ck ci C T N ty) (hcl : Cond.classLink F.1 idx C ∈ wsG) (hinst : Cond.instantiable C N ∈ wsG) (hini : Cond.initialized C ∈ wsG) (hdf : ∀ j, j < N → defaultValue (ty j) = if gw_ft ci j = 1 then Value.null else .int 0) (hsh : gw_sh n = (ci, N)) (hz : ∀ j, σ n j = 0) (hr : ∀ j, ρ n j = none) (hk : kc + 1 ≤ F.2.2.2.2.2.1 ∧ ks + N ≤ F.2.2.2.2.2.2)
    (kk : ∀ ad', adL n ad (n + 1) ad' → gw_W X F G Z (kc + 1) (ks + N) (n + 1, ad', ρ) σ pc' ls (vR (some n) :: st)) : gw_W X F G Z kc ks (n, ad, ρ) σ pc ls st := by
  obtain ⟨hd, rfl⟩ := d
  obtain ⟨hc, hin, hty, hnm⟩ := hck
  have hci := gw_ci hc
  intro H locs lc hR hS hL ho
  obtain ⟨-, -, r1, r2⟩ := fx.room
  have een : ∀ q, gw_en G (n + 1, ad1 ad n q, ρ) σ n = .inr (ci, (List.range N).map (fun j => if gw_ft ci j = 1 then Value.null else .int 0)) := by
    intro q
    rw [gw_enO hci hsh]
    congr 3
    funext j
    unfold gw_fv
    show (if gw_ft ci j = 1 then va_rf ((ρ n j).map _) else _) = _
    rw [hr, hz]
    split
    · rfl
    · rfl
  refine va_new (fs := (List.range N).map (fun j => if gw_ft ci j = 1 then Value.null else .int 0)) fx.exec fx.code fx.ts hin ty hty fx.own (fx.ts _ hcl) (fx.ts _ hinst) (fx.ts _ hini) fx.K hR.1 hR.2.1 hS fx.A hc (fun j hj => ?_) (Nat.le_trans hk.1 r1) (Nat.le_trans hk.2 r2) hd (fun q H1 h1 h2 h3 => ?_)
  · rw [hdf j hj]
    unfold vp_V
    rw [List.getD_eq_getElem?_getD, List.getElem?_map, List.getElem?_range hj]; rfl
  · rw [← een q] at h1 h2
    refine gw_more fx hR hr (fun j => ?_) hL ho kk h1 h2 h3
    rw [hsh, hz]
    unfold gw_rg
    rw [if_neg (by dsimp only; omega), if_neg (by dsimp only; omega)]
    exact ok_0
theorem gw_cA {G : Gl} {cA : ClassId} {ty : FieldType} {U : State} {k : Nat} {c : ClassId} {tys : List (ClassId × FieldType)} (hK : va_K (gD G) vwCl tys U) (hk : tys[k]? = some (c, ty)) (hK2 : va_K (gD G) vwCl (tys ++ [(cA, ty)]) U) : cA = c := by
  have h1 := (hK.2 k _ hk).2
  have h2 := (hK2.2 tys.length (cA, ty) (by simp)).2
  unfold va_RA at h1 h2
  cases ty with
  | object C =>
    obtain ⟨_, _, _, _, _, e1⟩ := h1
    obtain ⟨_, _, _, _, _, e2⟩ := h2
    exact Option.some.inj (e2.symm.trans e1)
  | _ => exact Option.some.inj (h2.symm.trans h1)
theorem gw_nin {z : Int} (h0 : 0 ≤ z) (h1 : z ≤ 100000) : ¬ Int32.ofInt z < 0 ∧ (Int32.ofInt z).toNatClampNeg = z.toNat := by
  have o : okI z := by unfold okI; omega
  refine ⟨fun q => ?_, by rw [Int32.toNatClampNeg, toI_of o]⟩
  rw [i_0, i_lt o ok_0] at q; omega
theorem g_newI {L : Nat} {z : Int} (fx : gw_FX X F G) (d : gw_dc F.2.1 pc (.newarray .int) 2 pc') (hw : Cond.arrayClass .int ∈ wsG) (hsh : gw_sh n = (21, L)) (hz0 : z = ((L : Nat) : Int)) (hL9 : L ≤ 100000) (hz : ∀ j, σ n j = 0) (hr : ∀ j, ρ n j = none) (hk : kc + 1 ≤ F.2.2.2.2.2.1 ∧ ks + L ≤ F.2.2.2.2.2.2)
    (kk : ∀ ad', adL n ad (n + 1) ad' → gw_W X F G Z (kc + 1) (ks + L) (n + 1, ad', ρ) σ pc' ls (vR (some n) :: st)) : gw_W X F G Z kc ks (n, ad, ρ) σ pc ls (vI z :: st) := by
  obtain ⟨hd, rfl⟩ := d
  subst hz0
  intro H locs lc hR hS hL ho
  obtain ⟨-, -, r1, r2⟩ := fx.room
  obtain ⟨n1, n2⟩ := gw_nin (z := ((L : Nat) : Int)) (by omega) (by omega)
  refine va_newa (atype := .int) (ty := .int) (N' := L) (a0 := (L, .inl (fun _ => 0))) fx.exec fx.code (fx.ts _ hw) rfl fx.K hR.1 hR.2.1 hS fx.A (fun cA => rfl) n1 (by rw [n2]; rfl) (by show L * 4 ≤ _; omega) (Nat.le_trans hk.1 r1) (Nat.le_trans hk.2 r2) hd (fun q cA H1 hK1 h1 h2 h3 => ?_)
  have ec := gw_cA fx.K (k := 1) rfl hK1
  subst ec
  have een : gw_en G (n + 1, ad1 ad n q, ρ) σ n = .inl (gca G 1, L, .inl (fun _ => 0)) := by
    have ef : (fun j => Int32.ofInt (σ n j)) = fun _ => 0 := funext fun j => by rw [hz]; rfl
    rw [gw_enI hsh, ef]
  rw [← een] at h1 h2
  refine gw_more fx hR hr (fun j => ?_) hL (gw_tl ho) kk h1 h2 h3
  rw [hsh, hz]
  unfold gw_rg
  rw [if_neg (by dsimp only; omega), if_neg (by dsimp only; omega)]
  exact ok_0
theorem g_newB {L : Nat} {z : Int} (fx : gw_FX X F G) (d : gw_dc F.2.1 pc (.newarray .byte) 2 pc') (hw : Cond.arrayClass .byte ∈ wsG) (hsh : gw_sh n = (20, L)) (hz0 : z = ((L : Nat) : Int)) (hL9 : L ≤ 100000) (hz : ∀ j, σ n j = 0) (hr : ∀ j, ρ n j = none) (hk : kc + 1 ≤ F.2.2.2.2.2.1 ∧ ks + L ≤ F.2.2.2.2.2.2)
    (kk : ∀ ad', adL n ad (n + 1) ad' → gw_W X F G Z (kc + 1) (ks + L) (n + 1, ad', ρ) σ pc' ls (vR (some n) :: st)) : gw_W X F G Z kc ks (n, ad, ρ) σ pc ls (vI z :: st) := by
  obtain ⟨hd, rfl⟩ := d
  subst hz0
  intro H locs lc hR hS hL ho
  obtain ⟨-, -, r1, r2⟩ := fx.room
  obtain ⟨n1, n2⟩ := gw_nin (z := ((L : Nat) : Int)) (by omega) (by omega)
  refine va_newa (atype := .byte) (ty := .byte) (N' := L) (a0 := (L, .inl (fun _ => 0))) fx.exec fx.code (fx.ts _ hw) rfl fx.K hR.1 hR.2.1 hS fx.A (fun cA => rfl) n1 (by rw [n2]; rfl) (by show L * 1 ≤ _; omega) (Nat.le_trans hk.1 r1) (Nat.le_trans hk.2 r2) hd (fun q cA H1 hK1 h1 h2 h3 => ?_)
  have ec := gw_cA fx.K (k := 0) rfl hK1
  subst ec
  have een : gw_en G (n + 1, ad1 ad n q, ρ) σ n = .inl (gca G 0, L, .inl (fun _ => 0)) := by
    have ef : (fun j => Int32.ofInt (σ n j)) = fun _ => 0 := funext fun j => by rw [hz]; rfl
    rw [gw_enB hsh, ef]
  rw [← een] at h1 h2
  refine gw_more fx hR hr (fun j => ?_) hL (gw_tl ho) kk h1 h2 h3
  rw [hsh, hz]
  unfold gw_rg
  rw [if_neg (by dsimp only; omega), if_pos rfl]
  decide
theorem g_newZ {L : Nat} {z : Int} (fx : gw_FX X F G) (d : gw_dc F.2.1 pc (.newarray .boolean) 2 pc') (hw : Cond.arrayClass .boolean ∈ wsG) (hsh : gw_sh n = (23, L)) (hz0 : z = ((L : Nat) : Int)) (hL9 : L ≤ 100000) (hz : ∀ j, σ n j = 0) (hr : ∀ j, ρ n j = none) (hk : kc + 1 ≤ F.2.2.2.2.2.1 ∧ ks + L ≤ F.2.2.2.2.2.2)
    (kk : ∀ ad', adL n ad (n + 1) ad' → gw_W X F G Z (kc + 1) (ks + L) (n + 1, ad', ρ) σ pc' ls (vR (some n) :: st)) : gw_W X F G Z kc ks (n, ad, ρ) σ pc ls (vI z :: st) := by
  obtain ⟨hd, rfl⟩ := d
  subst hz0
  intro H locs lc hR hS hL ho
  obtain ⟨-, -, r1, r2⟩ := fx.room
  obtain ⟨n1, n2⟩ := gw_nin (z := ((L : Nat) : Int)) (by omega) (by omega)
  refine va_newa (atype := .boolean) (ty := .boolean) (N' := L) (a0 := (L, .inl (fun _ => 0))) fx.exec fx.code (fx.ts _ hw) rfl fx.K hR.1 hR.2.1 hS fx.A (fun cA => rfl) n1 (by rw [n2]; rfl) (by show L * 1 ≤ _; omega) (Nat.le_trans hk.1 r1) (Nat.le_trans hk.2 r2) hd (fun q cA H1 hK1 h1 h2 h3 => ?_)
  have ec := gw_cA fx.K (k := 3) rfl hK1
  subst ec
  have een : gw_en G (n + 1, ad1 ad n q, ρ) σ n = .inl (gca G 3, L, .inl (fun _ => 0)) := by
    have ef : (fun j => Int32.ofInt (σ n j)) = fun _ => 0 := funext fun j => by rw [hz]; rfl
    rw [gw_enZ hsh, ef]
  rw [← een] at h1 h2
  refine gw_more fx hR hr (fun j => ?_) hL (gw_tl ho) kk h1 h2 h3
  rw [hsh, hz]
  unfold gw_rg
  rw [if_neg (by dsimp only; omega), if_neg (by dsimp only; omega)]
  exact ok_0
theorem g_newJ {L : Nat} {z : Int} (fx : gw_FX X F G) (d : gw_dc F.2.1 pc (.newarray .long) 2 pc') (hw : Cond.arrayClass .long ∈ wsG) (hsh : gw_sh n = (22, L)) (hz0 : z = ((L : Nat) : Int)) (hL9 : L ≤ 100000) (hz : ∀ j, σ n j = 0) (hr : ∀ j, ρ n j = none) (hk : kc + 1 ≤ F.2.2.2.2.2.1 ∧ ks + L ≤ F.2.2.2.2.2.2)
    (kk : ∀ ad', adL n ad (n + 1) ad' → gw_W X F G Z (kc + 1) (ks + L) (n + 1, ad', ρ) σ pc' ls (vR (some n) :: st)) : gw_W X F G Z kc ks (n, ad, ρ) σ pc ls (vI z :: st) := by
  obtain ⟨hd, rfl⟩ := d
  subst hz0
  intro H locs lc hR hS hL ho
  obtain ⟨-, -, r1, r2⟩ := fx.room
  obtain ⟨n1, n2⟩ := gw_nin (z := ((L : Nat) : Int)) (by omega) (by omega)
  refine va_newa (atype := .long) (ty := .long) (N' := L) (a0 := (L, .inr (.inl (fun _ => 0)))) fx.exec fx.code (fx.ts _ hw) rfl fx.K hR.1 hR.2.1 hS fx.A (fun cA => rfl) n1 (by rw [n2]; rfl) (by show L * 8 ≤ _; omega) (Nat.le_trans hk.1 r1) (Nat.le_trans hk.2 r2) hd (fun q cA H1 hK1 h1 h2 h3 => ?_)
  have ec := gw_cA fx.K (k := 2) rfl hK1
  subst ec
  have een : gw_en G (n + 1, ad1 ad n q, ρ) σ n = .inl (gca G 2, L, .inr (.inl (fun _ => 0))) := by
    have ef : (fun j => Int64.ofInt (σ n j)) = fun _ => 0 := funext fun j => by rw [hz]; rfl
    rw [gw_enJ hsh, ef]
  rw [← een] at h1 h2
  refine gw_more fx hR hr (fun j => ?_) hL (gw_tl ho) kk h1 h2 h3
  rw [hsh, hz]
  unfold gw_rg
  rw [if_pos rfl]
  unfold okJ; omega
end GW
