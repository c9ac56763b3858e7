/-! THE LAYER, 5: fields and arrays -/
def gw_ck (ci : Nat) (C : String) (T : u_T) (N : Nat) (ty : Nat → FieldType) : Prop :=
  vwCl[ci]? = some (C, T, N) ∧ (∀ w ∈ u_ws C T N, w ∈ wsG) ∧ (∀ k, k < N → parseFieldDescriptor (T k).2.2.1 = some (ty k)) ∧ (∀ a, a < N → ∀ b, b < N → a ≠ b → (T a).2.1 ≠ (T b).2.1)
/-- the constant idx of class own names the field k (of N) of class ci; t: 0 an int, 1 a reference, 2 a boolean; whether it's final -/
def gw_fk (own : String) (idx ci k N t : Nat) (fin : Bool) : Prop :=
  ∃ (C : String) (T : u_T) (ty : Nat → FieldType), gw_ck ci C T N ty ∧ k < N ∧ gw_ft ci k = t ∧ (t = 0 → ty k = .int) ∧ (t = 2 → ty k = .boolean) ∧ (t = 1 → (∃ n, ty k = .object n) ∨ ∃ e, ty k = .array e) ∧ (T k).2.2.2 = fin ∧
    (Cond.fieldLink own idx (T k).1 (T k).2.1 (T k).2.2.1 ∈ wsG ∨ ∃ host, Cond.fieldLinkNest own idx (T k).1 (T k).2.1 (T k).2.2.1 host ∈ wsN)
theorem gw_ci {ci : Nat} {C : String} {T : u_T} {N : Nat} (h : vwCl[ci]? = some (C, T, N)) : ci < 12 := (List.getElem?_eq_some_iff.mp h).1
theorem gw_enO {G : Gl} {M : Mem} {σ : Sg} {o ci N : Nat} (hc : ci < 12) (hO : gw_sh o = (ci, N)) : gw_en G M σ o = .inr (ci, (List.range N).map (gw_fv M σ ci o)) := by
  unfold gw_en
  rw [hO]
  dsimp only
  rw [if_neg (by omega), if_neg (by omega), if_neg (by omega), if_neg (by omega), if_neg (by omega), if_neg (by omega)]
theorem gw_enI {G : Gl} {M : Mem} {σ : Sg} {o N : Nat} (hO : gw_sh o = (21, N)) : gw_en G M σ o = .inl (gca G 1, N, .inl (fun j => Int32.ofInt (σ o j))) := by
  unfold gw_en
  rw [hO]
  dsimp only
  rw [if_pos rfl]
theorem gw_enB {G : Gl} {M : Mem} {σ : Sg} {o N : Nat} (hO : gw_sh o = (20, N)) : gw_en G M σ o = .inl (gca G 0, N, .inl (fun j => Int32.ofInt (σ o j))) := by
  unfold gw_en
  rw [hO]
  dsimp only
  rw [if_neg (by omega), if_pos rfl]
theorem gw_enJ {G : Gl} {M : Mem} {σ : Sg} {o N : Nat} (hO : gw_sh o = (22, N)) : gw_en G M σ o = .inl (gca G 2, N, .inr (.inl (fun j => Int64.ofInt (σ o j)))) := by
  unfold gw_en
  rw [hO]
  dsimp only
  rw [if_neg (by omega), if_neg (by omega), if_pos rfl]
theorem gw_enZ {G : Gl} {M : Mem} {σ : Sg} {o N : Nat} (hO : gw_sh o = (23, N)) : gw_en G M σ o = .inl (gca G 3, N, .inl (fun j => Int32.ofInt (σ o j))) := by
  unfold gw_en
  rw [hO]
  dsimp only
  rw [if_neg (by omega), if_neg (by omega), if_neg (by omega), if_pos rfl]
theorem gw_enM {G : Gl} {M : Mem} {σ : Sg} {o N : Nat} (hO : gw_sh o = (24, N)) : gw_en G M σ o = .inl (gca G 4, N, .inr (.inr (.inr (.inr (gw_rt M o))))) := by
  unfold gw_en
  rw [hO]
  dsimp only
  rw [if_neg (by omega), if_neg (by omega), if_neg (by omega), if_neg (by omega), if_pos rfl]
theorem gw_enT {G : Gl} {M : Mem} {σ : Sg} {o N : Nat} (hO : gw_sh o = (25, N)) : gw_en G M σ o = .inl (gca G 5, N, .inr (.inr (.inr (.inr (gw_rt M o))))) := by
  unfold gw_en
  rw [hO]
  dsimp only
  rw [if_neg (by omega), if_neg (by omega), if_neg (by omega), if_neg (by omega), if_neg (by omega), if_pos rfl]
theorem gw_fsI {M : Mem} {σ : Sg} {ci o k N : Nat} (hk : k < N) (ht : gw_ft ci k ≠ 1) : ((List.range N).map (gw_fv M σ ci o))[k]? = some (.int (Int32.ofInt (σ o k))) := by
  simp [hk, gw_fv, ht]
theorem gw_fsR {M : Mem} {σ : Sg} {ci o k N : Nat} (hk : k < N) (ht : gw_ft ci k = 1) : ((List.range N).map (gw_fv M σ ci o))[k]? = some (va_rf ((M.2.2 o k).map M.2.1)) := by
  simp [hk, gw_fv, ht]
theorem gw_upd (σ : Sg) (o k : Nat) (v : Int) : upd (fun j => Int32.ofInt (σ o j)) k (Int32.ofInt v) = fun j => Int32.ofInt (su σ o k v o j) := by
  funext j
  by_cases h : j = k
  · subst h; rw [su_same]; simp [upd]
  · rw [su_ne σ v (Or.inr h)]; simp [upd, h]
theorem gw_updJ (σ : Sg) (o k : Nat) (v : Int) : vp_updL (fun j => Int64.ofInt (σ o j)) k (Int64.ofInt v) = fun j => Int64.ofInt (su σ o k v o j) := by
  funext j
  by_cases h : j = k
  · subst h; rw [su_same]; simp [vp_updL]
  · rw [su_ne σ v (Or.inr h)]; simp [vp_updL, h]
section GW
variable {X : Cx} {F : Fr} {G : Gl} {Z : State → Prop} {kc ks : Nat} {M : Mem} {σ : Sg} {pc pc' : Nat} {ls : List (Option AV)} {st : List AV}
theorem g_geti {idx ci k N t o : Nat} {fin : Bool} (fx : gw_FX X F G) (d : gw_dc F.2.1 pc (.getfield idx) 3 pc') (hf : gw_fk F.1 idx ci k N t fin) (ht : t ≠ 1) (hO : isO M o ci N) (kk : gw_W X F G Z kc ks M σ pc' ls (vI (σ o k) :: st)) : gw_W X F G Z kc ks M σ pc ls (vR (some o) :: st) := by
  obtain ⟨hd, rfl⟩ := d
  obtain ⟨C, T, ty, ⟨hc, hin, -, -⟩, hk, hft, -, -, -, -, hlink⟩ := hf
  intro H locs lc hR hS hL ho
  have hv := gw_fsI (M := M) (σ := σ) (o := o) hk (by rw [hft]; exact ht)
  have hg : gw_rg (gw_sh o).1 (σ o k) := hR.2.2.1 o hO.1 k
  have hci := gw_ci hc
  have hz : okI (σ o k) := by
    rw [hO.2] at hg
    unfold gw_rg at hg
    rwa [if_neg (by dsimp only; omega), if_neg (by dsimp only; omega)] at hg
  have he : (gw_wl G M σ)[o]? = some (M.2.1 o, .inr (ci, (List.range N).map (gw_fv M σ ci o))) := by rw [gw_get hO.1, gw_enO hci hO.2]
  rcases hlink with hw | ⟨host, hw⟩
  · exact va_get fx.exec fx.code fx.ts hin fx.own fx.K hR.1 o he hc k hk (fx.ts _ hw) (fun _ h => h) hv hd (kk H locs lc hR hS hL (gw_cons hz (gw_tl ho)))
  · exact va_getN fx.exec fx.code fx.ts hin fx.own fx.K hR.1 o he hc k hk (fx.nest hw) (fun _ h => h) hv hd (kk H locs lc hR hS hL (gw_cons hz (gw_tl ho)))
theorem g_getr {idx ci k N o : Nat} {q : Option Nat} {fin : Bool} (fx : gw_FX X F G) (d : gw_dc F.2.1 pc (.getfield idx) 3 pc') (hf : gw_fk F.1 idx ci k N 1 fin) (hO : isO M o ci N) (hq : M.2.2 o k = q) (kk : gw_W X F G Z kc ks M σ pc' ls (vR q :: st)) : gw_W X F G Z kc ks M σ pc ls (vR (some o) :: st) := by
  obtain ⟨hd, rfl⟩ := d
  obtain ⟨C, T, ty, ⟨hc, hin, -, -⟩, hk, hft, -, -, -, -, hlink⟩ := hf
  intro H locs lc hR hS hL ho
  have hv := gw_fsR (M := M) (σ := σ) (o := o) hk hft
  rw [hq] at hv
  have hci := gw_ci hc
  have hz : gw_ok M.1 (vR q) := fun i hi => hR.2.2.2 o hO.1 k i (hq.trans hi)
  have he : (gw_wl G M σ)[o]? = some (M.2.1 o, .inr (ci, (List.range N).map (gw_fv M σ ci o))) := by rw [gw_get hO.1, gw_enO hci hO.2]
  rcases hlink with hw | ⟨host, hw⟩
  · exact va_get fx.exec fx.code fx.ts hin fx.own fx.K hR.1 o he hc k hk (fx.ts _ hw) (fun _ h => h) hv hd (kk H locs lc hR hS hL (gw_cons hz (gw_tl ho)))
  · exact va_getN fx.exec fx.code fx.ts hin fx.own fx.K hR.1 o he hc k hk (fx.nest hw) (fun _ h => h) hv hd (kk H locs lc hR hS hL (gw_cons hz (gw_tl ho)))
theorem gw_puts {o ci k N : Nat} {x : Int} (hci : ci < 12) (hO : isO M o ci N) (ht : gw_ft ci k ≠ 1) : (gw_wl G M σ).set o (M.2.1 o, .inr (ci, ((List.range N).map (gw_fv M σ ci o)).set k (.int (Int32.ofInt x)))) = gw_wl G M (su σ o k x) := by
  refine gw_set ?_ (fun i hi => gw_en_su i hi)
  rw [gw_enO hci hO.2, gw_map_set (g := gw_fv M (su σ o k x) ci o)]
  · unfold gw_fv; rw [if_neg ht, su_same]
  · intro j hj; unfold gw_fv; rw [su_ne σ x (Or.inr hj)]
theorem g_puti {idx ci k N o : Nat} {x : Int} (fx : gw_FX X F G) (d : gw_dc F.2.1 pc (.putfield idx) 3 pc') (hf : gw_fk F.1 idx ci k N 0 false) (hO : isO M o ci N) (kk : gw_W X F G Z kc ks M (su σ o k x) pc' ls st) : gw_W X F G Z kc ks M σ pc ls (vI x :: vR (some o) :: st) := by
  obtain ⟨hd, rfl⟩ := d
  obtain ⟨C, T, ty, ⟨hc, hin, hty, hnm⟩, hk, hft, ht0, -, -, hfin, hlink⟩ := hf
  intro H locs lc hR hS hL ho
  have hci := gw_ci hc
  have he : (gw_wl G M σ)[o]? = some (M.2.1 o, .inr (ci, (List.range N).map (gw_fv M σ ci o))) := by rw [gw_get hO.1, gw_enO hci hO.2]
  have hrg : gw_rg (gw_sh o).1 x := by
    rw [hO.2]; unfold gw_rg
    rw [if_neg (by dsimp only; omega), if_neg (by dsimp only; omega)]
    exact gw_hd ho
  have hp : parseFieldDescriptor (T k).2.2.1 = some .int := by rw [hty k hk, ht0 rfl]
  have hset := gw_puts (G := G) (M := M) (σ := σ) (x := x) hci hO (by rw [hft]; decide)
  have go : ∀ (H1 : Heap) (locs1 : List Loc), va_P (gD G) vwCl ((gw_wl G M σ).set o (M.2.1 o, .inr (ci, ((List.range N).map (gw_fv M σ ci o)).set k (.int (Int32.ofInt x))))) H1 → va_D (gA G) ((gw_wl G M σ).set o (M.2.1 o, .inr (ci, ((List.range N).map (gw_fv M σ ci o)).set k (.int (Int32.ofInt x))))) → va_S (gA G) (cS X).heap H1 locs1 → gw_W0 X H1 locs1 kc ks Z (F0 (cM X) (pc + 3) lc (st.map (gw_cv G M))) := by
    intro H1 locs1 h1 h2 h3
    rw [hset] at h1 h2
    exact kk H1 locs1 lc ⟨h1, h2, gw_okS_su hR.2.2.1 hrg, hR.2.2.2⟩ h3 hL (gw_tl (gw_tl ho))
  rcases hlink with hw | ⟨host, hw⟩
  · exact va_put fx.exec fx.code fx.ts hin ty hty hnm fx.own fx.K hR.1 hR.2.1 hS o he hc k hk (fx.ts _ hw) (fun _ h => h) hfin hp rfl rfl (by simpa using hk) hd go
  · exact va_putN fx.exec fx.code fx.ts hin ty hty hnm fx.own fx.K hR.1 hR.2.1 hS o he hc k hk (fx.nest hw) (fun _ h => h) hfin hp rfl rfl (by simpa using hk) hd go
theorem g_putz {idx ci k N o : Nat} {x : Int} (fx : gw_FX X F G) (d : gw_dc F.2.1 pc (.putfield idx) 3 pc') (hf : gw_fk F.1 idx ci k N 2 false) (hx : x = 0 ∨ x = 1) (hO : isO M o ci N) (kk : gw_W X F G Z kc ks M (su σ o k x) pc' ls st) : gw_W X F G Z kc ks M σ pc ls (vI x :: vR (some o) :: st) := by
  obtain ⟨hd, rfl⟩ := d
  obtain ⟨C, T, ty, ⟨hc, hin, hty, hnm⟩, hk, hft, -, ht2, -, hfin, hlink⟩ := hf
  intro H locs lc hR hS hL ho
  have hci := gw_ci hc
  have he : (gw_wl G M σ)[o]? = some (M.2.1 o, .inr (ci, (List.range N).map (gw_fv M σ ci o))) := by rw [gw_get hO.1, gw_enO hci hO.2]
  have hrg : gw_rg (gw_sh o).1 x := by
    rw [hO.2]; unfold gw_rg
    rw [if_neg (by dsimp only; omega), if_neg (by dsimp only; omega)]
    exact gw_hd ho
  have hp : parseFieldDescriptor (T k).2.2.1 = some .boolean := by rw [hty k hk, ht2 rfl]
  have hset := gw_puts (G := G) (M := M) (σ := σ) (x := x) hci hO (by rw [hft]; decide)
  have go : ∀ (H1 : Heap) (locs1 : List Loc), va_P (gD G) vwCl ((gw_wl G M σ).set o (M.2.1 o, .inr (ci, ((List.range N).map (gw_fv M σ ci o)).set k (.int (Int32.ofInt x))))) H1 → va_D (gA G) ((gw_wl G M σ).set o (M.2.1 o, .inr (ci, ((List.range N).map (gw_fv M σ ci o)).set k (.int (Int32.ofInt x))))) → va_S (gA G) (cS X).heap H1 locs1 → gw_W0 X H1 locs1 kc ks Z (F0 (cM X) (pc + 3) lc (st.map (gw_cv G M))) := by
    intro H1 locs1 h1 h2 h3
    rw [hset] at h1 h2
    exact kk H1 locs1 lc ⟨h1, h2, gw_okS_su hR.2.2.1 hrg, hR.2.2.2⟩ h3 hL (gw_tl (gw_tl ho))
  have hn : narrow .boolean (.int (Int32.ofInt x)) = .int (Int32.ofInt x) := by rcases hx with rfl | rfl <;> decide
  have hfit : fits .boolean (.int (Int32.ofInt x)) = true := by rcases hx with rfl | rfl <;> decide
  rcases hlink with hw | ⟨host, hw⟩
  · exact va_put fx.exec fx.code fx.ts hin ty hty hnm fx.own fx.K hR.1 hR.2.1 hS o he hc k hk (fx.ts _ hw) (fun _ h => h) hfin hp hn hfit (by simpa using hk) hd go
  · exact va_putN fx.exec fx.code fx.ts hin ty hty hnm fx.own fx.K hR.1 hR.2.1 hS o he hc k hk (fx.nest hw) (fun _ h => h) hfin hp hn hfit (by simpa using hk) hd go
theorem gw_rgI {o N : Nat} {j : Nat} (hS : gw_okS M.1 σ) (hO : isO M o 21 N) : okI (σ o j) := by
  have hg := hS o hO.1 j
  rw [hO.2] at hg
  unfold gw_rg at hg
  rwa [if_neg (by dsimp only; omega), if_neg (by dsimp only; omega)] at hg
theorem g_iald {o N : Nat} {i : Int} (fx : gw_FX X F G) (d : gw_dc F.2.1 pc .iaload 1 pc') (hO : isO M o 21 N) (h0 : 0 ≤ i) (h1 : i < N) (kk : gw_W X F G Z kc ks M σ pc' ls (vI (σ o i.toNat) :: st)) : gw_W X F G Z kc ks M σ pc ls (vI i :: vR (some o) :: st) := by
  obtain ⟨hd, rfl⟩ := d
  intro H locs lc hR hS hL ho
  obtain ⟨e1, e2⟩ := i_in h0 h1 (gw_hd ho)
  have he : (gw_wl G M σ)[o]? = some (M.2.1 o, .inl (gca G 1, N, .inl (fun j => Int32.ofInt (σ o j)))) := by rw [gw_get hO.1, gw_enI hO.2]
  have h := kk H locs lc hR hS hL (gw_cons (gw_rgI hR.2.2.1 hO) (gw_tl (gw_tl ho)))
  refine va_iald fx.exec fx.code fx.K hR.1 o 1 he rfl e1 hd ?_
  rw [e2]; exact h
theorem g_bald {o N : Nat} {i : Int} (fx : gw_FX X F G) (d : gw_dc F.2.1 pc .baload 1 pc') (hO : isO M o 20 N) (h0 : 0 ≤ i) (h1 : i < N) (kk : gw_W X F G Z kc ks M σ pc' ls (vI (σ o i.toNat) :: st)) : gw_W X F G Z kc ks M σ pc ls (vI i :: vR (some o) :: st) := by
  obtain ⟨hd, rfl⟩ := d
  intro H locs lc hR hS hL ho
  obtain ⟨e1, e2⟩ := i_in h0 h1 (gw_hd ho)
  have he : (gw_wl G M σ)[o]? = some (M.2.1 o, .inl (gca G 0, N, .inl (fun j => Int32.ofInt (σ o j)))) := by rw [gw_get hO.1, gw_enB hO.2]
  have hg := hR.2.2.1 o hO.1 i.toNat
  rw [hO.2] at hg
  unfold gw_rg at hg
  rw [if_neg (by dsimp only; omega), if_pos rfl] at hg
  have h := kk H locs lc hR hS hL (gw_cons (show okI (σ o i.toNat) by unfold okI; omega) (gw_tl (gw_tl ho)))
  refine va_bald fx.exec fx.code fx.K hR.1 o 0 he rfl e1 hd ?_
  rw [e2]; exact h
theorem g_zald {o N : Nat} {i : Int} (fx : gw_FX X F G) (d : gw_dc F.2.1 pc .baload 1 pc') (hO : isO M o 23 N) (h0 : 0 ≤ i) (h1 : i < N) (kk : gw_W X F G Z kc ks M σ pc' ls (vI (σ o i.toNat) :: st)) : gw_W X F G Z kc ks M σ pc ls (vI i :: vR (some o) :: st) := by
  obtain ⟨hd, rfl⟩ := d
  intro H locs lc hR hS hL ho
  obtain ⟨e1, e2⟩ := i_in h0 h1 (gw_hd ho)
  have he : (gw_wl G M σ)[o]? = some (M.2.1 o, .inl (gca G 3, N, .inl (fun j => Int32.ofInt (σ o j)))) := by rw [gw_get hO.1, gw_enZ hO.2]
  have hg := hR.2.2.1 o hO.1 i.toNat
  rw [hO.2] at hg
  unfold gw_rg at hg
  rw [if_neg (by dsimp only; omega), if_neg (by dsimp only; omega)] at hg
  have h := kk H locs lc hR hS hL (gw_cons hg (gw_tl (gw_tl ho)))
  refine va_zald fx.exec fx.code fx.K hR.1 o 3 he rfl e1 hd ?_
  rw [e2]; exact h
theorem g_lald {o N : Nat} {i : Int} (fx : gw_FX X F G) (d : gw_dc F.2.1 pc .laload 1 pc') (hO : isO M o 22 N) (h0 : 0 ≤ i) (h1 : i < N) (kk : gw_W X F G Z kc ks M σ pc' ls (vJ (σ o i.toNat) :: st)) : gw_W X F G Z kc ks M σ pc ls (vI i :: vR (some o) :: st) := by
  obtain ⟨hd, rfl⟩ := d
  intro H locs lc hR hS hL ho
  obtain ⟨e1, e2⟩ := i_in h0 h1 (gw_hd ho)
  have he : (gw_wl G M σ)[o]? = some (M.2.1 o, .inl (gca G 2, N, .inr (.inl (fun j => Int64.ofInt (σ o j))))) := by rw [gw_get hO.1, gw_enJ hO.2]
  have hg := hR.2.2.1 o hO.1 i.toNat
  rw [hO.2] at hg
  unfold gw_rg at hg
  rw [if_pos rfl] at hg
  have h := kk H locs lc hR hS hL (gw_cons hg (gw_tl (gw_tl ho)))
  refine va_lald fx.exec fx.code fx.K hR.1 o 2 he rfl e1 hd ?_
  rw [e2]; exact h
theorem g_aald {o N ty : Nat} {i : Int} {q : Option Nat} (fx : gw_FX X F G) (d : gw_dc F.2.1 pc .aaload 1 pc') (hO : isO M o ty N) (hty : ty = 24 ∨ ty = 25) (h0 : 0 ≤ i) (h1 : i < N) (hq : M.2.2 o i.toNat = q) (kk : gw_W X F G Z kc ks M σ pc' ls (vR q :: st)) : gw_W X F G Z kc ks M σ pc ls (vI i :: vR (some o) :: st) := by
  obtain ⟨hd, rfl⟩ := d
  intro H locs lc hR hS hL ho
  obtain ⟨e1, e2⟩ := i_in h0 h1 (gw_hd ho)
  have hz : gw_ok M.1 (vR q) := fun j hj => hR.2.2.2 o hO.1 _ j (hq.trans hj)
  have h := kk H locs lc hR hS hL (gw_cons hz (gw_tl (gw_tl ho)))
  rcases hty with rfl | rfl
  · have he : (gw_wl G M σ)[o]? = some (M.2.1 o, .inl (gca G 4, N, .inr (.inr (.inr (.inr (gw_rt M o)))))) := by rw [gw_get hO.1, gw_enM hO.2]
    refine va_aldq fx.exec fx.code fx.K hR.1 o 4 he rfl e1 hd ?_
    rw [e2, gw_rt, hq]; exact h
  · have he : (gw_wl G M σ)[o]? = some (M.2.1 o, .inl (gca G 5, N, .inr (.inr (.inr (.inr (gw_rt M o)))))) := by rw [gw_get hO.1, gw_enT hO.2]
    refine va_aldq fx.exec fx.code fx.K hR.1 o 5 he rfl e1 hd ?_
    rw [e2, gw_rt, hq]; exact h
theorem g_iast {o N : Nat} {i x : Int} (fx : gw_FX X F G) (d : gw_dc F.2.1 pc .iastore 1 pc') (hO : isO M o 21 N) (h0 : 0 ≤ i) (h1 : i < N) (kk : gw_W X F G Z kc ks M (su σ o i.toNat x) pc' ls st) : gw_W X F G Z kc ks M σ pc ls (vI x :: vI i :: vR (some o) :: st) := by
  obtain ⟨hd, rfl⟩ := d
  intro H locs lc hR hS hL ho
  obtain ⟨e1, e2⟩ := i_in h0 h1 (gw_hd (gw_tl ho))
  have he : (gw_wl G M σ)[o]? = some (M.2.1 o, .inl (gca G 1, N, .inl (fun j => Int32.ofInt (σ o j)))) := by rw [gw_get hO.1, gw_enI hO.2]
  have hset : (gw_wl G M σ).set o (M.2.1 o, .inl (gca G 1, N, .inl (upd (fun j => Int32.ofInt (σ o j)) (Int32.ofInt i).toNatClampNeg (Int32.ofInt x)))) = gw_wl G M (su σ o i.toNat x) := by
    refine gw_set ?_ (fun j hj => gw_en_su j hj)
    rw [gw_enI hO.2, e2, gw_upd]
  have hrg : gw_rg (gw_sh o).1 x := by
    rw [hO.2]; unfold gw_rg
    rw [if_neg (by dsimp only; omega), if_neg (by dsimp only; omega)]
    exact gw_hd ho
  refine va_iast fx.exec fx.code fx.K hR.1 hR.2.1 hS o 1 he rfl e1 hd (fun H1 locs1 h1 h2 h3 => ?_)
  rw [hset] at h1 h2
  exact kk H1 locs1 lc ⟨h1, h2, gw_okS_su hR.2.2.1 hrg, hR.2.2.2⟩ h3 hL (gw_tl (gw_tl (gw_tl ho)))
theorem g_last {o N : Nat} {i x : Int} (fx : gw_FX X F G) (d : gw_dc F.2.1 pc .lastore 1 pc') (hO : isO M o 22 N) (h0 : 0 ≤ i) (h1 : i < N) (kk : gw_W X F G Z kc ks M (su σ o i.toNat x) pc' ls st) : gw_W X F G Z kc ks M σ pc ls (vJ x :: vI i :: vR (some o) :: st) := by
  obtain ⟨hd, rfl⟩ := d
  intro H locs lc hR hS hL ho
  obtain ⟨e1, e2⟩ := i_in h0 h1 (gw_hd (gw_tl ho))
  have he : (gw_wl G M σ)[o]? = some (M.2.1 o, .inl (gca G 2, N, .inr (.inl (fun j => Int64.ofInt (σ o j))))) := by rw [gw_get hO.1, gw_enJ hO.2]
  have hset : (gw_wl G M σ).set o (M.2.1 o, .inl (gca G 2, N, .inr (.inl (vp_updL (fun j => Int64.ofInt (σ o j)) (Int32.ofInt i).toNatClampNeg (Int64.ofInt x))))) = gw_wl G M (su σ o i.toNat x) := by
    refine gw_set ?_ (fun j hj => gw_en_su j hj)
    rw [gw_enJ hO.2, e2, gw_updJ]
  have hrg : gw_rg (gw_sh o).1 x := by
    rw [hO.2]; unfold gw_rg
    rw [if_pos rfl]
    exact gw_hd ho
  refine va_last fx.exec fx.code fx.K hR.1 hR.2.1 hS o 2 he rfl e1 hd (fun H1 locs1 h1 h2 h3 => ?_)
  rw [hset] at h1 h2
  exact kk H1 locs1 lc ⟨h1, h2, gw_okS_su hR.2.2.1 hrg, hR.2.2.2⟩ h3 hL (gw_tl (gw_tl (gw_tl ho)))
theorem g_bast {o N : Nat} {i x : Int} (fx : gw_FX X F G) (d : gw_dc F.2.1 pc .bastore 1 pc') (hO : isO M o 20 N) (hx : -128 ≤ x ∧ x ≤ 127) (h0 : 0 ≤ i) (h1 : i < N) (kk : gw_W X F G Z kc ks M (su σ o i.toNat x) pc' ls st) : gw_W X F G Z kc ks M σ pc ls (vI x :: vI i :: vR (some o) :: st) := by
  obtain ⟨hd, rfl⟩ := d
  intro H locs lc hR hS hL ho
  obtain ⟨e1, e2⟩ := i_in h0 h1 (gw_hd (gw_tl ho))
  have he : (gw_wl G M σ)[o]? = some (M.2.1 o, .inl (gca G 0, N, .inl (fun j => Int32.ofInt (σ o j)))) := by rw [gw_get hO.1, gw_enB hO.2]
  have ex : vp_nar .byte (Int32.ofInt x) = Int32.ofInt x := by
    rw [vp_nar_byte, ← Int32.toInt_inj, Int8.toInt_toInt32, Int32.toInt_toInt8, toI_of (show okI x by unfold okI; omega), Int.bmod_eq_of_le (by omega) (by omega)]
  have hset : (gw_wl G M σ).set o (M.2.1 o, .inl (gca G 0, N, .inl (upd (fun j => Int32.ofInt (σ o j)) (Int32.ofInt i).toNatClampNeg (vp_nar .byte (Int32.ofInt x))))) = gw_wl G M (su σ o i.toNat x) := by
    refine gw_set ?_ (fun j hj => gw_en_su j hj)
    rw [gw_enB hO.2, e2, ex, gw_upd]
  have hrg : gw_rg (gw_sh o).1 x := by
    rw [hO.2]; unfold gw_rg
    rw [if_neg (by dsimp only; omega), if_pos rfl]
    exact hx
  refine va_bast fx.exec fx.code fx.K hR.1 hR.2.1 hS o 0 he rfl e1 hd (fun H1 locs1 h1 h2 h3 => ?_)
  rw [hset] at h1 h2
  exact kk H1 locs1 lc ⟨h1, h2, gw_okS_su hR.2.2.1 hrg, hR.2.2.2⟩ h3 hL (gw_tl (gw_tl (gw_tl ho)))
theorem g_zast {o N : Nat} {i x : Int} (fx : gw_FX X F G) (d : gw_dc F.2.1 pc .bastore 1 pc') (hO : isO M o 23 N) (hx : x = 0 ∨ x = 1) (h0 : 0 ≤ i) (h1 : i < N) (kk : gw_W X F G Z kc ks M (su σ o i.toNat x) pc' ls st) : gw_W X F G Z kc ks M σ pc ls (vI x :: vI i :: vR (some o) :: st) := by
  obtain ⟨hd, rfl⟩ := d
  intro H locs lc hR hS hL ho
  obtain ⟨e1, e2⟩ := i_in h0 h1 (gw_hd (gw_tl ho))
  have he : (gw_wl G M σ)[o]? = some (M.2.1 o, .inl (gca G 3, N, .inl (fun j => Int32.ofInt (σ o j)))) := by rw [gw_get hO.1, gw_enZ hO.2]
  have ex : vp_nar .boolean (Int32.ofInt x) = Int32.ofInt x := by rcases hx with rfl | rfl <;> decide
  have hset : (gw_wl G M σ).set o (M.2.1 o, .inl (gca G 3, N, .inl (upd (fun j => Int32.ofInt (σ o j)) (Int32.ofInt i).toNatClampNeg (vp_nar .boolean (Int32.ofInt x))))) = gw_wl G M (su σ o i.toNat x) := by
    refine gw_set ?_ (fun j hj => gw_en_su j hj)
    rw [gw_enZ hO.2, e2, ex, gw_upd]
  have hrg : gw_rg (gw_sh o).1 x := by
    rw [hO.2]; unfold gw_rg
    rw [if_neg (by dsimp only; omega), if_neg (by dsimp only; omega)]
    exact gw_hd ho
  refine va_zast fx.exec fx.code fx.K hR.1 hR.2.1 hS o 3 he rfl e1 hd (fun H1 locs1 h1 h2 h3 => ?_)
  rw [hset] at h1 h2
  exact kk H1 locs1 lc ⟨h1, h2, gw_okS_su hR.2.2.1 hrg, hR.2.2.2⟩ h3 hL (gw_tl (gw_tl (gw_tl ho)))
theorem g_alen {o N ty : Nat} (fx : gw_FX X F G) (d : gw_dc F.2.1 pc .arraylength 1 pc') (hO : isO M o ty N) (hty : 20 ≤ ty ∧ ty ≤ 25) (hN : N < 2147483648) (kk : gw_W X F G Z kc ks M σ pc' ls (vI (N : Nat) :: st)) : gw_W X F G Z kc ks M σ pc ls (vR (some o) :: st) := by
  obtain ⟨hd, rfl⟩ := d
  intro H locs lc hR hS hL ho
  have h := kk H locs lc hR hS hL (gw_cons (show okI (N : Nat) by unfold okI; omega) (gw_tl ho))
  have e : Int32.ofNat N = Int32.ofInt (N : Nat) := by rw [Int32.ofInt_eq_ofNat]
  have hty' : ty = 20 ∨ ty = 21 ∨ ty = 22 ∨ ty = 23 ∨ ty = 24 ∨ ty = 25 := by omega
  rcases hty' with rfl | rfl | rfl | rfl | rfl | rfl
  · exact va_alen fx.exec fx.code fx.K hR.1 o 0 (by rw [gw_get hO.1, gw_enB hO.2]) rfl e hd h
  · exact va_alen fx.exec fx.code fx.K hR.1 o 1 (by rw [gw_get hO.1, gw_enI hO.2]) rfl e hd h
  · exact va_alen fx.exec fx.code fx.K hR.1 o 2 (by rw [gw_get hO.1, gw_enJ hO.2]) rfl e hd h
  · exact va_alen fx.exec fx.code fx.K hR.1 o 3 (by rw [gw_get hO.1, gw_enZ hO.2]) rfl e hd h
  · exact va_alen fx.exec fx.code fx.K hR.1 o 4 (by rw [gw_get hO.1, gw_enM hO.2]) rfl e hd h
  · exact va_alen fx.exec fx.code fx.K hR.1 o 5 (by rw [gw_get hO.1, gw_enT hO.2]) rfl e hd h
end GW
