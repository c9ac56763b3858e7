/-! MAKING, 2: references put; rows of references; constructors called; methods in worlds of which a part is made -/
theorem gw_en_ru {G : Gl} {n : Nat} {ad : Nat → Nat} {ρ : Rf} {σ : Sg} {o k : Nat} {t : Option Nat} {i : Nat} (h : i ≠ o) : gw_en G (n, ad, ru ρ o k t) σ i = gw_en G (n, ad, ρ) σ i := by
  have e : ∀ j, ru ρ o k t i j = ρ i j := fun j => by unfold ru; rw [if_neg (fun q => h q.1)]
  have h3 : gw_fv (n, ad, ru ρ o k t) σ (gw_sh i).1 i = gw_fv (n, ad, ρ) σ (gw_sh i).1 i := funext fun j => by
    unfold gw_fv
    show (if _ then va_rf ((ru ρ o k t i j).map ad) else _) = if _ then va_rf ((ρ i j).map ad) else _
    rw [e]
  have h4 : gw_rt (n, ad, ru ρ o k t) i = gw_rt (n, ad, ρ) i := funext fun j => by
    unfold gw_rt
    show (ru ρ o k t i j).map ad = (ρ i j).map ad
    rw [e]
  unfold gw_en
  rw [h3, h4]
theorem gw_setR {G : Gl} {n : Nat} {ad : Nat → Nat} {ρ : Rf} {σ : Sg} {o k : Nat} {t : Option Nat} {e : va_E} (he : gw_en G (n, ad, ru ρ o k t) σ o = e) : (gw_wl G (n, ad, ρ) σ).set o (ad o, e) = gw_wl G (n, ad, ru ρ o k t) σ := by
  apply List.ext_getElem?
  intro i
  unfold gw_wl
  simp only [List.getElem?_set, List.length_map, List.length_range, List.getElem?_map]
  by_cases hi : o = i
  · subst hi
    by_cases ho : o < n
    · simp [ho, he]
    · simp [ho]
  · rw [if_neg hi]
    by_cases hl : i < n
    · simp [hl, gw_en_ru (G := G) (n := n) (ad := ad) (ρ := ρ) (σ := σ) (k := k) (t := t) (fun q => hi q.symm)]
    · simp [hl]
theorem gw_okR_ru {n : Nat} {ad : Nat → Nat} {ρ : Rf} {o k t : Nat} (h : gw_okR (n, ad, ρ)) (ht : t < n) : gw_okR (n, ad, ru ρ o k (some t)) := by
  intro id hid j i hi
  change ru ρ o k (some t) id j = some i at hi
  unfold ru at hi
  by_cases q : id = o ∧ j = k
  · rw [if_pos q] at hi
    cases hi
    exact ht
  · rw [if_neg q] at hi
    exact h id hid j i hi
/-- the constant idx of class own, in its own constructor: the field k, a reference, final -/
def gw_pf (own : String) (idx ci k N : Nat) : Prop := ∃ (C : String) (T : u_T) (ty : Nat → FieldType), gw_ck ci C T N ty ∧ k < N ∧ Cond.fieldLink own idx (T k).1 (T k).2.1 (T k).2.2.1 ∈ wsG ∧ (T k).2.2.2 = true ∧ (T k).1 = own ∧ ((∃ n, ty k = .object n) ∨ ∃ e, ty k = .array e) ∧ gw_ft ci k = 1
section GW
variable {X : Cx} {F : Fr} {G : Gl} {Z : State → Prop} {kc ks : Nat} {σ : Sg} {pc pc' : Nat} {ls : List (Option AV)} {st : List AV}
variable {n : Nat} {ad : Nat → Nat} {ρ : Rf}
theorem g_putr {idx ci k N o t : Nat} (fx : gw_FX X F G) (hin : (cMe X).name = "<init>") (d : gw_dc F.2.1 pc (.putfield idx) 3 pc') (hf : gw_pf F.1 idx ci k N) (hO : isO (n, ad, ρ) o ci N) (kk : gw_W X F G Z kc ks (n, ad, ru ρ o k (some t)) σ pc' ls st) : gw_W X F G Z kc ks (n, ad, ρ) σ pc ls (vR (some t) :: vR (some o) :: st) := by
  obtain ⟨hd, rfl⟩ := d
  obtain ⟨C, T, ty, ⟨hc, hti, hty, hnm⟩, hk, hlink, hfin, hdecl, hobj, hft⟩ := hf
  intro H locs lc hR hS hL ho
  have hci := gw_ci hc
  have htn : t < n := gw_hd ho t rfl
  have he : (gw_wl G (n, ad, ρ) σ)[o]? = some (ad o, .inr (ci, (List.range N).map (gw_fv (n, ad, ρ) σ ci o))) := by rw [gw_get hO.1, gw_enO hci hO.2]
  have hset : (gw_wl G (n, ad, ρ) σ).set o (ad o, .inr (ci, ((List.range N).map (gw_fv (n, ad, ρ) σ ci o)).set k (.ref (ad t)))) = gw_wl G (n, ad, ru ρ o k (some t)) σ := by
    refine gw_setR ?_
    rw [gw_enO hci hO.2, gw_map_set (g := gw_fv (n, ad, ru ρ o k (some t)) σ ci o)]
    · unfold gw_fv
      rw [if_pos hft]
      show va_rf ((ru ρ o k (some t) o k).map ad) = _
      unfold ru
      rw [if_pos ⟨rfl, rfl⟩]; rfl
    · intro j hj
      have e : ru ρ o k (some t) o j = ρ o j := by unfold ru; rw [if_neg (fun q => hj q.2)]
      unfold gw_fv
      show (if _ then va_rf ((ru ρ o k (some t) o j).map ad) else _) = if _ then va_rf ((ρ o j).map ad) else _
      rw [e]
  have hn : narrow (ty k) (.ref (ad t)) = .ref (ad t) := by rcases hobj with ⟨_, e⟩ | ⟨_, e⟩ <;> rw [e] <;> rfl
  have hfit : fits (ty k) (.ref (ad t)) = true := by rcases hobj with ⟨_, e⟩ | ⟨_, e⟩ <;> rw [e] <;> rfl
  refine va_putF fx.exec fx.code fx.ts hti ty hty hnm fx.own fx.K hR.1 hR.2.1 hS o he hc k hk (fx.ts _ hlink) (fun _ h => h) hfin hin hdecl (hty k hk) hn hfit (by simpa using hk) hd (fun H1 locs1 h1 h2 h3 => ?_)
  have h1 : va_P (gD G) vwCl ((gw_wl G (n, ad, ρ) σ).set o (ad o, .inr (ci, ((List.range N).map (gw_fv (n, ad, ρ) σ ci o)).set k (.ref (ad t))))) H1 := h1
  have h2 : va_D (gA G) ((gw_wl G (n, ad, ρ) σ).set o (ad o, .inr (ci, ((List.range N).map (gw_fv (n, ad, ρ) σ ci o)).set k (.ref (ad t))))) := h2
  rw [hset] at h1 h2
  exact kk H1 locs1 lc ⟨h1, h2, hR.2.2.1, gw_okR_ru hR.2.2.2 htn⟩ h3 hL (gw_tl (gw_tl ho))
theorem g_aast {o N ty t ci Nf : Nat} {i : Int} (fx : gw_FX X F G) (d : gw_dc F.2.1 pc .aastore 1 pc') (hO : isO (n, ad, ρ) o ty N) (hty : (ty = 24 ∧ ci = 1 ∧ Nf = 16) ∨ (ty = 25 ∧ ci = 9 ∧ Nf = 3)) (hv : isO (n, ad, ρ) t ci Nf) (h0 : 0 ≤ i) (h1 : i < N) (kk : gw_W X F G Z kc ks (n, ad, ru ρ o i.toNat (some t)) σ pc' ls st) : gw_W X F G Z kc ks (n, ad, ρ) σ pc ls (vR (some t) :: vI i :: vR (some o) :: st) := by
  obtain ⟨hd, rfl⟩ := d
  intro H locs lc hR hS hL ho
  have htn : t < n := gw_hd ho t rfl
  obtain ⟨e1, e2⟩ := i_in h0 h1 (gw_hd (gw_tl ho))
  have hrow : gw_rt (n, ad, ru ρ o i.toNat (some t)) o = va_up (gw_rt (n, ad, ρ) o) i.toNat (some (ad t)) := by
    funext j
    unfold gw_rt va_up
    show (ru ρ o i.toNat (some t) o j).map ad = if j = i.toNat then some (ad t) else (ρ o j).map ad
    unfold ru
    by_cases q : j = i.toNat
    · rw [if_pos ⟨rfl, q⟩, if_pos q]; rfl
    · rw [if_neg (fun z => q z.2), if_neg q]
  rcases hty with ⟨rfl, rfl, rfl⟩ | ⟨rfl, rfl, rfl⟩
  · have he : (gw_wl G (n, ad, ρ) σ)[o]? = some (ad o, .inl (gca G 4, N, .inr (.inr (.inr (.inr (gw_rt (n, ad, ρ) o)))))) := by rw [gw_get hO.1, gw_enM hO.2]
    have hw : (gw_wl G (n, ad, ρ) σ)[t]? = some (ad t, .inr (1, (List.range 16).map (gw_fv (n, ad, ρ) σ 1 t))) := by rw [gw_get hv.1, gw_enO (by decide) hv.2]
    have hset : (gw_wl G (n, ad, ρ) σ).set o (ad o, .inl (gca G 4, N, .inr (.inr (.inr (.inr (va_up (gw_rt (n, ad, ρ) o) (Int32.ofInt i).toNatClampNeg (some (ad t)))))))) = gw_wl G (n, ad, ru ρ o i.toNat (some t)) σ := by
      refine gw_setR ?_
      rw [gw_enM hO.2, hrow, e2]
    refine va_astq (r := (RX1, TX1, 16)) fx.exec fx.code fx.K hR.1 hR.2.1 hS o 4 t 1 he rfl hw rfl e1 hd (fun H1 locs1 h1 h2 h3 => ?_)
    rw [hset] at h1 h2
    exact kk H1 locs1 lc ⟨h1, h2, hR.2.2.1, gw_okR_ru hR.2.2.2 htn⟩ h3 hL (gw_tl (gw_tl (gw_tl ho)))
  · have he : (gw_wl G (n, ad, ρ) σ)[o]? = some (ad o, .inl (gca G 5, N, .inr (.inr (.inr (.inr (gw_rt (n, ad, ρ) o)))))) := by rw [gw_get hO.1, gw_enT hO.2]
    have hw : (gw_wl G (n, ad, ρ) σ)[t]? = some (ad t, .inr (9, (List.range 3).map (gw_fv (n, ad, ρ) σ 9 t))) := by rw [gw_get hv.1, gw_enO (by decide) hv.2]
    have hset : (gw_wl G (n, ad, ρ) σ).set o (ad o, .inl (gca G 5, N, .inr (.inr (.inr (.inr (va_up (gw_rt (n, ad, ρ) o) (Int32.ofInt i).toNatClampNeg (some (ad t)))))))) = gw_wl G (n, ad, ru ρ o i.toNat (some t)) σ := by
      refine gw_setR ?_
      rw [gw_enT hO.2, hrow, e2]
    refine va_astq (r := (RX9, TX9, 3)) fx.exec fx.code fx.K hR.1 hR.2.1 hS o 5 t 9 he rfl hw rfl e1 hd (fun H1 locs1 h1 h2 h3 => ?_)
    rw [hset] at h1 h2
    exact kk H1 locs1 lc ⟨h1, h2, hR.2.2.1, gw_okR_ru hR.2.2.2 htn⟩ h3 hL (gw_tl (gw_tl (gw_tl ho)))
theorem gw_rt0 {m : Nat} {ad' : Nat → Nat} (hr : ∀ j, ρ n j = none) : gw_rt (m, ad', ρ) n = fun _ => none := by
  funext j
  unfold gw_rt
  show (ρ n j).map ad' = none
  rw [hr]; rfl
theorem g_newQ {idx L ty : Nat} {C : String} {z : Int} (fx : gw_FX X F G) (d : gw_dc F.2.1 pc (.anewarray idx) 3 pc') (hC : (ty = 24 ∧ C = "LightestSack$Mill") ∨ (ty = 25 ∧ C = "LightestSack$Tray")) (hw : Cond.classLink F.1 idx C ∈ wsG) (hsh : gw_sh n = (ty, L)) (hz0 : z = ((L : Nat) : Int)) (hL9 : L ≤ 100000) (hz : ∀ j, σ n j = 0) (hr : ∀ j, ρ n j = none) (hk : kc + 1 ≤ F.2.2.2.2.2.1 ∧ ks + L ≤ F.2.2.2.2.2.2)
    (kk : ∀ ad', adL n ad (n + 1) ad' → gw_W X F G Z (kc + 1) (ks + L) (n + 1, ad', ρ) σ pc' ls (vR (some n) :: st)) : gw_W X F G Z kc ks (n, ad, ρ) σ pc ls (vI z :: st) := by
  obtain ⟨hd, rfl⟩ := d
  subst hz0
  intro H locs lc hR hS hL ho
  obtain ⟨-, -, r1, r2⟩ := fx.room
  obtain ⟨n1, n2⟩ := gw_nin (z := ((L : Nat) : Int)) (by omega) (by omega)
  have hrg : ∀ j, gw_rg (gw_sh n).1 (σ n j) := fun j => by
    rw [hsh, hz]
    unfold gw_rg
    rw [if_neg (by dsimp only; omega), if_neg (by dsimp only; omega)]
    exact ok_0
  rcases hC with ⟨rfl, rfl⟩ | ⟨rfl, rfl⟩
  · refine va_newq (N' := L) fx.exec fx.code fx.own (fx.ts _ hw) fx.ex.2.2.2.2.2.2.1 fx.K hR.1 hR.2.1 hS fx.A n1 (by rw [n2]; rfl) (by omega) (Nat.le_trans hk.1 r1) (Nat.le_trans hk.2 r2) hd (fun q cA H1 hK1 h1 h2 h3 => ?_)
    have ec := gw_cA fx.K (k := 4) rfl hK1
    subst ec
    have een : gw_en G (n + 1, ad1 ad n q, ρ) σ n = .inl (gca G 4, L, .inr (.inr (.inr (.inr (fun _ => none))))) := by rw [gw_enM hsh, gw_rt0 hr]
    rw [← een] at h1 h2
    exact gw_more fx hR hr hrg hL (gw_tl ho) kk h1 h2 h3
  · refine va_newq (N' := L) fx.exec fx.code fx.own (fx.ts _ hw) fx.ex.2.2.2.2.2.2.2.1 fx.K hR.1 hR.2.1 hS fx.A n1 (by rw [n2]; rfl) (by omega) (Nat.le_trans hk.1 r1) (Nat.le_trans hk.2 r2) hd (fun q cA H1 hK1 h1 h2 h3 => ?_)
    have ec := gw_cA fx.K (k := 5) rfl hK1
    subst ec
    have een : gw_en G (n + 1, ad1 ad n q, ρ) σ n = .inl (gca G 5, L, .inr (.inr (.inr (.inr (fun _ => none))))) := by rw [gw_enT hsh, gw_rt0 hr]
    rw [← een] at h1 h2
    exact gw_more fx hR hr hrg hL (gw_tl ho) kk h1 h2 h3
/-- a constructor called on what was just made -/
theorem g_ctor {idx na d' mc ms nL K n' : Nat} {y : MethodName} {cc : ByteArray} {as st0 : List AV} {σ' : Sg} (fx : gw_FX X F G) (d : gw_dc F.2.1 pc (.invokespecial idx) 3 pc') (hl : gw_mi F.1 idx y) (hm : gw_my y cc nL none na)
    (hs : ∀ ρ : Rf, gw_Sp y cc nL none d' mc ms (vR (some n) :: as) (n + 1, ad, rM ρ n [] (n + 1)) σ (gw_Cn n K ρ σ') gw_no) (hρ : ∀ i, n ≤ i → ∀ j, ρ i j = none) (hn' : n + K = n') (hst : st0 = as.reverse ++ vR (some n) :: st) (hn : as.length = na) (hw : gw_wt st ≤ 8) (hd : d' + 1 ≤ F.2.2.2.2.1) (hk : kc + mc ≤ F.2.2.2.2.2.1 ∧ ks + ms ≤ F.2.2.2.2.2.2)
    (kk : ∀ ad', adL (n + 1) ad n' ad' → gw_W X F G Z (kc + mc) (ks + ms) (n', ad', rF ρ n n') σ' pc' ls st) : gw_W X F G Z kc ks (n + 1, ad, ρ) σ pc ls st0 := by
  subst hn'
  have e : rM ρ n [] (n + 1) = ρ := by
    funext i j
    unfold rM
    by_cases q : i < n
    · rw [if_pos q]
    · rw [if_neg q, hρ i (by omega) j, if_neg (show ¬ j ∈ [] from List.not_mem_nil)]
      by_cases q2 : i = n
      · rw [if_pos q2]
      · rw [if_neg q2, if_neg (by omega)]
  have hs' := hs ρ
  rw [e] at hs'
  refine g_callI fx d hl hm hs' hst hn hw hd hk (fun _ h => h.elim) (fun r M' s' hq hle => ?_)
  obtain ⟨rfl, ⟨ad', rfl⟩, rfl⟩ := hq
  exact kk ad' hle
end GW
set_option maxRecDepth 4000 in
theorem s_X4_putP (M : Mem) (σ : Sg) {o c n : Nat} (hO : isO M o 4 1) (hf : M.2.2 o 0 = some c) (hc : isO M c 21 n) (hn : n ≤ 480) (i v : Int) : gw_Sp yX4_put cX4_put 3 none 1 0 0 [vR (some o), vI i, vI v] M σ (gw_D none M (rPut σ c n i v)) gw_no := by
  refine gw_Sp.of [some (vR (some o)), some (vI i), some (vI v)] (by decide +kernel) rfl (Nat.le_of_ble_eq_true rfl) ?_
  intro X G fx het hnm
  refine g_iload_n fx dX4_put_0 rfl ?_
  refine g_if_lt (tgt := 20) fx dX4_put_1 (by decide) (fun h1 => ?_) (fun h1 => ?_)
  · exact g_vret fx rfl dX4_put_20 (by decide) (by decide) (gw_le.rf _) ⟨rfl, rfl, by unfold rPut; first | rw [if_pos (by omega)] | rw [if_neg (by omega)]⟩
  · refine g_iload_n fx dX4_put_4 rfl ?_
    refine g_aload_n fx dX4_put_5 rfl ?_
    refine g_getr fx dX4_put_6 fk_RX4_9 hO hf ?_
    refine g_alen fx dX4_put_9 hc (by decide) (by omega) ?_
    refine g_icmp_ge (tgt := 20) fx dX4_put_10 (by decide) (fun h10 => ?_) (fun h10 => ?_)
    · exact g_vret fx rfl dX4_put_20 (by decide) (by decide) (gw_le.rf _) ⟨rfl, rfl, by unfold rPut; first | rw [if_pos (by omega)] | rw [if_neg (by omega)]⟩
    · refine g_aload_n fx dX4_put_13 rfl ?_
      refine g_getr fx dX4_put_14 fk_RX4_9 hO hf ?_
      refine g_iload_n fx dX4_put_17 rfl ?_
      refine g_iload_n fx dX4_put_18 rfl ?_
      refine g_iast fx dX4_put_19 hc (by omega) (by omega) ?_
      exact g_vret fx rfl dX4_put_20 (by decide) (by decide) (gw_le.rf _) ⟨rfl, rfl, by unfold rPut; first | rw [if_pos (by omega)] | rw [if_neg (by omega)]⟩
set_option maxRecDepth 4000 in
theorem s_X0_addP (M : Mem) (σ : Sg) {w : Nat} (h0 : isO M w 0 3) (hf : M.2.2 w 0 = some (w + 1)) (h4 : isO M (w + 1) 4 1) (hf4 : M.2.2 (w + 1) 0 = some (w + 2)) (hc : isO M (w + 2) 21 8) (key : Int) : gw_Sp yX0_add cX0_add 2 none 2 0 0 [vR (some w), vI key] M σ (gw_D none M (lAdd σ w key)) gw_no := by
  refine gw_Sp.of [some (vR (some w)), some (vI key)] (by decide +kernel) rfl (Nat.le_of_ble_eq_true rfl) ?_
  intro X G fx het hnm
  refine g_aload_n fx dX0_add_0 rfl ?_
  refine g_getr fx dX0_add_1 fk_RX0_14 h0 hf ?_
  refine g_aload_n fx dX0_add_4 rfl ?_
  refine g_geti fx dX0_add_5 fk_RX0_23 (by decide) h0 ?_
  refine g_iload_n fx dX0_add_8 rfl ?_
  refine g_callVD0 fx dX0_add_9 mv_RX0_33 my_X4_put (s_X4_putP M _ h4 hf4 hc (by decide) _ _) h4 rfl rfl rfl (Nat.le_of_ble_eq_true rfl) (by decide) (by decide) ?_
  refine g_aload_n fx dX0_add_12 rfl ?_
  refine g_dup fx dX0_add_13 rfl ?_
  refine g_geti fx dX0_add_14 fk_RX0_23 (by decide) h0 ?_
  refine g_iconst fx dX0_add_17 (by unfold okI; omega) ?_
  refine g_iadd fx dX0_add_18 ?_
  refine g_puti fx dX0_add_19 fk_RX0_23 h0 ?_
  exact g_vret fx rfl dX0_add_22 (by decide) (by decide) (gw_le.rf _) ⟨rfl, rfl, rfl⟩
set_option maxRecDepth 4000 in
theorem s_X0_setOneP (M : Mem) (σ : Sg) {w : Nat} (h0 : isO M w 0 3) (hf : M.2.2 w 0 = some (w + 1)) (h4 : isO M (w + 1) 4 1) (hf4 : M.2.2 (w + 1) 0 = some (w + 2)) (hc : isO M (w + 2) 21 8) (key : Int) : gw_Sp yX0_setOne cX0_setOne 2 none 3 0 0 [vR (some w), vI key] M σ (gw_D none M (lAdd (su σ w 1 0) w key)) gw_no := by
  refine gw_Sp.of [some (vR (some w)), some (vI key)] (by decide +kernel) rfl (Nat.le_of_ble_eq_true rfl) ?_
  intro X G fx het hnm
  refine g_aload_n fx dX0_setOne_0 rfl ?_
  refine g_iconst fx dX0_setOne_1 (by unfold okI; omega) ?_
  refine g_puti fx dX0_setOne_2 fk_RX0_23 h0 ?_
  refine g_aload_n fx dX0_setOne_5 rfl ?_
  refine g_iload_n fx dX0_setOne_6 rfl ?_
  refine g_callVD0 fx dX0_setOne_7 mv_RX0_30 my_X0_add (s_X0_addP M _ h0 hf h4 hf4 hc _) h0 rfl rfl rfl (Nat.le_of_ble_eq_true rfl) (by decide) (by decide) ?_
  exact g_vret fx rfl dX0_setOne_10 (by decide) (by decide) (gw_le.rf _) ⟨rfl, rfl, rfl⟩
set_option maxRecDepth 4000 in
theorem s_X1_addStoneP (M : Mem) (σ : Sg) {m : Nat} (h1 : isO M m 1 16) (hf : M.2.2 m 7 = some (m + 4)) (h4 : isO M (m + 4) 4 1) (hf4 : M.2.2 (m + 4) 0 = some (m + 5)) (hc : isO M (m + 5) 21 3) (pace : Int) : gw_Sp yX1_addStone cX1_addStone 2 none 2 0 0 [vR (some m), vI pace] M σ (gw_D none M (mStone σ m pace)) gw_no := by
  refine gw_Sp.of [some (vR (some m)), some (vI pace)] (by decide +kernel) rfl (Nat.le_of_ble_eq_true rfl) ?_
  intro X G fx het hnm
  refine g_aload_n fx dX1_addStone_0 rfl ?_
  refine g_getr fx dX1_addStone_1 fk_RX1_23 h1 hf ?_
  refine g_aload_n fx dX1_addStone_4 rfl ?_
  refine g_geti fx dX1_addStone_5 fk_RX1_55 (by decide) h1 ?_
  refine g_iload_n fx dX1_addStone_8 rfl ?_
  refine g_callVD0 fx dX1_addStone_9 mv_RX1_67 my_X4_put (s_X4_putP M _ h4 hf4 hc (by decide) _ _) h4 rfl rfl rfl (Nat.le_of_ble_eq_true rfl) (by decide) (by decide) ?_
  refine g_aload_n fx dX1_addStone_12 rfl ?_
  refine g_dup fx dX1_addStone_13 rfl ?_
  refine g_geti fx dX1_addStone_14 fk_RX1_55 (by decide) h1 ?_
  refine g_iconst fx dX1_addStone_17 (by unfold okI; omega) ?_
  refine g_iadd fx dX1_addStone_18 ?_
  refine g_puti fx dX1_addStone_19 fk_RX1_55 h1 ?_
  exact g_vret fx rfl dX1_addStone_22 (by decide) (by decide) (gw_le.rf _) ⟨rfl, rfl, rfl⟩
set_option maxRecDepth 4000 in
theorem s_X1_standP (M : Mem) (σ : Sg) {m : Nat} (h1 : isO M m 1 16) (hf : M.2.2 m 7 = some (m + 4)) (h4 : isO M (m + 4) 4 1) (hf4 : M.2.2 (m + 4) 0 = some (m + 5)) (hc : isO M (m + 5) 21 3) : gw_Sp yX1_standAtLeastOneStone cX1_standAtLeastOneStone 1 none 3 0 0 [vR (some m)] M σ (gw_D none M (mStand σ m)) gw_no := by
  refine gw_Sp.of [some (vR (some m))] (by decide +kernel) rfl (Nat.le_of_ble_eq_true rfl) ?_
  intro X G fx het hnm
  refine g_aload_n fx dX1_standAtLeastOneStone_0 rfl ?_
  refine g_geti fx dX1_standAtLeastOneStone_1 fk_RX1_55 (by decide) h1 ?_
  refine g_if_ne (tgt := 12) fx dX1_standAtLeastOneStone_4 (by decide) (fun h4 => ?_) (fun h4 => ?_)
  · exact g_vret fx rfl dX1_standAtLeastOneStone_12 (by decide) (by decide) (gw_le.rf _) ⟨rfl, rfl, by rw [mStand]; (repeat first | rw [if_pos (by omega)] | rw [if_neg (by omega)]) <;> rfl⟩
  · refine g_aload_n fx dX1_standAtLeastOneStone_7 rfl ?_
    refine g_iconst fx dX1_standAtLeastOneStone_8 (by unfold okI; omega) ?_
    refine g_callVD0 fx dX1_standAtLeastOneStone_9 mv_RX1_71 my_X1_addStone (s_X1_addStoneP M _ h1 hf (by assumption) hf4 hc _) h1 rfl rfl rfl (Nat.le_of_ble_eq_true rfl) (by decide) (by decide) ?_
    exact g_vret fx rfl dX1_standAtLeastOneStone_12 (by decide) (by decide) (gw_le.rf _) ⟨rfl, rfl, by rw [mStand]; (repeat first | rw [if_pos (by omega)] | rw [if_neg (by omega)]) <;> rfl⟩
