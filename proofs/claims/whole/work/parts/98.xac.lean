/-! MAKING, 3: the rules while one object is being made -/
theorem rM_top {ρ : Rf} {o n : Nat} {L : List Nat} (ho : o < n) : ∀ i, n ≤ i → ∀ j, rM ρ o L n i j = none := fun i hi j => by
  unfold rM
  rw [if_neg (by omega), if_neg (by omega), if_neg (by omega)]
theorem rM_at {ρ : Rf} {o n k t : Nat} {L : List Nat} (hk : k ∈ L) (h : gw_rh o k = some t) : rM ρ o L n o k = some t := by
  unfold rM
  rw [if_neg (Nat.lt_irrefl _), if_pos rfl, if_pos hk, h]
theorem rM_sb {ρ : Rf} {o n i k : Nat} {q : Option Nat} {L : List Nat} (h1 : o < i) (h2 : i < n) (h : gw_rh i k = q) : rM ρ o L n i k = q := by
  unfold rM
  rw [if_neg (by omega), if_neg (by omega), if_pos h2, h]
section GW
variable {X : Cx} {F : Fr} {G : Gl} {Z : State → Prop} {kc ks kc' ks' : Nat} {σ : Sg} {pc pc' : Nat} {ls : List (Option AV)} {st : List AV}
variable {n n' o : Nat} {ad : Nat → Nat} {ρ : Rf} {L : List Nat}
theorem g_newN {idx ci N : Nat} {C : String} {T : u_T} {ty : Nat → FieldType} (fx : gw_FX X F G) (d : gw_dc F.2.1 pc (.new idx) 3 pc') (hck : gw_ck ci C T N ty) (hcl : Cond.classLink F.1 idx C ∈ wsG) (hinst : Cond.instantiable C N ∈ wsG) (hini : Cond.initialized C ∈ wsG) (hdf : ∀ j, j < N → defaultValue (ty j) = if gw_ft ci j = 1 then Value.null else .int 0) (hsh : gw_sh n = (ci, N)) (hz : ∀ j, σ n j = 0) (ho : o < n) (he : kc + 1 = kc' ∧ ks + N = ks') (hk : kc' ≤ F.2.2.2.2.2.1 ∧ ks' ≤ F.2.2.2.2.2.2)
    (kk : ∀ ad', adL n ad (n + 1) ad' → gw_W X F G Z kc' ks' (n + 1, ad', rM ρ o L n) σ pc' ls (vR (some n) :: st)) : gw_W X F G Z kc ks (n, ad, rM ρ o L n) σ pc ls st := by
  obtain ⟨rfl, rfl⟩ := he
  exact g_new fx d hck hcl hinst hini hdf hsh hz (rM_top ho n (Nat.le_refl _)) hk kk
theorem g_newIN {Ln : Nat} {z : Int} (fx : gw_FX X F G) (d : gw_dc F.2.1 pc (.newarray .int) 2 pc') (hw : Cond.arrayClass .int ∈ wsG) (hsh : gw_sh n = (21, Ln)) (hz0 : z = ((Ln : Nat) : Int)) (hL9 : Ln ≤ 100000) (hz : ∀ j, σ n j = 0) (ho : o < n) (hno : ∀ j, gw_rh n j = none) (hn' : n + 1 = n') (he : kc + 1 = kc' ∧ ks + Ln = ks') (hk : kc' ≤ F.2.2.2.2.2.1 ∧ ks' ≤ F.2.2.2.2.2.2)
    (kk : ∀ ad', adL n ad n' ad' → gw_W X F G Z kc' ks' (n', ad', rM ρ o L n') σ pc' ls (vR (some n) :: st)) : gw_W X F G Z kc ks (n, ad, rM ρ o L n) σ pc ls (vI z :: st) := by
  obtain ⟨rfl, rfl⟩ := he
  subst hn'
  refine g_newI fx d hw hsh hz0 hL9 hz (rM_top ho n (Nat.le_refl _)) hk (fun ad' h => ?_)
  rw [rM_arr hno]
  exact kk ad' h
theorem g_newBN {Ln : Nat} {z : Int} (fx : gw_FX X F G) (d : gw_dc F.2.1 pc (.newarray .byte) 2 pc') (hw : Cond.arrayClass .byte ∈ wsG) (hsh : gw_sh n = (20, Ln)) (hz0 : z = ((Ln : Nat) : Int)) (hL9 : Ln ≤ 100000) (hz : ∀ j, σ n j = 0) (ho : o < n) (hno : ∀ j, gw_rh n j = none) (hn' : n + 1 = n') (he : kc + 1 = kc' ∧ ks + Ln = ks') (hk : kc' ≤ F.2.2.2.2.2.1 ∧ ks' ≤ F.2.2.2.2.2.2)
    (kk : ∀ ad', adL n ad n' ad' → gw_W X F G Z kc' ks' (n', ad', rM ρ o L n') σ pc' ls (vR (some n) :: st)) : gw_W X F G Z kc ks (n, ad, rM ρ o L n) σ pc ls (vI z :: st) := by
  obtain ⟨rfl, rfl⟩ := he
  subst hn'
  refine g_newB fx d hw hsh hz0 hL9 hz (rM_top ho n (Nat.le_refl _)) hk (fun ad' h => ?_)
  rw [rM_arr hno]
  exact kk ad' h
theorem g_newZN {Ln : Nat} {z : Int} (fx : gw_FX X F G) (d : gw_dc F.2.1 pc (.newarray .boolean) 2 pc') (hw : Cond.arrayClass .boolean ∈ wsG) (hsh : gw_sh n = (23, Ln)) (hz0 : z = ((Ln : Nat) : Int)) (hL9 : Ln ≤ 100000) (hz : ∀ j, σ n j = 0) (ho : o < n) (hno : ∀ j, gw_rh n j = none) (hn' : n + 1 = n') (he : kc + 1 = kc' ∧ ks + Ln = ks') (hk : kc' ≤ F.2.2.2.2.2.1 ∧ ks' ≤ F.2.2.2.2.2.2)
    (kk : ∀ ad', adL n ad n' ad' → gw_W X F G Z kc' ks' (n', ad', rM ρ o L n') σ pc' ls (vR (some n) :: st)) : gw_W X F G Z kc ks (n, ad, rM ρ o L n) σ pc ls (vI z :: st) := by
  obtain ⟨rfl, rfl⟩ := he
  subst hn'
  refine g_newZ fx d hw hsh hz0 hL9 hz (rM_top ho n (Nat.le_refl _)) hk (fun ad' h => ?_)
  rw [rM_arr hno]
  exact kk ad' h
theorem g_newJN {Ln : Nat} {z : Int} (fx : gw_FX X F G) (d : gw_dc F.2.1 pc (.newarray .long) 2 pc') (hw : Cond.arrayClass .long ∈ wsG) (hsh : gw_sh n = (22, Ln)) (hz0 : z = ((Ln : Nat) : Int)) (hL9 : Ln ≤ 100000) (hz : ∀ j, σ n j = 0) (ho : o < n) (hno : ∀ j, gw_rh n j = none) (hn' : n + 1 = n') (he : kc + 1 = kc' ∧ ks + Ln = ks') (hk : kc' ≤ F.2.2.2.2.2.1 ∧ ks' ≤ F.2.2.2.2.2.2)
    (kk : ∀ ad', adL n ad n' ad' → gw_W X F G Z kc' ks' (n', ad', rM ρ o L n') σ pc' ls (vR (some n) :: st)) : gw_W X F G Z kc ks (n, ad, rM ρ o L n) σ pc ls (vI z :: st) := by
  obtain ⟨rfl, rfl⟩ := he
  subst hn'
  refine g_newJ fx d hw hsh hz0 hL9 hz (rM_top ho n (Nat.le_refl _)) hk (fun ad' h => ?_)
  rw [rM_arr hno]
  exact kk ad' h
theorem g_putN {idx ci k N t : Nat} (fx : gw_FX X F G) (hin : (cMe X).name = "<init>") (d : gw_dc F.2.1 pc (.putfield idx) 3 pc') (hf : gw_pf F.1 idx ci k N) (ho : o < n) (hsh : gw_sh o = (ci, N)) (hrh : gw_rh o k = some t) (kk : gw_W X F G Z kc ks (n, ad, rM ρ o (k :: L) n) σ pc' ls st) : gw_W X F G Z kc ks (n, ad, rM ρ o L n) σ pc ls (vR (some t) :: vR (some o) :: st) := by
  refine g_putr fx hin d hf ⟨ho, hsh⟩ ?_
  rw [rM_put hrh]
  exact kk
theorem g_ctorN {idx na d' mc ms nL K : Nat} {y : MethodName} {cc : ByteArray} {as st0 : List AV} {σ' : Sg} (fx : gw_FX X F G) (d : gw_dc F.2.1 pc (.invokespecial idx) 3 pc') (hl : gw_mi F.1 idx y) (hm : gw_my y cc nL none na)
    (hs : ∀ (ad : Nat → Nat) (ρ : Rf), gw_Sp y cc nL none d' mc ms (vR (some n) :: as) (n + 1, ad, rM ρ n [] (n + 1)) σ (gw_Cn n K ρ σ') gw_no) (ho : o < n) (hn' : n + K = n') (hst : st0 = as.reverse ++ vR (some n) :: st) (hn : as.length = na) (hw : gw_wt st ≤ 8) (hd : d' + 1 ≤ F.2.2.2.2.1) (he : kc + mc = kc' ∧ ks + ms = ks') (hk : kc' ≤ F.2.2.2.2.2.1 ∧ ks' ≤ F.2.2.2.2.2.2)
    (kk : ∀ ad', adL (n + 1) ad n' ad' → gw_W X F G Z kc' ks' (n', ad', rM ρ o L n') σ' pc' ls st) : gw_W X F G Z kc ks (n + 1, ad, rM ρ o L n) σ pc ls st0 := by
  obtain ⟨rfl, rfl⟩ := he
  refine g_ctor fx d hl hm (hs ad) (rM_top ho) hn' hst hn hw hd hk (fun ad' h => ?_)
  subst hn'
  rw [rM_out ho]
  exact kk ad' h
end GW
theorem df_0 : ∀ j, j < 3 → defaultValue (tyX0 j) = if gw_ft 0 j = 1 then Value.null else .int 0 := by decide +kernel
theorem df_1 : ∀ j, j < 16 → defaultValue (tyX1 j) = if gw_ft 1 j = 1 then Value.null else .int 0 := by decide +kernel
theorem df_2 : ∀ j, j < 8 → defaultValue (tyX2 j) = if gw_ft 2 j = 1 then Value.null else .int 0 := by decide +kernel
theorem df_3 : ∀ j, j < 8 → defaultValue (tyX3 j) = if gw_ft 3 j = 1 then Value.null else .int 0 := by decide +kernel
theorem df_4 : ∀ j, j < 1 → defaultValue (tyX4 j) = if gw_ft 4 j = 1 then Value.null else .int 0 := by decide +kernel
theorem df_5 : ∀ j, j < 15 → defaultValue (tyX5 j) = if gw_ft 5 j = 1 then Value.null else .int 0 := by decide +kernel
theorem df_6 : ∀ j, j < 10 → defaultValue (tyX6 j) = if gw_ft 6 j = 1 then Value.null else .int 0 := by decide +kernel
theorem df_7 : ∀ j, j < 2 → defaultValue (tyX7 j) = if gw_ft 7 j = 1 then Value.null else .int 0 := by decide +kernel
theorem df_8 : ∀ j, j < 2 → defaultValue (tyX8 j) = if gw_ft 8 j = 1 then Value.null else .int 0 := by decide +kernel
theorem df_9 : ∀ j, j < 3 → defaultValue (tyX9 j) = if gw_ft 9 j = 1 then Value.null else .int 0 := by decide +kernel
theorem df_10 : ∀ j, j < 14 → defaultValue (tyX10 j) = if gw_ft 10 j = 1 then Value.null else .int 0 := by decide +kernel
theorem df_11 : ∀ j, j < 42 → defaultValue (tyX11 j) = if gw_ft 11 j = 1 then Value.null else .int 0 := by decide +kernel
