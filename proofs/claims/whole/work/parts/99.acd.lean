/-! THE LAW, 8: its frame, its script, how a row of it ends -/
abbrev FL : Fr := (RL, cL_law_, 8, ret, 20, 601024, 7293034)
abbrev lsL (i : Nat) (a b c : Option AV) : List (Option AV) := [some (vX 300), some (vR (some 0)), some (vR (some 223)), some (vR (some 248)), some (vI ((i : Nat) : Int)), a, b, c]
/-- the script lies outside of what is written -/
def gw_SC (X : Cx) (G : Gl) (L : Nat) (xs : Nat → Int32) : Prop := L ≤ 3072 ∧ gex G 300 < (cS X).heap.size ∧ ¬ gA G (gex G 300) ∧ va_X (gex G 300) L xs (cS X) (cS X).heap
theorem toI_ok (i : Int32) : okI i.toInt := by
  have h1 := Int32.le_toInt i
  have h2 := Int32.toInt_lt i
  unfold okI; omega
def gw_ag (cc : ByteArray) (p : Nat) (k : Nat) : Prop := gw_dc cc p (.aload_n 0) 1 (p + 1) ∧ gw_dc cc (p + 1) (.iload 4) 2 (p + 3) ∧ gw_dc cc (p + 3) (.iconst ((k : Nat) : Int)) 1 (p + 4) ∧ gw_dc cc (p + 4) .iadd 1 (p + 5) ∧ gw_dc cc (p + 5) .iaload 1 (p + 6)
section LW
variable {X : Cx} {G : Gl} {L : Nat} {xs : Nat → Int32} {Z : State → Prop} {kc ks : Nat} {M : Mem} {σ : Sg} {pc pc' i : Nat} {a b c : Option AV} {st : List AV} {F : Fr} {ls : List (Option AV)}
theorem g_sld {n : Nat} {z : Int} (fx : gw_FX X F G) (sc : gw_SC X G L xs) (d : gw_dc F.2.1 pc .iaload 1 pc') (hz : z = ((n : Nat) : Int)) (hn : n < L) (kk : gw_W X F G Z kc ks M σ pc' ls (vI (xs n).toInt :: st)) : gw_W X F G Z kc ks M σ pc ls (vI z :: vX 300 :: st) := by
  obtain ⟨hd, rfl⟩ := d
  obtain ⟨h1, h2, h3, h4⟩ := sc
  subst hz
  intro H locs lc hR hS hL ho
  obtain ⟨e1, e2⟩ := i_in (i := ((n : Nat) : Int)) (n := L) (by omega) (by omega) (gw_hd ho)
  refine va_sld fx.exec fx.code h4 h2 h3 hS e1 hd ?_
  have h := kk H locs lc hR hS hL (gw_cons (v := vI (xs n).toInt) (toI_ok _) (gw_tl (gw_tl ho)))
  have e3 : Int32.ofInt (xs n).toInt = xs n := of_toI _
  simp only [List.map_cons, gw_cv, e3] at h
  rw [e2]; exact h
theorem g_slen {pc pc' : Nat} (fx : gw_FX X F G) (sc : gw_SC X G L xs) (d : gw_dc F.2.1 pc .arraylength 1 pc') (kk : gw_W X F G Z kc ks M σ pc' ls (vI ((L : Nat) : Int) :: st)) : gw_W X F G Z kc ks M σ pc ls (vX 300 :: st) := by
  obtain ⟨hd, rfl⟩ := d
  obtain ⟨h1, h2, h3, h4⟩ := sc
  intro H locs lc hR hS hL ho
  refine va_slen fx.exec fx.code h4 h2 h3 hS hd ?_
  have h := kk H locs lc hR hS hL (gw_cons (v := vI ((L : Nat) : Int)) (show okI _ by unfold okI; omega) (gw_tl ho))
  simp only [List.map_cons, gw_cv] at h
  rw [← Int32.ofInt_eq_ofNat]; exact h
theorem g_arg (k : Nat) (fx : gw_FX X FL G) (sc : gw_SC X G L xs) (d : gw_ag cL_law_ pc k) (hk : k ≤ 5) (hi : i + 6 ≤ L) (kk : gw_W X FL G Z kc ks M σ (pc + 6) (lsL i a b c) (vI (xs (i + k)).toInt :: st)) : gw_W X FL G Z kc ks M σ pc (lsL i a b c) st := by
  obtain ⟨d1, d2, d3, d4, d5⟩ := d
  have hL := sc.1
  refine g_xload_n fx d1 rfl ?_
  refine g_iload fx d2 rfl ?_
  refine g_iconst fx d3 (by unfold okI; omega) ?_
  refine g_iadd1 fx d4 (by unfold okI; omega) ?_
  exact g_sld (n := i + k) fx sc d5 (by omega) (by omega) kk
end LW
/-! one step of both -/
section ST
variable {s z t : Sg} {es : List String} {g : Option String} {zv nv : Int}
theorem Al.mem (h : Al g es zv nv z s t) : ∀ E, g = some E → E ∈ es := by
  intro E hE
  rcases h with ⟨h0, -⟩ | ⟨i, E', h0, h1, -⟩
  · rw [h0] at hE; cases hE
  · rw [h0] at hE; cases hE; exact List.mem_of_getElem? h1
theorem Rel.out (hR : Rel s s) (hz : Oz s z) (v : Int) : Rel s (su z 248 0 v) := hR.ft' (fun a h1 h2 j => (su_ne _ _ (Or.inl (by omega))).trans (hz a h1 j))
theorem Rel.oz (hR : Rel s s) (hz : Oz s z) : Rel s z := hR.ft' (fun a h1 _ j => hz a h1 j)
/-- both answered -/
theorem Al.fin {t1 : Sg} (h : Al none es zv nv z s t) (hn : On t1 t) (h1 : ∀ a, a < 223 → ∀ j, t1 a j = z a j) : t 223 5 = 0 ∧ zv = nv ∧ Rel t t := by
  rcases h with ⟨-, h5, hv, hR⟩ | ⟨i, E, h0, -⟩
  · exact ⟨h5, hv, hR.fz' (fun a ha j => (hn a (Or.inl ha) j).trans (h1 a ha j))⟩
  · cases h0
theorem Al.fin8 {v : Int} (h : Al none es v nv z s t) (hn : On (su z 248 0 v) t) : t 223 5 = 0 ∧ t 248 0 = nv ∧ Rel t t := by
  obtain ⟨h1, h2, h3⟩ := h.fin hn (fun a ha j => su_ne _ _ (Or.inl (by omega)))
  exact ⟨h1, by rw [hn 248 (Or.inr (by decide)) 0, su_same]; exact h2, h3⟩
/-- both threw -/
theorem Al.thr {E : String} {j : Nat} (h : Al g es zv nv z s t) (hg : g = some E) (hj : es[j]? = some E) (hd : es.Nodup) (hn : On s t) : t 223 5 = ((j : Nat) : Int) + 1 ∧ Rel t t := by
  rcases h with ⟨h0, -⟩ | ⟨i, E', h0, h1, h5, hR⟩
  · rw [h0] at hg; cases hg
  · rw [h0] at hg
    cases hg
    have : i = j := (List.getElem?_inj (List.getElem?_eq_some_iff.mp h1).1 hd).mp (h1.trans hj.symm)
    subst this
    exact ⟨h5, hR.fz' (fun a ha j => hn a (Or.inl ha) j)⟩
end ST
/-- the rows behind the model's answer: stored, 'thrown', compared -/
def gw_t1 (cc : ByteArray) (p : Nat) : Prop := gw_dc cc p (.aload_n 2) 1 (p + 1) ∧ gw_dc cc (p + 1) (.invokevirtual 123) 3 (p + 4) ∧ gw_dc cc (p + 4) (.iload 5) 2 (p + 6) ∧ gw_dc cc (p + 6) (.if_icmp .eq 5) 3 (p + 9)
def gw_t2 (cc : ByteArray) (p : Nat) (off : Int) : Prop := gw_dc cc p (.iload 5) 2 (p + 2) ∧ gw_dc cc (p + 2) (.ifCond .ne 15) 3 (p + 5) ∧ gw_dc cc (p + 5) (.aload_n 3) 1 (p + 6) ∧ gw_dc cc (p + 6) (.iconst 0) 1 (p + 7) ∧ gw_dc cc (p + 7) .laload 1 (p + 8) ∧ gw_dc cc (p + 8) (.iload 6) 2 (p + 10) ∧ gw_dc cc (p + 10) .i2l 1 (p + 11) ∧ gw_dc cc (p + 11) .lcmp 1 (p + 12) ∧ gw_dc cc (p + 12) (.ifCond .eq 5) 3 (p + 15) ∧ gw_dc cc (p + 17) (.goto off) 3 (p + 20)
theorem mv_RL_123 : gw_mv RL 123 yX11_thrown := ⟨gw_mem 1549 (by decide +kernel) rfl, gw_mem 1550 (by decide +kernel) rfl, gw_mem 1551 (by decide +kernel) rfl⟩
theorem my_X11_thrown : gw_my yX11_thrown cX11_thrown 1 (some .int) 0 := ⟨gw_mem 1552 (by decide +kernel) rfl, gw_mem 106 (by decide +kernel) rfl, by decide +kernel, by decide⟩
section TL
variable {X : Cx} {G : Gl} {Z : State → Prop} {kc ks : Nat} {ad : Nat → Nat} {σ : Sg} {p i : Nat} {a b c : Option AV} {v k : Int}
theorem g_t1 (fx : gw_FX X FL G) (d : gw_t1 cL_law_ p) (hb : kc ≤ 601024 ∧ ks ≤ 7293034) (h5 : σ 223 5 = k) (kk : gw_W X FL G Z kc ks (gw_M0 ad) σ (p + 11) (lsL i (some (vI k)) b c) []) : gw_W X FL G Z kc ks (gw_M0 ad) σ p (lsL i (some (vI k)) b c) [] := by
  obtain ⟨d1, d2, d3, d4⟩ := d
  refine g_aload_n fx d1 rfl ?_
  refine g_callVD fx d2 mv_RL_123 my_X11_thrown (s_X11_thrown ad σ) o_223 rfl rfl rfl (Nat.le_of_ble_eq_true rfl) (by decide) hb ?_
  refine g_iload fx d3 rfl ?_
  exact g_icmp_eq (tgt := p + 11) fx d4 (by omega) (fun _ => kk) (fun h => absurd h5 h)
theorem g_t2 {off : Int} {tgt : Nat} (fx : gw_FX X FL G) (d : gw_t2 cL_law_ p off) (ht : ((p + 17 : Nat) : Int) + off = ((tgt : Nat) : Int)) (h : k = 0 → σ 248 0 = v) (kk : gw_W X FL G Z kc ks (gw_M0 ad) σ tgt (lsL i (some (vI k)) (some (vI v)) c) []) : gw_W X FL G Z kc ks (gw_M0 ad) σ p (lsL i (some (vI k)) (some (vI v)) c) [] := by
  obtain ⟨d1, d2, d3, d4, d5, d6, d7, d8, d9, d10⟩ := d
  have hg := g_goto (tgt := tgt) fx d10 ht kk
  refine g_iload fx d1 rfl ?_
  refine g_if_ne (tgt := p + 17) fx d2 (by omega) (fun _ => hg) (fun h0 => ?_)
  refine g_aload_n fx d3 rfl ?_
  refine g_iconst fx d4 (by unfold okI; omega) ?_
  refine g_lald fx d5 o_248 (by decide) (by decide) ?_
  refine g_iload fx d6 rfl ?_
  refine g_i2l fx d7 ?_
  refine g_lcmp fx d8 ?_
  exact g_if_eq (tgt := p + 17) fx d9 (by omega) (fun _ => hg) (fun q => absurd (jc_eq.mpr (h h0)) q)
end TL
