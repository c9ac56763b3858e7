/-! THE LAYER, 9: calls that may throw before they change anything -/
abbrev gw_DG (g : Option String) (v : Option AV) (M : Mem) (σ' : Sg) : Option AV → Mem → Sg → Prop := fun a b c => g = none ∧ a = v ∧ b = M ∧ c = σ'
abbrev gw_isG (g : Option String) : String → Prop := fun E => g = some E
section GW
variable {X : Cx} {F : Fr} {G : Gl} {kc ks mc ms : Nat} {M : Mem} {σ : Sg} {pc pc' : Nat} {ls : List (Option AV)} {st : List AV} {Qn : Option AV → Mem → Sg → Prop} {Qx : String → Prop}
theorem g_callVG {idx n d' mc1 ms1 nL o ci N : Nat} {y : MethodName} {cc : ByteArray} {rt : Option FieldType} {as st0 : List AV} {v : AV} {σ' : Sg} {g : Option String} {T : u_T} (fx : gw_FX X F G) (het : ∀ x ∈ (cC X).exceptionTable.toList, False) (d : gw_dc F.2.1 pc (.invokevirtual idx) 3 pc') (hl : gw_mv F.1 idx y) (hm : gw_my y cc nL rt n)
    (hs : gw_Sp y cc nL rt d' mc1 ms1 (vR (some o) :: as) M σ (gw_DG g (some v) M σ') (gw_isG g)) (hO : isO M o ci N) (hc : vwCl[ci]? = some (y.cls, T, N)) (hst : st0 = as.reverse ++ vR (some o) :: st) (hn : as.length = n) (hw : gw_wt st ≤ 8) (hd : d' + 1 ≤ F.2.2.2.2.1)
    (hk : kc + mc1 ≤ F.2.2.2.2.2.1 ∧ ks + ms1 ≤ F.2.2.2.2.2.2) (hmc : mc = F.2.2.2.2.2.1) (hms : ms = F.2.2.2.2.2.2) (hx : ∀ E, g = some E → Qx E) (kk : g = none → gw_W X F G (gw_Z X G M σ Qn Qx mc ms) (kc + mc1) (ks + ms1) M σ' pc' ls (v :: st)) : gw_W X F G (gw_Z X G M σ Qn Qx mc ms) kc ks M σ pc ls st0 :=
  g_callV fx d hl hm hs hO hc hst hn hw hd hk (fun E hE => g_out fx het (by omega) (by omega) (hx E hE)) (fun _ _ _ h _ => by obtain ⟨h0, rfl, rfl, rfl⟩ := h; exact kk h0)
theorem g_callVG0 {idx n d' mc1 ms1 nL o ci N : Nat} {y : MethodName} {cc : ByteArray} {rt : Option FieldType} {as st0 : List AV} {σ' : Sg} {g : Option String} {T : u_T} (fx : gw_FX X F G) (het : ∀ x ∈ (cC X).exceptionTable.toList, False) (d : gw_dc F.2.1 pc (.invokevirtual idx) 3 pc') (hl : gw_mv F.1 idx y) (hm : gw_my y cc nL rt n)
    (hs : gw_Sp y cc nL rt d' mc1 ms1 (vR (some o) :: as) M σ (gw_DG g none M σ') (gw_isG g)) (hO : isO M o ci N) (hc : vwCl[ci]? = some (y.cls, T, N)) (hst : st0 = as.reverse ++ vR (some o) :: st) (hn : as.length = n) (hw : gw_wt st ≤ 8) (hd : d' + 1 ≤ F.2.2.2.2.1)
    (hk : kc + mc1 ≤ F.2.2.2.2.2.1 ∧ ks + ms1 ≤ F.2.2.2.2.2.2) (hmc : mc = F.2.2.2.2.2.1) (hms : ms = F.2.2.2.2.2.2) (hx : ∀ E, g = some E → Qx E) (kk : g = none → gw_W X F G (gw_Z X G M σ Qn Qx mc ms) (kc + mc1) (ks + ms1) M σ' pc' ls st) : gw_W X F G (gw_Z X G M σ Qn Qx mc ms) kc ks M σ pc ls st0 :=
  g_callV fx d hl hm hs hO hc hst hn hw hd hk (fun E hE => g_out fx het (by omega) (by omega) (hx E hE)) (fun _ _ _ h _ => by obtain ⟨h0, rfl, rfl, rfl⟩ := h; exact kk h0)
theorem g_ldcWI {Z : State → Prop} {z : Int} {idx : Nat} (fx : gw_FX X F G) (d : gw_dc F.2.1 pc (.ldc_w idx) 3 pc') (hw : Cond.constant F.1 idx (Int32.ofInt z) ∈ wsG) (hz : okI z) (k : gw_W X F G Z kc ks M σ pc' ls (vI z :: st)) : gw_W X F G Z kc ks M σ pc ls st := by
  obtain ⟨hd, rfl⟩ := d
  intro H locs lc hR hS hL ho
  exact lv_ldcw fx.exec fx.code fx.own (fx.ts _ hw) hd (k H locs lc hR hS hL (gw_cons hz ho))
theorem g_lconst0 {Z : State → Prop} (fx : gw_FX X F G) (d : gw_dc F.2.1 pc (.lconst 0) 1 pc') (k : gw_W X F G Z kc ks M σ pc' ls (vJ 0 :: st)) : gw_W X F G Z kc ks M σ pc ls st := g_lconst fx d k
theorem g_lconst1 {Z : State → Prop} (fx : gw_FX X F G) (d : gw_dc F.2.1 pc (.lconst 1) 1 pc') (k : gw_W X F G Z kc ks M σ pc' ls (vJ 1 :: st)) : gw_W X F G Z kc ks M σ pc ls st := g_lconst fx d k
end GW
def trT (i : Int) : Nat := 149 + 2 * i.toNat
def imT (i : Int) : Nat := 157 + 22 * i.toNat
theorem trT_all : ∀ k, k < 4 → 149 + 2 * k ∈ gw_trays ∧ gw_rh 147 k = some (149 + 2 * k) := by decide +kernel
theorem imT_all : ∀ k, k < 3 → (157 + 22 * k ∈ gw_mills ∧ 157 + 22 * k ≠ 4) ∧ gw_rh 148 k = some (157 + 22 * k) := by decide +kernel
def gNS : Option String := some "java/util/NoSuchElementException"
def gIA : Option String := some "java/lang/IllegalArgumentException"
def gIS : Option String := some "java/lang/IllegalStateException"
def gIO : Option String := some "java/lang/IndexOutOfBoundsException"
def gSack (σ : Sg) (s : Int) : Option String := if 0 ≤ s ∧ s < σ 4 5 then none else gNS
def gPiece (σ : Sg) (p : Int) : Option String := if 0 ≤ p ∧ p < mPcs σ 4 then none else gNS
def gWhat (w m : Int) : Option String := if 0 ≤ w ∧ w ≤ m then none else gIA
def gBytes (σ : Sg) (n : Int) : Option String := if 0 ≤ n ∧ n ≤ σ 1 1 then none else gIA
def gStr (come greatest : Int) : Option String := if (0 ≤ come ∧ come ≤ 100) ∧ (1 ≤ greatest ∧ greatest ≤ 99) then none else gIA
def gTray (i : Int) : Option String := if 0 ≤ i ∧ i < 4 then none else gNS
def gImg (i : Int) : Option String := if 0 ≤ i ∧ i < 3 then none else gNS
def gFull (σ : Sg) (i : Int) : Option String := (gTray i).or (if σ (trT i) 2 = -1 then gIS else none)
theorem or_n {a b : Option String} (h : a = none) : a.or b = b := by rw [h]; rfl
theorem or_s {a b : Option String} {E : String} (h : a = some E) : a.or b = some E := by rw [h]; rfl
theorem gTray_n {i : Int} (h : gTray i = none) : 0 ≤ i ∧ i < 4 := by
  unfold gTray at h; split at h
  · assumption
  · exact absurd h (by decide)
theorem gImg_n {i : Int} (h : gImg i = none) : 0 ≤ i ∧ i < 3 := by
  unfold gImg at h; split at h
  · assumption
  · exact absurd h (by decide)
theorem trT_in {i : Int} (h : gTray i = none) : trT i ∈ gw_trays := by
  have := gTray_n h; exact (trT_all i.toNat (by omega)).1
theorem imT_in {i : Int} (h : gImg i = none) : imT i ∈ gw_mills := by
  have := gImg_n h; exact (imT_all i.toNat (by omega)).1.1
theorem imT_ne {i : Int} (h : gImg i = none) : imT i ≠ 4 := by
  have := gImg_n h; exact (imT_all i.toNat (by omega)).1.2
theorem gFull_n {σ : Sg} {i : Int} (h : gFull σ i = none) : gTray i = none ∧ σ (trT i) 2 ≠ -1 := by
  unfold gFull at h
  cases e : gTray i with
  | some E => rw [or_s e] at h; exact absurd h (by simp)
  | none => rw [or_n e] at h; refine ⟨rfl, fun e2 => ?_⟩; rw [if_pos e2] at h; exact absurd h (by decide)
theorem trF_in {σ : Sg} {i : Int} (h : gFull σ i = none) : trT i ∈ gw_trays := trT_in (gFull_n h).1
