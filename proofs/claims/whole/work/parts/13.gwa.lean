/-! THE LAYER, 9: what is known of the world's numbers and of the locals; forgetting a local -/
section GW
variable {X : Cx} {F : Fr} {G : Gl} {Z : State → Prop} {kc ks : Nat} {M : Mem} {σ : Sg} {pc pc' : Nat} {ls : List (Option AV)} {st : List AV}
theorem g_okS (k : gw_okS M.1 σ → gw_W X F G Z kc ks M σ pc ls st) : gw_W X F G Z kc ks M σ pc ls st := fun H locs lc hR hS hL ho => k hR.2.2.1 H locs lc hR hS hL ho
theorem g_okL {v : AV} (i : Nat) (hl : ls[i]? = some (some v)) (k : gw_ok M.1 v → gw_W X F G Z kc ks M σ pc ls st) : gw_W X F G Z kc ks M σ pc ls st := fun H locs lc hR hS hL ho => k (hL.2.2 i v hl).1 H locs lc hR hS hL ho
theorem g_okT {v : AV} (k : gw_ok M.1 v → gw_W X F G Z kc ks M σ pc ls (v :: st)) : gw_W X F G Z kc ks M σ pc ls (v :: st) := fun H locs lc hR hS hL ho => k (gw_hd ho) H locs lc hR hS hL ho
theorem g_kill (i : Nat) {ls' : List (Option AV)} (hl : ls.set i none = ls') (k : gw_W X F G Z kc ks M σ pc ls' st) : gw_W X F G Z kc ks M σ pc ls st := by
  subst hl
  intro H locs lc hR hS hL ho
  refine k H locs lc hR hS ⟨hL.1, hL.2.1, fun j v hv => ?_⟩ ho
  rw [List.getElem?_set] at hv
  split at hv
  · split at hv <;> cases hv
  · exact hL.2.2 j v hv
theorem gw_okO {o ci N : Nat} (k : Nat) (h : gw_okS M.1 σ) (hO : isO M o ci N) (hc : ci < 12) : okI (σ o k) := by
  have hg := h o hO.1 k
  rw [hO.2] at hg
  unfold gw_rg at hg
  rwa [if_neg (by dsimp only; omega), if_neg (by dsimp only; omega)] at hg
end GW
