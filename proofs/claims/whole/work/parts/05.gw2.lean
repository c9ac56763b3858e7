/-! THE LAYER, 2: what a frame stands on (gw_FX), the judgement (gw_W), a thrown one (gw_X), a method's contract (gw_Sp) -/
def wsG : List Cond := lw_tbl.filter goodWord
theorem gw_mem {w : Cond} (i : Nat) (h : lw_tbl[i]? = some w) (hg : goodWord w = true) : w ∈ wsG := List.mem_filter.mpr ⟨List.mem_of_getElem? h, hg⟩
def gw_isN : Cond → Bool
  | .fieldLinkNest .. | .methodLinkNest .. | .declares _ | .castable .. => true
  | _ => false
/-- words that warm by laws of their own -/
def wsN : List Cond := lw_tbl.filter gw_isN
theorem gw_memN {w : Cond} (i : Nat) (h : lw_tbl[i]? = some w) (hg : gw_isN w = true) : w ∈ wsN := List.mem_filter.mpr ⟨List.mem_of_getElem? h, hg⟩
theorem gw_wN {s U : State} (hW : s.WarmedH U.vm) (h : ∀ w ∈ wsN, va_Nw w s) : ∀ w ∈ wsN, va_Nw w U := by
  intro w hw
  have hi := (List.mem_filter.mp hw).2
  have h1 := h w hw
  cases w <;> first | exact va_Nw.warmF hW h1 | exact va_Nw.warmM hW h1 | exact va_Nw.warmD hW h1 | exact va_Nw.warmC hW h1 | cases hi
theorem gw_oN {w : Cond} (hw : w ∈ wsN) : w.onTables = true := by
  have hi := (List.mem_filter.mp hw).2
  cases w <;> first | rfl | cases hi
theorem gw_goodIn : GoodIn wsG wsG := fun w hw => ⟨hw, good_of_word (List.mem_filter.mp hw).2⟩
def gw_wdL : List (String × List Int32) := [("stone", [115, 116, 111, 110, 101]), ("clean", [99, 108, 101, 97, 110]), ("fee", [102, 101, 101]), ("sack", [115, 97, 99, 107]), ("of", [111, 102]), ("at", [97, 116]), ("sort", [115, 111, 114, 116]), ("worth", [119, 111, 114, 116, 104]), ("home", [104, 111, 109, 101]), ("by", [98, 121]), ("then", [116, 104, 101, 110]), ("small", [115, 109, 97, 108, 108]), ("light", [108, 105, 103, 104, 116]), ("heavy", [104, 101, 97, 118, 121]), ("early", [101, 97, 114, 108, 121]), ("late", [108, 97, 116, 101]), ("dear", [100, 101, 97, 114]), ("due", [100, 117, 101]), ("turn", [116, 117, 114, 110]), ("same", [115, 97, 109, 101])]
def gw_wd (j : Nat) : List Int32 := (gw_wdL.getD j ("", [])).2
def gw_strT : List (String × Nat × String × Nat) := [("LightestSack", 144, "not so many bytes", 20), ("LightestSack$Texts", 54, "stone", 0), ("LightestSack$Texts", 63, "clean", 1), ("LightestSack$Texts", 74, "fee", 2), ("LightestSack$Texts", 78, "sack", 3), ("LightestSack$Texts", 101, "of", 4), ("LightestSack$Texts", 107, "at", 5), ("LightestSack$Texts", 109, "sort", 6), ("LightestSack$Texts", 111, "worth", 7), ("LightestSack$Texts", 113, "home", 8), ("LightestSack$Texts", 119, "by", 9), ("LightestSack$Texts", 140, "light", 12), ("LightestSack$Texts", 142, "heavy", 13), ("LightestSack$Texts", 144, "early", 14), ("LightestSack$Texts", 146, "late", 15), ("LightestSack$Texts", 148, "dear", 16), ("LightestSack$Texts", 150, "due", 17), ("LightestSack$Texts", 152, "turn", 18), ("LightestSack$Texts", 154, "same", 19), ("LightestSack$Texts", 124, "then", 10), ("LightestSack$Texts", 126, "small", 11), ("LightestSack", 241, "no such sack", 21), ("LightestSack", 180, "no such what", 22), ("LightestSack", 244, "no such piece", 23), ("LightestSack", 442, "no such tray", 24), ("LightestSack", 444, "the tray is missing", 25), ("LightestSack", 213, "no parting of the sack", 26), ("LightestSack", 255, "no such person", 27), ("LightestSack", 278, "no such minute", 28), ("LightestSack", 313, "no such places", 29), ("LightestSack", 335, "not so many pieces", 30), ("LightestSack", 377, "a sack is parted", 31), ("LightestSack", 380, "not to be lent", 32), ("LightestSack", 382, "no such key", 33), ("LightestSack", 404, "no such strangers", 34), ("LightestSack", 402, "not so many days", 35), ("LightestSack", 413, "no such row", 36), ("LightestSack", 418, "no such place", 37), ("LightestSack", 446, "no such image", 38), ("LightestSack", 434, "no image was made", 39), ("LightestSackModel", 171, "stone", 0), ("LightestSackModel", 176, "clean", 1), ("LightestSackModel", 178, "fee", 2), ("LightestSackModel", 180, "sack", 3), ("LightestSackModel", 158, "of", 4), ("LightestSackModel", 164, "at", 5), ("LightestSackModel", 165, "sort", 6), ("LightestSackModel", 167, "worth", 7), ("LightestSackModel", 169, "home", 8), ("LightestSackModel", 230, "by", 9), ("LightestSackModel", 211, "light", 12), ("LightestSackModel", 213, "heavy", 13), ("LightestSackModel", 215, "early", 14), ("LightestSackModel", 217, "late", 15), ("LightestSackModel", 219, "dear", 16), ("LightestSackModel", 221, "due", 17), ("LightestSackModel", 223, "turn", 18), ("LightestSackModel", 225, "same", 19), ("LightestSackModel", 235, "then", 10), ("LightestSackModel", 237, "small", 11)]
/-- what lies outside of the world and stays: Strings, statics of the JDK's -/
def gw_EX (G : Gl) (U : State) (H : Heap) : Prop :=
  (∀ q ∈ gw_strT, vk_R q.1 q.2.1 q.2.2.1 (gex G q.2.2.2) U) ∧ (∀ j, j < 20 → vk_S 1 [(gw_wd j).length] [gw_wd j] (fun _ => gex G j) (fun _ => gex G (100 + j)) (gA G) U H) ∧
  vx_Zq Bundle.tN "UNASSIGNED_STACK" Bundle.steD (gA G) U H ∧ vx_Zq Bundle.tN "SUPPRESSED_SENTINEL" Bundle.listD (gA G) U H ∧ va_Z "java/lang/String" "COMPACT_STRINGS" "Z" (.int 1) (gA G) U H ∧
  (∀ w ∈ wsN, va_Nw w U) ∧ va_AO "LightestSack$Mill" U ∧ va_AO "LightestSack$Tray" U ∧
  (va_Z "jdk/internal/util/Preconditions" "SIOOBE_FORMATTER" "Ljava/util/function/BiFunction;" .null (gA G) U H ∨ va_Z "jdk/internal/util/Preconditions" "SIOOBE_FORMATTER" "Ljava/util/function/BiFunction;" (.ref (gex G 200)) (gA G) U H)
theorem gw_EX.kept {G : Gl} {U : State} {H H1 : Heap} (h : gw_EX G U H) (hq : ∀ a : Nat, a < H.size → ¬ gA G a → H1[a]? = H[a]?) : gw_EX G U H1 :=
  ⟨h.1, fun j hj => (h.2.1 j hj).kept hq, h.2.2.1.kept hq, h.2.2.2.1.kept hq, va_Z.kept h.2.2.2.2.1 hq, h.2.2.2.2.2.1, h.2.2.2.2.2.2.1, h.2.2.2.2.2.2.2.1, h.2.2.2.2.2.2.2.2.imp (fun z => va_Z.kept z hq) (fun z => va_Z.kept z hq)⟩
theorem gw_EX.warm {G : Gl} {s U : State} {H : Heap} (hW : s.WarmedH U.vm) (h : gw_EX G s H) : gw_EX G U H :=
  ⟨fun q hq => vk_R.warm hW (h.1 q hq), fun j hj => (h.2.1 j hj).moved hW.alike, h.2.2.1.moved hW.alike, h.2.2.2.1.moved hW.alike, va_Z.moved hW.alike h.2.2.2.2.1, gw_wN hW h.2.2.2.2.2.1, va_AO.moved hW.alike h.2.2.2.2.2.2.1, va_AO.moved hW.alike h.2.2.2.2.2.2.2.1, h.2.2.2.2.2.2.2.2.imp (va_Z.moved hW.alike) (va_Z.moved hW.alike)⟩
theorem gw_EX.same {G : Gl} {u U : State} {H : Heap} (hv : U.vm = u.vm) (h : gw_EX G u H) : gw_EX G U H := by
  have ha : u.vm.Alike U.vm := by rw [hv]; exact Vm.Alike.refl u.vm
  exact ⟨fun q hq => vk_R.same hv (h.1 q hq), fun j hj => (h.2.1 j hj).moved ha, h.2.2.1.moved ha, h.2.2.2.1.moved ha, va_Z.moved ha h.2.2.2.2.1, fun w hw => va_Nw.same (gw_oN hw) hv.symm (h.2.2.2.2.2.1 w hw), va_AO.moved ha h.2.2.2.2.2.2.1, va_AO.moved ha h.2.2.2.2.2.2.2.1, h.2.2.2.2.2.2.2.2.imp (va_Z.moved ha) (va_Z.moved ha)⟩
def gw_RH (G : Gl) (M : Mem) (σ : Sg) (H : Heap) : Prop := va_P (gD G) vwCl (gw_wl G M σ) H ∧ va_D (gA G) (gw_wl G M σ) ∧ gw_okS M.1 σ ∧ gw_okR M
abbrev Cx : Type := Program × Launch × Env × Room × State × MethodId × Array Value × List Frame × Method × Code
abbrev cP (X : Cx) : Program := X.1
abbrev cL (X : Cx) : Launch := X.2.1
abbrev cE (X : Cx) : Env := X.2.2.1
abbrev cR (X : Cx) : Room := X.2.2.2.1
abbrev cS (X : Cx) : State := X.2.2.2.2.1
abbrev cM (X : Cx) : MethodId := X.2.2.2.2.2.1
abbrev cA (X : Cx) : Array Value := X.2.2.2.2.2.2.1
abbrev cB (X : Cx) : List Frame := X.2.2.2.2.2.2.2.1
abbrev cMe (X : Cx) : Method := X.2.2.2.2.2.2.2.2.1
abbrev cC (X : Cx) : Code := X.2.2.2.2.2.2.2.2.2
/-- a frame's class, bytes, locals, type, depth below it, cells and slots that it may make -/
abbrev Fr : Type := String × ByteArray × Nat × Option FieldType × Nat × Nat × Nat
def gw_FX (X : Cx) (F : Fr) (G : Gl) : Prop :=
  (cP X).tables.exec = Jvm.exec ∧ (cC X).code = F.2.1 ∧ (cMe X).sig.returnType = F.2.2.2.1 ∧ (cC X).maxLocals = F.2.2.1 ∧ (cS X).vm.findClass F.1 = some (cM X).cls ∧ (∀ w ∈ wsG, w.before (cA X) (cS X) = true) ∧
  (cMe X).locks = false ∧ (cL X).stackTraces = false ∧ va_K (gD G) vwCl (gw_ty G) (cS X) ∧ gw_EX G (cS X) (cS X).heap ∧ gb G ≤ (cS X).heap.size ∧ (F.2.2.2.2.1 ≤ (cR X).frames ∧ 64 * F.2.2.2.2.1 ≤ (cR X).locals ∧ F.2.2.2.2.2.1 ≤ (cR X).cells ∧ F.2.2.2.2.2.2 ≤ (cR X).slots)
theorem gw_FX.exec {X : Cx} {F : Fr} {G : Gl} (h : gw_FX X F G) : (cP X).tables.exec = Jvm.exec := h.1
theorem gw_FX.code {X : Cx} {F : Fr} {G : Gl} (h : gw_FX X F G) : (cC X).code = F.2.1 := h.2.1
theorem gw_FX.ret {X : Cx} {F : Fr} {G : Gl} (h : gw_FX X F G) : (cMe X).sig.returnType = F.2.2.2.1 := h.2.2.1
theorem gw_FX.ml {X : Cx} {F : Fr} {G : Gl} (h : gw_FX X F G) : (cC X).maxLocals = F.2.2.1 := h.2.2.2.1
theorem gw_FX.own {X : Cx} {F : Fr} {G : Gl} (h : gw_FX X F G) : (cS X).vm.findClass F.1 = some (cM X).cls := h.2.2.2.2.1
theorem gw_FX.ts {X : Cx} {F : Fr} {G : Gl} (h : gw_FX X F G) : ∀ w ∈ wsG, w.before (cA X) (cS X) = true := h.2.2.2.2.2.1
theorem gw_FX.locks {X : Cx} {F : Fr} {G : Gl} (h : gw_FX X F G) : (cMe X).locks = false := h.2.2.2.2.2.2.1
theorem gw_FX.tr {X : Cx} {F : Fr} {G : Gl} (h : gw_FX X F G) : (cL X).stackTraces = false := h.2.2.2.2.2.2.2.1
theorem gw_FX.K {X : Cx} {F : Fr} {G : Gl} (h : gw_FX X F G) : va_K (gD G) vwCl (gw_ty G) (cS X) := h.2.2.2.2.2.2.2.2.1
theorem gw_FX.ex {X : Cx} {F : Fr} {G : Gl} (h : gw_FX X F G) : gw_EX G (cS X) (cS X).heap := h.2.2.2.2.2.2.2.2.2.1
theorem gw_FX.nest {X : Cx} {F : Fr} {G : Gl} (h : gw_FX X F G) {w : Cond} (hw : w ∈ wsN) : w.before (cA X) (cS X) = true := va_Nw.use (gw_oN hw) (h.ex.2.2.2.2.2.1 w hw)
theorem gw_FX.base {X : Cx} {F : Fr} {G : Gl} (h : gw_FX X F G) : gb G ≤ (cS X).heap.size := h.2.2.2.2.2.2.2.2.2.2.1
theorem gw_FX.room {X : Cx} {F : Fr} {G : Gl} (h : gw_FX X F G) : F.2.2.2.2.1 ≤ (cR X).frames ∧ 64 * F.2.2.2.2.1 ≤ (cR X).locals ∧ F.2.2.2.2.2.1 ≤ (cR X).cells ∧ F.2.2.2.2.2.2 ≤ (cR X).slots := h.2.2.2.2.2.2.2.2.2.2.2
theorem gw_FX.A {X : Cx} {F : Fr} {G : Gl} (h : gw_FX X F G) : ∀ q : Nat, (cS X).heap.size ≤ q → gA G q := fun q hq => Nat.le_trans h.base hq
/-- the locals: what is known of each place -/
def gw_LH (G : Gl) (M : Mem) (lc : Array Slot) (nL : Nat) (ls : List (Option AV)) : Prop := lc.size = nL ∧ lv_wf lc ∧ ∀ (i : Nat) (v : AV), ls[i]? = some (some v) → gw_ok M.1 v ∧ lc[i]? = some (.val (gw_cv G M v))
abbrev gw_W0 (X : Cx) (H : Heap) (locs : List Loc) (kc ks : Nat) (Z : State → Prop) (g : JFrame) : Prop := W (cP X) (cL X) (cE X) (cR X) (cS X) (cM X) (cA X) (cB X) (cMe X) (cC X) H locs kc ks Z g
def gw_W (X : Cx) (F : Fr) (G : Gl) (Z : State → Prop) (kc ks : Nat) (M : Mem) (σ : Sg) (pc : Nat) (ls : List (Option AV)) (st : List AV) : Prop :=
  ∀ (H : Heap) (locs : List Loc) (lc : Array Slot), gw_RH G M σ H → va_S (gA G) (cS X).heap H locs → gw_LH G M lc F.2.2.1 ls → (∀ v ∈ st, gw_ok M.1 v) →
    gw_W0 X H locs kc ks Z (F0 (cM X) pc lc (st.map (gw_cv G M)))
def gw_X (X : Cx) (F : Fr) (G : Gl) (Z : State → Prop) (kc ks : Nat) (M : Mem) (σ : Sg) (pc : Nat) (ls : List (Option AV)) (E : String) : Prop :=
  ∀ (H : Heap) (locs : List Loc) (lc : Array Slot) (rest : List Value) (ce : Cell) (q : Addr), gw_RH G M σ H → va_S (gA G) (cS X).heap H locs → gw_LH G M lc F.2.2.1 ls → H[q]? = some ce → ce.vm = .none → (cS X).vm.findClass E = some ce.cls →
    vx_W (cP X) (cL X) (cE X) (cR X) (cS X) (cM X) (cA X) (cB X) (cMe X) (cC X) H locs kc ks Z (F0 (cM X) pc lc rest) q
def gw_le (M M' : Mem) : Prop := M.1 ≤ M'.1 ∧ ∀ i, i < M.1 → M'.2.1 i = M.2.1 i
theorem gw_le.rf (M : Mem) : gw_le M M := ⟨Nat.le_refl _, fun _ _ => rfl⟩
theorem gw_le.trans {M M' M'' : Mem} (h : gw_le M M') (k : gw_le M' M'') : gw_le M M'' := ⟨Nat.le_trans h.1 k.1, fun i hi => (k.2 i (Nat.lt_of_lt_of_le hi h.1)).trans (h.2 i hi)⟩
theorem gw_ok_le {M M' : Mem} (h : gw_le M M') {v : AV} (hv : gw_ok M.1 v) : gw_ok M'.1 v := by
  rcases v with z | z | r | k
  · exact hv
  · exact hv
  · exact fun i hi => Nat.lt_of_lt_of_le (hv i hi) h.1
  · trivial
theorem gw_cv_le {G : Gl} {M M' : Mem} (h : gw_le M M') {v : AV} (hv : gw_ok M.1 v) : gw_cv G M' v = gw_cv G M v := by
  rcases v with z | z | r | k
  · rfl
  · rfl
  · cases r with
    | none => rfl
    | some i => show va_rf (some (M'.2.1 i)) = va_rf (some (M.2.1 i)); rw [h.2 i (hv i rfl)]
  · rfl
def gw_Pc (G : Gl) (M : Mem) (σ : Sg) (as : List AV) : Array Value → State → Prop := va_Pc (as.map (gw_cv G M)) (fun U => gw_RH G M σ U.heap ∧ va_K (gD G) vwCl (gw_ty G) U ∧ gw_EX G U U.heap ∧ gb G ≤ U.heap.size ∧ ∀ v ∈ as, gw_ok M.1 v)
def gw_Q (G : Gl) (M : Mem) (Qn : Option AV → Mem → Sg → Prop) : Array Value → State → Outcome → State → Prop := fun _ st oc t =>
  (∃ (r : Option AV) (M' : Mem) (σ' : Sg), oc = .returned (r.map (gw_cv G M')) ∧ Qn r M' σ' ∧ gw_le M M' ∧ (∀ v, r = some v → gw_ok M'.1 v) ∧ gw_RH G M' σ' t.heap) ∧ va_F (gA G) st t
def gw_XC (G : Gl) (M : Mem) (σ : Sg) (Qx : String → Prop) : String → State → State → Prop := fun E st t => (Qx E ∧ gw_RH G M σ t.heap) ∧ va_F (gA G) st t
def gw_rm (d mc ms : Nat) : Room := { frames := d, cells := mc, slots := ms, locals := 64 * d }
def gw_ws (y : MethodName) (cc : ByteArray) (nL : Nat) (rt : Option FieldType) : List Cond := Cond.code y cc nL rt :: wsG
/-- a method's contract: from the world σ, with these arguments, it returns as Qn says, or throws as Qx says, the world as it was -/
def gw_Sp (y : MethodName) (cc : ByteArray) (nL : Nat) (rt : Option FieldType) (d mc ms : Nat) (as : List AV) (M : Mem) (σ : Sg) (Qn : Option AV → Mem → Sg → Prop) (Qx : String → Prop) : Prop :=
  ∀ (l : Launch) (G : Gl), l.stackTraces = false → vx_Met l y (gw_ws y cc nL rt) (gw_rm d mc ms) (gw_Pc G M σ as) (gw_Q G M Qn) (gw_XC G M σ Qx) mc ms (gA G)
/-- a frame's own end -/
def gw_Z (X : Cx) (G : Gl) (M : Mem) (σ : Sg) (Qn : Option AV → Mem → Sg → Prop) (Qx : String → Prop) (mc ms : Nat) : State → Prop := vx_MQ (cB X) (gw_Q G M Qn) (gw_XC G M σ Qx) (cA X) (cS X) mc ms (gA G)
def gw_lc (as : List AV) : List (Option AV) := as.flatMap fun v => match v with
  | .inr (.inl z) => [some (.inr (.inl z)), none]
  | v => [some v]
theorem gw_cat (G : Gl) (M : Mem) (v : AV) : (gw_cv G M v).category = match v with
  | .inr (.inl _) => 2
  | _ => 1 := by
  rcases v with z | z | r | k
  · rfl
  · rfl
  · cases r <;> rfl
  · rfl
theorem gw_entry {G : Gl} {M : Mem} : ∀ (as : List AV) (i0 : Nat) (i : Nat) (v : AV), (gw_lc as)[i]? = some (some v) → v ∈ as ∧ (i0 + i, gw_cv G M v) ∈ lv_args i0 (as.map (gw_cv G M)) := by
  intro as
  induction as with
  | nil => intro i0 i v h; simp [gw_lc] at h
  | cons a as ih =>
    intro i0 i v h
    have hc := gw_cat G M a
    rcases a with z | z | r | k
    all_goals simp only [List.map_cons, lv_args, hc]
    all_goals simp only [gw_lc, List.flatMap_cons] at h
    case inr.inl =>
      match i, h with
      | 0, h => simp at h; subst h; exact ⟨List.mem_cons_self, by simp⟩
      | 1, h => simp at h
      | i + 2, h =>
        obtain ⟨h1, h2⟩ := ih (i0 + 2) i v (by simpa [gw_lc] using h)
        exact ⟨List.mem_cons_of_mem _ h1, by rw [show i0 + (i + 2) = i0 + 2 + i by omega]; exact List.mem_cons_of_mem _ h2⟩
    all_goals
      match i, h with
      | 0, h => simp at h; subst h; exact ⟨List.mem_cons_self, by simp⟩
      | i + 1, h =>
        obtain ⟨h1, h2⟩ := ih (i0 + 1) i v (by simpa [gw_lc] using h)
        exact ⟨List.mem_cons_of_mem _ h1, by rw [show i0 + (i + 1) = i0 + 1 + i by omega]; exact List.mem_cons_of_mem _ h2⟩
theorem gw_sl (G : Gl) (M : Mem) : ∀ as : List AV, (lg_sl (as.map (gw_cv G M))).length = (gw_lc as).length := by
  intro as
  induction as with
  | nil => rfl
  | cons a as ih =>
    have hc := gw_cat G M a
    rcases a with z | z | r | k <;> simp_all [lg_sl, gw_lc, List.flatMap_cons]
def gw_FXof (y : MethodName) (cc : ByteArray) (nL : Nat) (rt : Option FieldType) (d mc ms : Nat) : Fr := (y.cls, cc, nL, rt, d, mc, ms)
theorem gw_EX.frame {G : Gl} {U : State} {H H1 : Heap} {locs : List Loc} (h : gw_EX G U H) (hS : va_S (gA G) H H1 locs) : gw_EX G U H1 := h.kept hS.2.1
theorem gw_blind (G : Gl) (M : Mem) (σ : Sg) (as : List AV) : FrameBlind (gw_Pc G M σ as) := by
  intro a U g mk h
  obtain ⟨h1, h2, h3, h4, h5, h6⟩ := h
  exact ⟨h1, h2, va_K.moved (u := U) (U := U.calling g mk a) (Vm.Alike.refl U.vm) h3, gw_EX.same (u := U) (U := U.calling g mk a) rfl h4, h5, h6⟩
/-- a method's contract by its body: the frame from its first instruction -/
theorem gw_Sp.of {y : MethodName} {cc : ByteArray} {nL : Nat} {rt : Option FieldType} {d mc ms : Nat} {as : List AV} {M : Mem} {σ : Sg} {Qn : Option AV → Mem → Sg → Prop} {Qx : String → Prop} (ls : List (Option AV))
    (hy : plainName y.cls = true) (hls : ls = gw_lc as ++ List.replicate (nL - (gw_lc as).length) none) (hn : (gw_lc as).length ≤ nL)
    (body : ∀ (X : Cx) (G : Gl), gw_FX X (y.cls, cc, nL, rt, d, mc, ms) G → (∀ x ∈ (cC X).exceptionTable.toList, False) → ((cMe X).name = y.name) → gw_W X (y.cls, cc, nL, rt, d, mc, ms) G (gw_Z X G M σ Qn Qx mc ms) 0 0 M σ 0 ls []) :
    gw_Sp y cc nL rt d mc ms as M σ Qn Qx := by
  intro l G hl
  refine vx_ofW (ws' := wsG) hy rfl ?_
  intro p e s m args below meth c s₁ B hml het hP
  obtain ⟨rfl, hR, hK, hE, hb, ho⟩ := hP
  have hts0 : ∀ w ∈ gw_ws y cc nL rt, w.before (as.map (gw_cv G M)).toArray s = true := atoms_spec (ws := gw_ws y cc nL rt) B.pre
  have hfx : gw_FX (p, l, e, gw_rm d mc ms, s, m, (as.map (gw_cv G M)).toArray, below, meth, c) (y.cls, cc, nL, rt, d, mc, ms) G :=
    ⟨B.exec, B.bytes, B.returns, hml, findClass_of_methodNamed B.named, fun w hw => hts0 w (List.mem_cons_of_mem _ hw), B.notSynchronized, hl, hK, hE, hb, ⟨Nat.le_refl _, Nat.le_refl _, Nat.le_refl _, Nat.le_refl _⟩⟩
  have hbody := body (p, l, e, gw_rm d mc ms, s, m, (as.map (gw_cv G M)).toArray, below, meth, c) G hfx het (name_of_methodNamed B.named B.method).1
  have hlv := lv_entry (as.map (gw_cv G M)) (n := nL) (by rw [gw_sl]; exact hn)
  rw [lg_entry_eq]
  refine hbody s.heap [] _ hR va_S.rf ⟨hlv.1, hlv.2.1, fun i v h => ?_⟩ (fun v hv => by cases hv)
  have h9 : (gw_lc as)[i]? = some (some v) := by
    rw [hls] at h
    by_cases q : i < (gw_lc as).length
    · rwa [List.getElem?_append_left q] at h
    · rw [List.getElem?_append_right (by omega), List.getElem?_replicate] at h
      split at h <;> cases h
  obtain ⟨h1, h2⟩ := gw_entry (G := G) (M := M) as 0 i v h9
  rw [Nat.zero_add] at h2
  exact ⟨ho v h1, hlv.2.2 _ h2⟩
