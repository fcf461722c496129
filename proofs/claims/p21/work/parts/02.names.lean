abbrev RV : String := "DrawingVault"
abbrev RB : String := "DrawingVault$Baseline"
abbrev RK : String := "DrawingVault$ChunkSet"
abbrev RC : String := "DrawingVault$Content"
abbrev RD : String := "DrawingVault$Drawing"
abbrev RP : String := "DrawingVault$Pages"
abbrev RS : String := "DrawingVault$Revision"
abbrev RM : String := "DrawingVaultModel"
abbrev RL : String := "DrawingVaultLaw"
abbrev RA : String := "java/util/Arrays"
def TV : u_T := fun k => match k with
  | 0 => ("DrawingVault", "rightsOf", "[I", true)
  | 1 => ("DrawingVault", "drawings", "[LDrawingVault$Drawing;", true)
  | 2 => ("DrawingVault", "drawingCount", "I", false)
  | 3 => ("DrawingVault", "revisionCount", "I", false)
  | 4 => ("DrawingVault", "baselines", "[LDrawingVault$Baseline;", true)
  | 5 => ("DrawingVault", "draft", "LDrawingVault$Baseline;", false)
  | 6 => ("DrawingVault", "chunks", "LDrawingVault$ChunkSet;", true)
  | 7 => ("DrawingVault", "pages", "LDrawingVault$Pages;", true)
  | _ => ("DrawingVault", "reason", "I", false)
def tyV : Nat → FieldType := fun k => match k with
  | 0 => (.array .int)
  | 1 => (.array (.object "DrawingVault$Drawing"))
  | 2 => .int
  | 3 => .int
  | 4 => (.array (.object "DrawingVault$Baseline"))
  | 5 => (.object "DrawingVault$Baseline")
  | 6 => (.object "DrawingVault$ChunkSet")
  | 7 => (.object "DrawingVault$Pages")
  | _ => .int
theorem nmV : ∀ a, a < 9 → ∀ b, b < 9 → a ≠ b → (TV a).2.1 ≠ (TV b).2.1 := by decide +kernel
theorem tyV_ok : ∀ k, k < 9 → parseFieldDescriptor (TV k).2.2.1 = some (tyV k) := by decide +kernel
def TB : u_T := fun k => match k with
  | 0 => ("DrawingVault$Baseline", "revisionOf", "[I", true)
  | 1 => ("DrawingVault$Baseline", "order", "[I", true)
  | _ => ("DrawingVault$Baseline", "size", "I", false)
def tyB : Nat → FieldType := fun k => match k with
  | 0 => (.array .int)
  | 1 => (.array .int)
  | _ => .int
theorem nmB : ∀ a, a < 3 → ∀ b, b < 3 → a ≠ b → (TB a).2.1 ≠ (TB b).2.1 := by decide +kernel
theorem tyB_ok : ∀ k, k < 3 → parseFieldDescriptor (TB k).2.2.1 = some (tyB k) := by decide +kernel
def TK : u_T := fun k => match k with
  | 0 => ("DrawingVault$ChunkSet", "pieces", "[J", true)
  | 1 => ("DrawingVault$ChunkSet", "lengths", "[B", true)
  | _ => ("DrawingVault$ChunkSet", "size", "I", false)
def tyK : Nat → FieldType := fun k => match k with
  | 0 => (.array .long)
  | 1 => (.array .byte)
  | _ => .int
theorem nmK : ∀ a, a < 3 → ∀ b, b < 3 → a ≠ b → (TK a).2.1 ≠ (TK b).2.1 := by decide +kernel
theorem tyK_ok : ∀ k, k < 3 → parseFieldDescriptor (TK k).2.2.1 = some (tyK k) := by decide +kernel
def TP : u_T := fun k => match k with
  | 0 => ("DrawingVault$Pages", "free", "I", false)
  | 1 => ("DrawingVault$Pages", "commands", "I", false)
  | 2 => ("DrawingVault$Pages", "copiedForward", "I", false)
  | 3 => ("DrawingVault$Pages", "failed", "Z", false)
  | 4 => ("DrawingVault$Pages", "failureAhead", "Z", false)
  | _ => ("DrawingVault$Pages", "beforeFailure", "I", false)
def tyP : Nat → FieldType := fun k => match k with
  | 0 => .int
  | 1 => .int
  | 2 => .int
  | 3 => .boolean
  | 4 => .boolean
  | _ => .int
theorem nmP : ∀ a, a < 6 → ∀ b, b < 6 → a ≠ b → (TP a).2.1 ≠ (TP b).2.1 := by decide +kernel
theorem tyP_ok : ∀ k, k < 6 → parseFieldDescriptor (TP k).2.2.1 = some (tyP k) := by decide +kernel
def TM : u_T := fun k => match k with
  | 0 => ("DrawingVaultModel", "thrown", "I", false)
  | 1 => ("DrawingVaultModel", "reason", "I", false)
  | 2 => ("DrawingVaultModel", "now", "[I", true)
  | 3 => ("DrawingVaultModel", "kept", "[I", true)
  | 4 => ("DrawingVaultModel", "failed", "Z", false)
  | 5 => ("DrawingVaultModel", "powerLeft", "I", false)
  | 6 => ("DrawingVaultModel", "marked", "[Z", true)
  | 7 => ("DrawingVaultModel", "come", "[I", true)
  | 8 => ("DrawingVaultModel", "parts2", "Z", false)
  | 9 => ("DrawingVaultModel", "open", "Z", false)
  | _ => ("DrawingVaultModel", "seen", "[Z", true)
def tyM : Nat → FieldType := fun k => match k with
  | 0 => .int
  | 1 => .int
  | 2 => (.array .int)
  | 3 => (.array .int)
  | 4 => .boolean
  | 5 => .int
  | 6 => (.array .boolean)
  | 7 => (.array .int)
  | 8 => .boolean
  | 9 => .boolean
  | _ => (.array .boolean)
theorem nmM : ∀ a, a < 11 → ∀ b, b < 11 → a ≠ b → (TM a).2.1 ≠ (TM b).2.1 := by decide +kernel
theorem tyM_ok : ∀ k, k < 11 → parseFieldDescriptor (TM k).2.2.1 = some (tyM k) := by decide +kernel
def TC : u_T := fun k => match k with
  | 0 => ("DrawingVault$Content", "pieces", "[J", true)
  | 1 => ("DrawingVault$Content", "bytes", "I", false)
  | 2 => ("DrawingVault$Content", "targets", "[I", true)
  | 3 => ("DrawingVault$Content", "fixed", "[I", true)
  | _ => ("DrawingVault$Content", "references", "I", false)
def tyC : Nat → FieldType := fun k => match k with
  | 0 => (.array .long)
  | 1 => .int
  | 2 => (.array .int)
  | 3 => (.array .int)
  | _ => .int
theorem nmC : ∀ a, a < 5 → ∀ b, b < 5 → a ≠ b → (TC a).2.1 ≠ (TC b).2.1 := by decide +kernel
theorem tyC_ok : ∀ k, k < 5 → parseFieldDescriptor (TC k).2.2.1 = some (tyC k) := by decide +kernel
def TD : u_T := fun k => match k with
  | 0 => ("DrawingVault$Drawing", "revisions", "[LDrawingVault$Revision;", true)
  | 1 => ("DrawingVault$Drawing", "revisionCount", "I", false)
  | 2 => ("DrawingVault$Drawing", "holder", "I", false)
  | 3 => ("DrawingVault$Drawing", "copy", "LDrawingVault$Content;", true)
  | _ => ("DrawingVault$Drawing", "written", "LDrawingVault$Content;", true)
def tyD : Nat → FieldType := fun k => match k with
  | 0 => (.array (.object "DrawingVault$Revision"))
  | 1 => .int
  | 2 => .int
  | 3 => (.object "DrawingVault$Content")
  | _ => (.object "DrawingVault$Content")
theorem nmD : ∀ a, a < 5 → ∀ b, b < 5 → a ≠ b → (TD a).2.1 ≠ (TD b).2.1 := by decide +kernel
theorem tyD_ok : ∀ k, k < 5 → parseFieldDescriptor (TD k).2.2.1 = some (tyD k) := by decide +kernel
def TS : u_T := fun k => match k with
  | 0 => ("DrawingVault$Revision", "content", "LDrawingVault$Content;", true)
  | 1 => ("DrawingVault$Revision", "author", "I", true)
  | _ => ("DrawingVault$Revision", "state", "I", false)
def tyS : Nat → FieldType := fun k => match k with
  | 0 => (.object "DrawingVault$Content")
  | 1 => .int
  | _ => .int
theorem nmS : ∀ a, a < 3 → ∀ b, b < 3 → a ≠ b → (TS a).2.1 ≠ (TS b).2.1 := by decide +kernel
theorem tyS_ok : ∀ k, k < 3 → parseFieldDescriptor (TS k).2.2.1 = some (tyS k) := by decide +kernel
abbrev kCl : List vw_C := [(RV, TV, 9), (RB, TB, 3), (RK, TK, 3), (RP, TP, 6), (RM, TM, 11), (RC, TC, 5), (RD, TD, 5), (RS, TS, 3)]

/-- the words of the tables that every callee may carry -/
def aw : List Cond := lw_tbl.filter goodWord
theorem aw_in {w : Cond} (h : w ∈ lw_tbl) (g : goodWord w = true) : w ∈ aw := List.mem_filter.mpr ⟨h, g⟩
theorem aw_good {w : Cond} (h : w ∈ aw) : (w.onTables && w.keeps) = true ∨ ∃ ty, w = .arrayClass ty := good_of_word (List.mem_filter.mp h).2
theorem tb_1 {w : Cond} (h : w ∈ tables_1_1) : w ∈ lw_tbl := List.mem_append_right _ (List.mem_append_left _ h)
theorem tb_2 {w : Cond} (h : w ∈ tables_1_2) : w ∈ lw_tbl := List.mem_append_right _ (List.mem_append_right _ (List.mem_append_left _ h))
theorem tb_3 {w : Cond} (h : w ∈ tables_1_3) : w ∈ lw_tbl := List.mem_append_right _ (List.mem_append_right _ (List.mem_append_right _ (List.mem_append_left _ h)))
theorem tb_4 {w : Cond} (h : w ∈ tables_1_4) : w ∈ lw_tbl := List.mem_append_right _ (List.mem_append_right _ (List.mem_append_right _ (List.mem_append_right _ (List.mem_append_left _ h))))
theorem tb_5 {w : Cond} (h : w ∈ tables_1_5) : w ∈ lw_tbl := List.mem_append_right _ (List.mem_append_right _ (List.mem_append_right _ (List.mem_append_right _ (List.mem_append_right _ h))))
theorem tb_s {q : MethodName × Nat} (h : q ∈ lw_privs) : Cond.selects q.1.cls q.1 q.1 ∈ lw_tbl := List.mem_append_left _ (List.mem_map.mpr ⟨q, h, rfl⟩)
theorem gI {c : Cond} (h : c ∈ aw) : GoodIn aw (c :: aw) := fun w hw => (List.mem_cons.mp hw).elim (fun e => e ▸ ⟨h, aw_good h⟩) (fun h2 => ⟨h2, aw_good h2⟩)
theorem gA {l1 l2 : List Cond} (h1 : ∀ w ∈ l1, w ∈ aw) (h2 : GoodIn aw l2) : GoodIn aw (l1 ++ l2) := fun w hw => (List.mem_append.mp hw).elim (fun h => ⟨h1 w h, aw_good (h1 w h)⟩) (h2 w)
theorem gV {own C : String} {idx : Nat} {y : MethodName} {c : Cond} (h1 : Cond.methodLink own idx y ∈ aw) (h2 : Cond.instanceMethod y ∈ aw) (h3 : Cond.selects C y y ∈ aw) (h4 : Cond.initialized C ∈ aw) (h5 : c ∈ aw) : GoodIn aw (wsV own idx C y (c :: aw)) :=
  gA (fun w hw => by simp only [List.mem_cons, List.not_mem_nil, or_false] at hw; rcases hw with rfl | rfl | rfl | rfl <;> assumption) (gI h5)
theorem gS {own : String} {idx : Nat} {y : MethodName} {c : Cond} (h1 : Cond.methodLink own idx y ∈ aw) (h2 : Cond.static y ∈ aw) (h3 : Cond.initialized own ∈ aw) (h5 : c ∈ aw) : GoodIn aw (wsS own idx y (c :: aw)) :=
  gA (fun w hw => by simp only [List.mem_cons, List.not_mem_nil, or_false] at hw; rcases hw with rfl | rfl | rfl <;> assumption) (gI h5)
theorem gSU {own : String} {idx : Nat} {y : MethodName} {c : Cond} (h1 : Cond.methodLink own idx y ∈ aw) (h2 : Cond.static y ∈ aw) (h3 : Cond.initialized y.cls ∈ aw) (h5 : c ∈ aw) : GoodIn aw (va_wsS own idx y (c :: aw)) :=
  gA (fun w hw => by simp only [List.mem_cons, List.not_mem_nil, or_false] at hw; rcases hw with rfl | rfl | rfl <;> assumption) (gI h5)
/-- words that no list of words carries, but every state keeps -/
def eG (U : State) : Prop := va_Nw (.methodLinkNest "DrawingVault" 32 ⟨"DrawingVault$ChunkSet", "<init>", "()V"⟩ "DrawingVault") U ∧ va_Nw (.methodLinkNest "DrawingVault" 39 ⟨"DrawingVault$Pages", "<init>", "()V"⟩ "DrawingVault") U ∧ va_Nw (.methodLinkNest "DrawingVault$Content" 65 ⟨"DrawingVault", "bit", "(I)I"⟩ "DrawingVault") U ∧ va_Nw (.methodLinkNest "DrawingVault" 63 ⟨"DrawingVault$Drawing", "<init>", "()V"⟩ "DrawingVault") U ∧ va_Nw (.methodLinkNest "DrawingVault$Drawing" 23 ⟨"DrawingVault$Content", "<init>", "()V"⟩ "DrawingVault") U ∧ va_Nw (.methodLinkNest "DrawingVault$Revision" 11 ⟨"DrawingVault$Content", "<init>", "()V"⟩ "DrawingVault") U ∧ va_AO "DrawingVault$Drawing" U ∧ va_AO "DrawingVault$Baseline" U ∧ va_AO "DrawingVault$Revision" U
theorem eG_V32 {U : State} (hE : eG U) : va_Nw (.methodLinkNest "DrawingVault" 32 ⟨"DrawingVault$ChunkSet", "<init>", "()V"⟩ "DrawingVault") U := hE.1
theorem eG_V39 {U : State} (hE : eG U) : va_Nw (.methodLinkNest "DrawingVault" 39 ⟨"DrawingVault$Pages", "<init>", "()V"⟩ "DrawingVault") U := hE.2.1
theorem eG_C65 {U : State} (hE : eG U) : va_Nw (.methodLinkNest "DrawingVault$Content" 65 ⟨"DrawingVault", "bit", "(I)I"⟩ "DrawingVault") U := hE.2.2.1
theorem eG_V63 {U : State} (hE : eG U) : va_Nw (.methodLinkNest "DrawingVault" 63 ⟨"DrawingVault$Drawing", "<init>", "()V"⟩ "DrawingVault") U := hE.2.2.2.1
theorem eG_D23 {U : State} (hE : eG U) : va_Nw (.methodLinkNest "DrawingVault$Drawing" 23 ⟨"DrawingVault$Content", "<init>", "()V"⟩ "DrawingVault") U := hE.2.2.2.2.1
theorem eG_S11 {U : State} (hE : eG U) : va_Nw (.methodLinkNest "DrawingVault$Revision" 11 ⟨"DrawingVault$Content", "<init>", "()V"⟩ "DrawingVault") U := hE.2.2.2.2.2.1
theorem eG_oD {U : State} (hE : eG U) : va_AO "DrawingVault$Drawing" U := hE.2.2.2.2.2.2.1
theorem eG_oB {U : State} (hE : eG U) : va_AO "DrawingVault$Baseline" U := hE.2.2.2.2.2.2.2.1
theorem eG_oS {U : State} (hE : eG U) : va_AO "DrawingVault$Revision" U := hE.2.2.2.2.2.2.2.2
theorem eG_same {u U : State} (h : u.vm = U.vm) (hE : eG u) : eG U := ⟨va_Nw.same rfl h (hE.1), va_Nw.same rfl h (hE.2.1), va_Nw.same rfl h (hE.2.2.1), va_Nw.same rfl h (hE.2.2.2.1), va_Nw.same rfl h (hE.2.2.2.2.1), va_Nw.same rfl h (hE.2.2.2.2.2.1), va_AO.moved (by rw [h]; exact Vm.Alike.refl _) (hE.2.2.2.2.2.2.1), va_AO.moved (by rw [h]; exact Vm.Alike.refl _) (hE.2.2.2.2.2.2.2.1), va_AO.moved (by rw [h]; exact Vm.Alike.refl _) (hE.2.2.2.2.2.2.2.2)⟩
theorem eG_warm {s U : State} (hW : s.WarmedH U.vm) (hE : eG s) : eG U := ⟨va_Nw.warmM hW (hE.1), va_Nw.warmM hW (hE.2.1), va_Nw.warmM hW (hE.2.2.1), va_Nw.warmM hW (hE.2.2.2.1), va_Nw.warmM hW (hE.2.2.2.2.1), va_Nw.warmM hW (hE.2.2.2.2.2.1), va_AO.moved hW.alike (hE.2.2.2.2.2.2.1), va_AO.moved hW.alike (hE.2.2.2.2.2.2.2.1), va_AO.moved hW.alike (hE.2.2.2.2.2.2.2.2)⟩
/-- the start of a method that only reads -/
def pR (D : va_G) (ws : va_W) (tys : List (ClassId × FieldType)) (av : List Value) : Array Value → State → Prop := va_Pc av (fun U => va_P D kCl ws U.heap ∧ va_K D kCl tys U ∧ eG U)
theorem pR_blind {D : va_G} {ws : va_W} {tys : List (ClassId × FieldType)} {av : List Value} : FrameBlind (pR D ws tys av) := fun a U g mk h => ⟨h.1, h.2.1, va_K.moved (u := U) (U := U.calling g mk a) (Vm.Alike.refl U.vm) h.2.2.1, eG_same (u := U) rfl h.2.2.2⟩
theorem pR_pre {D : va_G} {ws : va_W} {tys : List (ClassId × FieldType)} {av : List Value} {s : State} {H : Heap} (hP : va_P D kCl ws H) (hK : va_K D kCl tys s) (hG : eG s) : ∀ U : State, U.heap = H → s.WarmedH U.vm → pR D ws tys av av.toArray U := fun U hU hW => ⟨rfl, by rw [hU]; exact hP, va_K.moved hW.alike hK, eG_warm hW hG⟩
/-- the start of a method that writes in its world -/
def pW (D : va_G) (sz : Nat) (ws : va_W) (tys : List (ClassId × FieldType)) (av : List Value) : Array Value → State → Prop := va_Pc av (fun U => U.heap.size = sz ∧ va_P D kCl ws U.heap ∧ va_K D kCl tys U ∧ va_D (fun _ => True) ws ∧ eG U)
theorem pW_blind {D : va_G} {sz : Nat} {ws : va_W} {tys : List (ClassId × FieldType)} {av : List Value} : FrameBlind (pW D sz ws tys av) := fun a U g mk h => ⟨h.1, h.2.1, h.2.2.1, va_K.moved (u := U) (U := U.calling g mk a) (Vm.Alike.refl U.vm) h.2.2.2.1, h.2.2.2.2.1, eG_same (u := U) rfl h.2.2.2.2.2⟩
theorem pW_pre {D : va_G} {ws : va_W} {tys : List (ClassId × FieldType)} {av : List Value} {s : State} {H : Heap} {A : Nat → Prop} (hP : va_P D kCl ws H) (hK : va_K D kCl tys s) (hD : va_D A ws) (hG : eG s) : ∀ U : State, U.heap = H → s.WarmedH U.vm → pW D H.size ws tys av av.toArray U := fun U hU hW => ⟨rfl, by rw [hU], by rw [hU]; exact hP, va_K.moved hW.alike hK, hD.weaken (fun _ _ _ _ => trivial), eG_warm hW hG⟩
/-- the world behind a method -/
def wW (D : va_G) (A : Nat → Prop) (ws : va_W) (tys : List (ClassId × FieldType)) (t : State) : Prop := va_P D kCl ws t.heap ∧ va_K D kCl tys t ∧ va_D A ws
theorem vp_in_lit (i : Int32) (n : Nat) (h : ¬ (i < 0 ∨ n ≤ i.toNatClampNeg)) : vp_in i n := h
theorem vin_of {i : Int32} {n : Nat} {k : Int32} (hk : k.toInt = n) (h1 : ¬ i < 0) (h2 : ¬ k ≤ i) : vp_in i n := vp_in_iff.mpr ⟨by have := Int32.not_lt.mp h1; exact Int32.le_iff_toInt_le.mp this, by rw [← hk]; exact Int32.lt_iff_toInt_lt.mp (Int32.not_le.mp h2)⟩

theorem tsw_lo {w : Int32} (h : w < 0) : w.toInt < 0 := Int32.lt_iff_toInt_lt.mp h
theorem tsw_hi {w : Int32} {n : Nat} (hn : n + 1 < 2 ^ 31) (h : nI (n + 1) ≤ w) : (n : Int) < w.toInt := by
  have h1 := Int32.le_iff_toInt_le.mp h
  rw [nI_toInt hn] at h1
  omega
/-- what count answers on a fresh object -/
def cnt0 (w : Int32) : Int32 := if w = 3 then 400 else if w < 0 ∨ nI 8 ≤ w then -1 else 0
theorem cnt0_lo {w : Int32} (h : w < 0) : (-1 : Int32) = cnt0 w := by
  unfold cnt0
  rw [if_neg (fun e => by subst e; exact absurd h (by decide)), if_pos (Or.inl h)]
theorem cnt0_hi {w : Int32} (h : nI 8 ≤ w) : (-1 : Int32) = cnt0 w := by
  unfold cnt0
  rw [if_neg (fun e => by subst e; exact absurd h (by decide)), if_pos (Or.inr h)]

/-- a loop by a measure -/
theorem lpM {σ : Type} (G : σ → Prop) (I : σ → Prop) (μ : σ → Nat) (hs : ∀ z, I z → (∀ z', I z' → μ z' < μ z → G z') → G z) : ∀ z, I z → G z := by
  have h : ∀ n z, μ z ≤ n → I z → G z := by
    intro n
    induction n with
    | zero => intro z hz hI; exact hs z hI (fun z' _ hlt => absurd hlt (by omega))
    | succ n ih => intro z hz hI; exact hs z hI (fun z' hI' hlt => ih z' (by omega) hI')
  exact fun z hI => h (μ z) z (Nat.le_refl _) hI
theorem wd_0 : (.laysFinal "DrawingVault" "DrawingVault" "rightsOf" "[I" : Cond) ∈ aw := aw_in (tb_1 (List.mem_of_getElem? (i := 108) rfl)) rfl
theorem wd_1 : (.laysFinal "DrawingVault" "DrawingVault" "drawings" "[LDrawingVault$Drawing;" : Cond) ∈ aw := aw_in (tb_1 (List.mem_of_getElem? (i := 110) rfl)) rfl
theorem wd_2 : (.lays "DrawingVault" "DrawingVault" "drawingCount" "I" : Cond) ∈ aw := aw_in (tb_1 (List.mem_of_getElem? (i := 112) rfl)) rfl
theorem wd_3 : (.lays "DrawingVault" "DrawingVault" "revisionCount" "I" : Cond) ∈ aw := aw_in (tb_1 (List.mem_of_getElem? (i := 114) rfl)) rfl
theorem wd_4 : (.laysFinal "DrawingVault" "DrawingVault" "baselines" "[LDrawingVault$Baseline;" : Cond) ∈ aw := aw_in (tb_1 (List.mem_of_getElem? (i := 116) rfl)) rfl
theorem wd_5 : (.lays "DrawingVault" "DrawingVault" "draft" "LDrawingVault$Baseline;" : Cond) ∈ aw := aw_in (tb_1 (List.mem_of_getElem? (i := 118) rfl)) rfl
theorem wd_6 : (.laysFinal "DrawingVault" "DrawingVault" "chunks" "LDrawingVault$ChunkSet;" : Cond) ∈ aw := aw_in (tb_1 (List.mem_of_getElem? (i := 120) rfl)) rfl
theorem wd_7 : (.laysFinal "DrawingVault" "DrawingVault" "pages" "LDrawingVault$Pages;" : Cond) ∈ aw := aw_in (tb_1 (List.mem_of_getElem? (i := 122) rfl)) rfl
theorem wd_8 : (.lays "DrawingVault" "DrawingVault" "reason" "I" : Cond) ∈ aw := aw_in (tb_1 (List.mem_of_getElem? (i := 124) rfl)) rfl
theorem wd_9 : (.laysFinal "DrawingVault$Baseline" "DrawingVault$Baseline" "revisionOf" "[I" : Cond) ∈ aw := aw_in (tb_1 (List.mem_of_getElem? (i := 43) rfl)) rfl
theorem wd_10 : (.laysFinal "DrawingVault$Baseline" "DrawingVault$Baseline" "order" "[I" : Cond) ∈ aw := aw_in (tb_1 (List.mem_of_getElem? (i := 45) rfl)) rfl
theorem wd_11 : (.lays "DrawingVault$Baseline" "DrawingVault$Baseline" "size" "I" : Cond) ∈ aw := aw_in (tb_1 (List.mem_of_getElem? (i := 47) rfl)) rfl
theorem wd_12 : (.laysFinal "DrawingVault$ChunkSet" "DrawingVault$ChunkSet" "pieces" "[J" : Cond) ∈ aw := aw_in (tb_1 (List.mem_of_getElem? (i := 61) rfl)) rfl
theorem wd_13 : (.laysFinal "DrawingVault$ChunkSet" "DrawingVault$ChunkSet" "lengths" "[B" : Cond) ∈ aw := aw_in (tb_1 (List.mem_of_getElem? (i := 63) rfl)) rfl
theorem wd_14 : (.lays "DrawingVault$ChunkSet" "DrawingVault$ChunkSet" "size" "I" : Cond) ∈ aw := aw_in (tb_1 (List.mem_of_getElem? (i := 65) rfl)) rfl
theorem wd_15 : (.lays "DrawingVault$Pages" "DrawingVault$Pages" "free" "I" : Cond) ∈ aw := aw_in (tb_1 (List.mem_of_getElem? (i := 86) rfl)) rfl
theorem wd_16 : (.lays "DrawingVault$Pages" "DrawingVault$Pages" "commands" "I" : Cond) ∈ aw := aw_in (tb_1 (List.mem_of_getElem? (i := 88) rfl)) rfl
theorem wd_17 : (.lays "DrawingVault$Pages" "DrawingVault$Pages" "copiedForward" "I" : Cond) ∈ aw := aw_in (tb_1 (List.mem_of_getElem? (i := 90) rfl)) rfl
theorem wd_18 : (.lays "DrawingVault$Pages" "DrawingVault$Pages" "failed" "Z" : Cond) ∈ aw := aw_in (tb_1 (List.mem_of_getElem? (i := 92) rfl)) rfl
theorem wd_19 : (.lays "DrawingVault$Pages" "DrawingVault$Pages" "failureAhead" "Z" : Cond) ∈ aw := aw_in (tb_1 (List.mem_of_getElem? (i := 94) rfl)) rfl
theorem wd_20 : (.lays "DrawingVault$Pages" "DrawingVault$Pages" "beforeFailure" "I" : Cond) ∈ aw := aw_in (tb_1 (List.mem_of_getElem? (i := 96) rfl)) rfl
theorem wd_21 : (.lays "DrawingVaultModel" "DrawingVaultModel" "thrown" "I" : Cond) ∈ aw := aw_in (tb_4 (List.mem_of_getElem? (i := 41) rfl)) rfl
theorem wd_22 : (.lays "DrawingVaultModel" "DrawingVaultModel" "reason" "I" : Cond) ∈ aw := aw_in (tb_4 (List.mem_of_getElem? (i := 43) rfl)) rfl
theorem wd_23 : (.laysFinal "DrawingVaultModel" "DrawingVaultModel" "now" "[I" : Cond) ∈ aw := aw_in (tb_4 (List.mem_of_getElem? (i := 45) rfl)) rfl
theorem wd_24 : (.laysFinal "DrawingVaultModel" "DrawingVaultModel" "kept" "[I" : Cond) ∈ aw := aw_in (tb_4 (List.mem_of_getElem? (i := 47) rfl)) rfl
theorem wd_25 : (.lays "DrawingVaultModel" "DrawingVaultModel" "failed" "Z" : Cond) ∈ aw := aw_in (tb_4 (List.mem_of_getElem? (i := 49) rfl)) rfl
theorem wd_26 : (.lays "DrawingVaultModel" "DrawingVaultModel" "powerLeft" "I" : Cond) ∈ aw := aw_in (tb_4 (List.mem_of_getElem? (i := 51) rfl)) rfl
theorem wd_27 : (.laysFinal "DrawingVaultModel" "DrawingVaultModel" "marked" "[Z" : Cond) ∈ aw := aw_in (tb_4 (List.mem_of_getElem? (i := 53) rfl)) rfl
theorem wd_28 : (.laysFinal "DrawingVaultModel" "DrawingVaultModel" "come" "[I" : Cond) ∈ aw := aw_in (tb_4 (List.mem_of_getElem? (i := 55) rfl)) rfl
theorem wd_29 : (.lays "DrawingVaultModel" "DrawingVaultModel" "parts2" "Z" : Cond) ∈ aw := aw_in (tb_4 (List.mem_of_getElem? (i := 57) rfl)) rfl
theorem wd_30 : (.lays "DrawingVaultModel" "DrawingVaultModel" "open" "Z" : Cond) ∈ aw := aw_in (tb_4 (List.mem_of_getElem? (i := 59) rfl)) rfl
theorem wd_31 : (.laysFinal "DrawingVaultModel" "DrawingVaultModel" "seen" "[Z" : Cond) ∈ aw := aw_in (tb_4 (List.mem_of_getElem? (i := 61) rfl)) rfl
theorem wd_32 : (.laysFinal "DrawingVault$Content" "DrawingVault$Content" "pieces" "[J" : Cond) ∈ aw := aw_in (tb_2 (List.mem_of_getElem? (i := 147) rfl)) rfl
theorem wd_33 : (.lays "DrawingVault$Content" "DrawingVault$Content" "bytes" "I" : Cond) ∈ aw := aw_in (tb_2 (List.mem_of_getElem? (i := 149) rfl)) rfl
theorem wd_34 : (.laysFinal "DrawingVault$Content" "DrawingVault$Content" "targets" "[I" : Cond) ∈ aw := aw_in (tb_2 (List.mem_of_getElem? (i := 151) rfl)) rfl
theorem wd_35 : (.laysFinal "DrawingVault$Content" "DrawingVault$Content" "fixed" "[I" : Cond) ∈ aw := aw_in (tb_2 (List.mem_of_getElem? (i := 153) rfl)) rfl
theorem wd_36 : (.lays "DrawingVault$Content" "DrawingVault$Content" "references" "I" : Cond) ∈ aw := aw_in (tb_2 (List.mem_of_getElem? (i := 155) rfl)) rfl
theorem wd_37 : (.laysFinal "DrawingVault$Drawing" "DrawingVault$Drawing" "revisions" "[LDrawingVault$Revision;" : Cond) ∈ aw := aw_in (tb_2 (List.mem_of_getElem? (i := 168) rfl)) rfl
theorem wd_38 : (.lays "DrawingVault$Drawing" "DrawingVault$Drawing" "revisionCount" "I" : Cond) ∈ aw := aw_in (tb_2 (List.mem_of_getElem? (i := 170) rfl)) rfl
theorem wd_39 : (.lays "DrawingVault$Drawing" "DrawingVault$Drawing" "holder" "I" : Cond) ∈ aw := aw_in (tb_2 (List.mem_of_getElem? (i := 172) rfl)) rfl
theorem wd_40 : (.laysFinal "DrawingVault$Drawing" "DrawingVault$Drawing" "copy" "LDrawingVault$Content;" : Cond) ∈ aw := aw_in (tb_2 (List.mem_of_getElem? (i := 174) rfl)) rfl
theorem wd_41 : (.laysFinal "DrawingVault$Drawing" "DrawingVault$Drawing" "written" "LDrawingVault$Content;" : Cond) ∈ aw := aw_in (tb_2 (List.mem_of_getElem? (i := 176) rfl)) rfl
theorem wd_42 : (.laysFinal "DrawingVault$Revision" "DrawingVault$Revision" "content" "LDrawingVault$Content;" : Cond) ∈ aw := aw_in (tb_2 (List.mem_of_getElem? (i := 198) rfl)) rfl
theorem wd_43 : (.laysFinal "DrawingVault$Revision" "DrawingVault$Revision" "author" "I" : Cond) ∈ aw := aw_in (tb_2 (List.mem_of_getElem? (i := 200) rfl)) rfl
theorem wd_44 : (.lays "DrawingVault$Revision" "DrawingVault$Revision" "state" "I" : Cond) ∈ aw := aw_in (tb_2 (List.mem_of_getElem? (i := 202) rfl)) rfl
theorem inV : ∀ w ∈ u_ws RV TV 9, w ∈ aw := by
  intro w hw
  obtain ⟨k, hk, rfl⟩ := List.mem_map.mp hw
  rw [List.mem_range] at hk
  rcases (show k = 0 ∨ k = 1 ∨ k = 2 ∨ k = 3 ∨ k = 4 ∨ k = 5 ∨ k = 6 ∨ k = 7 ∨ k = 8 by omega) with rfl | rfl | rfl | rfl | rfl | rfl | rfl | rfl | rfl
  · exact wd_0
  · exact wd_1
  · exact wd_2
  · exact wd_3
  · exact wd_4
  · exact wd_5
  · exact wd_6
  · exact wd_7
  · exact wd_8
theorem inB : ∀ w ∈ u_ws RB TB 3, w ∈ aw := by
  intro w hw
  obtain ⟨k, hk, rfl⟩ := List.mem_map.mp hw
  rw [List.mem_range] at hk
  rcases (show k = 0 ∨ k = 1 ∨ k = 2 by omega) with rfl | rfl | rfl
  · exact wd_9
  · exact wd_10
  · exact wd_11
theorem inK : ∀ w ∈ u_ws RK TK 3, w ∈ aw := by
  intro w hw
  obtain ⟨k, hk, rfl⟩ := List.mem_map.mp hw
  rw [List.mem_range] at hk
  rcases (show k = 0 ∨ k = 1 ∨ k = 2 by omega) with rfl | rfl | rfl
  · exact wd_12
  · exact wd_13
  · exact wd_14
theorem inP : ∀ w ∈ u_ws RP TP 6, w ∈ aw := by
  intro w hw
  obtain ⟨k, hk, rfl⟩ := List.mem_map.mp hw
  rw [List.mem_range] at hk
  rcases (show k = 0 ∨ k = 1 ∨ k = 2 ∨ k = 3 ∨ k = 4 ∨ k = 5 by omega) with rfl | rfl | rfl | rfl | rfl | rfl
  · exact wd_15
  · exact wd_16
  · exact wd_17
  · exact wd_18
  · exact wd_19
  · exact wd_20
theorem inM : ∀ w ∈ u_ws RM TM 11, w ∈ aw := by
  intro w hw
  obtain ⟨k, hk, rfl⟩ := List.mem_map.mp hw
  rw [List.mem_range] at hk
  rcases (show k = 0 ∨ k = 1 ∨ k = 2 ∨ k = 3 ∨ k = 4 ∨ k = 5 ∨ k = 6 ∨ k = 7 ∨ k = 8 ∨ k = 9 ∨ k = 10 by omega) with rfl | rfl | rfl | rfl | rfl | rfl | rfl | rfl | rfl | rfl | rfl
  · exact wd_21
  · exact wd_22
  · exact wd_23
  · exact wd_24
  · exact wd_25
  · exact wd_26
  · exact wd_27
  · exact wd_28
  · exact wd_29
  · exact wd_30
  · exact wd_31
theorem inC : ∀ w ∈ u_ws RC TC 5, w ∈ aw := by
  intro w hw
  obtain ⟨k, hk, rfl⟩ := List.mem_map.mp hw
  rw [List.mem_range] at hk
  rcases (show k = 0 ∨ k = 1 ∨ k = 2 ∨ k = 3 ∨ k = 4 by omega) with rfl | rfl | rfl | rfl | rfl
  · exact wd_32
  · exact wd_33
  · exact wd_34
  · exact wd_35
  · exact wd_36
theorem inD : ∀ w ∈ u_ws RD TD 5, w ∈ aw := by
  intro w hw
  obtain ⟨k, hk, rfl⟩ := List.mem_map.mp hw
  rw [List.mem_range] at hk
  rcases (show k = 0 ∨ k = 1 ∨ k = 2 ∨ k = 3 ∨ k = 4 by omega) with rfl | rfl | rfl | rfl | rfl
  · exact wd_37
  · exact wd_38
  · exact wd_39
  · exact wd_40
  · exact wd_41
theorem inS : ∀ w ∈ u_ws RS TS 3, w ∈ aw := by
  intro w hw
  obtain ⟨k, hk, rfl⟩ := List.mem_map.mp hw
  rw [List.mem_range] at hk
  rcases (show k = 0 ∨ k = 1 ∨ k = 2 by omega) with rfl | rfl | rfl
  · exact wd_42
  · exact wd_43
  · exact wd_44
