/-! ===== BEGIN words of one list among another's, by their places ===== -/
theorem goodIn_r {big : List Cond} (ws : List Cond) (ps : List Nat) (hp : ws = ps.filterMap (fun i => big[i]?)) (h : ws.all goodWord = true) : GoodIn big ws := by
  intro w hw
  have h1 := List.all_eq_true.mp h w hw
  rw [hp] at hw
  obtain ⟨i, -, hi⟩ := List.mem_filterMap.mp hw
  have hm : w ∈ big := by first | exact List.mem_of_getElem? hi | exact List.getElem?_mem hi
  exact ⟨hm, good_of_word h1⟩
theorem goodIn_app {big a b : List Cond} (ha : GoodIn big a) (hb : GoodIn big b) : GoodIn big (a ++ b) := fun w h => (List.mem_append.mp h).elim (ha w) (hb w)
theorem goodIn_ca {big a b : List Cond} {c : Cond} (ha : GoodIn big (c :: a)) (hb : GoodIn big b) : GoodIn big (c :: (a ++ b)) := fun w h => (List.mem_cons.mp h).elim (fun e => ha w (List.mem_cons.mpr (Or.inl e))) (fun h => (List.mem_append.mp h).elim (fun h => ha w (List.mem_cons.mpr (Or.inr h))) (hb w))
theorem goodIn_sub {big ws : List Cond} (hm : ∀ w ∈ ws, w ∈ big) (h : ws.all goodWord = true) : GoodIn big ws := fun w hw => ⟨hm w hw, good_of_word (List.all_eq_true.mp h w hw)⟩
/-! ===== END ===== -/
section VXA
def vx_T (XC : String → State → State → Prop) (st : State) (q : Addr) (t : State) (mc ms : Nat) (free : Addr → Prop) : Prop :=
  ∃ (E : String) (ce : Cell) (L : List Loc), XC E st t ∧ t.heap[q]? = some ce ∧ ce.vm = .none ∧ st.vm.findClass E = some ce.cls ∧ st.WarmedH t.vm ∧ st.sameButNew ({ t with vm := st.vm } : State) L mc ms ∧ ∀ z ∈ L, free z.base
def vx_Q (Qc : Array Value → State → Outcome → State → Prop) (XC : String → State → State → Prop) (mc ms : Nat) (free : Addr → Prop) : Array Value → State → Outcome → State → Prop := fun a st o t =>
  (Qc a st o t ∧ ∃ L, FrameEnd st o t L mc ms ∧ ∀ q ∈ L, free q.base) ∨ ∃ q, o = .threw q ∧ vx_T XC st q t mc ms free
section Ends
variable {p : Program} {l : Launch} {e : Env} {R : Room} {s : State} {m : MethodId} {args : Array Value} {below : List Frame} {meth : Method} {c : Code} {H : Heap} {locs : List Loc} {cells slots : Nat} {Q : State → Prop}
variable {mc ms : Nat} {free : Addr → Prop} {A0 A1 : Nat → Prop} {H0 : Heap} {a : Array Value} {ls : Array Slot} {st0 rest : List Value}
variable {Qc : Array Value → State → Outcome → State → Prop} {XC : String → State → State → Prop}
def vx_MQ (below : List Frame) (Qc : Array Value → State → Outcome → State → Prop) (XC : String → State → State → Prop) (a : Array Value) (s : State) (mc ms : Nat) (free : Addr → Prop) : State → Prop := fun t =>
  ∃ o, t.status = .running ∧ Ended t below o ∧ vx_Q Qc XC mc ms free a s o t
theorem vx_frame {U : State} {k n : Nat} (h : s.sameButNew ({ U with vm := s.vm } : State) locs k n) : s.heap.size ≤ U.heap.size ∧ ∀ q : Nat, q < s.heap.size → (∀ z ∈ locs, z.base ≠ q) → U.heap[q]? = s.heap[q]? := by
  obtain ⟨-, h2, -, -, -, h6⟩ := h
  refine ⟨h2, fun q hq hz => ?_⟩
  obtain ⟨c9, e1, e2, e3, e4⟩ := h6 q _ (Array.getElem?_eq_getElem hq)
  have hs : c9.slots = (s.heap[q]).slots := Array.ext_getElem? fun i => e4 i fun hm => hz _ hm rfl
  have h9 : c9 = s.heap[q] := by
    rw [hs] at e2
    exact e2
  have e5 : U.heap[q]? = some c9 := e1
  rw [e5, h9, Array.getElem?_eq_getElem hq]
def vx_no (w : Cond) : Bool := decide (w ≠ .isRef (.static Bundle.tN "UNASSIGNED_STACK" Bundle.steD)) && decide (w ≠ .isRef (.static Bundle.tN "SUPPRESSED_SENTINEL" Bundle.listD)) && decide (w ≠ .laysStatic Bundle.tN "UNASSIGNED_STACK" Bundle.steD) && decide (w ≠ .laysStatic Bundle.tN "SUPPRESSED_SENTINEL" Bundle.listD)
def vx_at0 (own : String) (ic : Nat) (X : String) (names : List String) : List Cond := (Bundle.ownAtoms0 own ic X names).filter vx_no
def vx_atS (own : String) (ic : Nat) (X : String) (names : List String) : List Cond := (Bundle.ownAtoms own ic X names).filter vx_no
def vx_ot (w : Cond) : Bool := w.onTables || goodWord w
theorem vx_ot_at {args a' : Array Value} {s U : State} {w : Cond} (hW : s.WarmedH U.vm) (hvm : s.vm = U.vm) (hg : vx_ot w = true) (h : w.before args s = true) : w.before a' U = true := by
  simp only [vx_ot, Bool.or_eq_true] at hg
  rcases hg with hg | hg
  · exact va_tabs hg hvm h
  · exact word_at hW (good_of_word hg) h
theorem vx_hat {args : Array Value} {s : State} {L B : List Cond} (h1 : ∀ w ∈ L.filter goodWord, w.before args s = true) (h2 : ∀ w ∈ L.filter (fun w => !goodWord w), w ∈ B) (h3 : ∀ w ∈ B, w.before args s = true) : ∀ w ∈ L, w.before args s = true := by
  intro w hw
  by_cases g : goodWord w = true
  · exact h1 w (List.mem_filter.mpr ⟨hw, g⟩)
  · refine h3 w (h2 w (List.mem_filter.mpr ⟨hw, ?_⟩))
    show (!goodWord w) = true
    cases hgw : goodWord w
    · rfl
    · exact absurd hgw g
theorem vx_c {args : Array Value} {s : State} {w : Cond} {B : List Cond} (h : w.before args s = true) (t : ∀ w ∈ B, w.before args s = true) : ∀ w' ∈ w :: B, w'.before args s = true := fun w' h' => (List.mem_cons.mp h').elim (fun e => by rw [e]; exact h) (t w')
theorem vx_n {args : Array Value} {s : State} : ∀ w ∈ ([] : List Cond), w.before args s = true := fun _ h => nomatch h
theorem vx_own {args : Array Value} {s : State} {L : List Cond} (h1 : ∀ w ∈ L.filter vx_no, w.before args s = true)
    (hU : (Cond.isRef (.static Bundle.tN "UNASSIGNED_STACK" Bundle.steD)).before args s = true) (hN : (Cond.isRef (.static Bundle.tN "SUPPRESSED_SENTINEL" Bundle.listD)).before args s = true)
    (lU : (Cond.laysStatic Bundle.tN "UNASSIGNED_STACK" Bundle.steD).before args s = true) (lN : (Cond.laysStatic Bundle.tN "SUPPRESSED_SENTINEL" Bundle.listD).before args s = true) : ∀ w ∈ L, w.before args s = true := by
  intro w hw
  by_cases e1 : w = .isRef (.static Bundle.tN "UNASSIGNED_STACK" Bundle.steD)
  · rw [e1]; exact hU
  · by_cases e2 : w = .isRef (.static Bundle.tN "SUPPRESSED_SENTINEL" Bundle.listD)
    · rw [e2]; exact hN
    · by_cases e3 : w = .laysStatic Bundle.tN "UNASSIGNED_STACK" Bundle.steD
      · rw [e3]; exact lU
      · by_cases e4 : w = .laysStatic Bundle.tN "SUPPRESSED_SENTINEL" Bundle.listD
        · rw [e4]; exact lN
        · exact h1 w (List.mem_filter.mpr ⟨hw, by unfold vx_no; rw [decide_eq_true e1, decide_eq_true e2, decide_eq_true e3, decide_eq_true e4]; rfl⟩)
def vx_L (C n d : String) (A : Nat → Prop) (U : State) (H : Heap) : Prop := ∃ (c : ClassId) (k : Class) (i : Nat) (f : Field) (a : Nat) (cell : Cell), U.vm.findClass C = some c ∧ U.fieldFound? C n d = some (c, k, i, f) ∧ f.isStatic = true ∧ k.statics = some a ∧ H[a]? = some cell ∧ cell.vm.isStatics = true ∧ cell.cls = c ∧ f.slot < cell.slots.size ∧ k.staticTypes[f.slot]? = some f.type ∧ ¬ A a
theorem vx_L.moved {C n d : String} {A : Nat → Prop} {u U : State} {H : Heap} (hvm : u.vm.Alike U.vm) (h : vx_L C n d A u H) : vx_L C n d A U H := by
  obtain ⟨c, k, i, f, a, cell, h1, h2, h3, h4, h5, h6, h7, h8, h9, h10⟩ := h
  obtain ⟨k', hi', he⟩ := State.fieldFound?_setVm hvm h2
  exact ⟨c, k', i, f, a, cell, by rw [hvm.findClass]; exact h1, hi', h3, by rw [he]; exact h4, h5, h6, h7, h8, by rw [he]; exact h9, h10⟩
theorem vx_L.kept {C n d : String} {A : Nat → Prop} {U : State} {H H1 : Heap} (h : vx_L C n d A U H) (hq : ∀ a : Nat, a < H.size → ¬ A a → H1[a]? = H[a]?) : vx_L C n d A U H1 := by
  obtain ⟨c, k, i, f, a, cell, h1, h2, h3, h4, h5, h6, h7, h8, h9, h10⟩ := h
  exact ⟨c, k, i, f, a, cell, h1, h2, h3, h4, by rw [hq a (Array.getElem?_eq_some_iff.mp h5).1 h10]; exact h5, h6, h7, h8, h9, h10⟩
theorem vx_L.narrow {C n d : String} {A B : Nat → Prop} {U : State} {H : Heap} (h : vx_L C n d A U H) (hAB : ∀ q, B q → A q) : vx_L C n d B U H := by
  obtain ⟨c, k, i, f, a, cell, h1, h2, h3, h4, h5, h6, h7, h8, h9, h10⟩ := h
  exact ⟨c, k, i, f, a, cell, h1, h2, h3, h4, h5, h6, h7, h8, h9, fun z => h10 (hAB _ z)⟩
theorem vx_L.word {C n d : String} {A : Nat → Prop} {s : State} {args : Array Value} (h : vx_L C n d A s s.heap) : (Cond.laysStatic C n d).before args s = true := by
  obtain ⟨c, k, i, f, a, cell, h1, h2, h3, h4, h5, h6, h7, h8, h9, -⟩ := h
  show (Cond.laysStatic C n d).holds args s none s [] = true
  exact Cond.laysStatic_of h1 h2 h3 h4 h5 h6 h7 h8 h9
def vx_Zq (C n d : String) (A : Nat → Prop) (U : State) (H : Heap) : Prop := va_Zq C n d A U H ∧ vx_L C n d A U H
theorem vx_Zq.moved {C n d : String} {A : Nat → Prop} {u U : State} {H : Heap} (hvm : u.vm.Alike U.vm) (h : vx_Zq C n d A u H) : vx_Zq C n d A U H := ⟨va_Zq.moved hvm h.1, vx_L.moved hvm h.2⟩
theorem vx_Zq.kept {C n d : String} {A : Nat → Prop} {U : State} {H H1 : Heap} (h : vx_Zq C n d A U H) (hq : ∀ a : Nat, a < H.size → ¬ A a → H1[a]? = H[a]?) : vx_Zq C n d A U H1 := ⟨va_Zq.kept h.1 hq, vx_L.kept h.2 hq⟩
theorem vx_Zq.narrow {C n d : String} {A B : Nat → Prop} {U : State} {H : Heap} (h : vx_Zq C n d A U H) (hAB : ∀ q, B q → A q) : vx_Zq C n d B U H := ⟨va_Zq.narrow h.1 hAB, vx_L.narrow h.2 hAB⟩
theorem vx_Zqof {args : Array Value} {s : State} {C n d : String} {A : Nat → Prop} (hl : (Cond.laysStatic C n d).before args s = true) (hini : (Cond.initialized C).before args s = true) (h : (Cond.isRef (.static C n d)).before args s = true) (hA : ∀ a : Nat, a < s.heap.size → ¬ A a) : vx_Zq C n d A s s.heap := by
  refine ⟨va_Zqof hl hini h hA, ?_⟩
  obtain ⟨c, k, i, f, a, cell, h1, h2, h3, h4, h5, h6, h7, h8, h9⟩ := Cond.laysStatic_spec hl
  exact ⟨c, k, i, f, a, cell, h1, h2, h3, h4, h5, h6, h7, h8, h9, hA a (Array.getElem?_eq_some_iff.mp h5).1⟩
theorem vx_isRef {C n d : String} {v : Value} {A : Nat → Prop} {s : State} {args : Array Value} (h : va_Z C n d v A s s.heap) (hv : v.isRef = true) : (Cond.isRef (.static C n d)).before args s = true := by
  obtain ⟨cf, kf, fi, f, a, cell, h1, h2, h3, h4, h5, h6, h7, -⟩ := h
  have he : (Term.static C n d).eval args s none [] s = some v := by
    simp [Term.eval, State.fieldNamed?, h1, h2, h4, h5, h6, h7]
  simp only [Cond.before, Cond.holds, Cond.value, he]
  cases v <;> simp_all [Value.isRef]
theorem vx_isRefq {C n d : String} {A : Nat → Prop} {s : State} {args : Array Value} (h : va_Zq C n d A s s.heap) : (Cond.isRef (.static C n d)).before args s = true := by
  rcases h with h | ⟨t, h⟩
  · exact vx_isRef h rfl
  · exact vx_isRef h rfl
theorem vx_rebase {T : State} (X : Stand p l e R s m args below meth c T locs cells slots) {R' : Room} (hf : R'.frames ≤ R.frames) (hl : R'.locals ≤ R.locals) (hc : cells + R'.cells ≤ R.cells) (hs : slots + R'.slots ≤ R.slots) :
    Stand p l e R' ((T.setVm s.vm).setFrames (.invoking m args :: below)) m args below meth c T [] 0 0 := by
  have htop : (T.setVm s.vm).topJava?.isSome := X.here.top
  have hF : ((T.setVm s.vm).setFrames (.invoking m args :: below)).frames = .invoking m args :: below := State.frames_setFrames _ (State.cur_lt_of_top htop)
  obtain ⟨g₀, hg0⟩ := Option.isSome_iff_exists.mp htop
  obtain ⟨r, hr⟩ := State.topJava?_eq_some.mp hg0
  have hl9 : e.platform.stackLimits (T.setVm s.vm).me = e.platform.stackLimits s.me := X.limits
  have hb9 : (T.setVm s.vm).me.stackBytes = s.me.stackBytes := X.bytes
  refine ⟨X.admits, X.cas, X.clock, hF, ?_, X.hears, X.method, X.code, X.here, X.tail, X.warmed, ?_, ?_, ?_⟩
  · have h := X.room
    have hU : ((T.setVm s.vm).setFrames (.invoking m args :: below)).localsInUse = s.localsInUse := by
      rw [State.localsInUse_invoking hF (meth := meth) (c := c) X.method X.code, State.localsInUse_invoking X.frames X.method X.code]
    simp only [State.hasRoom, Bool.and_eq_true, decide_eq_true_eq] at h ⊢
    obtain ⟨⟨⟨⟨h1, h2, h3, h4, h5, h6⟩, h7⟩, h8⟩, h9⟩ := h
    rw [X.frames, List.length_cons] at h2 h3
    have q1 := X.heapSize
    have q2 := X.used
    simp only [hF, hU, List.length_cons, State.stackLimits_setFrames, State.stackBytes_setFrames, hl9, hb9]
    refine ⟨⟨⟨⟨by omega, by omega, by omega, by omega, by omega, h6⟩, ?_⟩, ?_⟩, X.book⟩
    · show T.heap.size + R'.cells ≤ e.platform.maxCells
      omega
    · show T.slotsUsed + R'.slots ≤ e.platform.maxSlots
      omega
  · rw [State.stackLimits_setFrames]; rfl
  · rw [State.stackBytes_setFrames]; rfl
  · refine ⟨?_, Nat.le_refl _, Nat.le_refl _, ?_, ?_, fun a c9 h9 => ⟨c9, h9, rfl, rfl, fun _ _ => rfl⟩⟩
    · obtain ⟨t, ht, -⟩ := State.frames_cons hr
      show T.setVm s.vm = { ((T.setVm s.vm).setFrames (.invoking m args :: below)).setFrames (T.setVm s.vm).frames with heap := T.heap, slotsUsed := T.slotsUsed }
      rw [State.setFrames_setFrames, State.setFrames_self ht]
      rfl
    · show T.slotsUsed = T.slotsUsed + ((T.heap.toList.drop T.heap.size).map (·.slots.size)).sum
      rw [List.drop_eq_nil_of_le (Nat.le_of_eq Array.length_toList)]
      rfl
    · show ((T.heap.toList.drop T.heap.size).map (·.slots.size)).sum ≤ 0
      rw [List.drop_eq_nil_of_le (Nat.le_of_eq Array.length_toList)]
      exact Nat.le_refl _
theorem vx_throwS {cc : ByteArray} {pc : Nat} (hexec : p.tables.exec = Jvm.exec) (hb : c.code = cc) (hl : l.stackTraces = false) {own cls text : String} {names : List String} {ik is ic mc ms sa : Nat} {A : Nat → Prop}
    (hown : s.vm.findClass own = some m.cls) (hcls : Bundle.fit cls = true) (hnames : ∀ n ∈ names, Bundle.fit n = true)
    (hk : (Cond.classLink own ik cls).before args s = true) (hini : (Cond.initialized cls).before args s = true) (hstr : vk_R own is text sa s) (hat : ∀ w ∈ vx_atS own ic cls names, w.before args s = true)
    (hgood : ∀ w ∈ Cond.classLink own ik cls :: Cond.initialized cls :: vx_atS own ic cls names, vx_ot w = true)
    (hU : vx_Zq Bundle.tN "UNASSIGNED_STACK" Bundle.steD A s s.heap) (hN : vx_Zq Bundle.tN "SUPPRESSED_SENTINEL" Bundle.listD A s s.heap) (hS : va_S A s.heap H locs) (hsize : ls.size = c.maxLocals)
    (d0 : decode cc pc = .ok (.new ik, 3)) (d3 : decode cc (pc + 3) = .ok (.dup, 1)) (d4 : decode cc (pc + 4) = .ok (.ldc is, 2)) (d6 : decode cc (pc + 6) = .ok (.invokespecial ic, 3)) (d9 : decode cc (pc + 9) = .ok (.athrow, 1))
    (hout : ∀ x ∈ c.exceptionTable.toList, covers x (pc + 9) = false)
    (hRframes : names.length + 3 < R.frames) (hRlocals : (rest.map fun v => v.category).sum + (13 * (names.length + 1) + 43) ≤ R.locals) (hRcells : cells + 1 ≤ R.cells) (hRslots : slots + 6 ≤ R.slots) (hlocks : meth.locks = false)
    (hx : ∀ t : State, s.vm.Alike t.vm → H.size ≤ t.heap.size → (∀ q : Nat, q < H.size → t.heap[q]? = H[q]?) → XC cls s t)
    (hf : ∀ z ∈ locs, free z.base) (hc : cells + 1 ≤ mc) (hs : slots + 6 ≤ ms) :
    W p l e R s m args below meth c H locs cells slots (vx_MQ below Qc XC args s mc ms free) (F0 m pc ls rest) := by
  intro T hT X
  have htr : e.platform.stackTraces = false := (show e.platform.stackTraces = l.stackTraces by rw [X.admits.platform]).trans hl
  have Y := vx_rebase X (R' := { frames := R.frames, locals := R.locals, cells := 1, slots := 6 }) (Nat.le_refl _) (Nat.le_refl _) hRcells hRslots
  obtain ⟨s', hA⟩ : ∃ z, z = (T.setVm s.vm).setFrames (.invoking m args :: below) := ⟨_, rfl⟩
  rw [← hA] at Y
  have hvm : s'.vm = s.vm := by rw [hA]; rfl
  have hhp : s'.heap = H := by rw [hA]; exact hT
  have hW0 : s.WarmedH s'.vm := by rw [hvm]; exact State.WarmedH.refl s
  have hat' : ∀ w ∈ vx_atS own ic cls names, w.before args s' = true := fun w hw => vx_ot_at hW0 hvm.symm (hgood w (List.mem_cons_of_mem _ (List.mem_cons_of_mem _ hw))) (hat w hw)
  have hk' : (Cond.classLink own ik cls).before args s' = true := vx_ot_at hW0 hvm.symm (hgood _ List.mem_cons_self) hk
  have hini' : (Cond.initialized cls).before args s' = true := vx_ot_at hW0 hvm.symm (hgood _ (List.mem_cons_of_mem _ List.mem_cons_self)) hini
  have hU' : vx_Zq Bundle.tN "UNASSIGNED_STACK" Bundle.steD A s' s'.heap := by rw [hhp]; exact vx_Zq.moved hW0.alike (hU.kept hS.2.1)
  have hN' : vx_Zq Bundle.tN "SUPPRESSED_SENTINEL" Bundle.listD A s' s'.heap := by rw [hhp]; exact vx_Zq.moved hW0.alike (hN.kept hS.2.1)
  have h : ∀ w ∈ Bundle.ownAtoms own ic cls names, w.before args s' = true := vx_own hat' (vx_isRefq hU'.1) (vx_isRefq hN'.1) hU'.2.word hN'.2.word
  have hown' : s'.vm.findClass own = some m.cls := by rw [hvm]; exact hown
  have hins : (Cond.instantiable cls 6).before args s' = true := h _ (by simp [Bundle.ownAtoms])
  obtain ⟨vm₁, cX, kX, hfX, hkX, -, -, X₁, st1⟩ := Y.newCold hexec (own := own) (C := cls) (index := ik) (n := 6) hown' hk' hins hini'
    (g := F0 m pc ls rest) rfl (by rw [hb]; exact d0) (Nat.le_refl _) (Nat.le_refl _)
  generalize hT1 : (T.setVm vm₁).pushCell { cls := cX, slots := kX.instanceTypes.map defaultValue, vm := .none } = T1 at X₁ st1
  have hcat : (Value.ref T.heap.size).category = 1 := rfl
  have hcellA : T1.heap[T.heap.size]? = some (freshCell cX kX) := by rw [← hT1]; exact State.heap_pushCell_size _ _
  have d3' : decode c.code (pc + 3) = .ok (.dup, 1) := by rw [hb]; exact d3
  have d4' : decode c.code (pc + 4) = .ok (.ldc is, 2) := by rw [hb]; exact d4
  have hstr' : vk_R own is text sa s' := vk_R.warm hW0 hstr
  obtain ⟨U, hsteps, hrun, hend, hW, hsame, ce, hce, hO⟩ := X₁.ctorThrowS hexec htr (own := own) (cls := cls) (names := names) (ic := ic) hown' hcls hnames h (fun x hx => nomatch hx) hfX hkX hcellA (by rw [hhp, hT]; exact Nat.le_refl _) (msg := .ref sa) rfl
    (g := { method := m, pc := pc + 6, locals := ls, stack := .ref sa :: .ref T.heap.size :: .ref T.heap.size :: rest, locked := none }) rfl hsize rfl rfl (rest := rest) rfl
    (by rw [hb]; exact d6) (by rw [hb]; exact d9) hout hRframes (by simp only [List.map_cons, List.sum_cons, hcat]; omega) hlocks
  obtain ⟨f1, f2⟩ := vx_frame hsame
  rw [hhp] at f1 f2
  have hWs : s.WarmedH U.vm := State.WarmedH.trans hW0 hW
  have hcl : s.vm.findClass cls = some ce.cls := by
    have h9 := hO.cls
    rw [hvm] at h9
    exact h9
  have hall : s.sameButNew ({ U with vm := s.vm } : State) locs mc ms := by
    subst hA
    obtain ⟨e1, e2⟩ := hsame
    rw [State.setFrames_setFrames] at e1
    have h2 : (T.setVm s.vm).sameButNew ({ U with vm := s.vm } : State) [] (0 + 1) (0 + 6) := ⟨e1, e2⟩
    have h3 := X.same.trans h2
    rw [List.append_nil] at h3
    exact h3.mono hc hs
  refine ⟨U, ?_, .threw T.heap.size, hrun, hend, Or.inr ⟨T.heap.size, rfl, cls, ce, locs, hx U hWs.alike f1 (fun q hq => f2 q hq (fun z hz => nomatch hz)), hce, hO.vm, hcl, hWs, hall, hf⟩⟩
  refine st1 _ ?_
  show Steps p.tables e below (T1.setTop { method := m, pc := pc + 3, locals := ls, stack := .ref T.heap.size :: rest, locked := none }) _
  jvm_step X₁.here [X₁.here.top, hexec, d3', Value.category]
  exact X₁.ldcString hexec (own := own) (text := text) (index := is) (a := sa) hown' hstr'.1 hstr'.2
    (g := { method := m, pc := pc + 4, locals := ls, stack := .ref T.heap.size :: .ref T.heap.size :: rest, locked := none }) rfl d4' _ hsteps
end Ends
end VXA
def RX0 : String := "OrderLine"
def TX0 : u_T := fun k => match k with
  | 0 => ("OrderLine", "line", "[I", true)
  | 1 => ("OrderLine", "places", "[I", true)
  | _ => ("OrderLine", "count", "I", false)
def tyX0 : Nat → FieldType := fun k => match k with
  | 0 => .array .int
  | 1 => .array .int
  | _ => .int
abbrev wsX00 : List Cond := u_ws RX0 TX0 3
theorem nmX0 : ∀ a, a < 3 → ∀ b, b < 3 → a ≠ b → (TX0 a).2.1 ≠ (TX0 b).2.1 := by decide +kernel
theorem tyX0_ok : ∀ k, k < 3 → parseFieldDescriptor (TX0 k).2.2.1 = some (tyX0 k) := by decide +kernel
abbrev cX0_init : ByteArray := prog_1_method_1_code
def yX0_init : MethodName := ⟨RX0, "<init>", "()V"⟩
abbrev cX0_behind : ByteArray := prog_1_method_2_code
def yX0_behind : MethodName := ⟨RX0, "behind", "(I)I"⟩
abbrev cX0_several : ByteArray := prog_1_method_3_code
def yX0_several : MethodName := ⟨RX0, "several", "(II)I"⟩
abbrev cX0_remove : ByteArray := prog_1_method_4_code
def yX0_remove : MethodName := ⟨RX0, "remove", "(I)Z"⟩
abbrev cX0_clear : ByteArray := prog_1_method_5_code
def yX0_clear : MethodName := ⟨RX0, "clear", "(II)I"⟩
abbrev cX0_carry : ByteArray := prog_1_method_6_code
def yX0_carry : MethodName := ⟨RX0, "carry", "(III)I"⟩
abbrev cX0_compare : ByteArray := prog_1_method_7_code
def yX0_compare : MethodName := ⟨RX0, "compare", "(II)I"⟩
abbrev cX0_next : ByteArray := prog_1_method_8_code
def yX0_next : MethodName := ⟨RX0, "next", "(IZ)I"⟩
abbrev cX0_has : ByteArray := prog_1_method_9_code
def yX0_has : MethodName := ⟨RX0, "has", "(I)Z"⟩
abbrev cX0_place : ByteArray := prog_1_method_10_code
def yX0_place : MethodName := ⟨RX0, "place", "(I)I"⟩
abbrev cX0_at : ByteArray := prog_1_method_11_code
def yX0_at : MethodName := ⟨RX0, "at", "(I)I"⟩
abbrev cX0_greatest : ByteArray := prog_1_method_12_code
def yX0_greatest : MethodName := ⟨RX0, "greatest", "(II)I"⟩
abbrev cX0_wipe : ByteArray := prog_1_method_13_code
def yX0_wipe : MethodName := ⟨RX0, "wipe", "()V"⟩
abbrev cX0_look : ByteArray := prog_1_method_14_code
def yX0_look : MethodName := ⟨RX0, "look", "(I)I"⟩
abbrev cX0_demand : ByteArray := prog_1_method_15_code
def yX0_demand : MethodName := ⟨RX0, "demand", "(I)V"⟩
abbrev cX0_leastFree : ByteArray := prog_1_method_16_code
def yX0_leastFree : MethodName := ⟨RX0, "leastFree", "()I"⟩
abbrev cX0_addBehind : ByteArray := prog_1_method_17_code
def yX0_addBehind : MethodName := ⟨RX0, "addBehind", "(II)I"⟩
abbrev cX0_openGap : ByteArray := prog_1_method_18_code
def yX0_openGap : MethodName := ⟨RX0, "openGap", "(II)V"⟩
abbrev cX0_fillGap : ByteArray := prog_1_method_19_code
def yX0_fillGap : MethodName := ⟨RX0, "fillGap", "(II)V"⟩
abbrev cX0_takeOut : ByteArray := prog_1_method_20_code
def yX0_takeOut : MethodName := ⟨RX0, "takeOut", "(II)V"⟩
abbrev cX0_swapBlocks : ByteArray := prog_1_method_21_code
def yX0_swapBlocks : MethodName := ⟨RX0, "swapBlocks", "(III)V"⟩
abbrev cX0_turn : ByteArray := prog_1_method_22_code
def yX0_turn : MethodName := ⟨RX0, "turn", "(II)V"⟩
abbrev cX0_put : ByteArray := prog_1_method_23_code
def yX0_put : MethodName := ⟨RX0, "put", "(II)V"⟩
def RX1 : String := "OrderLineModel"
def TX1 : u_T := fun k => match k with
  | 0 => ("OrderLineModel", "thrown", "I", false)
  | 1 => ("OrderLineModel", "line", "[I", true)
  | 2 => ("OrderLineModel", "many", "I", false)
  | _ => ("OrderLineModel", "aside", "[I", true)
def tyX1 : Nat → FieldType := fun k => match k with
  | 0 => .int
  | 1 => .array .int
  | 2 => .int
  | _ => .array .int
abbrev wsX10 : List Cond := u_ws RX1 TX1 4
theorem nmX1 : ∀ a, a < 4 → ∀ b, b < 4 → a ≠ b → (TX1 a).2.1 ≠ (TX1 b).2.1 := by decide +kernel
theorem tyX1_ok : ∀ k, k < 4 → parseFieldDescriptor (TX1 k).2.2.1 = some (tyX1 k) := by decide +kernel
abbrev cX1_init : ByteArray := prog_3_method_1_code
def yX1_init : MethodName := ⟨RX1, "<init>", "()V"⟩
abbrev cX1_thrown : ByteArray := prog_3_method_2_code
def yX1_thrown : MethodName := ⟨RX1, "thrown", "()I"⟩
abbrev cX1_behind : ByteArray := prog_3_method_8_code
def yX1_behind : MethodName := ⟨RX1, "behind", "(I)I"⟩
def RJ9 : String := "java/lang/Math"
def TJ9 : u_T := fun k => match k with
  | _ => ("", "", "", false)
def tyJ9 : Nat → FieldType := fun k => match k with
  | _ => .int
abbrev wsJ90 : List Cond := u_ws RJ9 TJ9 0
theorem nmJ9 : ∀ a, a < 0 → ∀ b, b < 0 → a ≠ b → (TJ9 a).2.1 ≠ (TJ9 b).2.1 := by decide +kernel
theorem tyJ9_ok : ∀ k, k < 0 → parseFieldDescriptor (TJ9 k).2.2.1 = some (tyJ9 k) := by decide +kernel
abbrev cJ9_max_7cf53 : ByteArray := prog_6_method_65_code
def yJ9_max_7cf53 : MethodName := ⟨RJ9, "max", "(II)I"⟩
def RJ0 : String := "java/lang/String"
def TJ0 : u_T := fun k => match k with
  | _ => ("", "", "", false)
def tyJ0 : Nat → FieldType := fun k => match k with
  | _ => .int
abbrev wsJ00 : List Cond := u_ws RJ0 TJ0 0
theorem nmJ0 : ∀ a, a < 0 → ∀ b, b < 0 → a ≠ b → (TJ0 a).2.1 ≠ (TJ0 b).2.1 := by decide +kernel
theorem tyJ0_ok : ∀ k, k < 0 → parseFieldDescriptor (TJ0 k).2.2.1 = some (tyJ0 k) := by decide +kernel
def RL : String := "OrderLineLaw"
abbrev cL_behind : ByteArray := method_3_code
def yL_behind : MethodName := ⟨RL, "behind", "(LOrderLine;I[J)I"⟩
abbrev cL_several : ByteArray := method_4_code
def yL_several : MethodName := ⟨RL, "several", "(LOrderLine;II[J)I"⟩
abbrev cL_clear : ByteArray := method_5_code
def yL_clear : MethodName := ⟨RL, "clear", "(LOrderLine;II[J)I"⟩
abbrev cL_carry : ByteArray := method_6_code
def yL_carry : MethodName := ⟨RL, "carry", "(LOrderLine;III[J)I"⟩
abbrev cL_compare : ByteArray := method_7_code
def yL_compare : MethodName := ⟨RL, "compare", "(LOrderLine;II[J)I"⟩
abbrev cL_next : ByteArray := method_8_code
def yL_next : MethodName := ⟨RL, "next", "(LOrderLine;IZ[J)I"⟩
abbrev cL_place : ByteArray := method_9_code
def yL_place : MethodName := ⟨RL, "place", "(LOrderLine;I[J)I"⟩
abbrev cL_greatest : ByteArray := method_10_code
def yL_greatest : MethodName := ⟨RL, "greatest", "(LOrderLine;II[J)I"⟩
abbrev cL_law : ByteArray := code
def yL_law : MethodName := ⟨RL, "law", "([I)Z"⟩
def wsX0_init : List Cond := .code yX0_init cX0_init 2 none :: ([.methodLink RX0 1 objectInit, .instanceMethod objectInit, .code objectInit ⟨#[0xb1]⟩ 1 none, .arrayClass .int, .fieldLink RX0 9 "OrderLine" "line" "[I", .fieldLink RX0 13 "OrderLine" "places" "[I", .fieldLink RX0 16 "OrderLine" "count" "I"] ++ wsX00)
def wsX0_has : List Cond := .code yX0_has cX0_has 2 (some .boolean) :: ([.fieldLink RX0 13 "OrderLine" "places" "[I"] ++ wsX00)
def wsX0_demand : List Cond := .code yX0_demand cX0_demand 2 none :: ([.classLink RX0 53 "java/lang/IllegalArgumentException", .initialized "java/lang/IllegalArgumentException", .methodLink RX0 28 yX0_has, .instanceMethod yX0_has, .selects RX0 yX0_has yX0_has, .initialized RX0, .code yX0_has cX0_has 2 (some .boolean), .fieldLink RX0 13 "OrderLine" "places" "[I"] ++ wsX00 ++ (vx_atS RX0 57 "java/lang/IllegalArgumentException" ["java/lang/RuntimeException", "java/lang/Exception"]).filter goodWord)
def wsX0_put : List Cond := .code yX0_put cX0_put 3 none :: ([.fieldLink RX0 9 "OrderLine" "line" "[I", .fieldLink RX0 13 "OrderLine" "places" "[I"] ++ wsX00)
def wsX0_openGap : List Cond := .code yX0_openGap cX0_openGap 4 none :: ([.fieldLink RX0 16 "OrderLine" "count" "I", .fieldLink RX0 9 "OrderLine" "line" "[I", .methodLink RX0 66 yX0_put, .instanceMethod yX0_put, .selects RX0 yX0_put yX0_put, .initialized RX0, .code yX0_put cX0_put 3 none, .fieldLink RX0 13 "OrderLine" "places" "[I"] ++ wsX00)
def wsX0_fillGap : List Cond := .code yX0_fillGap cX0_fillGap 5 none :: ([.fieldLink RX0 13 "OrderLine" "places" "[I", .methodLink RX0 66 yX0_put, .instanceMethod yX0_put, .selects RX0 yX0_put yX0_put, .initialized RX0, .code yX0_put cX0_put 3 none, .fieldLink RX0 9 "OrderLine" "line" "[I"] ++ wsX00)
def wsX0_addBehind : List Cond := .code yX0_addBehind cX0_addBehind 4 (some .int) :: ([.fieldLink RX0 13 "OrderLine" "places" "[I", .fieldLink RX0 9 "OrderLine" "line" "[I", .methodLink RX0 60 yX0_openGap, .instanceMethod yX0_openGap, .selects RX0 yX0_openGap yX0_openGap, .initialized RX0, .code yX0_openGap cX0_openGap 4 none, .fieldLink RX0 16 "OrderLine" "count" "I", .methodLink RX0 66 yX0_put, .instanceMethod yX0_put, .selects RX0 yX0_put yX0_put, .code yX0_put cX0_put 3 none, .methodLink RX0 63 yX0_fillGap, .instanceMethod yX0_fillGap, .selects RX0 yX0_fillGap yX0_fillGap, .code yX0_fillGap cX0_fillGap 5 none] ++ wsX00)
def wsX0_behind_r1 : List Cond := [Cond.fieldLink RX0 16 "OrderLine" "count" "I", Cond.methodLink RX0 20 yX0_demand, Cond.instanceMethod yX0_demand, Cond.selects RX0 yX0_demand yX0_demand, Cond.initialized RX0, Cond.code yX0_demand cX0_demand 2 none, Cond.classLink RX0 53 "java/lang/IllegalArgumentException", Cond.initialized "java/lang/IllegalArgumentException", Cond.methodLink RX0 28 yX0_has, Cond.instanceMethod yX0_has, Cond.selects RX0 yX0_has yX0_has, Cond.code yX0_has cX0_has 2 (some .boolean), Cond.fieldLink RX0 13 "OrderLine" "places" "[I", Cond.methodLink RX0 24 yX0_addBehind, Cond.instanceMethod yX0_addBehind, Cond.selects RX0 yX0_addBehind yX0_addBehind, Cond.code yX0_addBehind cX0_addBehind 4 (some .int), Cond.fieldLink RX0 9 "OrderLine" "line" "[I", Cond.methodLink RX0 60 yX0_openGap, Cond.instanceMethod yX0_openGap, Cond.selects RX0 yX0_openGap yX0_openGap, Cond.code yX0_openGap cX0_openGap 4 none, Cond.methodLink RX0 66 yX0_put, Cond.instanceMethod yX0_put]
def wsX0_behind_r2 : List Cond := [Cond.selects RX0 yX0_put yX0_put, Cond.code yX0_put cX0_put 3 none, Cond.methodLink RX0 63 yX0_fillGap, Cond.instanceMethod yX0_fillGap, Cond.selects RX0 yX0_fillGap yX0_fillGap, Cond.code yX0_fillGap cX0_fillGap 5 none]
def wsX0_behind : List Cond := .code yX0_behind cX0_behind 2 (some .int) :: ((wsX0_behind_r1 ++ wsX0_behind_r2) ++ wsX00 ++ (vx_atS RX0 57 "java/lang/IllegalArgumentException" ["java/lang/RuntimeException", "java/lang/Exception"]).filter goodWord)
def wsX0_several_r1 : List Cond := [Cond.fieldLink RX0 16 "OrderLine" "count" "I", Cond.methodLink RX0 20 yX0_demand, Cond.instanceMethod yX0_demand, Cond.selects RX0 yX0_demand yX0_demand, Cond.initialized RX0, Cond.code yX0_demand cX0_demand 2 none, Cond.classLink RX0 53 "java/lang/IllegalArgumentException", Cond.initialized "java/lang/IllegalArgumentException", Cond.methodLink RX0 28 yX0_has, Cond.instanceMethod yX0_has, Cond.selects RX0 yX0_has yX0_has, Cond.code yX0_has cX0_has 2 (some .boolean), Cond.fieldLink RX0 13 "OrderLine" "places" "[I", Cond.methodLink RX0 24 yX0_addBehind, Cond.instanceMethod yX0_addBehind, Cond.selects RX0 yX0_addBehind yX0_addBehind, Cond.code yX0_addBehind cX0_addBehind 4 (some .int), Cond.fieldLink RX0 9 "OrderLine" "line" "[I", Cond.methodLink RX0 60 yX0_openGap, Cond.instanceMethod yX0_openGap, Cond.selects RX0 yX0_openGap yX0_openGap, Cond.code yX0_openGap cX0_openGap 4 none, Cond.methodLink RX0 66 yX0_put, Cond.instanceMethod yX0_put]
def wsX0_several_r2 : List Cond := [Cond.selects RX0 yX0_put yX0_put, Cond.code yX0_put cX0_put 3 none, Cond.methodLink RX0 63 yX0_fillGap, Cond.instanceMethod yX0_fillGap, Cond.selects RX0 yX0_fillGap yX0_fillGap, Cond.code yX0_fillGap cX0_fillGap 5 none]
def wsX0_several : List Cond := .code yX0_several cX0_several 3 (some .int) :: ((wsX0_several_r1 ++ wsX0_several_r2) ++ wsX00 ++ (vx_atS RX0 57 "java/lang/IllegalArgumentException" ["java/lang/RuntimeException", "java/lang/Exception"]).filter goodWord)
def wsX0_takeOut : List Cond := .code yX0_takeOut cX0_takeOut 5 none :: ([.fieldLink RX0 13 "OrderLine" "places" "[I", .fieldLink RX0 9 "OrderLine" "line" "[I", .fieldLink RX0 16 "OrderLine" "count" "I", .methodLink RX0 66 yX0_put, .instanceMethod yX0_put, .selects RX0 yX0_put yX0_put, .initialized RX0, .code yX0_put cX0_put 3 none] ++ wsX00)
def wsX0_remove : List Cond := .code yX0_remove cX0_remove 3 (some .boolean) :: ([.fieldLink RX0 13 "OrderLine" "places" "[I", .methodLink RX0 28 yX0_has, .instanceMethod yX0_has, .selects RX0 yX0_has yX0_has, .initialized RX0, .code yX0_has cX0_has 2 (some .boolean), .methodLink RX0 32 yX0_takeOut, .instanceMethod yX0_takeOut, .selects RX0 yX0_takeOut yX0_takeOut, .code yX0_takeOut cX0_takeOut 5 none, .fieldLink RX0 9 "OrderLine" "line" "[I", .fieldLink RX0 16 "OrderLine" "count" "I", .methodLink RX0 66 yX0_put, .instanceMethod yX0_put, .selects RX0 yX0_put yX0_put, .code yX0_put cX0_put 3 none] ++ wsX00)
def wsX0_clear : List Cond := .code yX0_clear cX0_clear 5 (some .int) :: ([.fieldLink RX0 13 "OrderLine" "places" "[I", .methodLink RX0 20 yX0_demand, .instanceMethod yX0_demand, .selects RX0 yX0_demand yX0_demand, .initialized RX0, .code yX0_demand cX0_demand 2 none, .classLink RX0 53 "java/lang/IllegalArgumentException", .initialized "java/lang/IllegalArgumentException", .methodLink RX0 28 yX0_has, .instanceMethod yX0_has, .selects RX0 yX0_has yX0_has, .code yX0_has cX0_has 2 (some .boolean), .methodLink RX0 32 yX0_takeOut, .instanceMethod yX0_takeOut, .selects RX0 yX0_takeOut yX0_takeOut, .code yX0_takeOut cX0_takeOut 5 none, .fieldLink RX0 9 "OrderLine" "line" "[I", .fieldLink RX0 16 "OrderLine" "count" "I", .methodLink RX0 66 yX0_put, .instanceMethod yX0_put, .selects RX0 yX0_put yX0_put, .code yX0_put cX0_put 3 none] ++ wsX00 ++ (vx_atS RX0 57 "java/lang/IllegalArgumentException" ["java/lang/RuntimeException", "java/lang/Exception"]).filter goodWord)
def wsX0_turn : List Cond := .code yX0_turn cX0_turn 6 none :: ([.fieldLink RX0 9 "OrderLine" "line" "[I", .methodLink RX0 66 yX0_put, .instanceMethod yX0_put, .selects RX0 yX0_put yX0_put, .initialized RX0, .code yX0_put cX0_put 3 none, .fieldLink RX0 13 "OrderLine" "places" "[I"] ++ wsX00)
def wsX0_swapBlocks : List Cond := .code yX0_swapBlocks cX0_swapBlocks 4 none :: ([.methodLink RX0 69 yX0_turn, .instanceMethod yX0_turn, .selects RX0 yX0_turn yX0_turn, .initialized RX0, .code yX0_turn cX0_turn 6 none, .fieldLink RX0 9 "OrderLine" "line" "[I", .methodLink RX0 66 yX0_put, .instanceMethod yX0_put, .selects RX0 yX0_put yX0_put, .code yX0_put cX0_put 3 none, .fieldLink RX0 13 "OrderLine" "places" "[I"] ++ wsX00)
def wsX0_carry_r1 : List Cond := [Cond.fieldLink RX0 13 "OrderLine" "places" "[I", Cond.methodLink RX0 20 yX0_demand, Cond.instanceMethod yX0_demand, Cond.selects RX0 yX0_demand yX0_demand, Cond.initialized RX0, Cond.code yX0_demand cX0_demand 2 none, Cond.classLink RX0 53 "java/lang/IllegalArgumentException", Cond.initialized "java/lang/IllegalArgumentException", Cond.methodLink RX0 28 yX0_has, Cond.instanceMethod yX0_has, Cond.selects RX0 yX0_has yX0_has, Cond.code yX0_has cX0_has 2 (some .boolean), Cond.methodLink RX0 36 yX0_swapBlocks, Cond.instanceMethod yX0_swapBlocks, Cond.selects RX0 yX0_swapBlocks yX0_swapBlocks, Cond.code yX0_swapBlocks cX0_swapBlocks 4 none, Cond.methodLink RX0 69 yX0_turn, Cond.instanceMethod yX0_turn, Cond.selects RX0 yX0_turn yX0_turn, Cond.code yX0_turn cX0_turn 6 none, Cond.fieldLink RX0 9 "OrderLine" "line" "[I", Cond.methodLink RX0 66 yX0_put, Cond.instanceMethod yX0_put, Cond.selects RX0 yX0_put yX0_put]
def wsX0_carry_r2 : List Cond := [Cond.code yX0_put cX0_put 3 none]
def wsX0_carry : List Cond := .code yX0_carry cX0_carry 7 (some .int) :: ((wsX0_carry_r1 ++ wsX0_carry_r2) ++ wsX00 ++ (vx_atS RX0 57 "java/lang/IllegalArgumentException" ["java/lang/RuntimeException", "java/lang/Exception"]).filter goodWord)
def wsX0_compare : List Cond := .code yX0_compare cX0_compare 3 (some .int) :: ([.fieldLink RX0 13 "OrderLine" "places" "[I", .methodLink RX0 20 yX0_demand, .instanceMethod yX0_demand, .selects RX0 yX0_demand yX0_demand, .initialized RX0, .code yX0_demand cX0_demand 2 none, .classLink RX0 53 "java/lang/IllegalArgumentException", .initialized "java/lang/IllegalArgumentException", .methodLink RX0 28 yX0_has, .instanceMethod yX0_has, .selects RX0 yX0_has yX0_has, .code yX0_has cX0_has 2 (some .boolean)] ++ wsX00 ++ (vx_atS RX0 57 "java/lang/IllegalArgumentException" ["java/lang/RuntimeException", "java/lang/Exception"]).filter goodWord)
def wsX0_at : List Cond := .code yX0_at cX0_at 2 (some .int) :: ([.fieldLink RX0 16 "OrderLine" "count" "I", .fieldLink RX0 9 "OrderLine" "line" "[I"] ++ wsX00)
def wsX0_next : List Cond := .code yX0_next cX0_next 3 (some .int) :: ([.fieldLink RX0 13 "OrderLine" "places" "[I", .methodLink RX0 20 yX0_demand, .instanceMethod yX0_demand, .selects RX0 yX0_demand yX0_demand, .initialized RX0, .code yX0_demand cX0_demand 2 none, .classLink RX0 53 "java/lang/IllegalArgumentException", .initialized "java/lang/IllegalArgumentException", .methodLink RX0 28 yX0_has, .instanceMethod yX0_has, .selects RX0 yX0_has yX0_has, .code yX0_has cX0_has 2 (some .boolean), .methodLink RX0 40 yX0_at, .instanceMethod yX0_at, .selects RX0 yX0_at yX0_at, .code yX0_at cX0_at 2 (some .int), .fieldLink RX0 16 "OrderLine" "count" "I", .fieldLink RX0 9 "OrderLine" "line" "[I"] ++ wsX00 ++ (vx_atS RX0 57 "java/lang/IllegalArgumentException" ["java/lang/RuntimeException", "java/lang/Exception"]).filter goodWord)
def wsX0_place : List Cond := .code yX0_place cX0_place 2 (some .int) :: ([.fieldLink RX0 13 "OrderLine" "places" "[I", .methodLink RX0 20 yX0_demand, .instanceMethod yX0_demand, .selects RX0 yX0_demand yX0_demand, .initialized RX0, .code yX0_demand cX0_demand 2 none, .classLink RX0 53 "java/lang/IllegalArgumentException", .initialized "java/lang/IllegalArgumentException", .methodLink RX0 28 yX0_has, .instanceMethod yX0_has, .selects RX0 yX0_has yX0_has, .code yX0_has cX0_has 2 (some .boolean)] ++ wsX00 ++ (vx_atS RX0 57 "java/lang/IllegalArgumentException" ["java/lang/RuntimeException", "java/lang/Exception"]).filter goodWord)
def wsX0_greatest : List Cond := .code yX0_greatest cX0_greatest 6 (some .int) :: ([.fieldLink RX0 13 "OrderLine" "places" "[I", .fieldLink RX0 9 "OrderLine" "line" "[I", .methodLink RX0 44 Lib.Math.max.name, .static Lib.Math.max.name, .initialized "java/lang/Math", .code Lib.Math.max.name Lib.Math.max.code 2 (some .int), .methodLink RX0 20 yX0_demand, .instanceMethod yX0_demand, .selects RX0 yX0_demand yX0_demand, .initialized RX0, .code yX0_demand cX0_demand 2 none, .classLink RX0 53 "java/lang/IllegalArgumentException", .initialized "java/lang/IllegalArgumentException", .methodLink RX0 28 yX0_has, .instanceMethod yX0_has, .selects RX0 yX0_has yX0_has, .code yX0_has cX0_has 2 (some .boolean)] ++ wsX00 ++ (vx_atS RX0 57 "java/lang/IllegalArgumentException" ["java/lang/RuntimeException", "java/lang/Exception"]).filter goodWord)
def wsX0_wipe : List Cond := .code yX0_wipe cX0_wipe 1 none :: ([.fieldLink RX0 16 "OrderLine" "count" "I", .methodLink RX0 32 yX0_takeOut, .instanceMethod yX0_takeOut, .selects RX0 yX0_takeOut yX0_takeOut, .initialized RX0, .code yX0_takeOut cX0_takeOut 5 none, .fieldLink RX0 13 "OrderLine" "places" "[I", .fieldLink RX0 9 "OrderLine" "line" "[I", .methodLink RX0 66 yX0_put, .instanceMethod yX0_put, .selects RX0 yX0_put yX0_put, .code yX0_put cX0_put 3 none] ++ wsX00)
def wsX0_leastFree : List Cond := .code yX0_leastFree cX0_leastFree 2 (some .int) :: ([.fieldLink RX0 13 "OrderLine" "places" "[I"] ++ wsX00)
def wsX0_look : List Cond := .code yX0_look cX0_look 2 (some .int) :: ([.fieldLink RX0 16 "OrderLine" "count" "I", .methodLink RX0 40 yX0_at, .instanceMethod yX0_at, .selects RX0 yX0_at yX0_at, .initialized RX0, .code yX0_at cX0_at 2 (some .int), .fieldLink RX0 9 "OrderLine" "line" "[I", .methodLink RX0 49 yX0_leastFree, .instanceMethod yX0_leastFree, .selects RX0 yX0_leastFree yX0_leastFree, .code yX0_leastFree cX0_leastFree 2 (some .int), .fieldLink RX0 13 "OrderLine" "places" "[I"] ++ wsX00)
def wsX1_init : List Cond := .code yX1_init cX1_init 1 none :: ([.methodLink RX1 1 objectInit, .instanceMethod objectInit, .code objectInit ⟨#[0xb1]⟩ 1 none, .arrayClass .int, .fieldLink RX1 7 "OrderLineModel" "line" "[I", .fieldLink RX1 13 "OrderLineModel" "many" "I", .fieldLink RX1 17 "OrderLineModel" "aside" "[I"] ++ wsX10)
def wsX1_thrown : List Cond := .code yX1_thrown cX1_thrown 1 (some .int) :: ([.fieldLink RX1 20 "OrderLineModel" "thrown" "I"] ++ wsX10)
def wsJ9_max_7cf53 : List Cond := .code yJ9_max_7cf53 cJ9_max_7cf53 2 (some .int) :: ([])
def wsL_behind_r1 : List Cond := [Cond.classLink RL 13 "java/lang/IllegalArgumentException", Cond.methodLink RL 7 yX0_behind, Cond.instanceMethod yX0_behind, Cond.selects RX0 yX0_behind yX0_behind, Cond.initialized RX0, Cond.code yX0_behind cX0_behind 2 (some .int), Cond.fieldLink RX0 16 "OrderLine" "count" "I", Cond.methodLink RX0 20 yX0_demand, Cond.instanceMethod yX0_demand, Cond.selects RX0 yX0_demand yX0_demand, Cond.code yX0_demand cX0_demand 2 none, Cond.classLink RX0 53 "java/lang/IllegalArgumentException", Cond.initialized "java/lang/IllegalArgumentException", Cond.methodLink RX0 28 yX0_has, Cond.instanceMethod yX0_has, Cond.selects RX0 yX0_has yX0_has, Cond.code yX0_has cX0_has 2 (some .boolean), Cond.fieldLink RX0 13 "OrderLine" "places" "[I", Cond.methodLink RX0 24 yX0_addBehind, Cond.instanceMethod yX0_addBehind, Cond.selects RX0 yX0_addBehind yX0_addBehind, Cond.code yX0_addBehind cX0_addBehind 4 (some .int), Cond.fieldLink RX0 9 "OrderLine" "line" "[I", Cond.methodLink RX0 60 yX0_openGap]
def wsL_behind_r2 : List Cond := [Cond.instanceMethod yX0_openGap, Cond.selects RX0 yX0_openGap yX0_openGap, Cond.code yX0_openGap cX0_openGap 4 none, Cond.methodLink RX0 66 yX0_put, Cond.instanceMethod yX0_put, Cond.selects RX0 yX0_put yX0_put, Cond.code yX0_put cX0_put 3 none, Cond.methodLink RX0 63 yX0_fillGap, Cond.instanceMethod yX0_fillGap, Cond.selects RX0 yX0_fillGap yX0_fillGap, Cond.code yX0_fillGap cX0_fillGap 5 none]
def wsL_behind : List Cond := .codeWith yL_behind cL_behind 4 (some .int) [(0, 9, 12, 13)] :: ((wsL_behind_r1 ++ wsL_behind_r2) ++ wsX00 ++ (vx_atS RX0 57 "java/lang/IllegalArgumentException" ["java/lang/RuntimeException", "java/lang/Exception"]).filter goodWord)
def wsL_several_r1 : List Cond := [Cond.classLink RL 13 "java/lang/IllegalArgumentException", Cond.methodLink RL 15 yX0_several, Cond.instanceMethod yX0_several, Cond.selects RX0 yX0_several yX0_several, Cond.initialized RX0, Cond.code yX0_several cX0_several 3 (some .int), Cond.fieldLink RX0 16 "OrderLine" "count" "I", Cond.methodLink RX0 20 yX0_demand, Cond.instanceMethod yX0_demand, Cond.selects RX0 yX0_demand yX0_demand, Cond.code yX0_demand cX0_demand 2 none, Cond.classLink RX0 53 "java/lang/IllegalArgumentException", Cond.initialized "java/lang/IllegalArgumentException", Cond.methodLink RX0 28 yX0_has, Cond.instanceMethod yX0_has, Cond.selects RX0 yX0_has yX0_has, Cond.code yX0_has cX0_has 2 (some .boolean), Cond.fieldLink RX0 13 "OrderLine" "places" "[I", Cond.methodLink RX0 24 yX0_addBehind, Cond.instanceMethod yX0_addBehind, Cond.selects RX0 yX0_addBehind yX0_addBehind, Cond.code yX0_addBehind cX0_addBehind 4 (some .int), Cond.fieldLink RX0 9 "OrderLine" "line" "[I", Cond.methodLink RX0 60 yX0_openGap]
def wsL_several_r2 : List Cond := [Cond.instanceMethod yX0_openGap, Cond.selects RX0 yX0_openGap yX0_openGap, Cond.code yX0_openGap cX0_openGap 4 none, Cond.methodLink RX0 66 yX0_put, Cond.instanceMethod yX0_put, Cond.selects RX0 yX0_put yX0_put, Cond.code yX0_put cX0_put 3 none, Cond.methodLink RX0 63 yX0_fillGap, Cond.instanceMethod yX0_fillGap, Cond.selects RX0 yX0_fillGap yX0_fillGap, Cond.code yX0_fillGap cX0_fillGap 5 none]
def wsL_several : List Cond := .codeWith yL_several cL_several 5 (some .int) [(0, 10, 13, 13)] :: ((wsL_several_r1 ++ wsL_several_r2) ++ wsX00 ++ (vx_atS RX0 57 "java/lang/IllegalArgumentException" ["java/lang/RuntimeException", "java/lang/Exception"]).filter goodWord)
def wsL_clear_r1 : List Cond := [Cond.classLink RL 13 "java/lang/IllegalArgumentException", Cond.methodLink RL 19 yX0_clear, Cond.instanceMethod yX0_clear, Cond.selects RX0 yX0_clear yX0_clear, Cond.initialized RX0, Cond.code yX0_clear cX0_clear 5 (some .int), Cond.fieldLink RX0 13 "OrderLine" "places" "[I", Cond.methodLink RX0 20 yX0_demand, Cond.instanceMethod yX0_demand, Cond.selects RX0 yX0_demand yX0_demand, Cond.code yX0_demand cX0_demand 2 none, Cond.classLink RX0 53 "java/lang/IllegalArgumentException", Cond.initialized "java/lang/IllegalArgumentException", Cond.methodLink RX0 28 yX0_has, Cond.instanceMethod yX0_has, Cond.selects RX0 yX0_has yX0_has, Cond.code yX0_has cX0_has 2 (some .boolean), Cond.methodLink RX0 32 yX0_takeOut, Cond.instanceMethod yX0_takeOut, Cond.selects RX0 yX0_takeOut yX0_takeOut, Cond.code yX0_takeOut cX0_takeOut 5 none, Cond.fieldLink RX0 9 "OrderLine" "line" "[I", Cond.fieldLink RX0 16 "OrderLine" "count" "I", Cond.methodLink RX0 66 yX0_put]
def wsL_clear_r2 : List Cond := [Cond.instanceMethod yX0_put, Cond.selects RX0 yX0_put yX0_put, Cond.code yX0_put cX0_put 3 none]
def wsL_clear : List Cond := .codeWith yL_clear cL_clear 5 (some .int) [(0, 10, 13, 13)] :: ((wsL_clear_r1 ++ wsL_clear_r2) ++ wsX00 ++ (vx_atS RX0 57 "java/lang/IllegalArgumentException" ["java/lang/RuntimeException", "java/lang/Exception"]).filter goodWord)
def wsL_carry_r1 : List Cond := [Cond.classLink RL 13 "java/lang/IllegalArgumentException", Cond.methodLink RL 22 yX0_carry, Cond.instanceMethod yX0_carry, Cond.selects RX0 yX0_carry yX0_carry, Cond.initialized RX0, Cond.code yX0_carry cX0_carry 7 (some .int), Cond.fieldLink RX0 13 "OrderLine" "places" "[I", Cond.methodLink RX0 20 yX0_demand, Cond.instanceMethod yX0_demand, Cond.selects RX0 yX0_demand yX0_demand, Cond.code yX0_demand cX0_demand 2 none, Cond.classLink RX0 53 "java/lang/IllegalArgumentException", Cond.initialized "java/lang/IllegalArgumentException", Cond.methodLink RX0 28 yX0_has, Cond.instanceMethod yX0_has, Cond.selects RX0 yX0_has yX0_has, Cond.code yX0_has cX0_has 2 (some .boolean), Cond.methodLink RX0 36 yX0_swapBlocks, Cond.instanceMethod yX0_swapBlocks, Cond.selects RX0 yX0_swapBlocks yX0_swapBlocks, Cond.code yX0_swapBlocks cX0_swapBlocks 4 none, Cond.methodLink RX0 69 yX0_turn, Cond.instanceMethod yX0_turn, Cond.selects RX0 yX0_turn yX0_turn]
def wsL_carry_r2 : List Cond := [Cond.code yX0_turn cX0_turn 6 none, Cond.fieldLink RX0 9 "OrderLine" "line" "[I", Cond.methodLink RX0 66 yX0_put, Cond.instanceMethod yX0_put, Cond.selects RX0 yX0_put yX0_put, Cond.code yX0_put cX0_put 3 none]
def wsL_carry : List Cond := .codeWith yL_carry cL_carry 6 (some .int) [(0, 12, 15, 13)] :: ((wsL_carry_r1 ++ wsL_carry_r2) ++ wsX00 ++ (vx_atS RX0 57 "java/lang/IllegalArgumentException" ["java/lang/RuntimeException", "java/lang/Exception"]).filter goodWord)
def wsL_compare : List Cond := .codeWith yL_compare cL_compare 5 (some .int) [(0, 10, 13, 13)] :: ([.classLink RL 13 "java/lang/IllegalArgumentException", .methodLink RL 26 yX0_compare, .instanceMethod yX0_compare, .selects RX0 yX0_compare yX0_compare, .initialized RX0, .code yX0_compare cX0_compare 3 (some .int), .fieldLink RX0 13 "OrderLine" "places" "[I", .methodLink RX0 20 yX0_demand, .instanceMethod yX0_demand, .selects RX0 yX0_demand yX0_demand, .code yX0_demand cX0_demand 2 none, .classLink RX0 53 "java/lang/IllegalArgumentException", .initialized "java/lang/IllegalArgumentException", .methodLink RX0 28 yX0_has, .instanceMethod yX0_has, .selects RX0 yX0_has yX0_has, .code yX0_has cX0_has 2 (some .boolean)] ++ wsX00 ++ (vx_atS RX0 57 "java/lang/IllegalArgumentException" ["java/lang/RuntimeException", "java/lang/Exception"]).filter goodWord)
def wsL_next : List Cond := .codeWith yL_next cL_next 5 (some .int) [(0, 10, 13, 13)] :: ([.classLink RL 13 "java/lang/IllegalArgumentException", .methodLink RL 29 yX0_next, .instanceMethod yX0_next, .selects RX0 yX0_next yX0_next, .initialized RX0, .code yX0_next cX0_next 3 (some .int), .fieldLink RX0 13 "OrderLine" "places" "[I", .methodLink RX0 20 yX0_demand, .instanceMethod yX0_demand, .selects RX0 yX0_demand yX0_demand, .code yX0_demand cX0_demand 2 none, .classLink RX0 53 "java/lang/IllegalArgumentException", .initialized "java/lang/IllegalArgumentException", .methodLink RX0 28 yX0_has, .instanceMethod yX0_has, .selects RX0 yX0_has yX0_has, .code yX0_has cX0_has 2 (some .boolean), .methodLink RX0 40 yX0_at, .instanceMethod yX0_at, .selects RX0 yX0_at yX0_at, .code yX0_at cX0_at 2 (some .int), .fieldLink RX0 16 "OrderLine" "count" "I", .fieldLink RX0 9 "OrderLine" "line" "[I"] ++ wsX00 ++ (vx_atS RX0 57 "java/lang/IllegalArgumentException" ["java/lang/RuntimeException", "java/lang/Exception"]).filter goodWord)
def wsL_place : List Cond := .codeWith yL_place cL_place 4 (some .int) [(0, 9, 12, 13)] :: ([.classLink RL 13 "java/lang/IllegalArgumentException", .methodLink RL 33 yX0_place, .instanceMethod yX0_place, .selects RX0 yX0_place yX0_place, .initialized RX0, .code yX0_place cX0_place 2 (some .int), .fieldLink RX0 13 "OrderLine" "places" "[I", .methodLink RX0 20 yX0_demand, .instanceMethod yX0_demand, .selects RX0 yX0_demand yX0_demand, .code yX0_demand cX0_demand 2 none, .classLink RX0 53 "java/lang/IllegalArgumentException", .initialized "java/lang/IllegalArgumentException", .methodLink RX0 28 yX0_has, .instanceMethod yX0_has, .selects RX0 yX0_has yX0_has, .code yX0_has cX0_has 2 (some .boolean)] ++ wsX00 ++ (vx_atS RX0 57 "java/lang/IllegalArgumentException" ["java/lang/RuntimeException", "java/lang/Exception"]).filter goodWord)
def wsL_greatest : List Cond := .codeWith yL_greatest cL_greatest 5 (some .int) [(0, 10, 13, 13)] :: ([.classLink RL 13 "java/lang/IllegalArgumentException", .methodLink RL 36 yX0_greatest, .instanceMethod yX0_greatest, .selects RX0 yX0_greatest yX0_greatest, .initialized RX0, .code yX0_greatest cX0_greatest 6 (some .int), .fieldLink RX0 13 "OrderLine" "places" "[I", .fieldLink RX0 9 "OrderLine" "line" "[I", .methodLink RX0 44 Lib.Math.max.name, .static Lib.Math.max.name, .initialized "java/lang/Math", .code Lib.Math.max.name Lib.Math.max.code 2 (some .int), .methodLink RX0 20 yX0_demand, .instanceMethod yX0_demand, .selects RX0 yX0_demand yX0_demand, .code yX0_demand cX0_demand 2 none, .classLink RX0 53 "java/lang/IllegalArgumentException", .initialized "java/lang/IllegalArgumentException", .methodLink RX0 28 yX0_has, .instanceMethod yX0_has, .selects RX0 yX0_has yX0_has, .code yX0_has cX0_has 2 (some .boolean)] ++ wsX00 ++ (vx_atS RX0 57 "java/lang/IllegalArgumentException" ["java/lang/RuntimeException", "java/lang/Exception"]).filter goodWord)
def wsL_law0_r1 : List Cond := [Cond.classLink RL 8 RX0, Cond.instantiable RX0 3, Cond.initialized RX0, Cond.classLink RL 40 RX1, Cond.instantiable RX1 4, Cond.initialized RX1, Cond.methodLink RL 39 yX0_init, Cond.instanceMethod yX0_init, Cond.code yX0_init cX0_init 2 none, Cond.methodLink RX0 1 objectInit, Cond.instanceMethod objectInit, Cond.code objectInit ⟨#[0xb1]⟩ 1 none, Cond.arrayClass .int, Cond.fieldLink RX0 9 "OrderLine" "line" "[I", Cond.fieldLink RX0 13 "OrderLine" "places" "[I", Cond.fieldLink RX0 16 "OrderLine" "count" "I", Cond.methodLink RL 42 yX1_init, Cond.instanceMethod yX1_init, Cond.code yX1_init cX1_init 1 none, Cond.methodLink RX1 1 objectInit, Cond.fieldLink RX1 7 "OrderLineModel" "line" "[I", Cond.fieldLink RX1 13 "OrderLineModel" "many" "I", Cond.fieldLink RX1 17 "OrderLineModel" "aside" "[I", Cond.methodLink RL 43 yL_behind]
def wsL_law0_r2 : List Cond := [Cond.static yL_behind, Cond.initialized RL, Cond.codeWith yL_behind cL_behind 4 (some .int) [(0, 9, 12, 13)], Cond.classLink RL 13 "java/lang/IllegalArgumentException", Cond.methodLink RL 7 yX0_behind, Cond.instanceMethod yX0_behind, Cond.selects RX0 yX0_behind yX0_behind, Cond.code yX0_behind cX0_behind 2 (some .int), Cond.methodLink RX0 20 yX0_demand, Cond.instanceMethod yX0_demand, Cond.selects RX0 yX0_demand yX0_demand, Cond.code yX0_demand cX0_demand 2 none, Cond.classLink RX0 53 "java/lang/IllegalArgumentException", Cond.initialized "java/lang/IllegalArgumentException", Cond.methodLink RX0 28 yX0_has, Cond.instanceMethod yX0_has, Cond.selects RX0 yX0_has yX0_has, Cond.code yX0_has cX0_has 2 (some .boolean), Cond.methodLink RX0 24 yX0_addBehind, Cond.instanceMethod yX0_addBehind, Cond.selects RX0 yX0_addBehind yX0_addBehind, Cond.code yX0_addBehind cX0_addBehind 4 (some .int), Cond.methodLink RX0 60 yX0_openGap, Cond.instanceMethod yX0_openGap]
def wsL_law0_r3 : List Cond := [Cond.selects RX0 yX0_openGap yX0_openGap, Cond.code yX0_openGap cX0_openGap 4 none, Cond.methodLink RX0 66 yX0_put, Cond.instanceMethod yX0_put, Cond.selects RX0 yX0_put yX0_put, Cond.code yX0_put cX0_put 3 none, Cond.methodLink RX0 63 yX0_fillGap, Cond.instanceMethod yX0_fillGap, Cond.selects RX0 yX0_fillGap yX0_fillGap, Cond.code yX0_fillGap cX0_fillGap 5 none, Cond.methodLink RL 48 yX1_behind, Cond.instanceMethod yX1_behind, Cond.selects RX1 yX1_behind yX1_behind, Cond.code yX1_behind cX1_behind 3 (some .int), Cond.methodLink RL 49 yX1_thrown, Cond.instanceMethod yX1_thrown, Cond.selects RX1 yX1_thrown yX1_thrown, Cond.code yX1_thrown cX1_thrown 1 (some .int), Cond.fieldLink RX1 20 "OrderLineModel" "thrown" "I", Cond.methodLink RL 53 yL_several, Cond.static yL_several, Cond.codeWith yL_several cL_several 5 (some .int) [(0, 10, 13, 13)], Cond.methodLink RL 15 yX0_several, Cond.instanceMethod yX0_several]
def wsL_law0_r4 : List Cond := [Cond.selects RX0 yX0_several yX0_several, Cond.code yX0_several cX0_several 3 (some .int), Cond.methodLink RL 57 yX0_remove, Cond.instanceMethod yX0_remove, Cond.selects RX0 yX0_remove yX0_remove, Cond.code yX0_remove cX0_remove 3 (some .boolean), Cond.methodLink RX0 32 yX0_takeOut, Cond.instanceMethod yX0_takeOut, Cond.selects RX0 yX0_takeOut yX0_takeOut, Cond.code yX0_takeOut cX0_takeOut 5 none, Cond.methodLink RL 62 yL_clear, Cond.static yL_clear, Cond.codeWith yL_clear cL_clear 5 (some .int) [(0, 10, 13, 13)], Cond.methodLink RL 19 yX0_clear, Cond.instanceMethod yX0_clear, Cond.selects RX0 yX0_clear yX0_clear, Cond.code yX0_clear cX0_clear 5 (some .int), Cond.methodLink RL 65 yL_carry, Cond.static yL_carry, Cond.codeWith yL_carry cL_carry 6 (some .int) [(0, 12, 15, 13)], Cond.methodLink RL 22 yX0_carry, Cond.instanceMethod yX0_carry, Cond.selects RX0 yX0_carry yX0_carry, Cond.code yX0_carry cX0_carry 7 (some .int)]
def wsL_law0_r5 : List Cond := [Cond.methodLink RX0 36 yX0_swapBlocks, Cond.instanceMethod yX0_swapBlocks, Cond.selects RX0 yX0_swapBlocks yX0_swapBlocks, Cond.code yX0_swapBlocks cX0_swapBlocks 4 none, Cond.methodLink RX0 69 yX0_turn, Cond.instanceMethod yX0_turn, Cond.selects RX0 yX0_turn yX0_turn, Cond.code yX0_turn cX0_turn 6 none, Cond.methodLink RL 69 yL_compare, Cond.static yL_compare, Cond.codeWith yL_compare cL_compare 5 (some .int) [(0, 10, 13, 13)], Cond.methodLink RL 26 yX0_compare, Cond.instanceMethod yX0_compare, Cond.selects RX0 yX0_compare yX0_compare, Cond.code yX0_compare cX0_compare 3 (some .int), Cond.methodLink RL 72 yL_next, Cond.static yL_next, Cond.codeWith yL_next cL_next 5 (some .int) [(0, 10, 13, 13)], Cond.methodLink RL 29 yX0_next, Cond.instanceMethod yX0_next, Cond.selects RX0 yX0_next yX0_next, Cond.code yX0_next cX0_next 3 (some .int), Cond.methodLink RX0 40 yX0_at, Cond.instanceMethod yX0_at]
def wsL_law0_r6 : List Cond := [Cond.selects RX0 yX0_at yX0_at, Cond.code yX0_at cX0_at 2 (some .int), Cond.methodLink RL 76 yX0_has, Cond.methodLink RL 80 yL_place, Cond.static yL_place, Cond.codeWith yL_place cL_place 4 (some .int) [(0, 9, 12, 13)], Cond.methodLink RL 33 yX0_place, Cond.instanceMethod yX0_place, Cond.selects RX0 yX0_place yX0_place, Cond.code yX0_place cX0_place 2 (some .int), Cond.methodLink RL 83 yX0_at, Cond.methodLink RL 87 yL_greatest, Cond.static yL_greatest, Cond.codeWith yL_greatest cL_greatest 5 (some .int) [(0, 10, 13, 13)], Cond.methodLink RL 36 yX0_greatest, Cond.instanceMethod yX0_greatest, Cond.selects RX0 yX0_greatest yX0_greatest, Cond.code yX0_greatest cX0_greatest 6 (some .int), Cond.methodLink RX0 44 Lib.Math.max.name, Cond.static Lib.Math.max.name, Cond.initialized "java/lang/Math", Cond.code Lib.Math.max.name Lib.Math.max.code 2 (some .int), Cond.methodLink RL 90 yX0_wipe, Cond.instanceMethod yX0_wipe]
def wsL_law0_r7 : List Cond := [Cond.selects RX0 yX0_wipe yX0_wipe, Cond.code yX0_wipe cX0_wipe 1 none, Cond.methodLink RL 94 yX0_look, Cond.instanceMethod yX0_look, Cond.selects RX0 yX0_look yX0_look, Cond.code yX0_look cX0_look 2 (some .int), Cond.methodLink RX0 49 yX0_leastFree, Cond.instanceMethod yX0_leastFree, Cond.selects RX0 yX0_leastFree yX0_leastFree, Cond.code yX0_leastFree cX0_leastFree 2 (some .int)]
def wsL_law0 : List Cond := (wsL_law0_r1 ++ (wsL_law0_r2 ++ (wsL_law0_r3 ++ (wsL_law0_r4 ++ (wsL_law0_r5 ++ (wsL_law0_r6 ++ wsL_law0_r7)))))) ++ wsX00 ++ wsX10 ++ ([] : List Cond)
def wsL_law : List Cond := wsL_law0 ++ (vx_atS RX0 57 "java/lang/IllegalArgumentException" ["java/lang/RuntimeException", "java/lang/Exception"]).filter goodWord
set_option maxRecDepth 20000 in
theorem wsL_law_in0 : ∀ w ∈ wsL_law0, w ∈ lw_tbl := fun w h => (goodIn_p wsL_law0 [27, 30, 230, 83, 87, 49, 157, 161, 57, 165, 252, 248, 172, 45, 53, 179, 186, 190, 194, 201, 208, 62, 215, 222, 225, 66, 70, 75] (by decide +kernel) (by decide +kernel) w h).1
theorem wsL_law_x0 : ∀ w ∈ (vx_atS RX0 57 "java/lang/IllegalArgumentException" ["java/lang/RuntimeException", "java/lang/Exception"]).filter goodWord, w ∈ lw_tbl := by decide +kernel
theorem wsL_law_in : ∀ w ∈ wsL_law, w ∈ lw_tbl := fun w h => (List.mem_append.mp h).elim (fun h => wsL_law_in0 w h) (fun h => wsL_law_x0 w h)
theorem inlX0 : ∀ w ∈ wsX00, w ∈ wsL_law := fun _ h => List.mem_append_left _ (List.mem_append_left _ (List.mem_append_left _ (List.mem_append_right _ h)))
theorem inX0 : ∀ w ∈ wsX00, w ∈ lw_tbl := fun w h => wsL_law_in w (inlX0 w h)
theorem inlX1 : ∀ w ∈ wsX10, w ∈ wsL_law := fun _ h => List.mem_append_left _ (List.mem_append_left _ (List.mem_append_right _ h))
theorem inX1 : ∀ w ∈ wsX10, w ∈ lw_tbl := fun w h => wsL_law_in w (inlX1 w h)
theorem inJ9 : ∀ w ∈ wsJ90, w ∈ lw_tbl := by decide +kernel
theorem inJ0 : ∀ w ∈ wsJ00, w ∈ lw_tbl := by decide +kernel
