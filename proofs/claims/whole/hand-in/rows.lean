section
-- ===== PART A: goes FIRST, ahead of the names: the tables' words, and 'selects' of the private methods out of them =====
/-- a private method of a class that the tables say can be made, by its rows of tables_1 -/
def lw_okq (q : MethodName × Nat) : Prop := (q.1.cls ≠ "java/lang/invoke/MethodHandle" ∧ q.1.cls ≠ "java/lang/invoke/VarHandle") ∧ Cond.instantiable q.1.cls q.2 ∈ tables_1 ∧ Cond.privateMethod q.1 ∈ tables_1 ∧ Cond.instanceMethod q.1 ∈ tables_1
theorem lw_p0 : lw_okq (⟨"OrderLine", "takeOut", "(II)V"⟩, 3) := ⟨⟨by decide +kernel, by decide +kernel⟩, List.mem_of_getElem? (i := 9) (by decide +kernel), List.mem_of_getElem? (i := 36) (by decide +kernel), List.mem_of_getElem? (i := 37) (by decide +kernel)⟩
theorem lw_p1 : lw_okq (⟨"OrderLine", "put", "(II)V"⟩, 3) := ⟨⟨by decide +kernel, by decide +kernel⟩, List.mem_of_getElem? (i := 9) (by decide +kernel), List.mem_of_getElem? (i := 40) (by decide +kernel), List.mem_of_getElem? (i := 41) (by decide +kernel)⟩
theorem lw_p2 : lw_okq (⟨"OrderLine", "leastFree", "()I"⟩, 3) := ⟨⟨by decide +kernel, by decide +kernel⟩, List.mem_of_getElem? (i := 9) (by decide +kernel), List.mem_of_getElem? (i := 58) (by decide +kernel), List.mem_of_getElem? (i := 59) (by decide +kernel)⟩
theorem lw_p3 : lw_okq (⟨"OrderLine", "demand", "(I)V"⟩, 3) := ⟨⟨by decide +kernel, by decide +kernel⟩, List.mem_of_getElem? (i := 9) (by decide +kernel), List.mem_of_getElem? (i := 70) (by decide +kernel), List.mem_of_getElem? (i := 71) (by decide +kernel)⟩
theorem lw_p4 : lw_okq (⟨"java/lang/Throwable", "fillInStackTrace", "(I)Ljava/lang/Throwable;"⟩, 6) := ⟨⟨by decide +kernel, by decide +kernel⟩, List.mem_of_getElem? (i := 110) (by decide +kernel), List.mem_of_getElem? (i := 108) (by decide +kernel), List.mem_of_getElem? (i := 109) (by decide +kernel)⟩
theorem lw_p5 : lw_okq (⟨"OrderLine", "addBehind", "(II)I"⟩, 3) := ⟨⟨by decide +kernel, by decide +kernel⟩, List.mem_of_getElem? (i := 9) (by decide +kernel), List.mem_of_getElem? (i := 140) (by decide +kernel), List.mem_of_getElem? (i := 141) (by decide +kernel)⟩
theorem lw_p6 : lw_okq (⟨"OrderLine", "openGap", "(II)V"⟩, 3) := ⟨⟨by decide +kernel, by decide +kernel⟩, List.mem_of_getElem? (i := 9) (by decide +kernel), List.mem_of_getElem? (i := 144) (by decide +kernel), List.mem_of_getElem? (i := 145) (by decide +kernel)⟩
theorem lw_p7 : lw_okq (⟨"OrderLine", "fillGap", "(II)V"⟩, 3) := ⟨⟨by decide +kernel, by decide +kernel⟩, List.mem_of_getElem? (i := 9) (by decide +kernel), List.mem_of_getElem? (i := 148) (by decide +kernel), List.mem_of_getElem? (i := 149) (by decide +kernel)⟩
theorem lw_p8 : lw_okq (⟨"OrderLine", "swapBlocks", "(III)V"⟩, 3) := ⟨⟨by decide +kernel, by decide +kernel⟩, List.mem_of_getElem? (i := 9) (by decide +kernel), List.mem_of_getElem? (i := 173) (by decide +kernel), List.mem_of_getElem? (i := 174) (by decide +kernel)⟩
theorem lw_p9 : lw_okq (⟨"OrderLine", "turn", "(II)V"⟩, 3) := ⟨⟨by decide +kernel, by decide +kernel⟩, List.mem_of_getElem? (i := 9) (by decide +kernel), List.mem_of_getElem? (i := 177) (by decide +kernel), List.mem_of_getElem? (i := 178) (by decide +kernel)⟩
theorem lw_p10 : lw_okq (⟨"OrderLineModel", "lacks", "(III)Z"⟩, 4) := ⟨⟨by decide +kernel, by decide +kernel⟩, List.mem_of_getElem? (i := 212) (by decide +kernel), List.mem_of_getElem? (i := 239) (by decide +kernel), List.mem_of_getElem? (i := 240) (by decide +kernel)⟩
theorem lw_p11 : lw_okq (⟨"OrderLineModel", "find", "(I)I"⟩, 4) := ⟨⟨by decide +kernel, by decide +kernel⟩, List.mem_of_getElem? (i := 212) (by decide +kernel), List.mem_of_getElem? (i := 243) (by decide +kernel), List.mem_of_getElem? (i := 244) (by decide +kernel)⟩
theorem lw_p12 : lw_okq (⟨"OrderLineModel", "free", "()I"⟩, 4) := ⟨⟨by decide +kernel, by decide +kernel⟩, List.mem_of_getElem? (i := 212) (by decide +kernel), List.mem_of_getElem? (i := 247) (by decide +kernel), List.mem_of_getElem? (i := 248) (by decide +kernel)⟩
theorem lw_p13 : lw_okq (⟨"OrderLineModel", "put", "(II)V"⟩, 4) := ⟨⟨by decide +kernel, by decide +kernel⟩, List.mem_of_getElem? (i := 212) (by decide +kernel), List.mem_of_getElem? (i := 251) (by decide +kernel), List.mem_of_getElem? (i := 252) (by decide +kernel)⟩
theorem lw_p14 : lw_okq (⟨"OrderLineModel", "drop", "(I)V"⟩, 4) := ⟨⟨by decide +kernel, by decide +kernel⟩, List.mem_of_getElem? (i := 212) (by decide +kernel), List.mem_of_getElem? (i := 263) (by decide +kernel), List.mem_of_getElem? (i := 264) (by decide +kernel)⟩
def lw_privs_1 : List (MethodName × Nat) := [(⟨"OrderLine", "takeOut", "(II)V"⟩, 3), (⟨"OrderLine", "put", "(II)V"⟩, 3), (⟨"OrderLine", "leastFree", "()I"⟩, 3), (⟨"OrderLine", "demand", "(I)V"⟩, 3), (⟨"java/lang/Throwable", "fillInStackTrace", "(I)Ljava/lang/Throwable;"⟩, 6), (⟨"OrderLine", "addBehind", "(II)I"⟩, 3), (⟨"OrderLine", "openGap", "(II)V"⟩, 3), (⟨"OrderLine", "fillGap", "(II)V"⟩, 3), (⟨"OrderLine", "swapBlocks", "(III)V"⟩, 3), (⟨"OrderLine", "turn", "(II)V"⟩, 3), (⟨"OrderLineModel", "lacks", "(III)Z"⟩, 4), (⟨"OrderLineModel", "find", "(I)I"⟩, 4), (⟨"OrderLineModel", "free", "()I"⟩, 4), (⟨"OrderLineModel", "put", "(II)V"⟩, 4), (⟨"OrderLineModel", "drop", "(I)V"⟩, 4)]
theorem lw_r1 : ∀ q ∈ lw_privs_1, lw_okq q := List.forall_mem_cons.mpr ⟨lw_p0, List.forall_mem_cons.mpr ⟨lw_p1, List.forall_mem_cons.mpr ⟨lw_p2, List.forall_mem_cons.mpr ⟨lw_p3, List.forall_mem_cons.mpr ⟨lw_p4, List.forall_mem_cons.mpr ⟨lw_p5, List.forall_mem_cons.mpr ⟨lw_p6, List.forall_mem_cons.mpr ⟨lw_p7, List.forall_mem_cons.mpr ⟨lw_p8, List.forall_mem_cons.mpr ⟨lw_p9, List.forall_mem_cons.mpr ⟨lw_p10, List.forall_mem_cons.mpr ⟨lw_p11, List.forall_mem_cons.mpr ⟨lw_p12, List.forall_mem_cons.mpr ⟨lw_p13, List.forall_mem_cons.mpr ⟨lw_p14, fun _ h => absurd h List.not_mem_nil⟩⟩⟩⟩⟩⟩⟩⟩⟩⟩⟩⟩⟩⟩⟩
def lw_privs : List (MethodName × Nat) := lw_privs_1
def lw_tbl : List Cond := k2_sels lw_privs ++ tables_1
theorem lw_privs_ok : ∀ q ∈ lw_privs, lw_okq q := lw_r1
end
section
/-! ===== BEGIN words of one list among another's, by their places ===== -/
theorem goodIn_r {big : List Cond} (ws : List Cond) (ps : List Nat) (hp : ws = ps.filterMap (fun i => big[i]?)) (h : ws.all goodWord = true) : GoodIn big ws := by
  intro w hw
  have h1 := List.all_eq_true.mp h w hw
  rw [hp] at hw
  obtain ⟨i, -, hi⟩ := List.mem_filterMap.mp hw
  have hm : w ∈ big := by first | exact List.mem_of_getElem? hi | exact List.getElem?_mem hi
  exact ⟨hm, good_of_word h1⟩
theorem goodIn_app {big a b : List Cond} (ha : GoodIn big a) (hb : GoodIn big b) : GoodIn big (a ++ b) := fun w h => (List.mem_append.mp h).elim (ha w) (hb w)
theorem goodIn_ca {big a b : List Cond} {c : Cond} (ha : GoodIn big (c :: a)) (hb : GoodIn big b) : GoodIn big (c :: (a ++ b)) := fun w h => (List.mem_cons.mp h).elim (fun e => ha w (List.mem_cons.mpr (Or.inl e))) (fun h => (List.mem_append.mp h).elim (fun h => ha w (List.mem_cons.mpr (Or.inr h))) (hb w))
theorem goodIn_sub {big ws : List Cond} (hm : ∀ w ∈ ws, w ∈ big) (h : ws.all goodWord = true) : GoodIn big ws := fun w hw => ⟨hm w hw, good_of_word (List.all_eq_true.mp h w hw)⟩
/-! ===== END ===== -/
section VXA
def vx_T (XC : String → State → State → Prop) (st : State) (q : Addr) (t : State) (mc ms : Nat) (free : Addr → Prop) : Prop :=
  ∃ (E : String) (ce : Cell) (L : List Loc), XC E st t ∧ t.heap[q]? = some ce ∧ ce.vm = .none ∧ st.vm.findClass E = some ce.cls ∧ st.WarmedH t.vm ∧ st.sameButNew ({ t with vm := st.vm } : State) L mc ms ∧ ∀ z ∈ L, free z.base
def vx_Q (Qc : Array Value → State → Outcome → State → Prop) (XC : String → State → State → Prop) (mc ms : Nat) (free : Addr → Prop) : Array Value → State → Outcome → State → Prop := fun a st o t =>
  (Qc a st o t ∧ ∃ L, FrameEnd st o t L mc ms ∧ ∀ q ∈ L, free q.base) ∨ ∃ q, o = .threw q ∧ vx_T XC st q t mc ms free
section Ends
variable {p : Program} {l : Launch} {e : Env} {R : Room} {s : State} {m : MethodId} {args : Array Value} {below : List Frame} {meth : Method} {c : Code} {H : Heap} {locs : List Loc} {cells slots : Nat} {Q : State → Prop}
variable {mc ms : Nat} {free : Addr → Prop} {A0 A1 : Nat → Prop} {H0 : Heap} {a : Array Value} {ls : Array Slot} {st0 rest : List Value}
variable {Qc : Array Value → State → Outcome → State → Prop} {XC : String → State → State → Prop}
def vx_MQ (below : List Frame) (Qc : Array Value → State → Outcome → State → Prop) (XC : String → State → State → Prop) (a : Array Value) (s : State) (mc ms : Nat) (free : Addr → Prop) : State → Prop := fun t =>
  ∃ o, t.status = .running ∧ Ended t below o ∧ vx_Q Qc XC mc ms free a s o t
theorem vx_frame {U : State} {k n : Nat} (h : s.sameButNew ({ U with vm := s.vm } : State) locs k n) : s.heap.size ≤ U.heap.size ∧ ∀ q : Nat, q < s.heap.size → (∀ z ∈ locs, z.base ≠ q) → U.heap[q]? = s.heap[q]? := by
  obtain ⟨-, h2, -, -, -, h6⟩ := h
  refine ⟨h2, fun q hq hz => ?_⟩
  obtain ⟨c9, e1, e2, e3, e4⟩ := h6 q _ (Array.getElem?_eq_getElem hq)
  have hs : c9.slots = (s.heap[q]).slots := Array.ext_getElem? fun i => e4 i fun hm => hz _ hm rfl
  have h9 : c9 = s.heap[q] := by
    rw [hs] at e2
    exact e2
  have e5 : U.heap[q]? = some c9 := e1
  rw [e5, h9, Array.getElem?_eq_getElem hq]
def vx_no (w : Cond) : Bool := decide (w ≠ .isRef (.static Bundle.tN "UNASSIGNED_STACK" Bundle.steD)) && decide (w ≠ .isRef (.static Bundle.tN "SUPPRESSED_SENTINEL" Bundle.listD)) && decide (w ≠ .laysStatic Bundle.tN "UNASSIGNED_STACK" Bundle.steD) && decide (w ≠ .laysStatic Bundle.tN "SUPPRESSED_SENTINEL" Bundle.listD)
def vx_at0 (own : String) (ic : Nat) (X : String) (names : List String) : List Cond := (Bundle.ownAtoms0 own ic X names).filter vx_no
def vx_atS (own : String) (ic : Nat) (X : String) (names : List String) : List Cond := (Bundle.ownAtoms own ic X names).filter vx_no
def vx_ot (w : Cond) : Bool := w.onTables || goodWord w
theorem vx_ot_at {args a' : Array Value} {s U : State} {w : Cond} (hW : s.WarmedH U.vm) (hvm : s.vm = U.vm) (hg : vx_ot w = true) (h : w.before args s = true) : w.before a' U = true := by
  simp only [vx_ot, Bool.or_eq_true] at hg
  rcases hg with hg | hg
  · exact va_tabs hg hvm h
  · exact word_at hW (good_of_word hg) h
theorem vx_hat {args : Array Value} {s : State} {L B : List Cond} (h1 : ∀ w ∈ L.filter goodWord, w.before args s = true) (h2 : ∀ w ∈ L.filter (fun w => !goodWord w), w ∈ B) (h3 : ∀ w ∈ B, w.before args s = true) : ∀ w ∈ L, w.before args s = true := by
  intro w hw
  by_cases g : goodWord w = true
  · exact h1 w (List.mem_filter.mpr ⟨hw, g⟩)
  · refine h3 w (h2 w (List.mem_filter.mpr ⟨hw, ?_⟩))
    show (!goodWord w) = true
    cases hgw : goodWord w
    · rfl
    · exact absurd hgw g
theorem vx_c {args : Array Value} {s : State} {w : Cond} {B : List Cond} (h : w.before args s = true) (t : ∀ w ∈ B, w.before args s = true) : ∀ w' ∈ w :: B, w'.before args s = true := fun w' h' => (List.mem_cons.mp h').elim (fun e => by rw [e]; exact h) (t w')
theorem vx_n {args : Array Value} {s : State} : ∀ w ∈ ([] : List Cond), w.before args s = true := fun _ h => nomatch h
theorem vx_own {args : Array Value} {s : State} {L : List Cond} (h1 : ∀ w ∈ L.filter vx_no, w.before args s = true)
    (hU : (Cond.isRef (.static Bundle.tN "UNASSIGNED_STACK" Bundle.steD)).before args s = true) (hN : (Cond.isRef (.static Bundle.tN "SUPPRESSED_SENTINEL" Bundle.listD)).before args s = true)
    (lU : (Cond.laysStatic Bundle.tN "UNASSIGNED_STACK" Bundle.steD).before args s = true) (lN : (Cond.laysStatic Bundle.tN "SUPPRESSED_SENTINEL" Bundle.listD).before args s = true) : ∀ w ∈ L, w.before args s = true := by
  intro w hw
  by_cases e1 : w = .isRef (.static Bundle.tN "UNASSIGNED_STACK" Bundle.steD)
  · rw [e1]; exact hU
  · by_cases e2 : w = .isRef (.static Bundle.tN "SUPPRESSED_SENTINEL" Bundle.listD)
    · rw [e2]; exact hN
    · by_cases e3 : w = .laysStatic Bundle.tN "UNASSIGNED_STACK" Bundle.steD
      · rw [e3]; exact lU
      · by_cases e4 : w = .laysStatic Bundle.tN "SUPPRESSED_SENTINEL" Bundle.listD
        · rw [e4]; exact lN
        · exact h1 w (List.mem_filter.mpr ⟨hw, by unfold vx_no; rw [decide_eq_true e1, decide_eq_true e2, decide_eq_true e3, decide_eq_true e4]; rfl⟩)
def vx_L (C n d : String) (A : Nat → Prop) (U : State) (H : Heap) : Prop := ∃ (c : ClassId) (k : Class) (i : Nat) (f : Field) (a : Nat) (cell : Cell), U.vm.findClass C = some c ∧ U.fieldFound? C n d = some (c, k, i, f) ∧ f.isStatic = true ∧ k.statics = some a ∧ H[a]? = some cell ∧ cell.vm.isStatics = true ∧ cell.cls = c ∧ f.slot < cell.slots.size ∧ k.staticTypes[f.slot]? = some f.type ∧ ¬ A a
theorem vx_L.moved {C n d : String} {A : Nat → Prop} {u U : State} {H : Heap} (hvm : u.vm.Alike U.vm) (h : vx_L C n d A u H) : vx_L C n d A U H := by
  obtain ⟨c, k, i, f, a, cell, h1, h2, h3, h4, h5, h6, h7, h8, h9, h10⟩ := h
  obtain ⟨k', hi', he⟩ := State.fieldFound?_setVm hvm h2
  exact ⟨c, k', i, f, a, cell, by rw [hvm.findClass]; exact h1, hi', h3, by rw [he]; exact h4, h5, h6, h7, h8, by rw [he]; exact h9, h10⟩
theorem vx_L.kept {C n d : String} {A : Nat → Prop} {U : State} {H H1 : Heap} (h : vx_L C n d A U H) (hq : ∀ a : Nat, a < H.size → ¬ A a → H1[a]? = H[a]?) : vx_L C n d A U H1 := by
  obtain ⟨c, k, i, f, a, cell, h1, h2, h3, h4, h5, h6, h7, h8, h9, h10⟩ := h
  exact ⟨c, k, i, f, a, cell, h1, h2, h3, h4, by rw [hq a (Array.getElem?_eq_some_iff.mp h5).1 h10]; exact h5, h6, h7, h8, h9, h10⟩
theorem vx_L.narrow {C n d : String} {A B : Nat → Prop} {U : State} {H : Heap} (h : vx_L C n d A U H) (hAB : ∀ q, B q → A q) : vx_L C n d B U H := by
  obtain ⟨c, k, i, f, a, cell, h1, h2, h3, h4, h5, h6, h7, h8, h9, h10⟩ := h
  exact ⟨c, k, i, f, a, cell, h1, h2, h3, h4, h5, h6, h7, h8, h9, fun z => h10 (hAB _ z)⟩
theorem vx_L.word {C n d : String} {A : Nat → Prop} {s : State} {args : Array Value} (h : vx_L C n d A s s.heap) : (Cond.laysStatic C n d).before args s = true := by
  obtain ⟨c, k, i, f, a, cell, h1, h2, h3, h4, h5, h6, h7, h8, h9, -⟩ := h
  show (Cond.laysStatic C n d).holds args s none s [] = true
  exact Cond.laysStatic_of h1 h2 h3 h4 h5 h6 h7 h8 h9
def vx_Zq (C n d : String) (A : Nat → Prop) (U : State) (H : Heap) : Prop := va_Zq C n d A U H ∧ vx_L C n d A U H
theorem vx_Zq.moved {C n d : String} {A : Nat → Prop} {u U : State} {H : Heap} (hvm : u.vm.Alike U.vm) (h : vx_Zq C n d A u H) : vx_Zq C n d A U H := ⟨va_Zq.moved hvm h.1, vx_L.moved hvm h.2⟩
theorem vx_Zq.kept {C n d : String} {A : Nat → Prop} {U : State} {H H1 : Heap} (h : vx_Zq C n d A U H) (hq : ∀ a : Nat, a < H.size → ¬ A a → H1[a]? = H[a]?) : vx_Zq C n d A U H1 := ⟨va_Zq.kept h.1 hq, vx_L.kept h.2 hq⟩
theorem vx_Zq.narrow {C n d : String} {A B : Nat → Prop} {U : State} {H : Heap} (h : vx_Zq C n d A U H) (hAB : ∀ q, B q → A q) : vx_Zq C n d B U H := ⟨va_Zq.narrow h.1 hAB, vx_L.narrow h.2 hAB⟩
theorem vx_Zqof {args : Array Value} {s : State} {C n d : String} {A : Nat → Prop} (hl : (Cond.laysStatic C n d).before args s = true) (hini : (Cond.initialized C).before args s = true) (h : (Cond.isRef (.static C n d)).before args s = true) (hA : ∀ a : Nat, a < s.heap.size → ¬ A a) : vx_Zq C n d A s s.heap := by
  refine ⟨va_Zqof hl hini h hA, ?_⟩
  obtain ⟨c, k, i, f, a, cell, h1, h2, h3, h4, h5, h6, h7, h8, h9⟩ := Cond.laysStatic_spec hl
  exact ⟨c, k, i, f, a, cell, h1, h2, h3, h4, h5, h6, h7, h8, h9, hA a (Array.getElem?_eq_some_iff.mp h5).1⟩
theorem vx_isRef {C n d : String} {v : Value} {A : Nat → Prop} {s : State} {args : Array Value} (h : va_Z C n d v A s s.heap) (hv : v.isRef = true) : (Cond.isRef (.static C n d)).before args s = true := by
  obtain ⟨cf, kf, fi, f, a, cell, h1, h2, h3, h4, h5, h6, h7, -⟩ := h
  have he : (Term.static C n d).eval args s none [] s = some v := by
    simp [Term.eval, State.fieldNamed?, h1, h2, h4, h5, h6, h7]
  simp only [Cond.before, Cond.holds, Cond.value, he]
  cases v <;> simp_all [Value.isRef]
theorem vx_isRefq {C n d : String} {A : Nat → Prop} {s : State} {args : Array Value} (h : va_Zq C n d A s s.heap) : (Cond.isRef (.static C n d)).before args s = true := by
  rcases h with h | ⟨t, h⟩
  · exact vx_isRef h rfl
  · exact vx_isRef h rfl
theorem vx_rebase {T : State} (X : Stand p l e R s m args below meth c T locs cells slots) {R' : Room} (hf : R'.frames ≤ R.frames) (hl : R'.locals ≤ R.locals) (hc : cells + R'.cells ≤ R.cells) (hs : slots + R'.slots ≤ R.slots) :
    Stand p l e R' ((T.setVm s.vm).setFrames (.invoking m args :: below)) m args below meth c T [] 0 0 := by
  have htop : (T.setVm s.vm).topJava?.isSome := X.here.top
  have hF : ((T.setVm s.vm).setFrames (.invoking m args :: below)).frames = .invoking m args :: below := State.frames_setFrames _ (State.cur_lt_of_top htop)
  obtain ⟨g₀, hg0⟩ := Option.isSome_iff_exists.mp htop
  obtain ⟨r, hr⟩ := State.topJava?_eq_some.mp hg0
  have hl9 : e.platform.stackLimits (T.setVm s.vm).me = e.platform.stackLimits s.me := X.limits
  have hb9 : (T.setVm s.vm).me.stackBytes = s.me.stackBytes := X.bytes
  refine ⟨X.admits, X.cas, X.clock, hF, ?_, X.hears, X.method, X.code, X.here, X.tail, X.warmed, ?_, ?_, ?_⟩
  · have h := X.room
    have hU : ((T.setVm s.vm).setFrames (.invoking m args :: below)).localsInUse = s.localsInUse := by
      rw [State.localsInUse_invoking hF (meth := meth) (c := c) X.method X.code, State.localsInUse_invoking X.frames X.method X.code]
    simp only [State.hasRoom, Bool.and_eq_true, decide_eq_true_eq] at h ⊢
    obtain ⟨⟨⟨⟨h1, h2, h3, h4, h5, h6⟩, h7⟩, h8⟩, h9⟩ := h
    rw [X.frames, List.length_cons] at h2 h3
    have q1 := X.heapSize
    have q2 := X.used
    simp only [hF, hU, List.length_cons, State.stackLimits_setFrames, State.stackBytes_setFrames, hl9, hb9]
    refine ⟨⟨⟨⟨by omega, by omega, by omega, by omega, by omega, h6⟩, ?_⟩, ?_⟩, X.book⟩
    · show T.heap.size + R'.cells ≤ e.platform.maxCells
      omega
    · show T.slotsUsed + R'.slots ≤ e.platform.maxSlots
      omega
  · rw [State.stackLimits_setFrames]; rfl
  · rw [State.stackBytes_setFrames]; rfl
  · refine ⟨?_, Nat.le_refl _, Nat.le_refl _, ?_, ?_, fun a c9 h9 => ⟨c9, h9, rfl, rfl, fun _ _ => rfl⟩⟩
    · obtain ⟨t, ht, -⟩ := State.frames_cons hr
      show T.setVm s.vm = { ((T.setVm s.vm).setFrames (.invoking m args :: below)).setFrames (T.setVm s.vm).frames with heap := T.heap, slotsUsed := T.slotsUsed }
      rw [State.setFrames_setFrames, State.setFrames_self ht]
      rfl
    · show T.slotsUsed = T.slotsUsed + ((T.heap.toList.drop T.heap.size).map (·.slots.size)).sum
      rw [List.drop_eq_nil_of_le (Nat.le_of_eq Array.length_toList)]
      rfl
    · show ((T.heap.toList.drop T.heap.size).map (·.slots.size)).sum ≤ 0
      rw [List.drop_eq_nil_of_le (Nat.le_of_eq Array.length_toList)]
      exact Nat.le_refl _
theorem vx_throwS {cc : ByteArray} {pc : Nat} (hexec : p.tables.exec = Jvm.exec) (hb : c.code = cc) (hl : l.stackTraces = false) {own cls text : String} {names : List String} {ik is ic mc ms sa : Nat} {A : Nat → Prop}
    (hown : s.vm.findClass own = some m.cls) (hcls : Bundle.fit cls = true) (hnames : ∀ n ∈ names, Bundle.fit n = true)
    (hk : (Cond.classLink own ik cls).before args s = true) (hini : (Cond.initialized cls).before args s = true) (hstr : vk_R own is text sa s) (hat : ∀ w ∈ vx_atS own ic cls names, w.before args s = true)
    (hgood : ∀ w ∈ Cond.classLink own ik cls :: Cond.initialized cls :: vx_atS own ic cls names, vx_ot w = true)
    (hU : vx_Zq Bundle.tN "UNASSIGNED_STACK" Bundle.steD A s s.heap) (hN : vx_Zq Bundle.tN "SUPPRESSED_SENTINEL" Bundle.listD A s s.heap) (hS : va_S A s.heap H locs) (hsize : ls.size = c.maxLocals)
    (d0 : decode cc pc = .ok (.new ik, 3)) (d3 : decode cc (pc + 3) = .ok (.dup, 1)) (d4 : decode cc (pc + 4) = .ok (.ldc is, 2)) (d6 : decode cc (pc + 6) = .ok (.invokespecial ic, 3)) (d9 : decode cc (pc + 9) = .ok (.athrow, 1))
    (hout : ∀ x ∈ c.exceptionTable.toList, covers x (pc + 9) = false)
    (hRframes : names.length + 3 < R.frames) (hRlocals : (rest.map fun v => v.category).sum + (13 * (names.length + 1) + 43) ≤ R.locals) (hRcells : cells + 1 ≤ R.cells) (hRslots : slots + 6 ≤ R.slots) (hlocks : meth.locks = false)
    (hx : ∀ t : State, s.vm.Alike t.vm → H.size ≤ t.heap.size → (∀ q : Nat, q < H.size → t.heap[q]? = H[q]?) → XC cls s t)
    (hf : ∀ z ∈ locs, free z.base) (hc : cells + 1 ≤ mc) (hs : slots + 6 ≤ ms) :
    W p l e R s m args below meth c H locs cells slots (vx_MQ below Qc XC args s mc ms free) (F0 m pc ls rest) := by
  intro T hT X
  have htr : e.platform.stackTraces = false := (show e.platform.stackTraces = l.stackTraces by rw [X.admits.platform]).trans hl
  have Y := vx_rebase X (R' := { frames := R.frames, locals := R.locals, cells := 1, slots := 6 }) (Nat.le_refl _) (Nat.le_refl _) hRcells hRslots
  obtain ⟨s', hA⟩ : ∃ z, z = (T.setVm s.vm).setFrames (.invoking m args :: below) := ⟨_, rfl⟩
  rw [← hA] at Y
  have hvm : s'.vm = s.vm := by rw [hA]; rfl
  have hhp : s'.heap = H := by rw [hA]; exact hT
  have hW0 : s.WarmedH s'.vm := by rw [hvm]; exact State.WarmedH.refl s
  have hat' : ∀ w ∈ vx_atS own ic cls names, w.before args s' = true := fun w hw => vx_ot_at hW0 hvm.symm (hgood w (List.mem_cons_of_mem _ (List.mem_cons_of_mem _ hw))) (hat w hw)
  have hk' : (Cond.classLink own ik cls).before args s' = true := vx_ot_at hW0 hvm.symm (hgood _ List.mem_cons_self) hk
  have hini' : (Cond.initialized cls).before args s' = true := vx_ot_at hW0 hvm.symm (hgood _ (List.mem_cons_of_mem _ List.mem_cons_self)) hini
  have hU' : vx_Zq Bundle.tN "UNASSIGNED_STACK" Bundle.steD A s' s'.heap := by rw [hhp]; exact vx_Zq.moved hW0.alike (hU.kept hS.2.1)
  have hN' : vx_Zq Bundle.tN "SUPPRESSED_SENTINEL" Bundle.listD A s' s'.heap := by rw [hhp]; exact vx_Zq.moved hW0.alike (hN.kept hS.2.1)
  have h : ∀ w ∈ Bundle.ownAtoms own ic cls names, w.before args s' = true := vx_own hat' (vx_isRefq hU'.1) (vx_isRefq hN'.1) hU'.2.word hN'.2.word
  have hown' : s'.vm.findClass own = some m.cls := by rw [hvm]; exact hown
  have hins : (Cond.instantiable cls 6).before args s' = true := h _ (by simp [Bundle.ownAtoms])
  obtain ⟨vm₁, cX, kX, hfX, hkX, -, -, X₁, st1⟩ := Y.newCold hexec (own := own) (C := cls) (index := ik) (n := 6) hown' hk' hins hini'
    (g := F0 m pc ls rest) rfl (by rw [hb]; exact d0) (Nat.le_refl _) (Nat.le_refl _)
  generalize hT1 : (T.setVm vm₁).pushCell { cls := cX, slots := kX.instanceTypes.map defaultValue, vm := .none } = T1 at X₁ st1
  have hcat : (Value.ref T.heap.size).category = 1 := rfl
  have hcellA : T1.heap[T.heap.size]? = some (freshCell cX kX) := by rw [← hT1]; exact State.heap_pushCell_size _ _
  have d3' : decode c.code (pc + 3) = .ok (.dup, 1) := by rw [hb]; exact d3
  have d4' : decode c.code (pc + 4) = .ok (.ldc is, 2) := by rw [hb]; exact d4
  have hstr' : vk_R own is text sa s' := vk_R.warm hW0 hstr
  obtain ⟨U, hsteps, hrun, hend, hW, hsame, ce, hce, hO⟩ := X₁.ctorThrowS hexec htr (own := own) (cls := cls) (names := names) (ic := ic) hown' hcls hnames h (fun x hx => nomatch hx) hfX hkX hcellA (by rw [hhp, hT]; exact Nat.le_refl _) (msg := .ref sa) rfl
    (g := { method := m, pc := pc + 6, locals := ls, stack := .ref sa :: .ref T.heap.size :: .ref T.heap.size :: rest, locked := none }) rfl hsize rfl rfl (rest := rest) rfl
    (by rw [hb]; exact d6) (by rw [hb]; exact d9) hout hRframes (by simp only [List.map_cons, List.sum_cons, hcat]; omega) hlocks
  obtain ⟨f1, f2⟩ := vx_frame hsame
  rw [hhp] at f1 f2
  have hWs : s.WarmedH U.vm := State.WarmedH.trans hW0 hW
  have hcl : s.vm.findClass cls = some ce.cls := by
    have h9 := hO.cls
    rw [hvm] at h9
    exact h9
  have hall : s.sameButNew ({ U with vm := s.vm } : State) locs mc ms := by
    subst hA
    obtain ⟨e1, e2⟩ := hsame
    rw [State.setFrames_setFrames] at e1
    have h2 : (T.setVm s.vm).sameButNew ({ U with vm := s.vm } : State) [] (0 + 1) (0 + 6) := ⟨e1, e2⟩
    have h3 := X.same.trans h2
    rw [List.append_nil] at h3
    exact h3.mono hc hs
  refine ⟨U, ?_, .threw T.heap.size, hrun, hend, Or.inr ⟨T.heap.size, rfl, cls, ce, locs, hx U hWs.alike f1 (fun q hq => f2 q hq (fun z hz => nomatch hz)), hce, hO.vm, hcl, hWs, hall, hf⟩⟩
  refine st1 _ ?_
  show Steps p.tables e below (T1.setTop { method := m, pc := pc + 3, locals := ls, stack := .ref T.heap.size :: rest, locked := none }) _
  jvm_step X₁.here [X₁.here.top, hexec, d3', Value.category]
  exact X₁.ldcString hexec (own := own) (text := text) (index := is) (a := sa) hown' hstr'.1 hstr'.2
    (g := { method := m, pc := pc + 4, locals := ls, stack := .ref T.heap.size :: .ref T.heap.size :: rest, locked := none }) rfl d4' _ hsteps
end Ends
end VXA
def RX0 : String := "OrderLine"
def TX0 : u_T := fun k => match k with
  | 0 => ("OrderLine", "line", "[I", true)
  | 1 => ("OrderLine", "places", "[I", true)
  | _ => ("OrderLine", "count", "I", false)
def tyX0 : Nat → FieldType := fun k => match k with
  | 0 => .array .int
  | 1 => .array .int
  | _ => .int
abbrev wsX00 : List Cond := u_ws RX0 TX0 3
theorem nmX0 : ∀ a, a < 3 → ∀ b, b < 3 → a ≠ b → (TX0 a).2.1 ≠ (TX0 b).2.1 := by decide +kernel
theorem tyX0_ok : ∀ k, k < 3 → parseFieldDescriptor (TX0 k).2.2.1 = some (tyX0 k) := by decide +kernel
abbrev cX0_init : ByteArray := prog_1_method_1_code
def yX0_init : MethodName := ⟨RX0, "<init>", "()V"⟩
abbrev cX0_behind : ByteArray := prog_1_method_2_code
def yX0_behind : MethodName := ⟨RX0, "behind", "(I)I"⟩
abbrev cX0_several : ByteArray := prog_1_method_3_code
def yX0_several : MethodName := ⟨RX0, "several", "(II)I"⟩
abbrev cX0_remove : ByteArray := prog_1_method_4_code
def yX0_remove : MethodName := ⟨RX0, "remove", "(I)Z"⟩
abbrev cX0_clear : ByteArray := prog_1_method_5_code
def yX0_clear : MethodName := ⟨RX0, "clear", "(II)I"⟩
abbrev cX0_carry : ByteArray := prog_1_method_6_code
def yX0_carry : MethodName := ⟨RX0, "carry", "(III)I"⟩
abbrev cX0_compare : ByteArray := prog_1_method_7_code
def yX0_compare : MethodName := ⟨RX0, "compare", "(II)I"⟩
abbrev cX0_next : ByteArray := prog_1_method_8_code
def yX0_next : MethodName := ⟨RX0, "next", "(IZ)I"⟩
abbrev cX0_has : ByteArray := prog_1_method_9_code
def yX0_has : MethodName := ⟨RX0, "has", "(I)Z"⟩
abbrev cX0_place : ByteArray := prog_1_method_10_code
def yX0_place : MethodName := ⟨RX0, "place", "(I)I"⟩
abbrev cX0_at : ByteArray := prog_1_method_11_code
def yX0_at : MethodName := ⟨RX0, "at", "(I)I"⟩
abbrev cX0_greatest : ByteArray := prog_1_method_12_code
def yX0_greatest : MethodName := ⟨RX0, "greatest", "(II)I"⟩
abbrev cX0_wipe : ByteArray := prog_1_method_13_code
def yX0_wipe : MethodName := ⟨RX0, "wipe", "()V"⟩
abbrev cX0_look : ByteArray := prog_1_method_14_code
def yX0_look : MethodName := ⟨RX0, "look", "(I)I"⟩
abbrev cX0_demand : ByteArray := prog_1_method_15_code
def yX0_demand : MethodName := ⟨RX0, "demand", "(I)V"⟩
abbrev cX0_leastFree : ByteArray := prog_1_method_16_code
def yX0_leastFree : MethodName := ⟨RX0, "leastFree", "()I"⟩
abbrev cX0_addBehind : ByteArray := prog_1_method_17_code
def yX0_addBehind : MethodName := ⟨RX0, "addBehind", "(II)I"⟩
abbrev cX0_openGap : ByteArray := prog_1_method_18_code
def yX0_openGap : MethodName := ⟨RX0, "openGap", "(II)V"⟩
abbrev cX0_fillGap : ByteArray := prog_1_method_19_code
def yX0_fillGap : MethodName := ⟨RX0, "fillGap", "(II)V"⟩
abbrev cX0_takeOut : ByteArray := prog_1_method_20_code
def yX0_takeOut : MethodName := ⟨RX0, "takeOut", "(II)V"⟩
abbrev cX0_swapBlocks : ByteArray := prog_1_method_21_code
def yX0_swapBlocks : MethodName := ⟨RX0, "swapBlocks", "(III)V"⟩
abbrev cX0_turn : ByteArray := prog_1_method_22_code
def yX0_turn : MethodName := ⟨RX0, "turn", "(II)V"⟩
abbrev cX0_put : ByteArray := prog_1_method_23_code
def yX0_put : MethodName := ⟨RX0, "put", "(II)V"⟩
def RX1 : String := "OrderLineModel"
def TX1 : u_T := fun k => match k with
  | 0 => ("OrderLineModel", "thrown", "I", false)
  | 1 => ("OrderLineModel", "line", "[I", true)
  | 2 => ("OrderLineModel", "many", "I", false)
  | _ => ("OrderLineModel", "aside", "[I", true)
def tyX1 : Nat → FieldType := fun k => match k with
  | 0 => .int
  | 1 => .array .int
  | 2 => .int
  | _ => .array .int
abbrev wsX10 : List Cond := u_ws RX1 TX1 4
theorem nmX1 : ∀ a, a < 4 → ∀ b, b < 4 → a ≠ b → (TX1 a).2.1 ≠ (TX1 b).2.1 := by decide +kernel
theorem tyX1_ok : ∀ k, k < 4 → parseFieldDescriptor (TX1 k).2.2.1 = some (tyX1 k) := by decide +kernel
abbrev cX1_init : ByteArray := prog_3_method_1_code
def yX1_init : MethodName := ⟨RX1, "<init>", "()V"⟩
abbrev cX1_thrown : ByteArray := prog_3_method_2_code
def yX1_thrown : MethodName := ⟨RX1, "thrown", "()I"⟩
abbrev cX1_behind : ByteArray := prog_3_method_8_code
def yX1_behind : MethodName := ⟨RX1, "behind", "(I)I"⟩
def RJ9 : String := "java/lang/Math"
def TJ9 : u_T := fun k => match k with
  | _ => ("", "", "", false)
def tyJ9 : Nat → FieldType := fun k => match k with
  | _ => .int
abbrev wsJ90 : List Cond := u_ws RJ9 TJ9 0
theorem nmJ9 : ∀ a, a < 0 → ∀ b, b < 0 → a ≠ b → (TJ9 a).2.1 ≠ (TJ9 b).2.1 := by decide +kernel
theorem tyJ9_ok : ∀ k, k < 0 → parseFieldDescriptor (TJ9 k).2.2.1 = some (tyJ9 k) := by decide +kernel
abbrev cJ9_max_7cf53 : ByteArray := prog_6_method_65_code
def yJ9_max_7cf53 : MethodName := ⟨RJ9, "max", "(II)I"⟩
def RJ0 : String := "java/lang/String"
def TJ0 : u_T := fun k => match k with
  | _ => ("", "", "", false)
def tyJ0 : Nat → FieldType := fun k => match k with
  | _ => .int
abbrev wsJ00 : List Cond := u_ws RJ0 TJ0 0
theorem nmJ0 : ∀ a, a < 0 → ∀ b, b < 0 → a ≠ b → (TJ0 a).2.1 ≠ (TJ0 b).2.1 := by decide +kernel
theorem tyJ0_ok : ∀ k, k < 0 → parseFieldDescriptor (TJ0 k).2.2.1 = some (tyJ0 k) := by decide +kernel
def RL : String := "OrderLineLaw"
abbrev cL_behind : ByteArray := method_3_code
def yL_behind : MethodName := ⟨RL, "behind", "(LOrderLine;I[J)I"⟩
abbrev cL_several : ByteArray := method_4_code
def yL_several : MethodName := ⟨RL, "several", "(LOrderLine;II[J)I"⟩
abbrev cL_clear : ByteArray := method_5_code
def yL_clear : MethodName := ⟨RL, "clear", "(LOrderLine;II[J)I"⟩
abbrev cL_carry : ByteArray := method_6_code
def yL_carry : MethodName := ⟨RL, "carry", "(LOrderLine;III[J)I"⟩
abbrev cL_compare : ByteArray := method_7_code
def yL_compare : MethodName := ⟨RL, "compare", "(LOrderLine;II[J)I"⟩
abbrev cL_next : ByteArray := method_8_code
def yL_next : MethodName := ⟨RL, "next", "(LOrderLine;IZ[J)I"⟩
abbrev cL_place : ByteArray := method_9_code
def yL_place : MethodName := ⟨RL, "place", "(LOrderLine;I[J)I"⟩
abbrev cL_greatest : ByteArray := method_10_code
def yL_greatest : MethodName := ⟨RL, "greatest", "(LOrderLine;II[J)I"⟩
abbrev cL_law : ByteArray := code
def yL_law : MethodName := ⟨RL, "law", "([I)Z"⟩
def wsX0_init : List Cond := .code yX0_init cX0_init 2 none :: ([.methodLink RX0 1 objectInit, .instanceMethod objectInit, .code objectInit ⟨#[0xb1]⟩ 1 none, .arrayClass .int, .fieldLink RX0 9 "OrderLine" "line" "[I", .fieldLink RX0 13 "OrderLine" "places" "[I", .fieldLink RX0 16 "OrderLine" "count" "I"] ++ wsX00)
def wsX0_has : List Cond := .code yX0_has cX0_has 2 (some .boolean) :: ([.fieldLink RX0 13 "OrderLine" "places" "[I"] ++ wsX00)
def wsX0_demand : List Cond := .code yX0_demand cX0_demand 2 none :: ([.classLink RX0 53 "java/lang/IllegalArgumentException", .initialized "java/lang/IllegalArgumentException", .methodLink RX0 28 yX0_has, .instanceMethod yX0_has, .selects RX0 yX0_has yX0_has, .initialized RX0, .code yX0_has cX0_has 2 (some .boolean), .fieldLink RX0 13 "OrderLine" "places" "[I"] ++ wsX00 ++ (vx_atS RX0 57 "java/lang/IllegalArgumentException" ["java/lang/RuntimeException", "java/lang/Exception"]).filter goodWord)
def wsX0_put : List Cond := .code yX0_put cX0_put 3 none :: ([.fieldLink RX0 9 "OrderLine" "line" "[I", .fieldLink RX0 13 "OrderLine" "places" "[I"] ++ wsX00)
def wsX0_openGap : List Cond := .code yX0_openGap cX0_openGap 4 none :: ([.fieldLink RX0 16 "OrderLine" "count" "I", .fieldLink RX0 9 "OrderLine" "line" "[I", .methodLink RX0 66 yX0_put, .instanceMethod yX0_put, .selects RX0 yX0_put yX0_put, .initialized RX0, .code yX0_put cX0_put 3 none, .fieldLink RX0 13 "OrderLine" "places" "[I"] ++ wsX00)
def wsX0_fillGap : List Cond := .code yX0_fillGap cX0_fillGap 5 none :: ([.fieldLink RX0 13 "OrderLine" "places" "[I", .methodLink RX0 66 yX0_put, .instanceMethod yX0_put, .selects RX0 yX0_put yX0_put, .initialized RX0, .code yX0_put cX0_put 3 none, .fieldLink RX0 9 "OrderLine" "line" "[I"] ++ wsX00)
def wsX0_addBehind : List Cond := .code yX0_addBehind cX0_addBehind 4 (some .int) :: ([.fieldLink RX0 13 "OrderLine" "places" "[I", .fieldLink RX0 9 "OrderLine" "line" "[I", .methodLink RX0 60 yX0_openGap, .instanceMethod yX0_openGap, .selects RX0 yX0_openGap yX0_openGap, .initialized RX0, .code yX0_openGap cX0_openGap 4 none, .fieldLink RX0 16 "OrderLine" "count" "I", .methodLink RX0 66 yX0_put, .instanceMethod yX0_put, .selects RX0 yX0_put yX0_put, .code yX0_put cX0_put 3 none, .methodLink RX0 63 yX0_fillGap, .instanceMethod yX0_fillGap, .selects RX0 yX0_fillGap yX0_fillGap, .code yX0_fillGap cX0_fillGap 5 none] ++ wsX00)
def wsX0_behind_r1 : List Cond := [Cond.fieldLink RX0 16 "OrderLine" "count" "I", Cond.methodLink RX0 20 yX0_demand, Cond.instanceMethod yX0_demand, Cond.selects RX0 yX0_demand yX0_demand, Cond.initialized RX0, Cond.code yX0_demand cX0_demand 2 none, Cond.classLink RX0 53 "java/lang/IllegalArgumentException", Cond.initialized "java/lang/IllegalArgumentException", Cond.methodLink RX0 28 yX0_has, Cond.instanceMethod yX0_has, Cond.selects RX0 yX0_has yX0_has, Cond.code yX0_has cX0_has 2 (some .boolean), Cond.fieldLink RX0 13 "OrderLine" "places" "[I", Cond.methodLink RX0 24 yX0_addBehind, Cond.instanceMethod yX0_addBehind, Cond.selects RX0 yX0_addBehind yX0_addBehind, Cond.code yX0_addBehind cX0_addBehind 4 (some .int), Cond.fieldLink RX0 9 "OrderLine" "line" "[I", Cond.methodLink RX0 60 yX0_openGap, Cond.instanceMethod yX0_openGap, Cond.selects RX0 yX0_openGap yX0_openGap, Cond.code yX0_openGap cX0_openGap 4 none, Cond.methodLink RX0 66 yX0_put, Cond.instanceMethod yX0_put]
def wsX0_behind_r2 : List Cond := [Cond.selects RX0 yX0_put yX0_put, Cond.code yX0_put cX0_put 3 none, Cond.methodLink RX0 63 yX0_fillGap, Cond.instanceMethod yX0_fillGap, Cond.selects RX0 yX0_fillGap yX0_fillGap, Cond.code yX0_fillGap cX0_fillGap 5 none]
def wsX0_behind : List Cond := .code yX0_behind cX0_behind 2 (some .int) :: ((wsX0_behind_r1 ++ wsX0_behind_r2) ++ wsX00 ++ (vx_atS RX0 57 "java/lang/IllegalArgumentException" ["java/lang/RuntimeException", "java/lang/Exception"]).filter goodWord)
def wsX0_several_r1 : List Cond := [Cond.fieldLink RX0 16 "OrderLine" "count" "I", Cond.methodLink RX0 20 yX0_demand, Cond.instanceMethod yX0_demand, Cond.selects RX0 yX0_demand yX0_demand, Cond.initialized RX0, Cond.code yX0_demand cX0_demand 2 none, Cond.classLink RX0 53 "java/lang/IllegalArgumentException", Cond.initialized "java/lang/IllegalArgumentException", Cond.methodLink RX0 28 yX0_has, Cond.instanceMethod yX0_has, Cond.selects RX0 yX0_has yX0_has, Cond.code yX0_has cX0_has 2 (some .boolean), Cond.fieldLink RX0 13 "OrderLine" "places" "[I", Cond.methodLink RX0 24 yX0_addBehind, Cond.instanceMethod yX0_addBehind, Cond.selects RX0 yX0_addBehind yX0_addBehind, Cond.code yX0_addBehind cX0_addBehind 4 (some .int), Cond.fieldLink RX0 9 "OrderLine" "line" "[I", Cond.methodLink RX0 60 yX0_openGap, Cond.instanceMethod yX0_openGap, Cond.selects RX0 yX0_openGap yX0_openGap, Cond.code yX0_openGap cX0_openGap 4 none, Cond.methodLink RX0 66 yX0_put, Cond.instanceMethod yX0_put]
def wsX0_several_r2 : List Cond := [Cond.selects RX0 yX0_put yX0_put, Cond.code yX0_put cX0_put 3 none, Cond.methodLink RX0 63 yX0_fillGap, Cond.instanceMethod yX0_fillGap, Cond.selects RX0 yX0_fillGap yX0_fillGap, Cond.code yX0_fillGap cX0_fillGap 5 none]
def wsX0_several : List Cond := .code yX0_several cX0_several 3 (some .int) :: ((wsX0_several_r1 ++ wsX0_several_r2) ++ wsX00 ++ (vx_atS RX0 57 "java/lang/IllegalArgumentException" ["java/lang/RuntimeException", "java/lang/Exception"]).filter goodWord)
def wsX0_takeOut : List Cond := .code yX0_takeOut cX0_takeOut 5 none :: ([.fieldLink RX0 13 "OrderLine" "places" "[I", .fieldLink RX0 9 "OrderLine" "line" "[I", .fieldLink RX0 16 "OrderLine" "count" "I", .methodLink RX0 66 yX0_put, .instanceMethod yX0_put, .selects RX0 yX0_put yX0_put, .initialized RX0, .code yX0_put cX0_put 3 none] ++ wsX00)
def wsX0_remove : List Cond := .code yX0_remove cX0_remove 3 (some .boolean) :: ([.fieldLink RX0 13 "OrderLine" "places" "[I", .methodLink RX0 28 yX0_has, .instanceMethod yX0_has, .selects RX0 yX0_has yX0_has, .initialized RX0, .code yX0_has cX0_has 2 (some .boolean), .methodLink RX0 32 yX0_takeOut, .instanceMethod yX0_takeOut, .selects RX0 yX0_takeOut yX0_takeOut, .code yX0_takeOut cX0_takeOut 5 none, .fieldLink RX0 9 "OrderLine" "line" "[I", .fieldLink RX0 16 "OrderLine" "count" "I", .methodLink RX0 66 yX0_put, .instanceMethod yX0_put, .selects RX0 yX0_put yX0_put, .code yX0_put cX0_put 3 none] ++ wsX00)
def wsX0_clear : List Cond := .code yX0_clear cX0_clear 5 (some .int) :: ([.fieldLink RX0 13 "OrderLine" "places" "[I", .methodLink RX0 20 yX0_demand, .instanceMethod yX0_demand, .selects RX0 yX0_demand yX0_demand, .initialized RX0, .code yX0_demand cX0_demand 2 none, .classLink RX0 53 "java/lang/IllegalArgumentException", .initialized "java/lang/IllegalArgumentException", .methodLink RX0 28 yX0_has, .instanceMethod yX0_has, .selects RX0 yX0_has yX0_has, .code yX0_has cX0_has 2 (some .boolean), .methodLink RX0 32 yX0_takeOut, .instanceMethod yX0_takeOut, .selects RX0 yX0_takeOut yX0_takeOut, .code yX0_takeOut cX0_takeOut 5 none, .fieldLink RX0 9 "OrderLine" "line" "[I", .fieldLink RX0 16 "OrderLine" "count" "I", .methodLink RX0 66 yX0_put, .instanceMethod yX0_put, .selects RX0 yX0_put yX0_put, .code yX0_put cX0_put 3 none] ++ wsX00 ++ (vx_atS RX0 57 "java/lang/IllegalArgumentException" ["java/lang/RuntimeException", "java/lang/Exception"]).filter goodWord)
def wsX0_turn : List Cond := .code yX0_turn cX0_turn 6 none :: ([.fieldLink RX0 9 "OrderLine" "line" "[I", .methodLink RX0 66 yX0_put, .instanceMethod yX0_put, .selects RX0 yX0_put yX0_put, .initialized RX0, .code yX0_put cX0_put 3 none, .fieldLink RX0 13 "OrderLine" "places" "[I"] ++ wsX00)
def wsX0_swapBlocks : List Cond := .code yX0_swapBlocks cX0_swapBlocks 4 none :: ([.methodLink RX0 69 yX0_turn, .instanceMethod yX0_turn, .selects RX0 yX0_turn yX0_turn, .initialized RX0, .code yX0_turn cX0_turn 6 none, .fieldLink RX0 9 "OrderLine" "line" "[I", .methodLink RX0 66 yX0_put, .instanceMethod yX0_put, .selects RX0 yX0_put yX0_put, .code yX0_put cX0_put 3 none, .fieldLink RX0 13 "OrderLine" "places" "[I"] ++ wsX00)
def wsX0_carry_r1 : List Cond := [Cond.fieldLink RX0 13 "OrderLine" "places" "[I", Cond.methodLink RX0 20 yX0_demand, Cond.instanceMethod yX0_demand, Cond.selects RX0 yX0_demand yX0_demand, Cond.initialized RX0, Cond.code yX0_demand cX0_demand 2 none, Cond.classLink RX0 53 "java/lang/IllegalArgumentException", Cond.initialized "java/lang/IllegalArgumentException", Cond.methodLink RX0 28 yX0_has, Cond.instanceMethod yX0_has, Cond.selects RX0 yX0_has yX0_has, Cond.code yX0_has cX0_has 2 (some .boolean), Cond.methodLink RX0 36 yX0_swapBlocks, Cond.instanceMethod yX0_swapBlocks, Cond.selects RX0 yX0_swapBlocks yX0_swapBlocks, Cond.code yX0_swapBlocks cX0_swapBlocks 4 none, Cond.methodLink RX0 69 yX0_turn, Cond.instanceMethod yX0_turn, Cond.selects RX0 yX0_turn yX0_turn, Cond.code yX0_turn cX0_turn 6 none, Cond.fieldLink RX0 9 "OrderLine" "line" "[I", Cond.methodLink RX0 66 yX0_put, Cond.instanceMethod yX0_put, Cond.selects RX0 yX0_put yX0_put]
def wsX0_carry_r2 : List Cond := [Cond.code yX0_put cX0_put 3 none]
def wsX0_carry : List Cond := .code yX0_carry cX0_carry 7 (some .int) :: ((wsX0_carry_r1 ++ wsX0_carry_r2) ++ wsX00 ++ (vx_atS RX0 57 "java/lang/IllegalArgumentException" ["java/lang/RuntimeException", "java/lang/Exception"]).filter goodWord)
def wsX0_compare : List Cond := .code yX0_compare cX0_compare 3 (some .int) :: ([.fieldLink RX0 13 "OrderLine" "places" "[I", .methodLink RX0 20 yX0_demand, .instanceMethod yX0_demand, .selects RX0 yX0_demand yX0_demand, .initialized RX0, .code yX0_demand cX0_demand 2 none, .classLink RX0 53 "java/lang/IllegalArgumentException", .initialized "java/lang/IllegalArgumentException", .methodLink RX0 28 yX0_has, .instanceMethod yX0_has, .selects RX0 yX0_has yX0_has, .code yX0_has cX0_has 2 (some .boolean)] ++ wsX00 ++ (vx_atS RX0 57 "java/lang/IllegalArgumentException" ["java/lang/RuntimeException", "java/lang/Exception"]).filter goodWord)
def wsX0_at : List Cond := .code yX0_at cX0_at 2 (some .int) :: ([.fieldLink RX0 16 "OrderLine" "count" "I", .fieldLink RX0 9 "OrderLine" "line" "[I"] ++ wsX00)
def wsX0_next : List Cond := .code yX0_next cX0_next 3 (some .int) :: ([.fieldLink RX0 13 "OrderLine" "places" "[I", .methodLink RX0 20 yX0_demand, .instanceMethod yX0_demand, .selects RX0 yX0_demand yX0_demand, .initialized RX0, .code yX0_demand cX0_demand 2 none, .classLink RX0 53 "java/lang/IllegalArgumentException", .initialized "java/lang/IllegalArgumentException", .methodLink RX0 28 yX0_has, .instanceMethod yX0_has, .selects RX0 yX0_has yX0_has, .code yX0_has cX0_has 2 (some .boolean), .methodLink RX0 40 yX0_at, .instanceMethod yX0_at, .selects RX0 yX0_at yX0_at, .code yX0_at cX0_at 2 (some .int), .fieldLink RX0 16 "OrderLine" "count" "I", .fieldLink RX0 9 "OrderLine" "line" "[I"] ++ wsX00 ++ (vx_atS RX0 57 "java/lang/IllegalArgumentException" ["java/lang/RuntimeException", "java/lang/Exception"]).filter goodWord)
def wsX0_place : List Cond := .code yX0_place cX0_place 2 (some .int) :: ([.fieldLink RX0 13 "OrderLine" "places" "[I", .methodLink RX0 20 yX0_demand, .instanceMethod yX0_demand, .selects RX0 yX0_demand yX0_demand, .initialized RX0, .code yX0_demand cX0_demand 2 none, .classLink RX0 53 "java/lang/IllegalArgumentException", .initialized "java/lang/IllegalArgumentException", .methodLink RX0 28 yX0_has, .instanceMethod yX0_has, .selects RX0 yX0_has yX0_has, .code yX0_has cX0_has 2 (some .boolean)] ++ wsX00 ++ (vx_atS RX0 57 "java/lang/IllegalArgumentException" ["java/lang/RuntimeException", "java/lang/Exception"]).filter goodWord)
def wsX0_greatest : List Cond := .code yX0_greatest cX0_greatest 6 (some .int) :: ([.fieldLink RX0 13 "OrderLine" "places" "[I", .fieldLink RX0 9 "OrderLine" "line" "[I", .methodLink RX0 44 Lib.Math.max.name, .static Lib.Math.max.name, .initialized "java/lang/Math", .code Lib.Math.max.name Lib.Math.max.code 2 (some .int), .methodLink RX0 20 yX0_demand, .instanceMethod yX0_demand, .selects RX0 yX0_demand yX0_demand, .initialized RX0, .code yX0_demand cX0_demand 2 none, .classLink RX0 53 "java/lang/IllegalArgumentException", .initialized "java/lang/IllegalArgumentException", .methodLink RX0 28 yX0_has, .instanceMethod yX0_has, .selects RX0 yX0_has yX0_has, .code yX0_has cX0_has 2 (some .boolean)] ++ wsX00 ++ (vx_atS RX0 57 "java/lang/IllegalArgumentException" ["java/lang/RuntimeException", "java/lang/Exception"]).filter goodWord)
def wsX0_wipe : List Cond := .code yX0_wipe cX0_wipe 1 none :: ([.fieldLink RX0 16 "OrderLine" "count" "I", .methodLink RX0 32 yX0_takeOut, .instanceMethod yX0_takeOut, .selects RX0 yX0_takeOut yX0_takeOut, .initialized RX0, .code yX0_takeOut cX0_takeOut 5 none, .fieldLink RX0 13 "OrderLine" "places" "[I", .fieldLink RX0 9 "OrderLine" "line" "[I", .methodLink RX0 66 yX0_put, .instanceMethod yX0_put, .selects RX0 yX0_put yX0_put, .code yX0_put cX0_put 3 none] ++ wsX00)
def wsX0_leastFree : List Cond := .code yX0_leastFree cX0_leastFree 2 (some .int) :: ([.fieldLink RX0 13 "OrderLine" "places" "[I"] ++ wsX00)
def wsX0_look : List Cond := .code yX0_look cX0_look 2 (some .int) :: ([.fieldLink RX0 16 "OrderLine" "count" "I", .methodLink RX0 40 yX0_at, .instanceMethod yX0_at, .selects RX0 yX0_at yX0_at, .initialized RX0, .code yX0_at cX0_at 2 (some .int), .fieldLink RX0 9 "OrderLine" "line" "[I", .methodLink RX0 49 yX0_leastFree, .instanceMethod yX0_leastFree, .selects RX0 yX0_leastFree yX0_leastFree, .code yX0_leastFree cX0_leastFree 2 (some .int), .fieldLink RX0 13 "OrderLine" "places" "[I"] ++ wsX00)
def wsX1_init : List Cond := .code yX1_init cX1_init 1 none :: ([.methodLink RX1 1 objectInit, .instanceMethod objectInit, .code objectInit ⟨#[0xb1]⟩ 1 none, .arrayClass .int, .fieldLink RX1 7 "OrderLineModel" "line" "[I", .fieldLink RX1 13 "OrderLineModel" "many" "I", .fieldLink RX1 17 "OrderLineModel" "aside" "[I"] ++ wsX10)
def wsX1_thrown : List Cond := .code yX1_thrown cX1_thrown 1 (some .int) :: ([.fieldLink RX1 20 "OrderLineModel" "thrown" "I"] ++ wsX10)
def wsJ9_max_7cf53 : List Cond := .code yJ9_max_7cf53 cJ9_max_7cf53 2 (some .int) :: ([])
def wsL_behind_r1 : List Cond := [Cond.classLink RL 13 "java/lang/IllegalArgumentException", Cond.methodLink RL 7 yX0_behind, Cond.instanceMethod yX0_behind, Cond.selects RX0 yX0_behind yX0_behind, Cond.initialized RX0, Cond.code yX0_behind cX0_behind 2 (some .int), Cond.fieldLink RX0 16 "OrderLine" "count" "I", Cond.methodLink RX0 20 yX0_demand, Cond.instanceMethod yX0_demand, Cond.selects RX0 yX0_demand yX0_demand, Cond.code yX0_demand cX0_demand 2 none, Cond.classLink RX0 53 "java/lang/IllegalArgumentException", Cond.initialized "java/lang/IllegalArgumentException", Cond.methodLink RX0 28 yX0_has, Cond.instanceMethod yX0_has, Cond.selects RX0 yX0_has yX0_has, Cond.code yX0_has cX0_has 2 (some .boolean), Cond.fieldLink RX0 13 "OrderLine" "places" "[I", Cond.methodLink RX0 24 yX0_addBehind, Cond.instanceMethod yX0_addBehind, Cond.selects RX0 yX0_addBehind yX0_addBehind, Cond.code yX0_addBehind cX0_addBehind 4 (some .int), Cond.fieldLink RX0 9 "OrderLine" "line" "[I", Cond.methodLink RX0 60 yX0_openGap]
def wsL_behind_r2 : List Cond := [Cond.instanceMethod yX0_openGap, Cond.selects RX0 yX0_openGap yX0_openGap, Cond.code yX0_openGap cX0_openGap 4 none, Cond.methodLink RX0 66 yX0_put, Cond.instanceMethod yX0_put, Cond.selects RX0 yX0_put yX0_put, Cond.code yX0_put cX0_put 3 none, Cond.methodLink RX0 63 yX0_fillGap, Cond.instanceMethod yX0_fillGap, Cond.selects RX0 yX0_fillGap yX0_fillGap, Cond.code yX0_fillGap cX0_fillGap 5 none]
def wsL_behind : List Cond := .codeWith yL_behind cL_behind 4 (some .int) [(0, 9, 12, 13)] :: ((wsL_behind_r1 ++ wsL_behind_r2) ++ wsX00 ++ (vx_atS RX0 57 "java/lang/IllegalArgumentException" ["java/lang/RuntimeException", "java/lang/Exception"]).filter goodWord)
def wsL_several_r1 : List Cond := [Cond.classLink RL 13 "java/lang/IllegalArgumentException", Cond.methodLink RL 15 yX0_several, Cond.instanceMethod yX0_several, Cond.selects RX0 yX0_several yX0_several, Cond.initialized RX0, Cond.code yX0_several cX0_several 3 (some .int), Cond.fieldLink RX0 16 "OrderLine" "count" "I", Cond.methodLink RX0 20 yX0_demand, Cond.instanceMethod yX0_demand, Cond.selects RX0 yX0_demand yX0_demand, Cond.code yX0_demand cX0_demand 2 none, Cond.classLink RX0 53 "java/lang/IllegalArgumentException", Cond.initialized "java/lang/IllegalArgumentException", Cond.methodLink RX0 28 yX0_has, Cond.instanceMethod yX0_has, Cond.selects RX0 yX0_has yX0_has, Cond.code yX0_has cX0_has 2 (some .boolean), Cond.fieldLink RX0 13 "OrderLine" "places" "[I", Cond.methodLink RX0 24 yX0_addBehind, Cond.instanceMethod yX0_addBehind, Cond.selects RX0 yX0_addBehind yX0_addBehind, Cond.code yX0_addBehind cX0_addBehind 4 (some .int), Cond.fieldLink RX0 9 "OrderLine" "line" "[I", Cond.methodLink RX0 60 yX0_openGap]
def wsL_several_r2 : List Cond := [Cond.instanceMethod yX0_openGap, Cond.selects RX0 yX0_openGap yX0_openGap, Cond.code yX0_openGap cX0_openGap 4 none, Cond.methodLink RX0 66 yX0_put, Cond.instanceMethod yX0_put, Cond.selects RX0 yX0_put yX0_put, Cond.code yX0_put cX0_put 3 none, Cond.methodLink RX0 63 yX0_fillGap, Cond.instanceMethod yX0_fillGap, Cond.selects RX0 yX0_fillGap yX0_fillGap, Cond.code yX0_fillGap cX0_fillGap 5 none]
def wsL_several : List Cond := .codeWith yL_several cL_several 5 (some .int) [(0, 10, 13, 13)] :: ((wsL_several_r1 ++ wsL_several_r2) ++ wsX00 ++ (vx_atS RX0 57 "java/lang/IllegalArgumentException" ["java/lang/RuntimeException", "java/lang/Exception"]).filter goodWord)
def wsL_clear_r1 : List Cond := [Cond.classLink RL 13 "java/lang/IllegalArgumentException", Cond.methodLink RL 19 yX0_clear, Cond.instanceMethod yX0_clear, Cond.selects RX0 yX0_clear yX0_clear, Cond.initialized RX0, Cond.code yX0_clear cX0_clear 5 (some .int), Cond.fieldLink RX0 13 "OrderLine" "places" "[I", Cond.methodLink RX0 20 yX0_demand, Cond.instanceMethod yX0_demand, Cond.selects RX0 yX0_demand yX0_demand, Cond.code yX0_demand cX0_demand 2 none, Cond.classLink RX0 53 "java/lang/IllegalArgumentException", Cond.initialized "java/lang/IllegalArgumentException", Cond.methodLink RX0 28 yX0_has, Cond.instanceMethod yX0_has, Cond.selects RX0 yX0_has yX0_has, Cond.code yX0_has cX0_has 2 (some .boolean), Cond.methodLink RX0 32 yX0_takeOut, Cond.instanceMethod yX0_takeOut, Cond.selects RX0 yX0_takeOut yX0_takeOut, Cond.code yX0_takeOut cX0_takeOut 5 none, Cond.fieldLink RX0 9 "OrderLine" "line" "[I", Cond.fieldLink RX0 16 "OrderLine" "count" "I", Cond.methodLink RX0 66 yX0_put]
def wsL_clear_r2 : List Cond := [Cond.instanceMethod yX0_put, Cond.selects RX0 yX0_put yX0_put, Cond.code yX0_put cX0_put 3 none]
def wsL_clear : List Cond := .codeWith yL_clear cL_clear 5 (some .int) [(0, 10, 13, 13)] :: ((wsL_clear_r1 ++ wsL_clear_r2) ++ wsX00 ++ (vx_atS RX0 57 "java/lang/IllegalArgumentException" ["java/lang/RuntimeException", "java/lang/Exception"]).filter goodWord)
def wsL_carry_r1 : List Cond := [Cond.classLink RL 13 "java/lang/IllegalArgumentException", Cond.methodLink RL 22 yX0_carry, Cond.instanceMethod yX0_carry, Cond.selects RX0 yX0_carry yX0_carry, Cond.initialized RX0, Cond.code yX0_carry cX0_carry 7 (some .int), Cond.fieldLink RX0 13 "OrderLine" "places" "[I", Cond.methodLink RX0 20 yX0_demand, Cond.instanceMethod yX0_demand, Cond.selects RX0 yX0_demand yX0_demand, Cond.code yX0_demand cX0_demand 2 none, Cond.classLink RX0 53 "java/lang/IllegalArgumentException", Cond.initialized "java/lang/IllegalArgumentException", Cond.methodLink RX0 28 yX0_has, Cond.instanceMethod yX0_has, Cond.selects RX0 yX0_has yX0_has, Cond.code yX0_has cX0_has 2 (some .boolean), Cond.methodLink RX0 36 yX0_swapBlocks, Cond.instanceMethod yX0_swapBlocks, Cond.selects RX0 yX0_swapBlocks yX0_swapBlocks, Cond.code yX0_swapBlocks cX0_swapBlocks 4 none, Cond.methodLink RX0 69 yX0_turn, Cond.instanceMethod yX0_turn, Cond.selects RX0 yX0_turn yX0_turn]
def wsL_carry_r2 : List Cond := [Cond.code yX0_turn cX0_turn 6 none, Cond.fieldLink RX0 9 "OrderLine" "line" "[I", Cond.methodLink RX0 66 yX0_put, Cond.instanceMethod yX0_put, Cond.selects RX0 yX0_put yX0_put, Cond.code yX0_put cX0_put 3 none]
def wsL_carry : List Cond := .codeWith yL_carry cL_carry 6 (some .int) [(0, 12, 15, 13)] :: ((wsL_carry_r1 ++ wsL_carry_r2) ++ wsX00 ++ (vx_atS RX0 57 "java/lang/IllegalArgumentException" ["java/lang/RuntimeException", "java/lang/Exception"]).filter goodWord)
def wsL_compare : List Cond := .codeWith yL_compare cL_compare 5 (some .int) [(0, 10, 13, 13)] :: ([.classLink RL 13 "java/lang/IllegalArgumentException", .methodLink RL 26 yX0_compare, .instanceMethod yX0_compare, .selects RX0 yX0_compare yX0_compare, .initialized RX0, .code yX0_compare cX0_compare 3 (some .int), .fieldLink RX0 13 "OrderLine" "places" "[I", .methodLink RX0 20 yX0_demand, .instanceMethod yX0_demand, .selects RX0 yX0_demand yX0_demand, .code yX0_demand cX0_demand 2 none, .classLink RX0 53 "java/lang/IllegalArgumentException", .initialized "java/lang/IllegalArgumentException", .methodLink RX0 28 yX0_has, .instanceMethod yX0_has, .selects RX0 yX0_has yX0_has, .code yX0_has cX0_has 2 (some .boolean)] ++ wsX00 ++ (vx_atS RX0 57 "java/lang/IllegalArgumentException" ["java/lang/RuntimeException", "java/lang/Exception"]).filter goodWord)
def wsL_next : List Cond := .codeWith yL_next cL_next 5 (some .int) [(0, 10, 13, 13)] :: ([.classLink RL 13 "java/lang/IllegalArgumentException", .methodLink RL 29 yX0_next, .instanceMethod yX0_next, .selects RX0 yX0_next yX0_next, .initialized RX0, .code yX0_next cX0_next 3 (some .int), .fieldLink RX0 13 "OrderLine" "places" "[I", .methodLink RX0 20 yX0_demand, .instanceMethod yX0_demand, .selects RX0 yX0_demand yX0_demand, .code yX0_demand cX0_demand 2 none, .classLink RX0 53 "java/lang/IllegalArgumentException", .initialized "java/lang/IllegalArgumentException", .methodLink RX0 28 yX0_has, .instanceMethod yX0_has, .selects RX0 yX0_has yX0_has, .code yX0_has cX0_has 2 (some .boolean), .methodLink RX0 40 yX0_at, .instanceMethod yX0_at, .selects RX0 yX0_at yX0_at, .code yX0_at cX0_at 2 (some .int), .fieldLink RX0 16 "OrderLine" "count" "I", .fieldLink RX0 9 "OrderLine" "line" "[I"] ++ wsX00 ++ (vx_atS RX0 57 "java/lang/IllegalArgumentException" ["java/lang/RuntimeException", "java/lang/Exception"]).filter goodWord)
def wsL_place : List Cond := .codeWith yL_place cL_place 4 (some .int) [(0, 9, 12, 13)] :: ([.classLink RL 13 "java/lang/IllegalArgumentException", .methodLink RL 33 yX0_place, .instanceMethod yX0_place, .selects RX0 yX0_place yX0_place, .initialized RX0, .code yX0_place cX0_place 2 (some .int), .fieldLink RX0 13 "OrderLine" "places" "[I", .methodLink RX0 20 yX0_demand, .instanceMethod yX0_demand, .selects RX0 yX0_demand yX0_demand, .code yX0_demand cX0_demand 2 none, .classLink RX0 53 "java/lang/IllegalArgumentException", .initialized "java/lang/IllegalArgumentException", .methodLink RX0 28 yX0_has, .instanceMethod yX0_has, .selects RX0 yX0_has yX0_has, .code yX0_has cX0_has 2 (some .boolean)] ++ wsX00 ++ (vx_atS RX0 57 "java/lang/IllegalArgumentException" ["java/lang/RuntimeException", "java/lang/Exception"]).filter goodWord)
def wsL_greatest : List Cond := .codeWith yL_greatest cL_greatest 5 (some .int) [(0, 10, 13, 13)] :: ([.classLink RL 13 "java/lang/IllegalArgumentException", .methodLink RL 36 yX0_greatest, .instanceMethod yX0_greatest, .selects RX0 yX0_greatest yX0_greatest, .initialized RX0, .code yX0_greatest cX0_greatest 6 (some .int), .fieldLink RX0 13 "OrderLine" "places" "[I", .fieldLink RX0 9 "OrderLine" "line" "[I", .methodLink RX0 44 Lib.Math.max.name, .static Lib.Math.max.name, .initialized "java/lang/Math", .code Lib.Math.max.name Lib.Math.max.code 2 (some .int), .methodLink RX0 20 yX0_demand, .instanceMethod yX0_demand, .selects RX0 yX0_demand yX0_demand, .code yX0_demand cX0_demand 2 none, .classLink RX0 53 "java/lang/IllegalArgumentException", .initialized "java/lang/IllegalArgumentException", .methodLink RX0 28 yX0_has, .instanceMethod yX0_has, .selects RX0 yX0_has yX0_has, .code yX0_has cX0_has 2 (some .boolean)] ++ wsX00 ++ (vx_atS RX0 57 "java/lang/IllegalArgumentException" ["java/lang/RuntimeException", "java/lang/Exception"]).filter goodWord)
def wsL_law0_r1 : List Cond := [Cond.classLink RL 8 RX0, Cond.instantiable RX0 3, Cond.initialized RX0, Cond.classLink RL 40 RX1, Cond.instantiable RX1 4, Cond.initialized RX1, Cond.methodLink RL 39 yX0_init, Cond.instanceMethod yX0_init, Cond.code yX0_init cX0_init 2 none, Cond.methodLink RX0 1 objectInit, Cond.instanceMethod objectInit, Cond.code objectInit ⟨#[0xb1]⟩ 1 none, Cond.arrayClass .int, Cond.fieldLink RX0 9 "OrderLine" "line" "[I", Cond.fieldLink RX0 13 "OrderLine" "places" "[I", Cond.fieldLink RX0 16 "OrderLine" "count" "I", Cond.methodLink RL 42 yX1_init, Cond.instanceMethod yX1_init, Cond.code yX1_init cX1_init 1 none, Cond.methodLink RX1 1 objectInit, Cond.fieldLink RX1 7 "OrderLineModel" "line" "[I", Cond.fieldLink RX1 13 "OrderLineModel" "many" "I", Cond.fieldLink RX1 17 "OrderLineModel" "aside" "[I", Cond.methodLink RL 43 yL_behind]
def wsL_law0_r2 : List Cond := [Cond.static yL_behind, Cond.initialized RL, Cond.codeWith yL_behind cL_behind 4 (some .int) [(0, 9, 12, 13)], Cond.classLink RL 13 "java/lang/IllegalArgumentException", Cond.methodLink RL 7 yX0_behind, Cond.instanceMethod yX0_behind, Cond.selects RX0 yX0_behind yX0_behind, Cond.code yX0_behind cX0_behind 2 (some .int), Cond.methodLink RX0 20 yX0_demand, Cond.instanceMethod yX0_demand, Cond.selects RX0 yX0_demand yX0_demand, Cond.code yX0_demand cX0_demand 2 none, Cond.classLink RX0 53 "java/lang/IllegalArgumentException", Cond.initialized "java/lang/IllegalArgumentException", Cond.methodLink RX0 28 yX0_has, Cond.instanceMethod yX0_has, Cond.selects RX0 yX0_has yX0_has, Cond.code yX0_has cX0_has 2 (some .boolean), Cond.methodLink RX0 24 yX0_addBehind, Cond.instanceMethod yX0_addBehind, Cond.selects RX0 yX0_addBehind yX0_addBehind, Cond.code yX0_addBehind cX0_addBehind 4 (some .int), Cond.methodLink RX0 60 yX0_openGap, Cond.instanceMethod yX0_openGap]
def wsL_law0_r3 : List Cond := [Cond.selects RX0 yX0_openGap yX0_openGap, Cond.code yX0_openGap cX0_openGap 4 none, Cond.methodLink RX0 66 yX0_put, Cond.instanceMethod yX0_put, Cond.selects RX0 yX0_put yX0_put, Cond.code yX0_put cX0_put 3 none, Cond.methodLink RX0 63 yX0_fillGap, Cond.instanceMethod yX0_fillGap, Cond.selects RX0 yX0_fillGap yX0_fillGap, Cond.code yX0_fillGap cX0_fillGap 5 none, Cond.methodLink RL 48 yX1_behind, Cond.instanceMethod yX1_behind, Cond.selects RX1 yX1_behind yX1_behind, Cond.code yX1_behind cX1_behind 3 (some .int), Cond.methodLink RL 49 yX1_thrown, Cond.instanceMethod yX1_thrown, Cond.selects RX1 yX1_thrown yX1_thrown, Cond.code yX1_thrown cX1_thrown 1 (some .int), Cond.fieldLink RX1 20 "OrderLineModel" "thrown" "I", Cond.methodLink RL 53 yL_several, Cond.static yL_several, Cond.codeWith yL_several cL_several 5 (some .int) [(0, 10, 13, 13)], Cond.methodLink RL 15 yX0_several, Cond.instanceMethod yX0_several]
def wsL_law0_r4 : List Cond := [Cond.selects RX0 yX0_several yX0_several, Cond.code yX0_several cX0_several 3 (some .int), Cond.methodLink RL 57 yX0_remove, Cond.instanceMethod yX0_remove, Cond.selects RX0 yX0_remove yX0_remove, Cond.code yX0_remove cX0_remove 3 (some .boolean), Cond.methodLink RX0 32 yX0_takeOut, Cond.instanceMethod yX0_takeOut, Cond.selects RX0 yX0_takeOut yX0_takeOut, Cond.code yX0_takeOut cX0_takeOut 5 none, Cond.methodLink RL 62 yL_clear, Cond.static yL_clear, Cond.codeWith yL_clear cL_clear 5 (some .int) [(0, 10, 13, 13)], Cond.methodLink RL 19 yX0_clear, Cond.instanceMethod yX0_clear, Cond.selects RX0 yX0_clear yX0_clear, Cond.code yX0_clear cX0_clear 5 (some .int), Cond.methodLink RL 65 yL_carry, Cond.static yL_carry, Cond.codeWith yL_carry cL_carry 6 (some .int) [(0, 12, 15, 13)], Cond.methodLink RL 22 yX0_carry, Cond.instanceMethod yX0_carry, Cond.selects RX0 yX0_carry yX0_carry, Cond.code yX0_carry cX0_carry 7 (some .int)]
def wsL_law0_r5 : List Cond := [Cond.methodLink RX0 36 yX0_swapBlocks, Cond.instanceMethod yX0_swapBlocks, Cond.selects RX0 yX0_swapBlocks yX0_swapBlocks, Cond.code yX0_swapBlocks cX0_swapBlocks 4 none, Cond.methodLink RX0 69 yX0_turn, Cond.instanceMethod yX0_turn, Cond.selects RX0 yX0_turn yX0_turn, Cond.code yX0_turn cX0_turn 6 none, Cond.methodLink RL 69 yL_compare, Cond.static yL_compare, Cond.codeWith yL_compare cL_compare 5 (some .int) [(0, 10, 13, 13)], Cond.methodLink RL 26 yX0_compare, Cond.instanceMethod yX0_compare, Cond.selects RX0 yX0_compare yX0_compare, Cond.code yX0_compare cX0_compare 3 (some .int), Cond.methodLink RL 72 yL_next, Cond.static yL_next, Cond.codeWith yL_next cL_next 5 (some .int) [(0, 10, 13, 13)], Cond.methodLink RL 29 yX0_next, Cond.instanceMethod yX0_next, Cond.selects RX0 yX0_next yX0_next, Cond.code yX0_next cX0_next 3 (some .int), Cond.methodLink RX0 40 yX0_at, Cond.instanceMethod yX0_at]
def wsL_law0_r6 : List Cond := [Cond.selects RX0 yX0_at yX0_at, Cond.code yX0_at cX0_at 2 (some .int), Cond.methodLink RL 76 yX0_has, Cond.methodLink RL 80 yL_place, Cond.static yL_place, Cond.codeWith yL_place cL_place 4 (some .int) [(0, 9, 12, 13)], Cond.methodLink RL 33 yX0_place, Cond.instanceMethod yX0_place, Cond.selects RX0 yX0_place yX0_place, Cond.code yX0_place cX0_place 2 (some .int), Cond.methodLink RL 83 yX0_at, Cond.methodLink RL 87 yL_greatest, Cond.static yL_greatest, Cond.codeWith yL_greatest cL_greatest 5 (some .int) [(0, 10, 13, 13)], Cond.methodLink RL 36 yX0_greatest, Cond.instanceMethod yX0_greatest, Cond.selects RX0 yX0_greatest yX0_greatest, Cond.code yX0_greatest cX0_greatest 6 (some .int), Cond.methodLink RX0 44 Lib.Math.max.name, Cond.static Lib.Math.max.name, Cond.initialized "java/lang/Math", Cond.code Lib.Math.max.name Lib.Math.max.code 2 (some .int), Cond.methodLink RL 90 yX0_wipe, Cond.instanceMethod yX0_wipe]
def wsL_law0_r7 : List Cond := [Cond.selects RX0 yX0_wipe yX0_wipe, Cond.code yX0_wipe cX0_wipe 1 none, Cond.methodLink RL 94 yX0_look, Cond.instanceMethod yX0_look, Cond.selects RX0 yX0_look yX0_look, Cond.code yX0_look cX0_look 2 (some .int), Cond.methodLink RX0 49 yX0_leastFree, Cond.instanceMethod yX0_leastFree, Cond.selects RX0 yX0_leastFree yX0_leastFree, Cond.code yX0_leastFree cX0_leastFree 2 (some .int)]
def wsL_law0 : List Cond := (wsL_law0_r1 ++ (wsL_law0_r2 ++ (wsL_law0_r3 ++ (wsL_law0_r4 ++ (wsL_law0_r5 ++ (wsL_law0_r6 ++ wsL_law0_r7)))))) ++ wsX00 ++ wsX10 ++ ([] : List Cond)
def wsL_law : List Cond := wsL_law0 ++ (vx_atS RX0 57 "java/lang/IllegalArgumentException" ["java/lang/RuntimeException", "java/lang/Exception"]).filter goodWord
set_option maxRecDepth 20000 in
theorem wsL_law_in0 : ∀ w ∈ wsL_law0, w ∈ lw_tbl := fun w h => (goodIn_p wsL_law0 [27, 30, 230, 83, 87, 49, 157, 161, 57, 165, 252, 248, 172, 45, 53, 179, 186, 190, 194, 201, 208, 62, 215, 222, 225, 66, 70, 75] (by decide +kernel) (by decide +kernel) w h).1
theorem wsL_law_x0 : ∀ w ∈ (vx_atS RX0 57 "java/lang/IllegalArgumentException" ["java/lang/RuntimeException", "java/lang/Exception"]).filter goodWord, w ∈ lw_tbl := by decide +kernel
theorem wsL_law_in : ∀ w ∈ wsL_law, w ∈ lw_tbl := fun w h => (List.mem_append.mp h).elim (fun h => wsL_law_in0 w h) (fun h => wsL_law_x0 w h)
theorem inlX0 : ∀ w ∈ wsX00, w ∈ wsL_law := fun _ h => List.mem_append_left _ (List.mem_append_left _ (List.mem_append_left _ (List.mem_append_right _ h)))
theorem inX0 : ∀ w ∈ wsX00, w ∈ lw_tbl := fun w h => wsL_law_in w (inlX0 w h)
theorem inlX1 : ∀ w ∈ wsX10, w ∈ wsL_law := fun _ h => List.mem_append_left _ (List.mem_append_left _ (List.mem_append_right _ h))
theorem inX1 : ∀ w ∈ wsX10, w ∈ lw_tbl := fun w h => wsL_law_in w (inlX1 w h)
theorem inJ9 : ∀ w ∈ wsJ90, w ∈ lw_tbl := by decide +kernel
theorem inJ0 : ∀ w ∈ wsJ00, w ∈ lw_tbl := by decide +kernel
end
section
theorem dX0_init_0 : decode cX0_init 0 = .ok (.aload_n 0, 1) := by decide +kernel
theorem dX0_init_1 : decode cX0_init 1 = .ok (.invokespecial 1, 3) := by decide +kernel
theorem dX0_init_4 : decode cX0_init 4 = .ok (.aload_n 0, 1) := by decide +kernel
theorem dX0_init_5 : decode cX0_init 5 = .ok (.sipush 1000, 3) := by decide +kernel
theorem dX0_init_8 : decode cX0_init 8 = .ok (.newarray .int, 2) := by decide +kernel
theorem dX0_init_10 : decode cX0_init 10 = .ok (.putfield 9, 3) := by decide +kernel
theorem dX0_init_13 : decode cX0_init 13 = .ok (.aload_n 0, 1) := by decide +kernel
theorem dX0_init_14 : decode cX0_init 14 = .ok (.sipush 1000, 3) := by decide +kernel
theorem dX0_init_17 : decode cX0_init 17 = .ok (.newarray .int, 2) := by decide +kernel
theorem dX0_init_19 : decode cX0_init 19 = .ok (.putfield 13, 3) := by decide +kernel
theorem dX0_init_22 : decode cX0_init 22 = .ok (.iconst 1, 1) := by decide +kernel
theorem dX0_init_23 : decode cX0_init 23 = .ok (.istore_n 1, 1) := by decide +kernel
theorem dX0_init_24 : decode cX0_init 24 = .ok (.iload_n 1, 1) := by decide +kernel
theorem dX0_init_25 : decode cX0_init 25 = .ok (.sipush 1000, 3) := by decide +kernel
theorem dX0_init_28 : decode cX0_init 28 = .ok (.if_icmp .ge 16, 3) := by decide +kernel
theorem dX0_init_31 : decode cX0_init 31 = .ok (.aload_n 0, 1) := by decide +kernel
theorem dX0_init_32 : decode cX0_init 32 = .ok (.getfield 13, 3) := by decide +kernel
theorem dX0_init_35 : decode cX0_init 35 = .ok (.iload_n 1, 1) := by decide +kernel
theorem dX0_init_36 : decode cX0_init 36 = .ok (.iconst (-1), 1) := by decide +kernel
theorem dX0_init_37 : decode cX0_init 37 = .ok (.iastore, 1) := by decide +kernel
theorem dX0_init_38 : decode cX0_init 38 = .ok (.iinc 1 1, 3) := by decide +kernel
theorem dX0_init_41 : decode cX0_init 41 = .ok (.goto (-17), 3) := by decide +kernel
theorem dX0_init_44 : decode cX0_init 44 = .ok (.aload_n 0, 1) := by decide +kernel
theorem dX0_init_45 : decode cX0_init 45 = .ok (.iconst 1, 1) := by decide +kernel
theorem dX0_init_46 : decode cX0_init 46 = .ok (.putfield 16, 3) := by decide +kernel
theorem dX0_init_49 : decode cX0_init 49 = .ok (.return_, 1) := by decide +kernel
set_option maxRecDepth 20000 in
theorem ggX0_behind_X0_demand : GoodIn wsX0_behind wsX0_demand := goodIn_ca (goodIn_r _ [6, 7, 8, 9, 10, 11, 5, 12, 13, 31, 32, 33] (by decide +kernel) (by decide +kernel)) (goodIn_sub (fun _ h => List.mem_cons_of_mem _ (List.mem_append_right _ h)) (by decide +kernel))
set_option maxRecDepth 20000 in
theorem gX0_behind_X0_demand : GoodIn wsX0_behind (wsV RX0 20 RX0 yX0_demand wsX0_demand) := goodIn_app (goodIn_of _ (by decide +kernel)) ggX0_behind_X0_demand
set_option maxRecDepth 20000 in
theorem ggX0_behind_X0_addBehind : GoodIn wsX0_behind wsX0_addBehind := goodIn_r _ [17, 13, 18, 19, 20, 21, 5, 22, 1, 23, 24, 25, 26, 27, 28, 29, 30, 31, 32, 33] (by decide +kernel) (by decide +kernel)
set_option maxRecDepth 20000 in
theorem gX0_behind_X0_addBehind : GoodIn wsX0_behind (wsV RX0 24 RX0 yX0_addBehind wsX0_addBehind) := goodIn_app (goodIn_of _ (by decide +kernel)) ggX0_behind_X0_addBehind
theorem dX0_behind_0 : decode cX0_behind 0 = .ok (.aload_n 0, 1) := by decide +kernel
theorem dX0_behind_1 : decode cX0_behind 1 = .ok (.iload_n 1, 1) := by decide +kernel
theorem dX0_behind_2 : decode cX0_behind 2 = .ok (.invokevirtual 20, 3) := by decide +kernel
theorem dX0_behind_5 : decode cX0_behind 5 = .ok (.aload_n 0, 1) := by decide +kernel
theorem dX0_behind_6 : decode cX0_behind 6 = .ok (.getfield 16, 3) := by decide +kernel
theorem dX0_behind_9 : decode cX0_behind 9 = .ok (.sipush 1000, 3) := by decide +kernel
theorem dX0_behind_12 : decode cX0_behind 12 = .ok (.if_icmp .lt 5, 3) := by decide +kernel
theorem dX0_behind_15 : decode cX0_behind 15 = .ok (.iconst (-1), 1) := by decide +kernel
theorem dX0_behind_16 : decode cX0_behind 16 = .ok (.ireturn, 1) := by decide +kernel
theorem dX0_behind_17 : decode cX0_behind 17 = .ok (.aload_n 0, 1) := by decide +kernel
theorem dX0_behind_18 : decode cX0_behind 18 = .ok (.iload_n 1, 1) := by decide +kernel
theorem dX0_behind_19 : decode cX0_behind 19 = .ok (.iconst 1, 1) := by decide +kernel
theorem dX0_behind_20 : decode cX0_behind 20 = .ok (.invokevirtual 24, 3) := by decide +kernel
theorem dX0_behind_23 : decode cX0_behind 23 = .ok (.ireturn, 1) := by decide +kernel
set_option maxRecDepth 20000 in
theorem ggX0_several_X0_demand : GoodIn wsX0_several wsX0_demand := goodIn_ca (goodIn_r _ [6, 7, 8, 9, 10, 11, 5, 12, 13, 31, 32, 33] (by decide +kernel) (by decide +kernel)) (goodIn_sub (fun _ h => List.mem_cons_of_mem _ (List.mem_append_right _ h)) (by decide +kernel))
set_option maxRecDepth 20000 in
theorem gX0_several_X0_demand : GoodIn wsX0_several (wsV RX0 20 RX0 yX0_demand wsX0_demand) := goodIn_app (goodIn_of _ (by decide +kernel)) ggX0_several_X0_demand
set_option maxRecDepth 20000 in
theorem ggX0_several_X0_addBehind : GoodIn wsX0_several wsX0_addBehind := goodIn_r _ [17, 13, 18, 19, 20, 21, 5, 22, 1, 23, 24, 25, 26, 27, 28, 29, 30, 31, 32, 33] (by decide +kernel) (by decide +kernel)
set_option maxRecDepth 20000 in
theorem gX0_several_X0_addBehind : GoodIn wsX0_several (wsV RX0 24 RX0 yX0_addBehind wsX0_addBehind) := goodIn_app (goodIn_of _ (by decide +kernel)) ggX0_several_X0_addBehind
theorem dX0_several_0 : decode cX0_several 0 = .ok (.aload_n 0, 1) := by decide +kernel
theorem dX0_several_1 : decode cX0_several 1 = .ok (.iload_n 1, 1) := by decide +kernel
theorem dX0_several_2 : decode cX0_several 2 = .ok (.invokevirtual 20, 3) := by decide +kernel
theorem dX0_several_5 : decode cX0_several 5 = .ok (.iload_n 2, 1) := by decide +kernel
theorem dX0_several_6 : decode cX0_several 6 = .ok (.iconst 2, 1) := by decide +kernel
theorem dX0_several_7 : decode cX0_several 7 = .ok (.if_icmp .lt 21, 3) := by decide +kernel
theorem dX0_several_10 : decode cX0_several 10 = .ok (.iload_n 2, 1) := by decide +kernel
theorem dX0_several_11 : decode cX0_several 11 = .ok (.bipush 64, 2) := by decide +kernel
theorem dX0_several_13 : decode cX0_several 13 = .ok (.if_icmp .gt 15, 3) := by decide +kernel
theorem dX0_several_16 : decode cX0_several 16 = .ok (.iload_n 2, 1) := by decide +kernel
theorem dX0_several_17 : decode cX0_several 17 = .ok (.sipush 1000, 3) := by decide +kernel
theorem dX0_several_20 : decode cX0_several 20 = .ok (.aload_n 0, 1) := by decide +kernel
theorem dX0_several_21 : decode cX0_several 21 = .ok (.getfield 16, 3) := by decide +kernel
theorem dX0_several_24 : decode cX0_several 24 = .ok (.isub, 1) := by decide +kernel
theorem dX0_several_25 : decode cX0_several 25 = .ok (.if_icmp .le 5, 3) := by decide +kernel
theorem dX0_several_28 : decode cX0_several 28 = .ok (.iconst (-1), 1) := by decide +kernel
theorem dX0_several_29 : decode cX0_several 29 = .ok (.ireturn, 1) := by decide +kernel
theorem dX0_several_30 : decode cX0_several 30 = .ok (.aload_n 0, 1) := by decide +kernel
theorem dX0_several_31 : decode cX0_several 31 = .ok (.iload_n 1, 1) := by decide +kernel
theorem dX0_several_32 : decode cX0_several 32 = .ok (.iload_n 2, 1) := by decide +kernel
theorem dX0_several_33 : decode cX0_several 33 = .ok (.invokevirtual 24, 3) := by decide +kernel
theorem dX0_several_36 : decode cX0_several 36 = .ok (.ireturn, 1) := by decide +kernel
set_option maxRecDepth 20000 in
theorem ggX0_remove_X0_has : GoodIn wsX0_remove wsX0_has := goodIn_r _ [6, 1, 17, 18, 19] (by decide +kernel) (by decide +kernel)
set_option maxRecDepth 20000 in
theorem gX0_remove_X0_has : GoodIn wsX0_remove (wsV RX0 28 RX0 yX0_has wsX0_has) := goodIn_app (goodIn_of _ (by decide +kernel)) ggX0_remove_X0_has
set_option maxRecDepth 20000 in
theorem ggX0_remove_X0_takeOut : GoodIn wsX0_remove wsX0_takeOut := goodIn_r _ [10, 1, 11, 12, 13, 14, 15, 5, 16, 17, 18, 19] (by decide +kernel) (by decide +kernel)
set_option maxRecDepth 20000 in
theorem gX0_remove_X0_takeOut : GoodIn wsX0_remove (wsV RX0 32 RX0 yX0_takeOut wsX0_takeOut) := goodIn_app (goodIn_of _ (by decide +kernel)) ggX0_remove_X0_takeOut
theorem dX0_remove_0 : decode cX0_remove 0 = .ok (.iload_n 1, 1) := by decide +kernel
theorem dX0_remove_1 : decode cX0_remove 1 = .ok (.ifCond .eq 11, 3) := by decide +kernel
theorem dX0_remove_4 : decode cX0_remove 4 = .ok (.aload_n 0, 1) := by decide +kernel
theorem dX0_remove_5 : decode cX0_remove 5 = .ok (.iload_n 1, 1) := by decide +kernel
theorem dX0_remove_6 : decode cX0_remove 6 = .ok (.invokevirtual 28, 3) := by decide +kernel
theorem dX0_remove_9 : decode cX0_remove 9 = .ok (.ifCond .ne 5, 3) := by decide +kernel
theorem dX0_remove_12 : decode cX0_remove 12 = .ok (.iconst 0, 1) := by decide +kernel
theorem dX0_remove_13 : decode cX0_remove 13 = .ok (.ireturn, 1) := by decide +kernel
theorem dX0_remove_14 : decode cX0_remove 14 = .ok (.aload_n 0, 1) := by decide +kernel
theorem dX0_remove_15 : decode cX0_remove 15 = .ok (.getfield 13, 3) := by decide +kernel
theorem dX0_remove_18 : decode cX0_remove 18 = .ok (.iload_n 1, 1) := by decide +kernel
theorem dX0_remove_19 : decode cX0_remove 19 = .ok (.iaload, 1) := by decide +kernel
theorem dX0_remove_20 : decode cX0_remove 20 = .ok (.istore_n 2, 1) := by decide +kernel
theorem dX0_remove_21 : decode cX0_remove 21 = .ok (.aload_n 0, 1) := by decide +kernel
theorem dX0_remove_22 : decode cX0_remove 22 = .ok (.iload_n 2, 1) := by decide +kernel
theorem dX0_remove_23 : decode cX0_remove 23 = .ok (.iload_n 2, 1) := by decide +kernel
theorem dX0_remove_24 : decode cX0_remove 24 = .ok (.iconst 1, 1) := by decide +kernel
theorem dX0_remove_25 : decode cX0_remove 25 = .ok (.iadd, 1) := by decide +kernel
theorem dX0_remove_26 : decode cX0_remove 26 = .ok (.invokevirtual 32, 3) := by decide +kernel
theorem dX0_remove_29 : decode cX0_remove 29 = .ok (.iconst 1, 1) := by decide +kernel
theorem dX0_remove_30 : decode cX0_remove 30 = .ok (.ireturn, 1) := by decide +kernel
set_option maxRecDepth 20000 in
theorem ggX0_clear_X0_demand : GoodIn wsX0_clear wsX0_demand := goodIn_ca (goodIn_r _ [6, 7, 8, 9, 10, 11, 5, 12, 1, 23, 24, 25] (by decide +kernel) (by decide +kernel)) (goodIn_sub (fun _ h => List.mem_cons_of_mem _ (List.mem_append_right _ h)) (by decide +kernel))
set_option maxRecDepth 20000 in
theorem gX0_clear_X0_demand : GoodIn wsX0_clear (wsV RX0 20 RX0 yX0_demand wsX0_demand) := goodIn_app (goodIn_of _ (by decide +kernel)) ggX0_clear_X0_demand
set_option maxRecDepth 20000 in
theorem ggX0_clear_X0_takeOut : GoodIn wsX0_clear wsX0_takeOut := goodIn_r _ [16, 1, 17, 18, 19, 20, 21, 5, 22, 23, 24, 25] (by decide +kernel) (by decide +kernel)
set_option maxRecDepth 20000 in
theorem gX0_clear_X0_takeOut : GoodIn wsX0_clear (wsV RX0 32 RX0 yX0_takeOut wsX0_takeOut) := goodIn_app (goodIn_of _ (by decide +kernel)) ggX0_clear_X0_takeOut
theorem dX0_clear_0 : decode cX0_clear 0 = .ok (.aload_n 0, 1) := by decide +kernel
theorem dX0_clear_1 : decode cX0_clear 1 = .ok (.iload_n 1, 1) := by decide +kernel
theorem dX0_clear_2 : decode cX0_clear 2 = .ok (.invokevirtual 20, 3) := by decide +kernel
theorem dX0_clear_5 : decode cX0_clear 5 = .ok (.aload_n 0, 1) := by decide +kernel
theorem dX0_clear_6 : decode cX0_clear 6 = .ok (.iload_n 2, 1) := by decide +kernel
theorem dX0_clear_7 : decode cX0_clear 7 = .ok (.invokevirtual 20, 3) := by decide +kernel
theorem dX0_clear_10 : decode cX0_clear 10 = .ok (.aload_n 0, 1) := by decide +kernel
theorem dX0_clear_11 : decode cX0_clear 11 = .ok (.getfield 13, 3) := by decide +kernel
theorem dX0_clear_14 : decode cX0_clear 14 = .ok (.iload_n 1, 1) := by decide +kernel
theorem dX0_clear_15 : decode cX0_clear 15 = .ok (.iaload, 1) := by decide +kernel
theorem dX0_clear_16 : decode cX0_clear 16 = .ok (.iconst 1, 1) := by decide +kernel
theorem dX0_clear_17 : decode cX0_clear 17 = .ok (.iadd, 1) := by decide +kernel
theorem dX0_clear_18 : decode cX0_clear 18 = .ok (.istore_n 3, 1) := by decide +kernel
theorem dX0_clear_19 : decode cX0_clear 19 = .ok (.aload_n 0, 1) := by decide +kernel
theorem dX0_clear_20 : decode cX0_clear 20 = .ok (.getfield 13, 3) := by decide +kernel
theorem dX0_clear_23 : decode cX0_clear 23 = .ok (.iload_n 2, 1) := by decide +kernel
theorem dX0_clear_24 : decode cX0_clear 24 = .ok (.iaload, 1) := by decide +kernel
theorem dX0_clear_25 : decode cX0_clear 25 = .ok (.istore 4, 2) := by decide +kernel
theorem dX0_clear_27 : decode cX0_clear 27 = .ok (.iload_n 3, 1) := by decide +kernel
theorem dX0_clear_28 : decode cX0_clear 28 = .ok (.iload 4, 2) := by decide +kernel
theorem dX0_clear_30 : decode cX0_clear 30 = .ok (.if_icmp .lt 5, 3) := by decide +kernel
theorem dX0_clear_33 : decode cX0_clear 33 = .ok (.iconst 0, 1) := by decide +kernel
theorem dX0_clear_34 : decode cX0_clear 34 = .ok (.ireturn, 1) := by decide +kernel
theorem dX0_clear_35 : decode cX0_clear 35 = .ok (.aload_n 0, 1) := by decide +kernel
theorem dX0_clear_36 : decode cX0_clear 36 = .ok (.iload_n 3, 1) := by decide +kernel
theorem dX0_clear_37 : decode cX0_clear 37 = .ok (.iload 4, 2) := by decide +kernel
theorem dX0_clear_39 : decode cX0_clear 39 = .ok (.invokevirtual 32, 3) := by decide +kernel
theorem dX0_clear_42 : decode cX0_clear 42 = .ok (.iload 4, 2) := by decide +kernel
theorem dX0_clear_44 : decode cX0_clear 44 = .ok (.iload_n 3, 1) := by decide +kernel
theorem dX0_clear_45 : decode cX0_clear 45 = .ok (.isub, 1) := by decide +kernel
theorem dX0_clear_46 : decode cX0_clear 46 = .ok (.ireturn, 1) := by decide +kernel
set_option maxRecDepth 20000 in
theorem ggX0_carry_X0_demand : GoodIn wsX0_carry wsX0_demand := goodIn_ca (goodIn_r _ [6, 7, 8, 9, 10, 11, 5, 12, 1, 26, 27, 28] (by decide +kernel) (by decide +kernel)) (goodIn_sub (fun _ h => List.mem_cons_of_mem _ (List.mem_append_right _ h)) (by decide +kernel))
set_option maxRecDepth 20000 in
theorem gX0_carry_X0_demand : GoodIn wsX0_carry (wsV RX0 20 RX0 yX0_demand wsX0_demand) := goodIn_app (goodIn_of _ (by decide +kernel)) ggX0_carry_X0_demand
set_option maxRecDepth 20000 in
theorem ggX0_carry_X0_swapBlocks : GoodIn wsX0_carry wsX0_swapBlocks := goodIn_r _ [16, 17, 18, 19, 5, 20, 21, 22, 23, 24, 25, 1, 26, 27, 28] (by decide +kernel) (by decide +kernel)
set_option maxRecDepth 20000 in
theorem gX0_carry_X0_swapBlocks : GoodIn wsX0_carry (wsV RX0 36 RX0 yX0_swapBlocks wsX0_swapBlocks) := goodIn_app (goodIn_of _ (by decide +kernel)) ggX0_carry_X0_swapBlocks
theorem dX0_carry_0 : decode cX0_carry 0 = .ok (.aload_n 0, 1) := by decide +kernel
theorem dX0_carry_1 : decode cX0_carry 1 = .ok (.iload_n 1, 1) := by decide +kernel
theorem dX0_carry_2 : decode cX0_carry 2 = .ok (.invokevirtual 20, 3) := by decide +kernel
theorem dX0_carry_5 : decode cX0_carry 5 = .ok (.aload_n 0, 1) := by decide +kernel
theorem dX0_carry_6 : decode cX0_carry 6 = .ok (.iload_n 2, 1) := by decide +kernel
theorem dX0_carry_7 : decode cX0_carry 7 = .ok (.invokevirtual 20, 3) := by decide +kernel
theorem dX0_carry_10 : decode cX0_carry 10 = .ok (.aload_n 0, 1) := by decide +kernel
theorem dX0_carry_11 : decode cX0_carry 11 = .ok (.iload_n 3, 1) := by decide +kernel
theorem dX0_carry_12 : decode cX0_carry 12 = .ok (.invokevirtual 20, 3) := by decide +kernel
theorem dX0_carry_15 : decode cX0_carry 15 = .ok (.aload_n 0, 1) := by decide +kernel
theorem dX0_carry_16 : decode cX0_carry 16 = .ok (.getfield 13, 3) := by decide +kernel
theorem dX0_carry_19 : decode cX0_carry 19 = .ok (.iload_n 1, 1) := by decide +kernel
theorem dX0_carry_20 : decode cX0_carry 20 = .ok (.iaload, 1) := by decide +kernel
theorem dX0_carry_21 : decode cX0_carry 21 = .ok (.iconst 1, 1) := by decide +kernel
theorem dX0_carry_22 : decode cX0_carry 22 = .ok (.iadd, 1) := by decide +kernel
theorem dX0_carry_23 : decode cX0_carry 23 = .ok (.istore 4, 2) := by decide +kernel
theorem dX0_carry_25 : decode cX0_carry 25 = .ok (.aload_n 0, 1) := by decide +kernel
theorem dX0_carry_26 : decode cX0_carry 26 = .ok (.getfield 13, 3) := by decide +kernel
theorem dX0_carry_29 : decode cX0_carry 29 = .ok (.iload_n 2, 1) := by decide +kernel
theorem dX0_carry_30 : decode cX0_carry 30 = .ok (.iaload, 1) := by decide +kernel
theorem dX0_carry_31 : decode cX0_carry 31 = .ok (.istore 5, 2) := by decide +kernel
theorem dX0_carry_33 : decode cX0_carry 33 = .ok (.aload_n 0, 1) := by decide +kernel
theorem dX0_carry_34 : decode cX0_carry 34 = .ok (.getfield 13, 3) := by decide +kernel
theorem dX0_carry_37 : decode cX0_carry 37 = .ok (.iload_n 3, 1) := by decide +kernel
theorem dX0_carry_38 : decode cX0_carry 38 = .ok (.iaload, 1) := by decide +kernel
theorem dX0_carry_39 : decode cX0_carry 39 = .ok (.istore 6, 2) := by decide +kernel
theorem dX0_carry_41 : decode cX0_carry 41 = .ok (.iload 4, 2) := by decide +kernel
theorem dX0_carry_43 : decode cX0_carry 43 = .ok (.iload 5, 2) := by decide +kernel
theorem dX0_carry_45 : decode cX0_carry 45 = .ok (.if_icmp .gt 17, 3) := by decide +kernel
theorem dX0_carry_48 : decode cX0_carry 48 = .ok (.iload 4, 2) := by decide +kernel
theorem dX0_carry_50 : decode cX0_carry 50 = .ok (.iload 6, 2) := by decide +kernel
theorem dX0_carry_52 : decode cX0_carry 52 = .ok (.if_icmp .gt 12, 3) := by decide +kernel
theorem dX0_carry_55 : decode cX0_carry 55 = .ok (.iload 6, 2) := by decide +kernel
theorem dX0_carry_57 : decode cX0_carry 57 = .ok (.iload 5, 2) := by decide +kernel
theorem dX0_carry_59 : decode cX0_carry 59 = .ok (.if_icmp .ge 5, 3) := by decide +kernel
theorem dX0_carry_62 : decode cX0_carry 62 = .ok (.iconst (-1), 1) := by decide +kernel
theorem dX0_carry_63 : decode cX0_carry 63 = .ok (.ireturn, 1) := by decide +kernel
theorem dX0_carry_64 : decode cX0_carry 64 = .ok (.iload 6, 2) := by decide +kernel
theorem dX0_carry_66 : decode cX0_carry 66 = .ok (.iload 4, 2) := by decide +kernel
theorem dX0_carry_68 : decode cX0_carry 68 = .ok (.if_icmp .ge 18, 3) := by decide +kernel
theorem dX0_carry_71 : decode cX0_carry 71 = .ok (.aload_n 0, 1) := by decide +kernel
theorem dX0_carry_72 : decode cX0_carry 72 = .ok (.iload 6, 2) := by decide +kernel
theorem dX0_carry_74 : decode cX0_carry 74 = .ok (.iconst 1, 1) := by decide +kernel
theorem dX0_carry_75 : decode cX0_carry 75 = .ok (.iadd, 1) := by decide +kernel
theorem dX0_carry_76 : decode cX0_carry 76 = .ok (.iload 4, 2) := by decide +kernel
theorem dX0_carry_78 : decode cX0_carry 78 = .ok (.iload 5, 2) := by decide +kernel
theorem dX0_carry_80 : decode cX0_carry 80 = .ok (.invokevirtual 36, 3) := by decide +kernel
theorem dX0_carry_83 : decode cX0_carry 83 = .ok (.goto 15, 3) := by decide +kernel
theorem dX0_carry_86 : decode cX0_carry 86 = .ok (.aload_n 0, 1) := by decide +kernel
theorem dX0_carry_87 : decode cX0_carry 87 = .ok (.iload 4, 2) := by decide +kernel
theorem dX0_carry_89 : decode cX0_carry 89 = .ok (.iload 5, 2) := by decide +kernel
theorem dX0_carry_91 : decode cX0_carry 91 = .ok (.iload 6, 2) := by decide +kernel
theorem dX0_carry_93 : decode cX0_carry 93 = .ok (.iconst 1, 1) := by decide +kernel
theorem dX0_carry_94 : decode cX0_carry 94 = .ok (.iadd, 1) := by decide +kernel
theorem dX0_carry_95 : decode cX0_carry 95 = .ok (.invokevirtual 36, 3) := by decide +kernel
theorem dX0_carry_98 : decode cX0_carry 98 = .ok (.iload 5, 2) := by decide +kernel
theorem dX0_carry_100 : decode cX0_carry 100 = .ok (.iload 4, 2) := by decide +kernel
theorem dX0_carry_102 : decode cX0_carry 102 = .ok (.isub, 1) := by decide +kernel
theorem dX0_carry_103 : decode cX0_carry 103 = .ok (.ireturn, 1) := by decide +kernel
set_option maxRecDepth 20000 in
theorem ggX0_compare_X0_demand : GoodIn wsX0_compare wsX0_demand := goodIn_ca (goodIn_r _ [6, 7, 8, 9, 10, 11, 5, 12, 1, 13, 14, 15] (by decide +kernel) (by decide +kernel)) (goodIn_sub (fun _ h => List.mem_cons_of_mem _ (List.mem_append_right _ h)) (by decide +kernel))
set_option maxRecDepth 20000 in
theorem gX0_compare_X0_demand : GoodIn wsX0_compare (wsV RX0 20 RX0 yX0_demand wsX0_demand) := goodIn_app (goodIn_of _ (by decide +kernel)) ggX0_compare_X0_demand
theorem dX0_compare_0 : decode cX0_compare 0 = .ok (.aload_n 0, 1) := by decide +kernel
theorem dX0_compare_1 : decode cX0_compare 1 = .ok (.iload_n 1, 1) := by decide +kernel
theorem dX0_compare_2 : decode cX0_compare 2 = .ok (.invokevirtual 20, 3) := by decide +kernel
theorem dX0_compare_5 : decode cX0_compare 5 = .ok (.aload_n 0, 1) := by decide +kernel
theorem dX0_compare_6 : decode cX0_compare 6 = .ok (.iload_n 2, 1) := by decide +kernel
theorem dX0_compare_7 : decode cX0_compare 7 = .ok (.invokevirtual 20, 3) := by decide +kernel
theorem dX0_compare_10 : decode cX0_compare 10 = .ok (.iload_n 1, 1) := by decide +kernel
theorem dX0_compare_11 : decode cX0_compare 11 = .ok (.iload_n 2, 1) := by decide +kernel
theorem dX0_compare_12 : decode cX0_compare 12 = .ok (.if_icmp .ne 5, 3) := by decide +kernel
theorem dX0_compare_15 : decode cX0_compare 15 = .ok (.iconst 0, 1) := by decide +kernel
theorem dX0_compare_16 : decode cX0_compare 16 = .ok (.ireturn, 1) := by decide +kernel
theorem dX0_compare_17 : decode cX0_compare 17 = .ok (.aload_n 0, 1) := by decide +kernel
theorem dX0_compare_18 : decode cX0_compare 18 = .ok (.getfield 13, 3) := by decide +kernel
theorem dX0_compare_21 : decode cX0_compare 21 = .ok (.iload_n 1, 1) := by decide +kernel
theorem dX0_compare_22 : decode cX0_compare 22 = .ok (.iaload, 1) := by decide +kernel
theorem dX0_compare_23 : decode cX0_compare 23 = .ok (.aload_n 0, 1) := by decide +kernel
theorem dX0_compare_24 : decode cX0_compare 24 = .ok (.getfield 13, 3) := by decide +kernel
theorem dX0_compare_27 : decode cX0_compare 27 = .ok (.iload_n 2, 1) := by decide +kernel
theorem dX0_compare_28 : decode cX0_compare 28 = .ok (.iaload, 1) := by decide +kernel
theorem dX0_compare_29 : decode cX0_compare 29 = .ok (.if_icmp .ge 7, 3) := by decide +kernel
theorem dX0_compare_32 : decode cX0_compare 32 = .ok (.iconst (-1), 1) := by decide +kernel
theorem dX0_compare_33 : decode cX0_compare 33 = .ok (.goto 4, 3) := by decide +kernel
theorem dX0_compare_36 : decode cX0_compare 36 = .ok (.iconst 1, 1) := by decide +kernel
theorem dX0_compare_37 : decode cX0_compare 37 = .ok (.ireturn, 1) := by decide +kernel
set_option maxRecDepth 20000 in
theorem ggX0_next_X0_demand : GoodIn wsX0_next wsX0_demand := goodIn_ca (goodIn_r _ [6, 7, 8, 9, 10, 11, 5, 12, 1, 19, 20, 21] (by decide +kernel) (by decide +kernel)) (goodIn_sub (fun _ h => List.mem_cons_of_mem _ (List.mem_append_right _ h)) (by decide +kernel))
set_option maxRecDepth 20000 in
theorem gX0_next_X0_demand : GoodIn wsX0_next (wsV RX0 20 RX0 yX0_demand wsX0_demand) := goodIn_app (goodIn_of _ (by decide +kernel)) ggX0_next_X0_demand
set_option maxRecDepth 20000 in
theorem ggX0_next_X0_at : GoodIn wsX0_next wsX0_at := goodIn_r _ [16, 17, 18, 19, 20, 21] (by decide +kernel) (by decide +kernel)
set_option maxRecDepth 20000 in
theorem gX0_next_X0_at : GoodIn wsX0_next (wsV RX0 40 RX0 yX0_at wsX0_at) := goodIn_app (goodIn_of _ (by decide +kernel)) ggX0_next_X0_at
theorem dX0_next_0 : decode cX0_next 0 = .ok (.aload_n 0, 1) := by decide +kernel
theorem dX0_next_1 : decode cX0_next 1 = .ok (.iload_n 1, 1) := by decide +kernel
theorem dX0_next_2 : decode cX0_next 2 = .ok (.invokevirtual 20, 3) := by decide +kernel
theorem dX0_next_5 : decode cX0_next 5 = .ok (.aload_n 0, 1) := by decide +kernel
theorem dX0_next_6 : decode cX0_next 6 = .ok (.iload_n 2, 1) := by decide +kernel
theorem dX0_next_7 : decode cX0_next 7 = .ok (.ifCond .eq 14, 3) := by decide +kernel
theorem dX0_next_10 : decode cX0_next 10 = .ok (.aload_n 0, 1) := by decide +kernel
theorem dX0_next_11 : decode cX0_next 11 = .ok (.getfield 13, 3) := by decide +kernel
theorem dX0_next_14 : decode cX0_next 14 = .ok (.iload_n 1, 1) := by decide +kernel
theorem dX0_next_15 : decode cX0_next 15 = .ok (.iaload, 1) := by decide +kernel
theorem dX0_next_16 : decode cX0_next 16 = .ok (.iconst 1, 1) := by decide +kernel
theorem dX0_next_17 : decode cX0_next 17 = .ok (.iadd, 1) := by decide +kernel
theorem dX0_next_18 : decode cX0_next 18 = .ok (.goto 11, 3) := by decide +kernel
theorem dX0_next_21 : decode cX0_next 21 = .ok (.aload_n 0, 1) := by decide +kernel
theorem dX0_next_22 : decode cX0_next 22 = .ok (.getfield 13, 3) := by decide +kernel
theorem dX0_next_25 : decode cX0_next 25 = .ok (.iload_n 1, 1) := by decide +kernel
theorem dX0_next_26 : decode cX0_next 26 = .ok (.iaload, 1) := by decide +kernel
theorem dX0_next_27 : decode cX0_next 27 = .ok (.iconst 1, 1) := by decide +kernel
theorem dX0_next_28 : decode cX0_next 28 = .ok (.isub, 1) := by decide +kernel
theorem dX0_next_29 : decode cX0_next 29 = .ok (.invokevirtual 40, 3) := by decide +kernel
theorem dX0_next_32 : decode cX0_next 32 = .ok (.ireturn, 1) := by decide +kernel
theorem dX0_has_0 : decode cX0_has 0 = .ok (.iload_n 1, 1) := by decide +kernel
theorem dX0_has_1 : decode cX0_has 1 = .ok (.ifCond .lt 24, 3) := by decide +kernel
theorem dX0_has_4 : decode cX0_has 4 = .ok (.iload_n 1, 1) := by decide +kernel
theorem dX0_has_5 : decode cX0_has 5 = .ok (.sipush 1000, 3) := by decide +kernel
theorem dX0_has_8 : decode cX0_has 8 = .ok (.if_icmp .ge 17, 3) := by decide +kernel
theorem dX0_has_11 : decode cX0_has 11 = .ok (.aload_n 0, 1) := by decide +kernel
theorem dX0_has_12 : decode cX0_has 12 = .ok (.getfield 13, 3) := by decide +kernel
theorem dX0_has_15 : decode cX0_has 15 = .ok (.iload_n 1, 1) := by decide +kernel
theorem dX0_has_16 : decode cX0_has 16 = .ok (.iaload, 1) := by decide +kernel
theorem dX0_has_17 : decode cX0_has 17 = .ok (.iconst (-1), 1) := by decide +kernel
theorem dX0_has_18 : decode cX0_has 18 = .ok (.if_icmp .eq 7, 3) := by decide +kernel
theorem dX0_has_21 : decode cX0_has 21 = .ok (.iconst 1, 1) := by decide +kernel
theorem dX0_has_22 : decode cX0_has 22 = .ok (.goto 4, 3) := by decide +kernel
theorem dX0_has_25 : decode cX0_has 25 = .ok (.iconst 0, 1) := by decide +kernel
theorem dX0_has_26 : decode cX0_has 26 = .ok (.ireturn, 1) := by decide +kernel
set_option maxRecDepth 20000 in
theorem ggX0_place_X0_demand : GoodIn wsX0_place wsX0_demand := goodIn_ca (goodIn_r _ [6, 7, 8, 9, 10, 11, 5, 12, 1, 13, 14, 15] (by decide +kernel) (by decide +kernel)) (goodIn_sub (fun _ h => List.mem_cons_of_mem _ (List.mem_append_right _ h)) (by decide +kernel))
set_option maxRecDepth 20000 in
theorem gX0_place_X0_demand : GoodIn wsX0_place (wsV RX0 20 RX0 yX0_demand wsX0_demand) := goodIn_app (goodIn_of _ (by decide +kernel)) ggX0_place_X0_demand
theorem dX0_place_0 : decode cX0_place 0 = .ok (.aload_n 0, 1) := by decide +kernel
theorem dX0_place_1 : decode cX0_place 1 = .ok (.iload_n 1, 1) := by decide +kernel
theorem dX0_place_2 : decode cX0_place 2 = .ok (.invokevirtual 20, 3) := by decide +kernel
theorem dX0_place_5 : decode cX0_place 5 = .ok (.aload_n 0, 1) := by decide +kernel
theorem dX0_place_6 : decode cX0_place 6 = .ok (.getfield 13, 3) := by decide +kernel
theorem dX0_place_9 : decode cX0_place 9 = .ok (.iload_n 1, 1) := by decide +kernel
theorem dX0_place_10 : decode cX0_place 10 = .ok (.iaload, 1) := by decide +kernel
theorem dX0_place_11 : decode cX0_place 11 = .ok (.ireturn, 1) := by decide +kernel
theorem dX0_at_0 : decode cX0_at 0 = .ok (.iload_n 1, 1) := by decide +kernel
theorem dX0_at_1 : decode cX0_at 1 = .ok (.ifCond .lt 20, 3) := by decide +kernel
theorem dX0_at_4 : decode cX0_at 4 = .ok (.iload_n 1, 1) := by decide +kernel
theorem dX0_at_5 : decode cX0_at 5 = .ok (.aload_n 0, 1) := by decide +kernel
theorem dX0_at_6 : decode cX0_at 6 = .ok (.getfield 16, 3) := by decide +kernel
theorem dX0_at_9 : decode cX0_at 9 = .ok (.if_icmp .ge 12, 3) := by decide +kernel
theorem dX0_at_12 : decode cX0_at 12 = .ok (.aload_n 0, 1) := by decide +kernel
theorem dX0_at_13 : decode cX0_at 13 = .ok (.getfield 9, 3) := by decide +kernel
theorem dX0_at_16 : decode cX0_at 16 = .ok (.iload_n 1, 1) := by decide +kernel
theorem dX0_at_17 : decode cX0_at 17 = .ok (.iaload, 1) := by decide +kernel
theorem dX0_at_18 : decode cX0_at 18 = .ok (.goto 4, 3) := by decide +kernel
theorem dX0_at_21 : decode cX0_at 21 = .ok (.iconst (-1), 1) := by decide +kernel
theorem dX0_at_22 : decode cX0_at 22 = .ok (.ireturn, 1) := by decide +kernel
set_option maxRecDepth 20000 in
theorem ggX0_greatest_X0_demand : GoodIn wsX0_greatest wsX0_demand := goodIn_ca (goodIn_r _ [11, 12, 13, 14, 15, 16, 10, 17, 1, 18, 19, 20] (by decide +kernel) (by decide +kernel)) (goodIn_sub (fun _ h => List.mem_cons_of_mem _ (List.mem_append_right _ h)) (by decide +kernel))
set_option maxRecDepth 20000 in
theorem gX0_greatest_X0_demand : GoodIn wsX0_greatest (wsV RX0 20 RX0 yX0_demand wsX0_demand) := goodIn_app (goodIn_of _ (by decide +kernel)) ggX0_greatest_X0_demand
theorem dX0_greatest_0 : decode cX0_greatest 0 = .ok (.aload_n 0, 1) := by decide +kernel
theorem dX0_greatest_1 : decode cX0_greatest 1 = .ok (.iload_n 1, 1) := by decide +kernel
theorem dX0_greatest_2 : decode cX0_greatest 2 = .ok (.invokevirtual 20, 3) := by decide +kernel
theorem dX0_greatest_5 : decode cX0_greatest 5 = .ok (.aload_n 0, 1) := by decide +kernel
theorem dX0_greatest_6 : decode cX0_greatest 6 = .ok (.iload_n 2, 1) := by decide +kernel
theorem dX0_greatest_7 : decode cX0_greatest 7 = .ok (.invokevirtual 20, 3) := by decide +kernel
theorem dX0_greatest_10 : decode cX0_greatest 10 = .ok (.aload_n 0, 1) := by decide +kernel
theorem dX0_greatest_11 : decode cX0_greatest 11 = .ok (.getfield 13, 3) := by decide +kernel
theorem dX0_greatest_14 : decode cX0_greatest 14 = .ok (.iload_n 2, 1) := by decide +kernel
theorem dX0_greatest_15 : decode cX0_greatest 15 = .ok (.iaload, 1) := by decide +kernel
theorem dX0_greatest_16 : decode cX0_greatest 16 = .ok (.istore_n 3, 1) := by decide +kernel
theorem dX0_greatest_17 : decode cX0_greatest 17 = .ok (.iconst (-1), 1) := by decide +kernel
theorem dX0_greatest_18 : decode cX0_greatest 18 = .ok (.istore 4, 2) := by decide +kernel
theorem dX0_greatest_20 : decode cX0_greatest 20 = .ok (.aload_n 0, 1) := by decide +kernel
theorem dX0_greatest_21 : decode cX0_greatest 21 = .ok (.getfield 13, 3) := by decide +kernel
theorem dX0_greatest_24 : decode cX0_greatest 24 = .ok (.iload_n 1, 1) := by decide +kernel
theorem dX0_greatest_25 : decode cX0_greatest 25 = .ok (.iaload, 1) := by decide +kernel
theorem dX0_greatest_26 : decode cX0_greatest 26 = .ok (.istore 5, 2) := by decide +kernel
theorem dX0_greatest_28 : decode cX0_greatest 28 = .ok (.iload 5, 2) := by decide +kernel
theorem dX0_greatest_30 : decode cX0_greatest 30 = .ok (.iload_n 3, 1) := by decide +kernel
theorem dX0_greatest_31 : decode cX0_greatest 31 = .ok (.if_icmp .gt 23, 3) := by decide +kernel
theorem dX0_greatest_34 : decode cX0_greatest 34 = .ok (.iload 4, 2) := by decide +kernel
theorem dX0_greatest_36 : decode cX0_greatest 36 = .ok (.aload_n 0, 1) := by decide +kernel
theorem dX0_greatest_37 : decode cX0_greatest 37 = .ok (.getfield 9, 3) := by decide +kernel
theorem dX0_greatest_40 : decode cX0_greatest 40 = .ok (.iload 5, 2) := by decide +kernel
theorem dX0_greatest_42 : decode cX0_greatest 42 = .ok (.iaload, 1) := by decide +kernel
theorem dX0_greatest_43 : decode cX0_greatest 43 = .ok (.invokestatic 44, 3) := by decide +kernel
theorem dX0_greatest_46 : decode cX0_greatest 46 = .ok (.istore 4, 2) := by decide +kernel
theorem dX0_greatest_48 : decode cX0_greatest 48 = .ok (.iinc 5 1, 3) := by decide +kernel
theorem dX0_greatest_51 : decode cX0_greatest 51 = .ok (.goto (-23), 3) := by decide +kernel
theorem dX0_greatest_54 : decode cX0_greatest 54 = .ok (.iload 4, 2) := by decide +kernel
theorem dX0_greatest_56 : decode cX0_greatest 56 = .ok (.ireturn, 1) := by decide +kernel
set_option maxRecDepth 20000 in
theorem ggX0_wipe_X0_takeOut : GoodIn wsX0_wipe wsX0_takeOut := goodIn_r _ [6, 7, 8, 1, 9, 10, 11, 5, 12, 13, 14, 15] (by decide +kernel) (by decide +kernel)
set_option maxRecDepth 20000 in
theorem gX0_wipe_X0_takeOut : GoodIn wsX0_wipe (wsV RX0 32 RX0 yX0_takeOut wsX0_takeOut) := goodIn_app (goodIn_of _ (by decide +kernel)) ggX0_wipe_X0_takeOut
theorem dX0_wipe_0 : decode cX0_wipe 0 = .ok (.aload_n 0, 1) := by decide +kernel
theorem dX0_wipe_1 : decode cX0_wipe 1 = .ok (.iconst 1, 1) := by decide +kernel
theorem dX0_wipe_2 : decode cX0_wipe 2 = .ok (.aload_n 0, 1) := by decide +kernel
theorem dX0_wipe_3 : decode cX0_wipe 3 = .ok (.getfield 16, 3) := by decide +kernel
theorem dX0_wipe_6 : decode cX0_wipe 6 = .ok (.invokevirtual 32, 3) := by decide +kernel
theorem dX0_wipe_9 : decode cX0_wipe 9 = .ok (.return_, 1) := by decide +kernel
set_option maxRecDepth 20000 in
theorem ggX0_look_X0_at : GoodIn wsX0_look wsX0_at := goodIn_r _ [6, 1, 7, 13, 14, 15] (by decide +kernel) (by decide +kernel)
set_option maxRecDepth 20000 in
theorem gX0_look_X0_at : GoodIn wsX0_look (wsV RX0 40 RX0 yX0_at wsX0_at) := goodIn_app (goodIn_of _ (by decide +kernel)) ggX0_look_X0_at
set_option maxRecDepth 20000 in
theorem ggX0_look_X0_leastFree : GoodIn wsX0_look wsX0_leastFree := goodIn_r _ [11, 12, 13, 14, 15] (by decide +kernel) (by decide +kernel)
set_option maxRecDepth 20000 in
theorem gX0_look_X0_leastFree : GoodIn wsX0_look (wsV RX0 49 RX0 yX0_leastFree wsX0_leastFree) := goodIn_app (goodIn_of _ (by decide +kernel)) ggX0_look_X0_leastFree
theorem dX0_look_0 : decode cX0_look 0 = .ok (.iload_n 1, 1) := by decide +kernel
theorem dX0_look_1 : decode cX0_look 1 = .ok (.tableswitch 48 0 2 #[27, 32, 43], 27) := by decide +kernel
theorem dX0_look_28 : decode cX0_look 28 = .ok (.aload_n 0, 1) := by decide +kernel
theorem dX0_look_29 : decode cX0_look 29 = .ok (.getfield 16, 3) := by decide +kernel
theorem dX0_look_32 : decode cX0_look 32 = .ok (.ireturn, 1) := by decide +kernel
theorem dX0_look_33 : decode cX0_look 33 = .ok (.aload_n 0, 1) := by decide +kernel
theorem dX0_look_34 : decode cX0_look 34 = .ok (.aload_n 0, 1) := by decide +kernel
theorem dX0_look_35 : decode cX0_look 35 = .ok (.getfield 16, 3) := by decide +kernel
theorem dX0_look_38 : decode cX0_look 38 = .ok (.iconst 1, 1) := by decide +kernel
theorem dX0_look_39 : decode cX0_look 39 = .ok (.isub, 1) := by decide +kernel
theorem dX0_look_40 : decode cX0_look 40 = .ok (.invokevirtual 40, 3) := by decide +kernel
theorem dX0_look_43 : decode cX0_look 43 = .ok (.ireturn, 1) := by decide +kernel
theorem dX0_look_44 : decode cX0_look 44 = .ok (.aload_n 0, 1) := by decide +kernel
theorem dX0_look_45 : decode cX0_look 45 = .ok (.invokevirtual 49, 3) := by decide +kernel
theorem dX0_look_48 : decode cX0_look 48 = .ok (.ireturn, 1) := by decide +kernel
theorem dX0_look_49 : decode cX0_look 49 = .ok (.iconst (-1), 1) := by decide +kernel
theorem dX0_look_50 : decode cX0_look 50 = .ok (.ireturn, 1) := by decide +kernel
set_option maxRecDepth 20000 in
theorem ggX0_demand_X0_has : GoodIn wsX0_demand wsX0_has := goodIn_r _ [7, 8, 9, 10, 11] (by decide +kernel) (by decide +kernel)
set_option maxRecDepth 20000 in
theorem gX0_demand_X0_has : GoodIn wsX0_demand (wsV RX0 28 RX0 yX0_has wsX0_has) := goodIn_app (goodIn_of _ (by decide +kernel)) ggX0_demand_X0_has
theorem dX0_demand_0 : decode cX0_demand 0 = .ok (.aload_n 0, 1) := by decide +kernel
theorem dX0_demand_1 : decode cX0_demand 1 = .ok (.iload_n 1, 1) := by decide +kernel
theorem dX0_demand_2 : decode cX0_demand 2 = .ok (.invokevirtual 28, 3) := by decide +kernel
theorem dX0_demand_5 : decode cX0_demand 5 = .ok (.ifCond .ne 13, 3) := by decide +kernel
theorem dX0_demand_8 : decode cX0_demand 8 = .ok (.new 53, 3) := by decide +kernel
theorem dX0_demand_11 : decode cX0_demand 11 = .ok (.dup, 1) := by decide +kernel
theorem dX0_demand_12 : decode cX0_demand 12 = .ok (.ldc 55, 2) := by decide +kernel
theorem dX0_demand_14 : decode cX0_demand 14 = .ok (.invokespecial 57, 3) := by decide +kernel
theorem dX0_demand_17 : decode cX0_demand 17 = .ok (.athrow, 1) := by decide +kernel
theorem dX0_demand_18 : decode cX0_demand 18 = .ok (.return_, 1) := by decide +kernel
theorem dX0_leastFree_0 : decode cX0_leastFree 0 = .ok (.iconst 0, 1) := by decide +kernel
theorem dX0_leastFree_1 : decode cX0_leastFree 1 = .ok (.istore_n 1, 1) := by decide +kernel
theorem dX0_leastFree_2 : decode cX0_leastFree 2 = .ok (.iload_n 1, 1) := by decide +kernel
theorem dX0_leastFree_3 : decode cX0_leastFree 3 = .ok (.sipush 1000, 3) := by decide +kernel
theorem dX0_leastFree_6 : decode cX0_leastFree 6 = .ok (.if_icmp .ge 21, 3) := by decide +kernel
theorem dX0_leastFree_9 : decode cX0_leastFree 9 = .ok (.aload_n 0, 1) := by decide +kernel
theorem dX0_leastFree_10 : decode cX0_leastFree 10 = .ok (.getfield 13, 3) := by decide +kernel
theorem dX0_leastFree_13 : decode cX0_leastFree 13 = .ok (.iload_n 1, 1) := by decide +kernel
theorem dX0_leastFree_14 : decode cX0_leastFree 14 = .ok (.iaload, 1) := by decide +kernel
theorem dX0_leastFree_15 : decode cX0_leastFree 15 = .ok (.iconst (-1), 1) := by decide +kernel
theorem dX0_leastFree_16 : decode cX0_leastFree 16 = .ok (.if_icmp .ne 5, 3) := by decide +kernel
theorem dX0_leastFree_19 : decode cX0_leastFree 19 = .ok (.iload_n 1, 1) := by decide +kernel
theorem dX0_leastFree_20 : decode cX0_leastFree 20 = .ok (.ireturn, 1) := by decide +kernel
theorem dX0_leastFree_21 : decode cX0_leastFree 21 = .ok (.iinc 1 1, 3) := by decide +kernel
theorem dX0_leastFree_24 : decode cX0_leastFree 24 = .ok (.goto (-22), 3) := by decide +kernel
theorem dX0_leastFree_27 : decode cX0_leastFree 27 = .ok (.iconst (-1), 1) := by decide +kernel
theorem dX0_leastFree_28 : decode cX0_leastFree 28 = .ok (.ireturn, 1) := by decide +kernel
set_option maxRecDepth 20000 in
theorem ggX0_addBehind_X0_openGap : GoodIn wsX0_addBehind wsX0_openGap := goodIn_r _ [7, 8, 2, 9, 10, 11, 6, 12, 1, 17, 18, 19] (by decide +kernel) (by decide +kernel)
set_option maxRecDepth 20000 in
theorem gX0_addBehind_X0_openGap : GoodIn wsX0_addBehind (wsV RX0 60 RX0 yX0_openGap wsX0_openGap) := goodIn_app (goodIn_of _ (by decide +kernel)) ggX0_addBehind_X0_openGap
set_option maxRecDepth 20000 in
theorem ggX0_addBehind_X0_fillGap : GoodIn wsX0_addBehind wsX0_fillGap := goodIn_r _ [16, 1, 9, 10, 11, 6, 12, 2, 17, 18, 19] (by decide +kernel) (by decide +kernel)
set_option maxRecDepth 20000 in
theorem gX0_addBehind_X0_fillGap : GoodIn wsX0_addBehind (wsV RX0 63 RX0 yX0_fillGap wsX0_fillGap) := goodIn_app (goodIn_of _ (by decide +kernel)) ggX0_addBehind_X0_fillGap
theorem dX0_addBehind_0 : decode cX0_addBehind 0 = .ok (.aload_n 0, 1) := by decide +kernel
theorem dX0_addBehind_1 : decode cX0_addBehind 1 = .ok (.getfield 13, 3) := by decide +kernel
theorem dX0_addBehind_4 : decode cX0_addBehind 4 = .ok (.iload_n 1, 1) := by decide +kernel
theorem dX0_addBehind_5 : decode cX0_addBehind 5 = .ok (.iaload, 1) := by decide +kernel
theorem dX0_addBehind_6 : decode cX0_addBehind 6 = .ok (.iconst 1, 1) := by decide +kernel
theorem dX0_addBehind_7 : decode cX0_addBehind 7 = .ok (.iadd, 1) := by decide +kernel
theorem dX0_addBehind_8 : decode cX0_addBehind 8 = .ok (.istore_n 3, 1) := by decide +kernel
theorem dX0_addBehind_9 : decode cX0_addBehind 9 = .ok (.aload_n 0, 1) := by decide +kernel
theorem dX0_addBehind_10 : decode cX0_addBehind 10 = .ok (.iload_n 3, 1) := by decide +kernel
theorem dX0_addBehind_11 : decode cX0_addBehind 11 = .ok (.iload_n 2, 1) := by decide +kernel
theorem dX0_addBehind_12 : decode cX0_addBehind 12 = .ok (.invokevirtual 60, 3) := by decide +kernel
theorem dX0_addBehind_15 : decode cX0_addBehind 15 = .ok (.aload_n 0, 1) := by decide +kernel
theorem dX0_addBehind_16 : decode cX0_addBehind 16 = .ok (.iload_n 3, 1) := by decide +kernel
theorem dX0_addBehind_17 : decode cX0_addBehind 17 = .ok (.iload_n 3, 1) := by decide +kernel
theorem dX0_addBehind_18 : decode cX0_addBehind 18 = .ok (.iload_n 2, 1) := by decide +kernel
theorem dX0_addBehind_19 : decode cX0_addBehind 19 = .ok (.iadd, 1) := by decide +kernel
theorem dX0_addBehind_20 : decode cX0_addBehind 20 = .ok (.invokevirtual 63, 3) := by decide +kernel
theorem dX0_addBehind_23 : decode cX0_addBehind 23 = .ok (.aload_n 0, 1) := by decide +kernel
theorem dX0_addBehind_24 : decode cX0_addBehind 24 = .ok (.getfield 9, 3) := by decide +kernel
theorem dX0_addBehind_27 : decode cX0_addBehind 27 = .ok (.iload_n 3, 1) := by decide +kernel
theorem dX0_addBehind_28 : decode cX0_addBehind 28 = .ok (.iaload, 1) := by decide +kernel
theorem dX0_addBehind_29 : decode cX0_addBehind 29 = .ok (.ireturn, 1) := by decide +kernel
set_option maxRecDepth 20000 in
theorem ggX0_openGap_X0_put : GoodIn wsX0_openGap wsX0_put := goodIn_r _ [7, 2, 8, 9, 10, 11] (by decide +kernel) (by decide +kernel)
set_option maxRecDepth 20000 in
theorem gX0_openGap_X0_put : GoodIn wsX0_openGap (wsV RX0 66 RX0 yX0_put wsX0_put) := goodIn_app (goodIn_of _ (by decide +kernel)) ggX0_openGap_X0_put
theorem dX0_openGap_0 : decode cX0_openGap 0 = .ok (.aload_n 0, 1) := by decide +kernel
theorem dX0_openGap_1 : decode cX0_openGap 1 = .ok (.getfield 16, 3) := by decide +kernel
theorem dX0_openGap_4 : decode cX0_openGap 4 = .ok (.iconst 1, 1) := by decide +kernel
theorem dX0_openGap_5 : decode cX0_openGap 5 = .ok (.isub, 1) := by decide +kernel
theorem dX0_openGap_6 : decode cX0_openGap 6 = .ok (.istore_n 3, 1) := by decide +kernel
theorem dX0_openGap_7 : decode cX0_openGap 7 = .ok (.iload_n 3, 1) := by decide +kernel
theorem dX0_openGap_8 : decode cX0_openGap 8 = .ok (.iload_n 1, 1) := by decide +kernel
theorem dX0_openGap_9 : decode cX0_openGap 9 = .ok (.if_icmp .lt 22, 3) := by decide +kernel
theorem dX0_openGap_12 : decode cX0_openGap 12 = .ok (.aload_n 0, 1) := by decide +kernel
theorem dX0_openGap_13 : decode cX0_openGap 13 = .ok (.aload_n 0, 1) := by decide +kernel
theorem dX0_openGap_14 : decode cX0_openGap 14 = .ok (.getfield 9, 3) := by decide +kernel
theorem dX0_openGap_17 : decode cX0_openGap 17 = .ok (.iload_n 3, 1) := by decide +kernel
theorem dX0_openGap_18 : decode cX0_openGap 18 = .ok (.iaload, 1) := by decide +kernel
theorem dX0_openGap_19 : decode cX0_openGap 19 = .ok (.iload_n 3, 1) := by decide +kernel
theorem dX0_openGap_20 : decode cX0_openGap 20 = .ok (.iload_n 2, 1) := by decide +kernel
theorem dX0_openGap_21 : decode cX0_openGap 21 = .ok (.iadd, 1) := by decide +kernel
theorem dX0_openGap_22 : decode cX0_openGap 22 = .ok (.invokevirtual 66, 3) := by decide +kernel
theorem dX0_openGap_25 : decode cX0_openGap 25 = .ok (.iinc 3 (-1), 3) := by decide +kernel
theorem dX0_openGap_28 : decode cX0_openGap 28 = .ok (.goto (-21), 3) := by decide +kernel
theorem dX0_openGap_31 : decode cX0_openGap 31 = .ok (.aload_n 0, 1) := by decide +kernel
theorem dX0_openGap_32 : decode cX0_openGap 32 = .ok (.dup, 1) := by decide +kernel
theorem dX0_openGap_33 : decode cX0_openGap 33 = .ok (.getfield 16, 3) := by decide +kernel
theorem dX0_openGap_36 : decode cX0_openGap 36 = .ok (.iload_n 2, 1) := by decide +kernel
theorem dX0_openGap_37 : decode cX0_openGap 37 = .ok (.iadd, 1) := by decide +kernel
theorem dX0_openGap_38 : decode cX0_openGap 38 = .ok (.putfield 16, 3) := by decide +kernel
theorem dX0_openGap_41 : decode cX0_openGap 41 = .ok (.return_, 1) := by decide +kernel
set_option maxRecDepth 20000 in
theorem ggX0_fillGap_X0_put : GoodIn wsX0_fillGap wsX0_put := goodIn_r _ [6, 7, 1, 8, 9, 10] (by decide +kernel) (by decide +kernel)
set_option maxRecDepth 20000 in
theorem gX0_fillGap_X0_put : GoodIn wsX0_fillGap (wsV RX0 66 RX0 yX0_put wsX0_put) := goodIn_app (goodIn_of _ (by decide +kernel)) ggX0_fillGap_X0_put
theorem dX0_fillGap_0 : decode cX0_fillGap 0 = .ok (.iload_n 1, 1) := by decide +kernel
theorem dX0_fillGap_1 : decode cX0_fillGap 1 = .ok (.istore_n 3, 1) := by decide +kernel
theorem dX0_fillGap_2 : decode cX0_fillGap 2 = .ok (.iconst 0, 1) := by decide +kernel
theorem dX0_fillGap_3 : decode cX0_fillGap 3 = .ok (.istore 4, 2) := by decide +kernel
theorem dX0_fillGap_5 : decode cX0_fillGap 5 = .ok (.iload 4, 2) := by decide +kernel
theorem dX0_fillGap_7 : decode cX0_fillGap 7 = .ok (.sipush 1000, 3) := by decide +kernel
theorem dX0_fillGap_10 : decode cX0_fillGap 10 = .ok (.if_icmp .ge 35, 3) := by decide +kernel
theorem dX0_fillGap_13 : decode cX0_fillGap 13 = .ok (.iload_n 3, 1) := by decide +kernel
theorem dX0_fillGap_14 : decode cX0_fillGap 14 = .ok (.iload_n 2, 1) := by decide +kernel
theorem dX0_fillGap_15 : decode cX0_fillGap 15 = .ok (.if_icmp .ge 30, 3) := by decide +kernel
theorem dX0_fillGap_18 : decode cX0_fillGap 18 = .ok (.aload_n 0, 1) := by decide +kernel
theorem dX0_fillGap_19 : decode cX0_fillGap 19 = .ok (.getfield 13, 3) := by decide +kernel
theorem dX0_fillGap_22 : decode cX0_fillGap 22 = .ok (.iload 4, 2) := by decide +kernel
theorem dX0_fillGap_24 : decode cX0_fillGap 24 = .ok (.iaload, 1) := by decide +kernel
theorem dX0_fillGap_25 : decode cX0_fillGap 25 = .ok (.iconst (-1), 1) := by decide +kernel
theorem dX0_fillGap_26 : decode cX0_fillGap 26 = .ok (.if_icmp .ne 13, 3) := by decide +kernel
theorem dX0_fillGap_29 : decode cX0_fillGap 29 = .ok (.aload_n 0, 1) := by decide +kernel
theorem dX0_fillGap_30 : decode cX0_fillGap 30 = .ok (.iload 4, 2) := by decide +kernel
theorem dX0_fillGap_32 : decode cX0_fillGap 32 = .ok (.iload_n 3, 1) := by decide +kernel
theorem dX0_fillGap_33 : decode cX0_fillGap 33 = .ok (.invokevirtual 66, 3) := by decide +kernel
theorem dX0_fillGap_36 : decode cX0_fillGap 36 = .ok (.iinc 3 1, 3) := by decide +kernel
theorem dX0_fillGap_39 : decode cX0_fillGap 39 = .ok (.iinc 4 1, 3) := by decide +kernel
theorem dX0_fillGap_42 : decode cX0_fillGap 42 = .ok (.goto (-37), 3) := by decide +kernel
theorem dX0_fillGap_45 : decode cX0_fillGap 45 = .ok (.return_, 1) := by decide +kernel
set_option maxRecDepth 20000 in
theorem ggX0_takeOut_X0_put : GoodIn wsX0_takeOut wsX0_put := goodIn_r _ [8, 2, 1, 9, 10, 11] (by decide +kernel) (by decide +kernel)
set_option maxRecDepth 20000 in
theorem gX0_takeOut_X0_put : GoodIn wsX0_takeOut (wsV RX0 66 RX0 yX0_put wsX0_put) := goodIn_app (goodIn_of _ (by decide +kernel)) ggX0_takeOut_X0_put
theorem dX0_takeOut_0 : decode cX0_takeOut 0 = .ok (.iload_n 1, 1) := by decide +kernel
theorem dX0_takeOut_1 : decode cX0_takeOut 1 = .ok (.istore_n 3, 1) := by decide +kernel
theorem dX0_takeOut_2 : decode cX0_takeOut 2 = .ok (.iload_n 3, 1) := by decide +kernel
theorem dX0_takeOut_3 : decode cX0_takeOut 3 = .ok (.iload_n 2, 1) := by decide +kernel
theorem dX0_takeOut_4 : decode cX0_takeOut 4 = .ok (.if_icmp .ge 21, 3) := by decide +kernel
theorem dX0_takeOut_7 : decode cX0_takeOut 7 = .ok (.aload_n 0, 1) := by decide +kernel
theorem dX0_takeOut_8 : decode cX0_takeOut 8 = .ok (.getfield 13, 3) := by decide +kernel
theorem dX0_takeOut_11 : decode cX0_takeOut 11 = .ok (.aload_n 0, 1) := by decide +kernel
theorem dX0_takeOut_12 : decode cX0_takeOut 12 = .ok (.getfield 9, 3) := by decide +kernel
theorem dX0_takeOut_15 : decode cX0_takeOut 15 = .ok (.iload_n 3, 1) := by decide +kernel
theorem dX0_takeOut_16 : decode cX0_takeOut 16 = .ok (.iaload, 1) := by decide +kernel
theorem dX0_takeOut_17 : decode cX0_takeOut 17 = .ok (.iconst (-1), 1) := by decide +kernel
theorem dX0_takeOut_18 : decode cX0_takeOut 18 = .ok (.iastore, 1) := by decide +kernel
theorem dX0_takeOut_19 : decode cX0_takeOut 19 = .ok (.iinc 3 1, 3) := by decide +kernel
theorem dX0_takeOut_22 : decode cX0_takeOut 22 = .ok (.goto (-20), 3) := by decide +kernel
theorem dX0_takeOut_25 : decode cX0_takeOut 25 = .ok (.iload_n 2, 1) := by decide +kernel
theorem dX0_takeOut_26 : decode cX0_takeOut 26 = .ok (.iload_n 1, 1) := by decide +kernel
theorem dX0_takeOut_27 : decode cX0_takeOut 27 = .ok (.isub, 1) := by decide +kernel
theorem dX0_takeOut_28 : decode cX0_takeOut 28 = .ok (.istore_n 3, 1) := by decide +kernel
theorem dX0_takeOut_29 : decode cX0_takeOut 29 = .ok (.iload_n 2, 1) := by decide +kernel
theorem dX0_takeOut_30 : decode cX0_takeOut 30 = .ok (.istore 4, 2) := by decide +kernel
theorem dX0_takeOut_32 : decode cX0_takeOut 32 = .ok (.iload 4, 2) := by decide +kernel
theorem dX0_takeOut_34 : decode cX0_takeOut 34 = .ok (.aload_n 0, 1) := by decide +kernel
theorem dX0_takeOut_35 : decode cX0_takeOut 35 = .ok (.getfield 16, 3) := by decide +kernel
theorem dX0_takeOut_38 : decode cX0_takeOut 38 = .ok (.if_icmp .ge 24, 3) := by decide +kernel
theorem dX0_takeOut_41 : decode cX0_takeOut 41 = .ok (.aload_n 0, 1) := by decide +kernel
theorem dX0_takeOut_42 : decode cX0_takeOut 42 = .ok (.aload_n 0, 1) := by decide +kernel
theorem dX0_takeOut_43 : decode cX0_takeOut 43 = .ok (.getfield 9, 3) := by decide +kernel
theorem dX0_takeOut_46 : decode cX0_takeOut 46 = .ok (.iload 4, 2) := by decide +kernel
theorem dX0_takeOut_48 : decode cX0_takeOut 48 = .ok (.iaload, 1) := by decide +kernel
theorem dX0_takeOut_49 : decode cX0_takeOut 49 = .ok (.iload 4, 2) := by decide +kernel
theorem dX0_takeOut_51 : decode cX0_takeOut 51 = .ok (.iload_n 3, 1) := by decide +kernel
theorem dX0_takeOut_52 : decode cX0_takeOut 52 = .ok (.isub, 1) := by decide +kernel
theorem dX0_takeOut_53 : decode cX0_takeOut 53 = .ok (.invokevirtual 66, 3) := by decide +kernel
theorem dX0_takeOut_56 : decode cX0_takeOut 56 = .ok (.iinc 4 1, 3) := by decide +kernel
theorem dX0_takeOut_59 : decode cX0_takeOut 59 = .ok (.goto (-27), 3) := by decide +kernel
theorem dX0_takeOut_62 : decode cX0_takeOut 62 = .ok (.aload_n 0, 1) := by decide +kernel
theorem dX0_takeOut_63 : decode cX0_takeOut 63 = .ok (.dup, 1) := by decide +kernel
theorem dX0_takeOut_64 : decode cX0_takeOut 64 = .ok (.getfield 16, 3) := by decide +kernel
theorem dX0_takeOut_67 : decode cX0_takeOut 67 = .ok (.iload_n 3, 1) := by decide +kernel
theorem dX0_takeOut_68 : decode cX0_takeOut 68 = .ok (.isub, 1) := by decide +kernel
theorem dX0_takeOut_69 : decode cX0_takeOut 69 = .ok (.putfield 16, 3) := by decide +kernel
theorem dX0_takeOut_72 : decode cX0_takeOut 72 = .ok (.return_, 1) := by decide +kernel
set_option maxRecDepth 20000 in
theorem ggX0_swapBlocks_X0_turn : GoodIn wsX0_swapBlocks wsX0_turn := goodIn_r _ [5, 6, 7, 8, 9, 4, 10, 11, 12, 13, 14] (by decide +kernel) (by decide +kernel)
set_option maxRecDepth 20000 in
theorem gX0_swapBlocks_X0_turn : GoodIn wsX0_swapBlocks (wsV RX0 69 RX0 yX0_turn wsX0_turn) := goodIn_app (goodIn_of _ (by decide +kernel)) ggX0_swapBlocks_X0_turn
theorem dX0_swapBlocks_0 : decode cX0_swapBlocks 0 = .ok (.aload_n 0, 1) := by decide +kernel
theorem dX0_swapBlocks_1 : decode cX0_swapBlocks 1 = .ok (.iload_n 1, 1) := by decide +kernel
theorem dX0_swapBlocks_2 : decode cX0_swapBlocks 2 = .ok (.iload_n 2, 1) := by decide +kernel
theorem dX0_swapBlocks_3 : decode cX0_swapBlocks 3 = .ok (.invokevirtual 69, 3) := by decide +kernel
theorem dX0_swapBlocks_6 : decode cX0_swapBlocks 6 = .ok (.aload_n 0, 1) := by decide +kernel
theorem dX0_swapBlocks_7 : decode cX0_swapBlocks 7 = .ok (.iload_n 2, 1) := by decide +kernel
theorem dX0_swapBlocks_8 : decode cX0_swapBlocks 8 = .ok (.iload_n 3, 1) := by decide +kernel
theorem dX0_swapBlocks_9 : decode cX0_swapBlocks 9 = .ok (.invokevirtual 69, 3) := by decide +kernel
theorem dX0_swapBlocks_12 : decode cX0_swapBlocks 12 = .ok (.aload_n 0, 1) := by decide +kernel
theorem dX0_swapBlocks_13 : decode cX0_swapBlocks 13 = .ok (.iload_n 1, 1) := by decide +kernel
theorem dX0_swapBlocks_14 : decode cX0_swapBlocks 14 = .ok (.iload_n 3, 1) := by decide +kernel
theorem dX0_swapBlocks_15 : decode cX0_swapBlocks 15 = .ok (.invokevirtual 69, 3) := by decide +kernel
theorem dX0_swapBlocks_18 : decode cX0_swapBlocks 18 = .ok (.return_, 1) := by decide +kernel
set_option maxRecDepth 20000 in
theorem ggX0_turn_X0_put : GoodIn wsX0_turn wsX0_put := goodIn_r _ [6, 1, 7, 8, 9, 10] (by decide +kernel) (by decide +kernel)
set_option maxRecDepth 20000 in
theorem gX0_turn_X0_put : GoodIn wsX0_turn (wsV RX0 66 RX0 yX0_put wsX0_put) := goodIn_app (goodIn_of _ (by decide +kernel)) ggX0_turn_X0_put
theorem dX0_turn_0 : decode cX0_turn 0 = .ok (.iload_n 2, 1) := by decide +kernel
theorem dX0_turn_1 : decode cX0_turn 1 = .ok (.iconst 1, 1) := by decide +kernel
theorem dX0_turn_2 : decode cX0_turn 2 = .ok (.isub, 1) := by decide +kernel
theorem dX0_turn_3 : decode cX0_turn 3 = .ok (.istore_n 3, 1) := by decide +kernel
theorem dX0_turn_4 : decode cX0_turn 4 = .ok (.iload_n 1, 1) := by decide +kernel
theorem dX0_turn_5 : decode cX0_turn 5 = .ok (.istore 4, 2) := by decide +kernel
theorem dX0_turn_7 : decode cX0_turn 7 = .ok (.iload 4, 2) := by decide +kernel
theorem dX0_turn_9 : decode cX0_turn 9 = .ok (.iload_n 3, 1) := by decide +kernel
theorem dX0_turn_10 : decode cX0_turn 10 = .ok (.if_icmp .ge 40, 3) := by decide +kernel
theorem dX0_turn_13 : decode cX0_turn 13 = .ok (.aload_n 0, 1) := by decide +kernel
theorem dX0_turn_14 : decode cX0_turn 14 = .ok (.getfield 9, 3) := by decide +kernel
theorem dX0_turn_17 : decode cX0_turn 17 = .ok (.iload 4, 2) := by decide +kernel
theorem dX0_turn_19 : decode cX0_turn 19 = .ok (.iaload, 1) := by decide +kernel
theorem dX0_turn_20 : decode cX0_turn 20 = .ok (.istore 5, 2) := by decide +kernel
theorem dX0_turn_22 : decode cX0_turn 22 = .ok (.aload_n 0, 1) := by decide +kernel
theorem dX0_turn_23 : decode cX0_turn 23 = .ok (.aload_n 0, 1) := by decide +kernel
theorem dX0_turn_24 : decode cX0_turn 24 = .ok (.getfield 9, 3) := by decide +kernel
theorem dX0_turn_27 : decode cX0_turn 27 = .ok (.iload_n 3, 1) := by decide +kernel
theorem dX0_turn_28 : decode cX0_turn 28 = .ok (.iaload, 1) := by decide +kernel
theorem dX0_turn_29 : decode cX0_turn 29 = .ok (.iload 4, 2) := by decide +kernel
theorem dX0_turn_31 : decode cX0_turn 31 = .ok (.invokevirtual 66, 3) := by decide +kernel
theorem dX0_turn_34 : decode cX0_turn 34 = .ok (.aload_n 0, 1) := by decide +kernel
theorem dX0_turn_35 : decode cX0_turn 35 = .ok (.iload 5, 2) := by decide +kernel
theorem dX0_turn_37 : decode cX0_turn 37 = .ok (.iload_n 3, 1) := by decide +kernel
theorem dX0_turn_38 : decode cX0_turn 38 = .ok (.invokevirtual 66, 3) := by decide +kernel
theorem dX0_turn_41 : decode cX0_turn 41 = .ok (.iinc 3 (-1), 3) := by decide +kernel
theorem dX0_turn_44 : decode cX0_turn 44 = .ok (.iinc 4 1, 3) := by decide +kernel
theorem dX0_turn_47 : decode cX0_turn 47 = .ok (.goto (-40), 3) := by decide +kernel
theorem dX0_turn_50 : decode cX0_turn 50 = .ok (.return_, 1) := by decide +kernel
theorem dX0_put_0 : decode cX0_put 0 = .ok (.aload_n 0, 1) := by decide +kernel
theorem dX0_put_1 : decode cX0_put 1 = .ok (.getfield 9, 3) := by decide +kernel
theorem dX0_put_4 : decode cX0_put 4 = .ok (.iload_n 2, 1) := by decide +kernel
theorem dX0_put_5 : decode cX0_put 5 = .ok (.iload_n 1, 1) := by decide +kernel
theorem dX0_put_6 : decode cX0_put 6 = .ok (.iastore, 1) := by decide +kernel
theorem dX0_put_7 : decode cX0_put 7 = .ok (.aload_n 0, 1) := by decide +kernel
theorem dX0_put_8 : decode cX0_put 8 = .ok (.getfield 13, 3) := by decide +kernel
theorem dX0_put_11 : decode cX0_put 11 = .ok (.iload_n 1, 1) := by decide +kernel
theorem dX0_put_12 : decode cX0_put 12 = .ok (.iload_n 2, 1) := by decide +kernel
theorem dX0_put_13 : decode cX0_put 13 = .ok (.iastore, 1) := by decide +kernel
theorem dX0_put_14 : decode cX0_put 14 = .ok (.return_, 1) := by decide +kernel
theorem dX1_init_0 : decode cX1_init 0 = .ok (.aload_n 0, 1) := by decide +kernel
theorem dX1_init_1 : decode cX1_init 1 = .ok (.invokespecial 1, 3) := by decide +kernel
theorem dX1_init_4 : decode cX1_init 4 = .ok (.aload_n 0, 1) := by decide +kernel
theorem dX1_init_5 : decode cX1_init 5 = .ok (.sipush 1000, 3) := by decide +kernel
theorem dX1_init_8 : decode cX1_init 8 = .ok (.newarray .int, 2) := by decide +kernel
theorem dX1_init_10 : decode cX1_init 10 = .ok (.putfield 7, 3) := by decide +kernel
theorem dX1_init_13 : decode cX1_init 13 = .ok (.aload_n 0, 1) := by decide +kernel
theorem dX1_init_14 : decode cX1_init 14 = .ok (.iconst 1, 1) := by decide +kernel
theorem dX1_init_15 : decode cX1_init 15 = .ok (.putfield 13, 3) := by decide +kernel
theorem dX1_init_18 : decode cX1_init 18 = .ok (.aload_n 0, 1) := by decide +kernel
theorem dX1_init_19 : decode cX1_init 19 = .ok (.sipush 1000, 3) := by decide +kernel
theorem dX1_init_22 : decode cX1_init 22 = .ok (.newarray .int, 2) := by decide +kernel
theorem dX1_init_24 : decode cX1_init 24 = .ok (.putfield 17, 3) := by decide +kernel
theorem dX1_init_27 : decode cX1_init 27 = .ok (.return_, 1) := by decide +kernel
theorem dX1_thrown_0 : decode cX1_thrown 0 = .ok (.aload_n 0, 1) := by decide +kernel
theorem dX1_thrown_1 : decode cX1_thrown 1 = .ok (.getfield 20, 3) := by decide +kernel
theorem dX1_thrown_4 : decode cX1_thrown 4 = .ok (.ireturn, 1) := by decide +kernel
theorem dX1_behind_0 : decode cX1_behind 0 = .ok (.aload_n 0, 1) := by decide +kernel
theorem dX1_behind_1 : decode cX1_behind 1 = .ok (.iload_n 1, 1) := by decide +kernel
theorem dX1_behind_2 : decode cX1_behind 2 = .ok (.iconst 0, 1) := by decide +kernel
theorem dX1_behind_3 : decode cX1_behind 3 = .ok (.iconst 0, 1) := by decide +kernel
theorem dX1_behind_4 : decode cX1_behind 4 = .ok (.invokevirtual 27, 3) := by decide +kernel
theorem dX1_behind_7 : decode cX1_behind 7 = .ok (.ifCond .eq 5, 3) := by decide +kernel
theorem dX1_behind_10 : decode cX1_behind 10 = .ok (.iconst 0, 1) := by decide +kernel
theorem dX1_behind_11 : decode cX1_behind 11 = .ok (.ireturn, 1) := by decide +kernel
theorem dX1_behind_12 : decode cX1_behind 12 = .ok (.aload_n 0, 1) := by decide +kernel
theorem dX1_behind_13 : decode cX1_behind 13 = .ok (.invokevirtual 31, 3) := by decide +kernel
theorem dX1_behind_16 : decode cX1_behind 16 = .ok (.istore_n 2, 1) := by decide +kernel
theorem dX1_behind_17 : decode cX1_behind 17 = .ok (.iload_n 2, 1) := by decide +kernel
theorem dX1_behind_18 : decode cX1_behind 18 = .ok (.ifCond .lt 15, 3) := by decide +kernel
theorem dX1_behind_21 : decode cX1_behind 21 = .ok (.aload_n 0, 1) := by decide +kernel
theorem dX1_behind_22 : decode cX1_behind 22 = .ok (.iload_n 2, 1) := by decide +kernel
theorem dX1_behind_23 : decode cX1_behind 23 = .ok (.aload_n 0, 1) := by decide +kernel
theorem dX1_behind_24 : decode cX1_behind 24 = .ok (.iload_n 1, 1) := by decide +kernel
theorem dX1_behind_25 : decode cX1_behind 25 = .ok (.invokevirtual 23, 3) := by decide +kernel
theorem dX1_behind_28 : decode cX1_behind 28 = .ok (.iconst 1, 1) := by decide +kernel
theorem dX1_behind_29 : decode cX1_behind 29 = .ok (.iadd, 1) := by decide +kernel
theorem dX1_behind_30 : decode cX1_behind 30 = .ok (.invokevirtual 35, 3) := by decide +kernel
theorem dX1_behind_33 : decode cX1_behind 33 = .ok (.iload_n 2, 1) := by decide +kernel
theorem dX1_behind_34 : decode cX1_behind 34 = .ok (.ireturn, 1) := by decide +kernel
theorem dJ9_max_7cf53_0 : decode cJ9_max_7cf53 0 = .ok (.iload_n 0, 1) := by decide +kernel
theorem dJ9_max_7cf53_1 : decode cJ9_max_7cf53 1 = .ok (.iload_n 1, 1) := by decide +kernel
theorem dJ9_max_7cf53_2 : decode cJ9_max_7cf53 2 = .ok (.if_icmp .lt 7, 3) := by decide +kernel
theorem dJ9_max_7cf53_5 : decode cJ9_max_7cf53 5 = .ok (.iload_n 0, 1) := by decide +kernel
theorem dJ9_max_7cf53_6 : decode cJ9_max_7cf53 6 = .ok (.goto 4, 3) := by decide +kernel
theorem dJ9_max_7cf53_9 : decode cJ9_max_7cf53 9 = .ok (.iload_n 1, 1) := by decide +kernel
theorem dJ9_max_7cf53_10 : decode cJ9_max_7cf53 10 = .ok (.ireturn, 1) := by decide +kernel
set_option maxRecDepth 20000 in
theorem ggL_behind_X0_behind : GoodIn wsL_behind wsX0_behind := goodIn_ca (goodIn_r _ [6, 7, 8, 9, 10, 5, 11, 12, 13, 14, 15, 16, 17, 18, 19, 20, 21, 22, 23, 24, 25, 26, 27, 28, 29, 30, 31, 32, 33, 34, 35, 36, 37, 38] (by decide +kernel) (by decide +kernel)) (goodIn_sub (fun _ h => List.mem_cons_of_mem _ (List.mem_append_right _ h)) (by decide +kernel))
set_option maxRecDepth 20000 in
theorem gL_behind_X0_behind : GoodIn wsL_behind (wsV RL 7 RX0 yX0_behind wsX0_behind) := goodIn_app (goodIn_of _ (by decide +kernel)) ggL_behind_X0_behind
theorem dL_behind_0 : decode cL_behind 0 = .ok (.aload_n 2, 1) := by decide +kernel
theorem dL_behind_1 : decode cL_behind 1 = .ok (.iconst 0, 1) := by decide +kernel
theorem dL_behind_2 : decode cL_behind 2 = .ok (.aload_n 0, 1) := by decide +kernel
theorem dL_behind_3 : decode cL_behind 3 = .ok (.iload_n 1, 1) := by decide +kernel
theorem dL_behind_4 : decode cL_behind 4 = .ok (.invokevirtual 7, 3) := by decide +kernel
theorem dL_behind_7 : decode cL_behind 7 = .ok (.i2l, 1) := by decide +kernel
theorem dL_behind_8 : decode cL_behind 8 = .ok (.lastore, 1) := by decide +kernel
theorem dL_behind_9 : decode cL_behind 9 = .ok (.goto 6, 3) := by decide +kernel
theorem dL_behind_12 : decode cL_behind 12 = .ok (.astore_n 3, 1) := by decide +kernel
theorem dL_behind_13 : decode cL_behind 13 = .ok (.iconst 1, 1) := by decide +kernel
theorem dL_behind_14 : decode cL_behind 14 = .ok (.ireturn, 1) := by decide +kernel
theorem dL_behind_15 : decode cL_behind 15 = .ok (.iconst 0, 1) := by decide +kernel
theorem dL_behind_16 : decode cL_behind 16 = .ok (.ireturn, 1) := by decide +kernel
set_option maxRecDepth 20000 in
theorem ggL_several_X0_several : GoodIn wsL_several wsX0_several := goodIn_ca (goodIn_r _ [6, 7, 8, 9, 10, 5, 11, 12, 13, 14, 15, 16, 17, 18, 19, 20, 21, 22, 23, 24, 25, 26, 27, 28, 29, 30, 31, 32, 33, 34, 35, 36, 37, 38] (by decide +kernel) (by decide +kernel)) (goodIn_sub (fun _ h => List.mem_cons_of_mem _ (List.mem_append_right _ h)) (by decide +kernel))
set_option maxRecDepth 20000 in
theorem gL_several_X0_several : GoodIn wsL_several (wsV RL 15 RX0 yX0_several wsX0_several) := goodIn_app (goodIn_of _ (by decide +kernel)) ggL_several_X0_several
theorem dL_several_0 : decode cL_several 0 = .ok (.aload_n 3, 1) := by decide +kernel
theorem dL_several_1 : decode cL_several 1 = .ok (.iconst 0, 1) := by decide +kernel
theorem dL_several_2 : decode cL_several 2 = .ok (.aload_n 0, 1) := by decide +kernel
theorem dL_several_3 : decode cL_several 3 = .ok (.iload_n 1, 1) := by decide +kernel
theorem dL_several_4 : decode cL_several 4 = .ok (.iload_n 2, 1) := by decide +kernel
theorem dL_several_5 : decode cL_several 5 = .ok (.invokevirtual 15, 3) := by decide +kernel
theorem dL_several_8 : decode cL_several 8 = .ok (.i2l, 1) := by decide +kernel
theorem dL_several_9 : decode cL_several 9 = .ok (.lastore, 1) := by decide +kernel
theorem dL_several_10 : decode cL_several 10 = .ok (.goto 7, 3) := by decide +kernel
theorem dL_several_13 : decode cL_several 13 = .ok (.astore 4, 2) := by decide +kernel
theorem dL_several_15 : decode cL_several 15 = .ok (.iconst 1, 1) := by decide +kernel
theorem dL_several_16 : decode cL_several 16 = .ok (.ireturn, 1) := by decide +kernel
theorem dL_several_17 : decode cL_several 17 = .ok (.iconst 0, 1) := by decide +kernel
theorem dL_several_18 : decode cL_several 18 = .ok (.ireturn, 1) := by decide +kernel
set_option maxRecDepth 20000 in
theorem ggL_clear_X0_clear : GoodIn wsL_clear wsX0_clear := goodIn_ca (goodIn_r _ [6, 7, 8, 9, 10, 5, 11, 12, 13, 14, 15, 16, 17, 18, 19, 20, 21, 22, 23, 24, 25, 26, 27, 28, 29, 30] (by decide +kernel) (by decide +kernel)) (goodIn_sub (fun _ h => List.mem_cons_of_mem _ (List.mem_append_right _ h)) (by decide +kernel))
set_option maxRecDepth 20000 in
theorem gL_clear_X0_clear : GoodIn wsL_clear (wsV RL 19 RX0 yX0_clear wsX0_clear) := goodIn_app (goodIn_of _ (by decide +kernel)) ggL_clear_X0_clear
theorem dL_clear_0 : decode cL_clear 0 = .ok (.aload_n 3, 1) := by decide +kernel
theorem dL_clear_1 : decode cL_clear 1 = .ok (.iconst 0, 1) := by decide +kernel
theorem dL_clear_2 : decode cL_clear 2 = .ok (.aload_n 0, 1) := by decide +kernel
theorem dL_clear_3 : decode cL_clear 3 = .ok (.iload_n 1, 1) := by decide +kernel
theorem dL_clear_4 : decode cL_clear 4 = .ok (.iload_n 2, 1) := by decide +kernel
theorem dL_clear_5 : decode cL_clear 5 = .ok (.invokevirtual 19, 3) := by decide +kernel
theorem dL_clear_8 : decode cL_clear 8 = .ok (.i2l, 1) := by decide +kernel
theorem dL_clear_9 : decode cL_clear 9 = .ok (.lastore, 1) := by decide +kernel
theorem dL_clear_10 : decode cL_clear 10 = .ok (.goto 7, 3) := by decide +kernel
theorem dL_clear_13 : decode cL_clear 13 = .ok (.astore 4, 2) := by decide +kernel
theorem dL_clear_15 : decode cL_clear 15 = .ok (.iconst 1, 1) := by decide +kernel
theorem dL_clear_16 : decode cL_clear 16 = .ok (.ireturn, 1) := by decide +kernel
theorem dL_clear_17 : decode cL_clear 17 = .ok (.iconst 0, 1) := by decide +kernel
theorem dL_clear_18 : decode cL_clear 18 = .ok (.ireturn, 1) := by decide +kernel
set_option maxRecDepth 20000 in
theorem ggL_carry_X0_carry : GoodIn wsL_carry wsX0_carry := goodIn_ca (goodIn_r _ [6, 7, 8, 9, 10, 5, 11, 12, 13, 14, 15, 16, 17, 18, 19, 20, 21, 22, 23, 24, 25, 26, 27, 28, 29, 30, 31, 32, 33] (by decide +kernel) (by decide +kernel)) (goodIn_sub (fun _ h => List.mem_cons_of_mem _ (List.mem_append_right _ h)) (by decide +kernel))
set_option maxRecDepth 20000 in
theorem gL_carry_X0_carry : GoodIn wsL_carry (wsV RL 22 RX0 yX0_carry wsX0_carry) := goodIn_app (goodIn_of _ (by decide +kernel)) ggL_carry_X0_carry
theorem dL_carry_0 : decode cL_carry 0 = .ok (.aload 4, 2) := by decide +kernel
theorem dL_carry_2 : decode cL_carry 2 = .ok (.iconst 0, 1) := by decide +kernel
theorem dL_carry_3 : decode cL_carry 3 = .ok (.aload_n 0, 1) := by decide +kernel
theorem dL_carry_4 : decode cL_carry 4 = .ok (.iload_n 1, 1) := by decide +kernel
theorem dL_carry_5 : decode cL_carry 5 = .ok (.iload_n 2, 1) := by decide +kernel
theorem dL_carry_6 : decode cL_carry 6 = .ok (.iload_n 3, 1) := by decide +kernel
theorem dL_carry_7 : decode cL_carry 7 = .ok (.invokevirtual 22, 3) := by decide +kernel
theorem dL_carry_10 : decode cL_carry 10 = .ok (.i2l, 1) := by decide +kernel
theorem dL_carry_11 : decode cL_carry 11 = .ok (.lastore, 1) := by decide +kernel
theorem dL_carry_12 : decode cL_carry 12 = .ok (.goto 7, 3) := by decide +kernel
theorem dL_carry_15 : decode cL_carry 15 = .ok (.astore 5, 2) := by decide +kernel
theorem dL_carry_17 : decode cL_carry 17 = .ok (.iconst 1, 1) := by decide +kernel
theorem dL_carry_18 : decode cL_carry 18 = .ok (.ireturn, 1) := by decide +kernel
theorem dL_carry_19 : decode cL_carry 19 = .ok (.iconst 0, 1) := by decide +kernel
theorem dL_carry_20 : decode cL_carry 20 = .ok (.ireturn, 1) := by decide +kernel
set_option maxRecDepth 20000 in
theorem ggL_compare_X0_compare : GoodIn wsL_compare wsX0_compare := goodIn_ca (goodIn_r _ [6, 7, 8, 9, 10, 5, 11, 12, 13, 14, 15, 16, 17, 18, 19, 20] (by decide +kernel) (by decide +kernel)) (goodIn_sub (fun _ h => List.mem_cons_of_mem _ (List.mem_append_right _ h)) (by decide +kernel))
set_option maxRecDepth 20000 in
theorem gL_compare_X0_compare : GoodIn wsL_compare (wsV RL 26 RX0 yX0_compare wsX0_compare) := goodIn_app (goodIn_of _ (by decide +kernel)) ggL_compare_X0_compare
theorem dL_compare_0 : decode cL_compare 0 = .ok (.aload_n 3, 1) := by decide +kernel
theorem dL_compare_1 : decode cL_compare 1 = .ok (.iconst 0, 1) := by decide +kernel
theorem dL_compare_2 : decode cL_compare 2 = .ok (.aload_n 0, 1) := by decide +kernel
theorem dL_compare_3 : decode cL_compare 3 = .ok (.iload_n 1, 1) := by decide +kernel
theorem dL_compare_4 : decode cL_compare 4 = .ok (.iload_n 2, 1) := by decide +kernel
theorem dL_compare_5 : decode cL_compare 5 = .ok (.invokevirtual 26, 3) := by decide +kernel
theorem dL_compare_8 : decode cL_compare 8 = .ok (.i2l, 1) := by decide +kernel
theorem dL_compare_9 : decode cL_compare 9 = .ok (.lastore, 1) := by decide +kernel
theorem dL_compare_10 : decode cL_compare 10 = .ok (.goto 7, 3) := by decide +kernel
theorem dL_compare_13 : decode cL_compare 13 = .ok (.astore 4, 2) := by decide +kernel
theorem dL_compare_15 : decode cL_compare 15 = .ok (.iconst 1, 1) := by decide +kernel
theorem dL_compare_16 : decode cL_compare 16 = .ok (.ireturn, 1) := by decide +kernel
theorem dL_compare_17 : decode cL_compare 17 = .ok (.iconst 0, 1) := by decide +kernel
theorem dL_compare_18 : decode cL_compare 18 = .ok (.ireturn, 1) := by decide +kernel
set_option maxRecDepth 20000 in
theorem ggL_next_X0_next : GoodIn wsL_next wsX0_next := goodIn_ca (goodIn_r _ [6, 7, 8, 9, 10, 5, 11, 12, 13, 14, 15, 16, 17, 18, 19, 20, 21, 22, 23, 24, 25, 26] (by decide +kernel) (by decide +kernel)) (goodIn_sub (fun _ h => List.mem_cons_of_mem _ (List.mem_append_right _ h)) (by decide +kernel))
set_option maxRecDepth 20000 in
theorem gL_next_X0_next : GoodIn wsL_next (wsV RL 29 RX0 yX0_next wsX0_next) := goodIn_app (goodIn_of _ (by decide +kernel)) ggL_next_X0_next
theorem dL_next_0 : decode cL_next 0 = .ok (.aload_n 3, 1) := by decide +kernel
theorem dL_next_1 : decode cL_next 1 = .ok (.iconst 0, 1) := by decide +kernel
theorem dL_next_2 : decode cL_next 2 = .ok (.aload_n 0, 1) := by decide +kernel
theorem dL_next_3 : decode cL_next 3 = .ok (.iload_n 1, 1) := by decide +kernel
theorem dL_next_4 : decode cL_next 4 = .ok (.iload_n 2, 1) := by decide +kernel
theorem dL_next_5 : decode cL_next 5 = .ok (.invokevirtual 29, 3) := by decide +kernel
theorem dL_next_8 : decode cL_next 8 = .ok (.i2l, 1) := by decide +kernel
theorem dL_next_9 : decode cL_next 9 = .ok (.lastore, 1) := by decide +kernel
theorem dL_next_10 : decode cL_next 10 = .ok (.goto 7, 3) := by decide +kernel
theorem dL_next_13 : decode cL_next 13 = .ok (.astore 4, 2) := by decide +kernel
theorem dL_next_15 : decode cL_next 15 = .ok (.iconst 1, 1) := by decide +kernel
theorem dL_next_16 : decode cL_next 16 = .ok (.ireturn, 1) := by decide +kernel
theorem dL_next_17 : decode cL_next 17 = .ok (.iconst 0, 1) := by decide +kernel
theorem dL_next_18 : decode cL_next 18 = .ok (.ireturn, 1) := by decide +kernel
set_option maxRecDepth 20000 in
theorem ggL_place_X0_place : GoodIn wsL_place wsX0_place := goodIn_ca (goodIn_r _ [6, 7, 8, 9, 10, 5, 11, 12, 13, 14, 15, 16, 17, 18, 19, 20] (by decide +kernel) (by decide +kernel)) (goodIn_sub (fun _ h => List.mem_cons_of_mem _ (List.mem_append_right _ h)) (by decide +kernel))
set_option maxRecDepth 20000 in
theorem gL_place_X0_place : GoodIn wsL_place (wsV RL 33 RX0 yX0_place wsX0_place) := goodIn_app (goodIn_of _ (by decide +kernel)) ggL_place_X0_place
theorem dL_place_0 : decode cL_place 0 = .ok (.aload_n 2, 1) := by decide +kernel
theorem dL_place_1 : decode cL_place 1 = .ok (.iconst 0, 1) := by decide +kernel
theorem dL_place_2 : decode cL_place 2 = .ok (.aload_n 0, 1) := by decide +kernel
theorem dL_place_3 : decode cL_place 3 = .ok (.iload_n 1, 1) := by decide +kernel
theorem dL_place_4 : decode cL_place 4 = .ok (.invokevirtual 33, 3) := by decide +kernel
theorem dL_place_7 : decode cL_place 7 = .ok (.i2l, 1) := by decide +kernel
theorem dL_place_8 : decode cL_place 8 = .ok (.lastore, 1) := by decide +kernel
theorem dL_place_9 : decode cL_place 9 = .ok (.goto 6, 3) := by decide +kernel
theorem dL_place_12 : decode cL_place 12 = .ok (.astore_n 3, 1) := by decide +kernel
theorem dL_place_13 : decode cL_place 13 = .ok (.iconst 1, 1) := by decide +kernel
theorem dL_place_14 : decode cL_place 14 = .ok (.ireturn, 1) := by decide +kernel
theorem dL_place_15 : decode cL_place 15 = .ok (.iconst 0, 1) := by decide +kernel
theorem dL_place_16 : decode cL_place 16 = .ok (.ireturn, 1) := by decide +kernel
set_option maxRecDepth 20000 in
theorem ggL_greatest_X0_greatest : GoodIn wsL_greatest wsX0_greatest := goodIn_ca (goodIn_r _ [6, 7, 8, 9, 10, 11, 12, 13, 14, 15, 5, 16, 17, 18, 19, 20, 21, 22, 23, 24, 25] (by decide +kernel) (by decide +kernel)) (goodIn_sub (fun _ h => List.mem_cons_of_mem _ (List.mem_append_right _ h)) (by decide +kernel))
set_option maxRecDepth 20000 in
theorem gL_greatest_X0_greatest : GoodIn wsL_greatest (wsV RL 36 RX0 yX0_greatest wsX0_greatest) := goodIn_app (goodIn_of _ (by decide +kernel)) ggL_greatest_X0_greatest
theorem dL_greatest_0 : decode cL_greatest 0 = .ok (.aload_n 3, 1) := by decide +kernel
theorem dL_greatest_1 : decode cL_greatest 1 = .ok (.iconst 0, 1) := by decide +kernel
theorem dL_greatest_2 : decode cL_greatest 2 = .ok (.aload_n 0, 1) := by decide +kernel
theorem dL_greatest_3 : decode cL_greatest 3 = .ok (.iload_n 1, 1) := by decide +kernel
theorem dL_greatest_4 : decode cL_greatest 4 = .ok (.iload_n 2, 1) := by decide +kernel
theorem dL_greatest_5 : decode cL_greatest 5 = .ok (.invokevirtual 36, 3) := by decide +kernel
theorem dL_greatest_8 : decode cL_greatest 8 = .ok (.i2l, 1) := by decide +kernel
theorem dL_greatest_9 : decode cL_greatest 9 = .ok (.lastore, 1) := by decide +kernel
theorem dL_greatest_10 : decode cL_greatest 10 = .ok (.goto 7, 3) := by decide +kernel
theorem dL_greatest_13 : decode cL_greatest 13 = .ok (.astore 4, 2) := by decide +kernel
theorem dL_greatest_15 : decode cL_greatest 15 = .ok (.iconst 1, 1) := by decide +kernel
theorem dL_greatest_16 : decode cL_greatest 16 = .ok (.ireturn, 1) := by decide +kernel
theorem dL_greatest_17 : decode cL_greatest 17 = .ok (.iconst 0, 1) := by decide +kernel
theorem dL_greatest_18 : decode cL_greatest 18 = .ok (.ireturn, 1) := by decide +kernel
set_option maxRecDepth 20000 in
theorem ggL_law_X0_init : GoodIn wsL_law wsX0_init := goodIn_r _ [8, 9, 10, 11, 12, 13, 14, 15, 154, 155, 156] (by decide +kernel) (by decide +kernel)
set_option maxRecDepth 20000 in
theorem gL_law_X0_init : GoodIn wsL_law (wsX0_init) := ggL_law_X0_init
set_option maxRecDepth 20000 in
theorem ggL_law_X1_init : GoodIn wsL_law wsX1_init := goodIn_r _ [18, 19, 10, 11, 12, 20, 21, 22, 157, 158, 159, 160] (by decide +kernel) (by decide +kernel)
set_option maxRecDepth 20000 in
theorem gL_law_X1_init : GoodIn wsL_law (wsX1_init) := ggL_law_X1_init
set_option maxRecDepth 20000 in
theorem ggL_law_L_behind : GoodIn wsL_law wsL_behind := goodIn_ca (goodIn_r _ [26, 27, 28, 29, 30, 2, 31, 15, 32, 33, 34, 35, 36, 37, 38, 39, 40, 41, 14, 42, 43, 44, 45, 13, 46, 47, 48, 49, 50, 51, 52, 53, 54, 55, 56, 57, 154, 155, 156] (by decide +kernel) (by decide +kernel)) (goodIn_sub (fun _ h => List.mem_append_right _ h) (by decide +kernel))
set_option maxRecDepth 20000 in
theorem gL_law_L_behind : GoodIn wsL_law (va_wsS RL 43 yL_behind wsL_behind) := goodIn_app (goodIn_of _ (by decide +kernel)) ggL_law_L_behind
set_option maxRecDepth 20000 in
theorem ggL_law_X1_thrown : GoodIn wsL_law wsX1_thrown := goodIn_r _ [65, 66, 157, 158, 159, 160] (by decide +kernel) (by decide +kernel)
set_option maxRecDepth 20000 in
theorem gL_law_X1_thrown : GoodIn wsL_law (wsV RL 49 RX1 yX1_thrown wsX1_thrown) := goodIn_app (goodIn_of _ (by decide +kernel)) ggL_law_X1_thrown
set_option maxRecDepth 20000 in
theorem ggL_law_L_several : GoodIn wsL_law wsL_several := goodIn_ca (goodIn_r _ [69, 27, 70, 71, 72, 2, 73, 15, 32, 33, 34, 35, 36, 37, 38, 39, 40, 41, 14, 42, 43, 44, 45, 13, 46, 47, 48, 49, 50, 51, 52, 53, 54, 55, 56, 57, 154, 155, 156] (by decide +kernel) (by decide +kernel)) (goodIn_sub (fun _ h => List.mem_append_right _ h) (by decide +kernel))
set_option maxRecDepth 20000 in
theorem gL_law_L_several : GoodIn wsL_law (va_wsS RL 53 yL_several wsL_several) := goodIn_app (goodIn_of _ (by decide +kernel)) ggL_law_L_several
set_option maxRecDepth 20000 in
theorem ggL_law_X0_remove : GoodIn wsL_law wsX0_remove := goodIn_r _ [77, 14, 38, 39, 40, 2, 41, 78, 79, 80, 81, 13, 15, 50, 51, 52, 53, 154, 155, 156] (by decide +kernel) (by decide +kernel)
set_option maxRecDepth 20000 in
theorem gL_law_X0_remove : GoodIn wsL_law (wsV RL 57 RX0 yX0_remove wsX0_remove) := goodIn_app (goodIn_of _ (by decide +kernel)) ggL_law_X0_remove
set_option maxRecDepth 20000 in
theorem ggL_law_L_clear : GoodIn wsL_law wsL_clear := goodIn_ca (goodIn_r _ [84, 27, 85, 86, 87, 2, 88, 14, 32, 33, 34, 35, 36, 37, 38, 39, 40, 41, 78, 79, 80, 81, 13, 15, 50, 51, 52, 53, 154, 155, 156] (by decide +kernel) (by decide +kernel)) (goodIn_sub (fun _ h => List.mem_append_right _ h) (by decide +kernel))
set_option maxRecDepth 20000 in
theorem gL_law_L_clear : GoodIn wsL_law (va_wsS RL 62 yL_clear wsL_clear) := goodIn_app (goodIn_of _ (by decide +kernel)) ggL_law_L_clear
set_option maxRecDepth 20000 in
theorem ggL_law_L_carry : GoodIn wsL_law wsL_carry := goodIn_ca (goodIn_r _ [91, 27, 92, 93, 94, 2, 95, 14, 32, 33, 34, 35, 36, 37, 38, 39, 40, 41, 96, 97, 98, 99, 100, 101, 102, 103, 13, 50, 51, 52, 53, 154, 155, 156] (by decide +kernel) (by decide +kernel)) (goodIn_sub (fun _ h => List.mem_append_right _ h) (by decide +kernel))
set_option maxRecDepth 20000 in
theorem gL_law_L_carry : GoodIn wsL_law (va_wsS RL 65 yL_carry wsL_carry) := goodIn_app (goodIn_of _ (by decide +kernel)) ggL_law_L_carry
set_option maxRecDepth 20000 in
theorem ggL_law_L_compare : GoodIn wsL_law wsL_compare := goodIn_ca (goodIn_r _ [106, 27, 107, 108, 109, 2, 110, 14, 32, 33, 34, 35, 36, 37, 38, 39, 40, 41, 154, 155, 156] (by decide +kernel) (by decide +kernel)) (goodIn_sub (fun _ h => List.mem_append_right _ h) (by decide +kernel))
set_option maxRecDepth 20000 in
theorem gL_law_L_compare : GoodIn wsL_law (va_wsS RL 69 yL_compare wsL_compare) := goodIn_app (goodIn_of _ (by decide +kernel)) ggL_law_L_compare
set_option maxRecDepth 20000 in
theorem ggL_law_L_next : GoodIn wsL_law wsL_next := goodIn_ca (goodIn_r _ [113, 27, 114, 115, 116, 2, 117, 14, 32, 33, 34, 35, 36, 37, 38, 39, 40, 41, 118, 119, 120, 121, 15, 13, 154, 155, 156] (by decide +kernel) (by decide +kernel)) (goodIn_sub (fun _ h => List.mem_append_right _ h) (by decide +kernel))
set_option maxRecDepth 20000 in
theorem gL_law_L_next : GoodIn wsL_law (va_wsS RL 72 yL_next wsL_next) := goodIn_app (goodIn_of _ (by decide +kernel)) ggL_law_L_next
set_option maxRecDepth 20000 in
theorem ggL_law_X0_has : GoodIn wsL_law wsX0_has := goodIn_r _ [41, 14, 154, 155, 156] (by decide +kernel) (by decide +kernel)
set_option maxRecDepth 20000 in
theorem gL_law_X0_has : GoodIn wsL_law (wsV RL 76 RX0 yX0_has wsX0_has) := goodIn_app (goodIn_of _ (by decide +kernel)) ggL_law_X0_has
set_option maxRecDepth 20000 in
theorem ggL_law_L_place : GoodIn wsL_law wsL_place := goodIn_ca (goodIn_r _ [125, 27, 126, 127, 128, 2, 129, 14, 32, 33, 34, 35, 36, 37, 38, 39, 40, 41, 154, 155, 156] (by decide +kernel) (by decide +kernel)) (goodIn_sub (fun _ h => List.mem_append_right _ h) (by decide +kernel))
set_option maxRecDepth 20000 in
theorem gL_law_L_place : GoodIn wsL_law (va_wsS RL 80 yL_place wsL_place) := goodIn_app (goodIn_of _ (by decide +kernel)) ggL_law_L_place
set_option maxRecDepth 20000 in
theorem ggL_law_X0_at : GoodIn wsL_law wsX0_at := goodIn_r _ [121, 15, 13, 154, 155, 156] (by decide +kernel) (by decide +kernel)
set_option maxRecDepth 20000 in
theorem gL_law_X0_at : GoodIn wsL_law (wsV RL 83 RX0 yX0_at wsX0_at) := goodIn_app (goodIn_of _ (by decide +kernel)) ggL_law_X0_at
set_option maxRecDepth 20000 in
theorem ggL_law_L_greatest : GoodIn wsL_law wsL_greatest := goodIn_ca (goodIn_r _ [133, 27, 134, 135, 136, 2, 137, 14, 13, 138, 139, 140, 141, 32, 33, 34, 35, 36, 37, 38, 39, 40, 41, 154, 155, 156] (by decide +kernel) (by decide +kernel)) (goodIn_sub (fun _ h => List.mem_append_right _ h) (by decide +kernel))
set_option maxRecDepth 20000 in
theorem gL_law_L_greatest : GoodIn wsL_law (va_wsS RL 87 yL_greatest wsL_greatest) := goodIn_app (goodIn_of _ (by decide +kernel)) ggL_law_L_greatest
set_option maxRecDepth 20000 in
theorem ggL_law_X0_wipe : GoodIn wsL_law wsX0_wipe := goodIn_r _ [145, 15, 78, 79, 80, 2, 81, 14, 13, 50, 51, 52, 53, 154, 155, 156] (by decide +kernel) (by decide +kernel)
set_option maxRecDepth 20000 in
theorem gL_law_X0_wipe : GoodIn wsL_law (wsV RL 90 RX0 yX0_wipe wsX0_wipe) := goodIn_app (goodIn_of _ (by decide +kernel)) ggL_law_X0_wipe
set_option maxRecDepth 20000 in
theorem ggL_law_X0_look : GoodIn wsL_law wsX0_look := goodIn_r _ [149, 15, 118, 119, 120, 2, 121, 13, 150, 151, 152, 153, 14, 154, 155, 156] (by decide +kernel) (by decide +kernel)
set_option maxRecDepth 20000 in
theorem gL_law_X0_look : GoodIn wsL_law (wsV RL 94 RX0 yX0_look wsX0_look) := goodIn_app (goodIn_of _ (by decide +kernel)) ggL_law_X0_look
abbrev vwCl : List vw_C := [(RX0, TX0, 3), (RX1, TX1, 4)]
end
section
abbrev cX1_find : ByteArray := prog_3_method_3_code
def yX1_find : MethodName := ⟨RX1, "find", "(I)I"⟩
abbrev cX1_free : ByteArray := prog_3_method_4_code
def yX1_free : MethodName := ⟨RX1, "free", "()I"⟩
abbrev cX1_put : ByteArray := prog_3_method_5_code
def yX1_put : MethodName := ⟨RX1, "put", "(II)V"⟩
abbrev cX1_drop : ByteArray := prog_3_method_6_code
def yX1_drop : MethodName := ⟨RX1, "drop", "(I)V"⟩
abbrev cX1_lacks : ByteArray := prog_3_method_7_code
def yX1_lacks : MethodName := ⟨RX1, "lacks", "(III)Z"⟩
abbrev cX1_several : ByteArray := prog_3_method_9_code
def yX1_several : MethodName := ⟨RX1, "several", "(II)I"⟩
abbrev cX1_remove : ByteArray := prog_3_method_10_code
def yX1_remove : MethodName := ⟨RX1, "remove", "(I)Z"⟩
abbrev cX1_clear : ByteArray := prog_3_method_11_code
def yX1_clear : MethodName := ⟨RX1, "clear", "(II)I"⟩
abbrev cX1_carry : ByteArray := prog_3_method_12_code
def yX1_carry : MethodName := ⟨RX1, "carry", "(III)I"⟩
abbrev cX1_compare : ByteArray := prog_3_method_13_code
def yX1_compare : MethodName := ⟨RX1, "compare", "(II)I"⟩
abbrev cX1_next : ByteArray := prog_3_method_14_code
def yX1_next : MethodName := ⟨RX1, "next", "(IZ)I"⟩
abbrev cX1_has : ByteArray := prog_3_method_15_code
def yX1_has : MethodName := ⟨RX1, "has", "(I)Z"⟩
abbrev cX1_place : ByteArray := prog_3_method_16_code
def yX1_place : MethodName := ⟨RX1, "place", "(I)I"⟩
abbrev cX1_at : ByteArray := prog_3_method_17_code
def yX1_at : MethodName := ⟨RX1, "at", "(I)I"⟩
abbrev cX1_greatest : ByteArray := prog_3_method_18_code
def yX1_greatest : MethodName := ⟨RX1, "greatest", "(II)I"⟩
abbrev cX1_wipe : ByteArray := prog_3_method_19_code
def yX1_wipe : MethodName := ⟨RX1, "wipe", "()V"⟩
abbrev cX1_look : ByteArray := prog_3_method_20_code
def yX1_look : MethodName := ⟨RX1, "look", "(I)I"⟩
def wsX1_find : List Cond := .code yX1_find cX1_find 3 (some .int) :: ([.fieldLink RX1 13 "OrderLineModel" "many" "I", .fieldLink RX1 7 "OrderLineModel" "line" "[I"] ++ wsX10)
def wsX1_free : List Cond := .code yX1_free cX1_free 2 (some .int) :: ([.methodLink RX1 23 yX1_find, .instanceMethod yX1_find, .selects RX1 yX1_find yX1_find, .initialized RX1, .code yX1_find cX1_find 3 (some .int), .fieldLink RX1 13 "OrderLineModel" "many" "I", .fieldLink RX1 7 "OrderLineModel" "line" "[I"] ++ wsX10)
def wsX1_put : List Cond := .code yX1_put cX1_put 4 none :: ([.fieldLink RX1 13 "OrderLineModel" "many" "I", .fieldLink RX1 7 "OrderLineModel" "line" "[I"] ++ wsX10)
def wsX1_drop : List Cond := .code yX1_drop cX1_drop 3 none :: ([.fieldLink RX1 13 "OrderLineModel" "many" "I", .fieldLink RX1 7 "OrderLineModel" "line" "[I"] ++ wsX10)
def wsX1_lacks : List Cond := .code yX1_lacks cX1_lacks 4 (some .boolean) :: ([.fieldLink RX1 20 "OrderLineModel" "thrown" "I", .methodLink RX1 23 yX1_find, .instanceMethod yX1_find, .selects RX1 yX1_find yX1_find, .initialized RX1, .code yX1_find cX1_find 3 (some .int), .fieldLink RX1 13 "OrderLineModel" "many" "I", .fieldLink RX1 7 "OrderLineModel" "line" "[I"] ++ wsX10)
def wsX1_behind : List Cond := .code yX1_behind cX1_behind 3 (some .int) :: ([.methodLink RX1 27 yX1_lacks, .instanceMethod yX1_lacks, .selects RX1 yX1_lacks yX1_lacks, .initialized RX1, .code yX1_lacks cX1_lacks 4 (some .boolean), .fieldLink RX1 20 "OrderLineModel" "thrown" "I", .methodLink RX1 23 yX1_find, .instanceMethod yX1_find, .selects RX1 yX1_find yX1_find, .code yX1_find cX1_find 3 (some .int), .fieldLink RX1 13 "OrderLineModel" "many" "I", .fieldLink RX1 7 "OrderLineModel" "line" "[I", .methodLink RX1 31 yX1_free, .instanceMethod yX1_free, .selects RX1 yX1_free yX1_free, .code yX1_free cX1_free 2 (some .int), .methodLink RX1 35 yX1_put, .instanceMethod yX1_put, .selects RX1 yX1_put yX1_put, .code yX1_put cX1_put 4 none] ++ wsX10)
def wsX1_several : List Cond := .code yX1_several cX1_several 6 (some .int) :: ([.fieldLink RX1 13 "OrderLineModel" "many" "I", .methodLink RX1 27 yX1_lacks, .instanceMethod yX1_lacks, .selects RX1 yX1_lacks yX1_lacks, .initialized RX1, .code yX1_lacks cX1_lacks 4 (some .boolean), .fieldLink RX1 20 "OrderLineModel" "thrown" "I", .methodLink RX1 23 yX1_find, .instanceMethod yX1_find, .selects RX1 yX1_find yX1_find, .code yX1_find cX1_find 3 (some .int), .fieldLink RX1 7 "OrderLineModel" "line" "[I", .methodLink RX1 31 yX1_free, .instanceMethod yX1_free, .selects RX1 yX1_free yX1_free, .code yX1_free cX1_free 2 (some .int), .methodLink RX1 35 yX1_put, .instanceMethod yX1_put, .selects RX1 yX1_put yX1_put, .code yX1_put cX1_put 4 none] ++ wsX10)
def wsX1_remove : List Cond := .code yX1_remove cX1_remove 3 (some .boolean) :: ([.fieldLink RX1 20 "OrderLineModel" "thrown" "I", .methodLink RX1 23 yX1_find, .instanceMethod yX1_find, .selects RX1 yX1_find yX1_find, .initialized RX1, .code yX1_find cX1_find 3 (some .int), .fieldLink RX1 13 "OrderLineModel" "many" "I", .fieldLink RX1 7 "OrderLineModel" "line" "[I", .methodLink RX1 39 yX1_drop, .instanceMethod yX1_drop, .selects RX1 yX1_drop yX1_drop, .code yX1_drop cX1_drop 3 none] ++ wsX10)
def wsX1_clear : List Cond := .code yX1_clear cX1_clear 4 (some .int) :: ([.methodLink RX1 27 yX1_lacks, .instanceMethod yX1_lacks, .selects RX1 yX1_lacks yX1_lacks, .initialized RX1, .code yX1_lacks cX1_lacks 4 (some .boolean), .fieldLink RX1 20 "OrderLineModel" "thrown" "I", .methodLink RX1 23 yX1_find, .instanceMethod yX1_find, .selects RX1 yX1_find yX1_find, .code yX1_find cX1_find 3 (some .int), .fieldLink RX1 13 "OrderLineModel" "many" "I", .fieldLink RX1 7 "OrderLineModel" "line" "[I", .methodLink RX1 39 yX1_drop, .instanceMethod yX1_drop, .selects RX1 yX1_drop yX1_drop, .code yX1_drop cX1_drop 3 none] ++ wsX10)
def wsX1_carry : List Cond := .code yX1_carry cX1_carry 9 (some .int) :: ([.fieldLink RX1 17 "OrderLineModel" "aside" "[I", .fieldLink RX1 7 "OrderLineModel" "line" "[I", .methodLink RX1 27 yX1_lacks, .instanceMethod yX1_lacks, .selects RX1 yX1_lacks yX1_lacks, .initialized RX1, .code yX1_lacks cX1_lacks 4 (some .boolean), .fieldLink RX1 20 "OrderLineModel" "thrown" "I", .methodLink RX1 23 yX1_find, .instanceMethod yX1_find, .selects RX1 yX1_find yX1_find, .code yX1_find cX1_find 3 (some .int), .fieldLink RX1 13 "OrderLineModel" "many" "I", .methodLink RX1 39 yX1_drop, .instanceMethod yX1_drop, .selects RX1 yX1_drop yX1_drop, .code yX1_drop cX1_drop 3 none, .methodLink RX1 35 yX1_put, .instanceMethod yX1_put, .selects RX1 yX1_put yX1_put, .code yX1_put cX1_put 4 none] ++ wsX10)
def wsX1_compare : List Cond := .code yX1_compare cX1_compare 5 (some .int) :: ([.methodLink RX1 27 yX1_lacks, .instanceMethod yX1_lacks, .selects RX1 yX1_lacks yX1_lacks, .initialized RX1, .code yX1_lacks cX1_lacks 4 (some .boolean), .fieldLink RX1 20 "OrderLineModel" "thrown" "I", .methodLink RX1 23 yX1_find, .instanceMethod yX1_find, .selects RX1 yX1_find yX1_find, .code yX1_find cX1_find 3 (some .int), .fieldLink RX1 13 "OrderLineModel" "many" "I", .fieldLink RX1 7 "OrderLineModel" "line" "[I"] ++ wsX10)
def wsX1_next : List Cond := .code yX1_next cX1_next 4 (some .int) :: ([.fieldLink RX1 13 "OrderLineModel" "many" "I", .fieldLink RX1 7 "OrderLineModel" "line" "[I", .methodLink RX1 27 yX1_lacks, .instanceMethod yX1_lacks, .selects RX1 yX1_lacks yX1_lacks, .initialized RX1, .code yX1_lacks cX1_lacks 4 (some .boolean), .fieldLink RX1 20 "OrderLineModel" "thrown" "I", .methodLink RX1 23 yX1_find, .instanceMethod yX1_find, .selects RX1 yX1_find yX1_find, .code yX1_find cX1_find 3 (some .int)] ++ wsX10)
def wsX1_has : List Cond := .code yX1_has cX1_has 2 (some .boolean) :: ([.fieldLink RX1 20 "OrderLineModel" "thrown" "I", .methodLink RX1 23 yX1_find, .instanceMethod yX1_find, .selects RX1 yX1_find yX1_find, .initialized RX1, .code yX1_find cX1_find 3 (some .int), .fieldLink RX1 13 "OrderLineModel" "many" "I", .fieldLink RX1 7 "OrderLineModel" "line" "[I"] ++ wsX10)
def wsX1_place : List Cond := .code yX1_place cX1_place 2 (some .int) :: ([.methodLink RX1 27 yX1_lacks, .instanceMethod yX1_lacks, .selects RX1 yX1_lacks yX1_lacks, .initialized RX1, .code yX1_lacks cX1_lacks 4 (some .boolean), .fieldLink RX1 20 "OrderLineModel" "thrown" "I", .methodLink RX1 23 yX1_find, .instanceMethod yX1_find, .selects RX1 yX1_find yX1_find, .code yX1_find cX1_find 3 (some .int), .fieldLink RX1 13 "OrderLineModel" "many" "I", .fieldLink RX1 7 "OrderLineModel" "line" "[I"] ++ wsX10)
def wsX1_at : List Cond := .code yX1_at cX1_at 2 (some .int) :: ([.fieldLink RX1 20 "OrderLineModel" "thrown" "I", .fieldLink RX1 13 "OrderLineModel" "many" "I", .fieldLink RX1 7 "OrderLineModel" "line" "[I"] ++ wsX10)
def wsX1_greatest : List Cond := .code yX1_greatest cX1_greatest 5 (some .int) :: ([.fieldLink RX1 7 "OrderLineModel" "line" "[I", .methodLink RX1 27 yX1_lacks, .instanceMethod yX1_lacks, .selects RX1 yX1_lacks yX1_lacks, .initialized RX1, .code yX1_lacks cX1_lacks 4 (some .boolean), .fieldLink RX1 20 "OrderLineModel" "thrown" "I", .methodLink RX1 23 yX1_find, .instanceMethod yX1_find, .selects RX1 yX1_find yX1_find, .code yX1_find cX1_find 3 (some .int), .fieldLink RX1 13 "OrderLineModel" "many" "I"] ++ wsX10)
def wsX1_wipe : List Cond := .code yX1_wipe cX1_wipe 1 none :: ([.fieldLink RX1 20 "OrderLineModel" "thrown" "I", .fieldLink RX1 13 "OrderLineModel" "many" "I", .fieldLink RX1 7 "OrderLineModel" "line" "[I"] ++ wsX10)
def wsX1_look : List Cond := .code yX1_look cX1_look 2 (some .int) :: ([.fieldLink RX1 20 "OrderLineModel" "thrown" "I", .fieldLink RX1 13 "OrderLineModel" "many" "I", .fieldLink RX1 7 "OrderLineModel" "line" "[I", .methodLink RX1 31 yX1_free, .instanceMethod yX1_free, .selects RX1 yX1_free yX1_free, .initialized RX1, .code yX1_free cX1_free 2 (some .int), .methodLink RX1 23 yX1_find, .instanceMethod yX1_find, .selects RX1 yX1_find yX1_find, .code yX1_find cX1_find 3 (some .int)] ++ wsX10)
theorem dX1_find_0 : decode cX1_find 0 = .ok (.iconst 0, 1) := by decide +kernel
theorem dX1_find_1 : decode cX1_find 1 = .ok (.istore_n 2, 1) := by decide +kernel
theorem dX1_find_2 : decode cX1_find 2 = .ok (.iload_n 2, 1) := by decide +kernel
theorem dX1_find_3 : decode cX1_find 3 = .ok (.aload_n 0, 1) := by decide +kernel
theorem dX1_find_4 : decode cX1_find 4 = .ok (.getfield 13, 3) := by decide +kernel
theorem dX1_find_7 : decode cX1_find 7 = .ok (.if_icmp .ge 21, 3) := by decide +kernel
theorem dX1_find_10 : decode cX1_find 10 = .ok (.aload_n 0, 1) := by decide +kernel
theorem dX1_find_11 : decode cX1_find 11 = .ok (.getfield 7, 3) := by decide +kernel
theorem dX1_find_14 : decode cX1_find 14 = .ok (.iload_n 2, 1) := by decide +kernel
theorem dX1_find_15 : decode cX1_find 15 = .ok (.iaload, 1) := by decide +kernel
theorem dX1_find_16 : decode cX1_find 16 = .ok (.iload_n 1, 1) := by decide +kernel
theorem dX1_find_17 : decode cX1_find 17 = .ok (.if_icmp .ne 5, 3) := by decide +kernel
theorem dX1_find_20 : decode cX1_find 20 = .ok (.iload_n 2, 1) := by decide +kernel
theorem dX1_find_21 : decode cX1_find 21 = .ok (.ireturn, 1) := by decide +kernel
theorem dX1_find_22 : decode cX1_find 22 = .ok (.iinc 2 1, 3) := by decide +kernel
theorem dX1_find_25 : decode cX1_find 25 = .ok (.goto (-23), 3) := by decide +kernel
theorem dX1_find_28 : decode cX1_find 28 = .ok (.iconst (-1), 1) := by decide +kernel
theorem dX1_find_29 : decode cX1_find 29 = .ok (.ireturn, 1) := by decide +kernel
theorem dX1_free_0 : decode cX1_free 0 = .ok (.iconst 0, 1) := by decide +kernel
theorem dX1_free_1 : decode cX1_free 1 = .ok (.istore_n 1, 1) := by decide +kernel
theorem dX1_free_2 : decode cX1_free 2 = .ok (.iload_n 1, 1) := by decide +kernel
theorem dX1_free_3 : decode cX1_free 3 = .ok (.sipush 1000, 3) := by decide +kernel
theorem dX1_free_6 : decode cX1_free 6 = .ok (.if_icmp .ge 17, 3) := by decide +kernel
theorem dX1_free_9 : decode cX1_free 9 = .ok (.aload_n 0, 1) := by decide +kernel
theorem dX1_free_10 : decode cX1_free 10 = .ok (.iload_n 1, 1) := by decide +kernel
theorem dX1_free_11 : decode cX1_free 11 = .ok (.invokevirtual 23, 3) := by decide +kernel
theorem dX1_free_14 : decode cX1_free 14 = .ok (.ifCond .lt 9, 3) := by decide +kernel
theorem dX1_free_17 : decode cX1_free 17 = .ok (.iinc 1 1, 3) := by decide +kernel
theorem dX1_free_20 : decode cX1_free 20 = .ok (.goto (-18), 3) := by decide +kernel
theorem dX1_free_23 : decode cX1_free 23 = .ok (.iload_n 1, 1) := by decide +kernel
theorem dX1_free_24 : decode cX1_free 24 = .ok (.sipush 1000, 3) := by decide +kernel
theorem dX1_free_27 : decode cX1_free 27 = .ok (.if_icmp .ge 7, 3) := by decide +kernel
theorem dX1_free_30 : decode cX1_free 30 = .ok (.iload_n 1, 1) := by decide +kernel
theorem dX1_free_31 : decode cX1_free 31 = .ok (.goto 4, 3) := by decide +kernel
theorem dX1_free_34 : decode cX1_free 34 = .ok (.iconst (-1), 1) := by decide +kernel
theorem dX1_free_35 : decode cX1_free 35 = .ok (.ireturn, 1) := by decide +kernel
set_option maxRecDepth 20000 in
theorem gX1_free_X1_find : GoodIn wsX1_free (wsV RX1 23 RX1 yX1_find wsX1_find) := goodIn_app (goodIn_of _ (by decide +kernel)) (goodIn_r _ [5, 6, 7, 8, 9, 10, 11] (by decide +kernel) (by decide +kernel))
theorem dX1_put_0 : decode cX1_put 0 = .ok (.aload_n 0, 1) := by decide +kernel
theorem dX1_put_1 : decode cX1_put 1 = .ok (.getfield 13, 3) := by decide +kernel
theorem dX1_put_4 : decode cX1_put 4 = .ok (.istore_n 3, 1) := by decide +kernel
theorem dX1_put_5 : decode cX1_put 5 = .ok (.iload_n 3, 1) := by decide +kernel
theorem dX1_put_6 : decode cX1_put 6 = .ok (.iload_n 2, 1) := by decide +kernel
theorem dX1_put_7 : decode cX1_put 7 = .ok (.if_icmp .le 23, 3) := by decide +kernel
theorem dX1_put_10 : decode cX1_put 10 = .ok (.aload_n 0, 1) := by decide +kernel
theorem dX1_put_11 : decode cX1_put 11 = .ok (.getfield 7, 3) := by decide +kernel
theorem dX1_put_14 : decode cX1_put 14 = .ok (.iload_n 3, 1) := by decide +kernel
theorem dX1_put_15 : decode cX1_put 15 = .ok (.aload_n 0, 1) := by decide +kernel
theorem dX1_put_16 : decode cX1_put 16 = .ok (.getfield 7, 3) := by decide +kernel
theorem dX1_put_19 : decode cX1_put 19 = .ok (.iload_n 3, 1) := by decide +kernel
theorem dX1_put_20 : decode cX1_put 20 = .ok (.iconst 1, 1) := by decide +kernel
theorem dX1_put_21 : decode cX1_put 21 = .ok (.isub, 1) := by decide +kernel
theorem dX1_put_22 : decode cX1_put 22 = .ok (.iaload, 1) := by decide +kernel
theorem dX1_put_23 : decode cX1_put 23 = .ok (.iastore, 1) := by decide +kernel
theorem dX1_put_24 : decode cX1_put 24 = .ok (.iinc 3 (-1), 3) := by decide +kernel
theorem dX1_put_27 : decode cX1_put 27 = .ok (.goto (-22), 3) := by decide +kernel
theorem dX1_put_30 : decode cX1_put 30 = .ok (.aload_n 0, 1) := by decide +kernel
theorem dX1_put_31 : decode cX1_put 31 = .ok (.getfield 7, 3) := by decide +kernel
theorem dX1_put_34 : decode cX1_put 34 = .ok (.iload_n 2, 1) := by decide +kernel
theorem dX1_put_35 : decode cX1_put 35 = .ok (.iload_n 1, 1) := by decide +kernel
theorem dX1_put_36 : decode cX1_put 36 = .ok (.iastore, 1) := by decide +kernel
theorem dX1_put_37 : decode cX1_put 37 = .ok (.aload_n 0, 1) := by decide +kernel
theorem dX1_put_38 : decode cX1_put 38 = .ok (.dup, 1) := by decide +kernel
theorem dX1_put_39 : decode cX1_put 39 = .ok (.getfield 13, 3) := by decide +kernel
theorem dX1_put_42 : decode cX1_put 42 = .ok (.iconst 1, 1) := by decide +kernel
theorem dX1_put_43 : decode cX1_put 43 = .ok (.iadd, 1) := by decide +kernel
theorem dX1_put_44 : decode cX1_put 44 = .ok (.putfield 13, 3) := by decide +kernel
theorem dX1_put_47 : decode cX1_put 47 = .ok (.return_, 1) := by decide +kernel
theorem dX1_drop_0 : decode cX1_drop 0 = .ok (.aload_n 0, 1) := by decide +kernel
theorem dX1_drop_1 : decode cX1_drop 1 = .ok (.dup, 1) := by decide +kernel
theorem dX1_drop_2 : decode cX1_drop 2 = .ok (.getfield 13, 3) := by decide +kernel
theorem dX1_drop_5 : decode cX1_drop 5 = .ok (.iconst 1, 1) := by decide +kernel
theorem dX1_drop_6 : decode cX1_drop 6 = .ok (.isub, 1) := by decide +kernel
theorem dX1_drop_7 : decode cX1_drop 7 = .ok (.putfield 13, 3) := by decide +kernel
theorem dX1_drop_10 : decode cX1_drop 10 = .ok (.iload_n 1, 1) := by decide +kernel
theorem dX1_drop_11 : decode cX1_drop 11 = .ok (.istore_n 2, 1) := by decide +kernel
theorem dX1_drop_12 : decode cX1_drop 12 = .ok (.iload_n 2, 1) := by decide +kernel
theorem dX1_drop_13 : decode cX1_drop 13 = .ok (.aload_n 0, 1) := by decide +kernel
theorem dX1_drop_14 : decode cX1_drop 14 = .ok (.getfield 13, 3) := by decide +kernel
theorem dX1_drop_17 : decode cX1_drop 17 = .ok (.if_icmp .ge 23, 3) := by decide +kernel
theorem dX1_drop_20 : decode cX1_drop 20 = .ok (.aload_n 0, 1) := by decide +kernel
theorem dX1_drop_21 : decode cX1_drop 21 = .ok (.getfield 7, 3) := by decide +kernel
theorem dX1_drop_24 : decode cX1_drop 24 = .ok (.iload_n 2, 1) := by decide +kernel
theorem dX1_drop_25 : decode cX1_drop 25 = .ok (.aload_n 0, 1) := by decide +kernel
theorem dX1_drop_26 : decode cX1_drop 26 = .ok (.getfield 7, 3) := by decide +kernel
theorem dX1_drop_29 : decode cX1_drop 29 = .ok (.iload_n 2, 1) := by decide +kernel
theorem dX1_drop_30 : decode cX1_drop 30 = .ok (.iconst 1, 1) := by decide +kernel
theorem dX1_drop_31 : decode cX1_drop 31 = .ok (.iadd, 1) := by decide +kernel
theorem dX1_drop_32 : decode cX1_drop 32 = .ok (.iaload, 1) := by decide +kernel
theorem dX1_drop_33 : decode cX1_drop 33 = .ok (.iastore, 1) := by decide +kernel
theorem dX1_drop_34 : decode cX1_drop 34 = .ok (.iinc 2 1, 3) := by decide +kernel
theorem dX1_drop_37 : decode cX1_drop 37 = .ok (.goto (-25), 3) := by decide +kernel
theorem dX1_drop_40 : decode cX1_drop 40 = .ok (.return_, 1) := by decide +kernel
theorem dX1_lacks_0 : decode cX1_lacks 0 = .ok (.aload_n 0, 1) := by decide +kernel
theorem dX1_lacks_1 : decode cX1_lacks 1 = .ok (.aload_n 0, 1) := by decide +kernel
theorem dX1_lacks_2 : decode cX1_lacks 2 = .ok (.iload_n 1, 1) := by decide +kernel
theorem dX1_lacks_3 : decode cX1_lacks 3 = .ok (.invokevirtual 23, 3) := by decide +kernel
theorem dX1_lacks_6 : decode cX1_lacks 6 = .ok (.ifCond .lt 23, 3) := by decide +kernel
theorem dX1_lacks_9 : decode cX1_lacks 9 = .ok (.aload_n 0, 1) := by decide +kernel
theorem dX1_lacks_10 : decode cX1_lacks 10 = .ok (.iload_n 2, 1) := by decide +kernel
theorem dX1_lacks_11 : decode cX1_lacks 11 = .ok (.invokevirtual 23, 3) := by decide +kernel
theorem dX1_lacks_14 : decode cX1_lacks 14 = .ok (.ifCond .lt 15, 3) := by decide +kernel
theorem dX1_lacks_17 : decode cX1_lacks 17 = .ok (.aload_n 0, 1) := by decide +kernel
theorem dX1_lacks_18 : decode cX1_lacks 18 = .ok (.iload_n 3, 1) := by decide +kernel
theorem dX1_lacks_19 : decode cX1_lacks 19 = .ok (.invokevirtual 23, 3) := by decide +kernel
theorem dX1_lacks_22 : decode cX1_lacks 22 = .ok (.ifCond .lt 7, 3) := by decide +kernel
theorem dX1_lacks_25 : decode cX1_lacks 25 = .ok (.iconst 0, 1) := by decide +kernel
theorem dX1_lacks_26 : decode cX1_lacks 26 = .ok (.goto 4, 3) := by decide +kernel
theorem dX1_lacks_29 : decode cX1_lacks 29 = .ok (.iconst 1, 1) := by decide +kernel
theorem dX1_lacks_30 : decode cX1_lacks 30 = .ok (.putfield 20, 3) := by decide +kernel
theorem dX1_lacks_33 : decode cX1_lacks 33 = .ok (.aload_n 0, 1) := by decide +kernel
theorem dX1_lacks_34 : decode cX1_lacks 34 = .ok (.getfield 20, 3) := by decide +kernel
theorem dX1_lacks_37 : decode cX1_lacks 37 = .ok (.ifCond .le 7, 3) := by decide +kernel
theorem dX1_lacks_40 : decode cX1_lacks 40 = .ok (.iconst 1, 1) := by decide +kernel
theorem dX1_lacks_41 : decode cX1_lacks 41 = .ok (.goto 4, 3) := by decide +kernel
theorem dX1_lacks_44 : decode cX1_lacks 44 = .ok (.iconst 0, 1) := by decide +kernel
theorem dX1_lacks_45 : decode cX1_lacks 45 = .ok (.ireturn, 1) := by decide +kernel
set_option maxRecDepth 20000 in
theorem gX1_lacks_X1_find : GoodIn wsX1_lacks (wsV RX1 23 RX1 yX1_find wsX1_find) := goodIn_app (goodIn_of _ (by decide +kernel)) (goodIn_r _ [6, 7, 8, 9, 10, 11, 12] (by decide +kernel) (by decide +kernel))
set_option maxRecDepth 20000 in
theorem gX1_behind_X1_lacks : GoodIn wsX1_behind (wsV RX1 27 RX1 yX1_lacks wsX1_lacks) := goodIn_app (goodIn_of _ (by decide +kernel)) (goodIn_r _ [5, 6, 7, 8, 9, 4, 10, 11, 12, 21, 22, 23, 24] (by decide +kernel) (by decide +kernel))
set_option maxRecDepth 20000 in
theorem gX1_behind_X1_free : GoodIn wsX1_behind (wsV RX1 31 RX1 yX1_free wsX1_free) := goodIn_app (goodIn_of _ (by decide +kernel)) (goodIn_r _ [16, 7, 8, 9, 4, 10, 11, 12, 21, 22, 23, 24] (by decide +kernel) (by decide +kernel))
set_option maxRecDepth 20000 in
theorem gX1_behind_X1_find : GoodIn wsX1_behind (wsV RX1 23 RX1 yX1_find wsX1_find) := goodIn_app (goodIn_of _ (by decide +kernel)) (goodIn_r _ [10, 11, 12, 21, 22, 23, 24] (by decide +kernel) (by decide +kernel))
set_option maxRecDepth 20000 in
theorem gX1_behind_X1_put : GoodIn wsX1_behind (wsV RX1 35 RX1 yX1_put wsX1_put) := goodIn_app (goodIn_of _ (by decide +kernel)) (goodIn_r _ [20, 11, 12, 21, 22, 23, 24] (by decide +kernel) (by decide +kernel))
theorem dX1_several_0 : decode cX1_several 0 = .ok (.aload_n 0, 1) := by decide +kernel
theorem dX1_several_1 : decode cX1_several 1 = .ok (.iload_n 1, 1) := by decide +kernel
theorem dX1_several_2 : decode cX1_several 2 = .ok (.iconst 0, 1) := by decide +kernel
theorem dX1_several_3 : decode cX1_several 3 = .ok (.iconst 0, 1) := by decide +kernel
theorem dX1_several_4 : decode cX1_several 4 = .ok (.invokevirtual 27, 3) := by decide +kernel
theorem dX1_several_7 : decode cX1_several 7 = .ok (.ifCond .eq 5, 3) := by decide +kernel
theorem dX1_several_10 : decode cX1_several 10 = .ok (.iconst 0, 1) := by decide +kernel
theorem dX1_several_11 : decode cX1_several 11 = .ok (.ireturn, 1) := by decide +kernel
theorem dX1_several_12 : decode cX1_several 12 = .ok (.iload_n 2, 1) := by decide +kernel
theorem dX1_several_13 : decode cX1_several 13 = .ok (.iconst 2, 1) := by decide +kernel
theorem dX1_several_14 : decode cX1_several 14 = .ok (.if_icmp .lt 21, 3) := by decide +kernel
theorem dX1_several_17 : decode cX1_several 17 = .ok (.iload_n 2, 1) := by decide +kernel
theorem dX1_several_18 : decode cX1_several 18 = .ok (.bipush 64, 2) := by decide +kernel
theorem dX1_several_20 : decode cX1_several 20 = .ok (.if_icmp .gt 15, 3) := by decide +kernel
theorem dX1_several_23 : decode cX1_several 23 = .ok (.aload_n 0, 1) := by decide +kernel
theorem dX1_several_24 : decode cX1_several 24 = .ok (.getfield 13, 3) := by decide +kernel
theorem dX1_several_27 : decode cX1_several 27 = .ok (.iload_n 2, 1) := by decide +kernel
theorem dX1_several_28 : decode cX1_several 28 = .ok (.iadd, 1) := by decide +kernel
theorem dX1_several_29 : decode cX1_several 29 = .ok (.sipush 1000, 3) := by decide +kernel
theorem dX1_several_32 : decode cX1_several 32 = .ok (.if_icmp .le 5, 3) := by decide +kernel
theorem dX1_several_35 : decode cX1_several 35 = .ok (.iconst (-1), 1) := by decide +kernel
theorem dX1_several_36 : decode cX1_several 36 = .ok (.ireturn, 1) := by decide +kernel
theorem dX1_several_37 : decode cX1_several 37 = .ok (.aload_n 0, 1) := by decide +kernel
theorem dX1_several_38 : decode cX1_several 38 = .ok (.invokevirtual 31, 3) := by decide +kernel
theorem dX1_several_41 : decode cX1_several 41 = .ok (.istore_n 3, 1) := by decide +kernel
theorem dX1_several_42 : decode cX1_several 42 = .ok (.aload_n 0, 1) := by decide +kernel
theorem dX1_several_43 : decode cX1_several 43 = .ok (.iload_n 1, 1) := by decide +kernel
theorem dX1_several_44 : decode cX1_several 44 = .ok (.invokevirtual 23, 3) := by decide +kernel
theorem dX1_several_47 : decode cX1_several 47 = .ok (.iconst 1, 1) := by decide +kernel
theorem dX1_several_48 : decode cX1_several 48 = .ok (.iadd, 1) := by decide +kernel
theorem dX1_several_49 : decode cX1_several 49 = .ok (.istore 4, 2) := by decide +kernel
theorem dX1_several_51 : decode cX1_several 51 = .ok (.iconst 0, 1) := by decide +kernel
theorem dX1_several_52 : decode cX1_several 52 = .ok (.istore 5, 2) := by decide +kernel
theorem dX1_several_54 : decode cX1_several 54 = .ok (.iload 5, 2) := by decide +kernel
theorem dX1_several_56 : decode cX1_several 56 = .ok (.iload_n 2, 1) := by decide +kernel
theorem dX1_several_57 : decode cX1_several 57 = .ok (.if_icmp .ge 22, 3) := by decide +kernel
theorem dX1_several_60 : decode cX1_several 60 = .ok (.aload_n 0, 1) := by decide +kernel
theorem dX1_several_61 : decode cX1_several 61 = .ok (.aload_n 0, 1) := by decide +kernel
theorem dX1_several_62 : decode cX1_several 62 = .ok (.invokevirtual 31, 3) := by decide +kernel
theorem dX1_several_65 : decode cX1_several 65 = .ok (.iload 4, 2) := by decide +kernel
theorem dX1_several_67 : decode cX1_several 67 = .ok (.iload 5, 2) := by decide +kernel
theorem dX1_several_69 : decode cX1_several 69 = .ok (.iadd, 1) := by decide +kernel
theorem dX1_several_70 : decode cX1_several 70 = .ok (.invokevirtual 35, 3) := by decide +kernel
theorem dX1_several_73 : decode cX1_several 73 = .ok (.iinc 5 1, 3) := by decide +kernel
theorem dX1_several_76 : decode cX1_several 76 = .ok (.goto (-22), 3) := by decide +kernel
theorem dX1_several_79 : decode cX1_several 79 = .ok (.iload_n 3, 1) := by decide +kernel
theorem dX1_several_80 : decode cX1_several 80 = .ok (.ireturn, 1) := by decide +kernel
set_option maxRecDepth 20000 in
theorem gX1_several_X1_lacks : GoodIn wsX1_several (wsV RX1 27 RX1 yX1_lacks wsX1_lacks) := goodIn_app (goodIn_of _ (by decide +kernel)) (goodIn_r _ [6, 7, 8, 9, 10, 5, 11, 1, 12, 21, 22, 23, 24] (by decide +kernel) (by decide +kernel))
set_option maxRecDepth 20000 in
theorem gX1_several_X1_free : GoodIn wsX1_several (wsV RX1 31 RX1 yX1_free wsX1_free) := goodIn_app (goodIn_of _ (by decide +kernel)) (goodIn_r _ [16, 8, 9, 10, 5, 11, 1, 12, 21, 22, 23, 24] (by decide +kernel) (by decide +kernel))
set_option maxRecDepth 20000 in
theorem gX1_several_X1_find : GoodIn wsX1_several (wsV RX1 23 RX1 yX1_find wsX1_find) := goodIn_app (goodIn_of _ (by decide +kernel)) (goodIn_r _ [11, 1, 12, 21, 22, 23, 24] (by decide +kernel) (by decide +kernel))
set_option maxRecDepth 20000 in
theorem gX1_several_X1_put : GoodIn wsX1_several (wsV RX1 35 RX1 yX1_put wsX1_put) := goodIn_app (goodIn_of _ (by decide +kernel)) (goodIn_r _ [20, 1, 12, 21, 22, 23, 24] (by decide +kernel) (by decide +kernel))
theorem dX1_remove_0 : decode cX1_remove 0 = .ok (.aload_n 0, 1) := by decide +kernel
theorem dX1_remove_1 : decode cX1_remove 1 = .ok (.iconst 0, 1) := by decide +kernel
theorem dX1_remove_2 : decode cX1_remove 2 = .ok (.putfield 20, 3) := by decide +kernel
theorem dX1_remove_5 : decode cX1_remove 5 = .ok (.aload_n 0, 1) := by decide +kernel
theorem dX1_remove_6 : decode cX1_remove 6 = .ok (.iload_n 1, 1) := by decide +kernel
theorem dX1_remove_7 : decode cX1_remove 7 = .ok (.invokevirtual 23, 3) := by decide +kernel
theorem dX1_remove_10 : decode cX1_remove 10 = .ok (.istore_n 2, 1) := by decide +kernel
theorem dX1_remove_11 : decode cX1_remove 11 = .ok (.iload_n 2, 1) := by decide +kernel
theorem dX1_remove_12 : decode cX1_remove 12 = .ok (.iconst 1, 1) := by decide +kernel
theorem dX1_remove_13 : decode cX1_remove 13 = .ok (.if_icmp .ge 5, 3) := by decide +kernel
theorem dX1_remove_16 : decode cX1_remove 16 = .ok (.iconst 0, 1) := by decide +kernel
theorem dX1_remove_17 : decode cX1_remove 17 = .ok (.ireturn, 1) := by decide +kernel
theorem dX1_remove_18 : decode cX1_remove 18 = .ok (.aload_n 0, 1) := by decide +kernel
theorem dX1_remove_19 : decode cX1_remove 19 = .ok (.iload_n 2, 1) := by decide +kernel
theorem dX1_remove_20 : decode cX1_remove 20 = .ok (.invokevirtual 39, 3) := by decide +kernel
theorem dX1_remove_23 : decode cX1_remove 23 = .ok (.iconst 1, 1) := by decide +kernel
theorem dX1_remove_24 : decode cX1_remove 24 = .ok (.ireturn, 1) := by decide +kernel
set_option maxRecDepth 20000 in
theorem gX1_remove_X1_find : GoodIn wsX1_remove (wsV RX1 23 RX1 yX1_find wsX1_find) := goodIn_app (goodIn_of _ (by decide +kernel)) (goodIn_r _ [6, 7, 8, 13, 14, 15, 16] (by decide +kernel) (by decide +kernel))
set_option maxRecDepth 20000 in
theorem gX1_remove_X1_drop : GoodIn wsX1_remove (wsV RX1 39 RX1 yX1_drop wsX1_drop) := goodIn_app (goodIn_of _ (by decide +kernel)) (goodIn_r _ [12, 7, 8, 13, 14, 15, 16] (by decide +kernel) (by decide +kernel))
theorem dX1_clear_0 : decode cX1_clear 0 = .ok (.aload_n 0, 1) := by decide +kernel
theorem dX1_clear_1 : decode cX1_clear 1 = .ok (.iload_n 1, 1) := by decide +kernel
theorem dX1_clear_2 : decode cX1_clear 2 = .ok (.iload_n 2, 1) := by decide +kernel
theorem dX1_clear_3 : decode cX1_clear 3 = .ok (.iconst 0, 1) := by decide +kernel
theorem dX1_clear_4 : decode cX1_clear 4 = .ok (.invokevirtual 27, 3) := by decide +kernel
theorem dX1_clear_7 : decode cX1_clear 7 = .ok (.ifCond .eq 5, 3) := by decide +kernel
theorem dX1_clear_10 : decode cX1_clear 10 = .ok (.iconst 0, 1) := by decide +kernel
theorem dX1_clear_11 : decode cX1_clear 11 = .ok (.ireturn, 1) := by decide +kernel
theorem dX1_clear_12 : decode cX1_clear 12 = .ok (.iconst 0, 1) := by decide +kernel
theorem dX1_clear_13 : decode cX1_clear 13 = .ok (.istore_n 3, 1) := by decide +kernel
theorem dX1_clear_14 : decode cX1_clear 14 = .ok (.aload_n 0, 1) := by decide +kernel
theorem dX1_clear_15 : decode cX1_clear 15 = .ok (.iload_n 1, 1) := by decide +kernel
theorem dX1_clear_16 : decode cX1_clear 16 = .ok (.invokevirtual 23, 3) := by decide +kernel
theorem dX1_clear_19 : decode cX1_clear 19 = .ok (.iconst 1, 1) := by decide +kernel
theorem dX1_clear_20 : decode cX1_clear 20 = .ok (.iadd, 1) := by decide +kernel
theorem dX1_clear_21 : decode cX1_clear 21 = .ok (.aload_n 0, 1) := by decide +kernel
theorem dX1_clear_22 : decode cX1_clear 22 = .ok (.iload_n 2, 1) := by decide +kernel
theorem dX1_clear_23 : decode cX1_clear 23 = .ok (.invokevirtual 23, 3) := by decide +kernel
theorem dX1_clear_26 : decode cX1_clear 26 = .ok (.if_icmp .ge 20, 3) := by decide +kernel
theorem dX1_clear_29 : decode cX1_clear 29 = .ok (.aload_n 0, 1) := by decide +kernel
theorem dX1_clear_30 : decode cX1_clear 30 = .ok (.aload_n 0, 1) := by decide +kernel
theorem dX1_clear_31 : decode cX1_clear 31 = .ok (.iload_n 1, 1) := by decide +kernel
theorem dX1_clear_32 : decode cX1_clear 32 = .ok (.invokevirtual 23, 3) := by decide +kernel
theorem dX1_clear_35 : decode cX1_clear 35 = .ok (.iconst 1, 1) := by decide +kernel
theorem dX1_clear_36 : decode cX1_clear 36 = .ok (.iadd, 1) := by decide +kernel
theorem dX1_clear_37 : decode cX1_clear 37 = .ok (.invokevirtual 39, 3) := by decide +kernel
theorem dX1_clear_40 : decode cX1_clear 40 = .ok (.iinc 3 1, 3) := by decide +kernel
theorem dX1_clear_43 : decode cX1_clear 43 = .ok (.goto (-29), 3) := by decide +kernel
theorem dX1_clear_46 : decode cX1_clear 46 = .ok (.iload_n 3, 1) := by decide +kernel
theorem dX1_clear_47 : decode cX1_clear 47 = .ok (.ireturn, 1) := by decide +kernel
set_option maxRecDepth 20000 in
theorem gX1_clear_X1_lacks : GoodIn wsX1_clear (wsV RX1 27 RX1 yX1_lacks wsX1_lacks) := goodIn_app (goodIn_of _ (by decide +kernel)) (goodIn_r _ [5, 6, 7, 8, 9, 4, 10, 11, 12, 17, 18, 19, 20] (by decide +kernel) (by decide +kernel))
set_option maxRecDepth 20000 in
theorem gX1_clear_X1_find : GoodIn wsX1_clear (wsV RX1 23 RX1 yX1_find wsX1_find) := goodIn_app (goodIn_of _ (by decide +kernel)) (goodIn_r _ [10, 11, 12, 17, 18, 19, 20] (by decide +kernel) (by decide +kernel))
set_option maxRecDepth 20000 in
theorem gX1_clear_X1_drop : GoodIn wsX1_clear (wsV RX1 39 RX1 yX1_drop wsX1_drop) := goodIn_app (goodIn_of _ (by decide +kernel)) (goodIn_r _ [16, 11, 12, 17, 18, 19, 20] (by decide +kernel) (by decide +kernel))
theorem dX1_carry_0 : decode cX1_carry 0 = .ok (.aload_n 0, 1) := by decide +kernel
theorem dX1_carry_1 : decode cX1_carry 1 = .ok (.iload_n 1, 1) := by decide +kernel
theorem dX1_carry_2 : decode cX1_carry 2 = .ok (.iload_n 2, 1) := by decide +kernel
theorem dX1_carry_3 : decode cX1_carry 3 = .ok (.iload_n 3, 1) := by decide +kernel
theorem dX1_carry_4 : decode cX1_carry 4 = .ok (.invokevirtual 27, 3) := by decide +kernel
theorem dX1_carry_7 : decode cX1_carry 7 = .ok (.ifCond .eq 5, 3) := by decide +kernel
theorem dX1_carry_10 : decode cX1_carry 10 = .ok (.iconst 0, 1) := by decide +kernel
theorem dX1_carry_11 : decode cX1_carry 11 = .ok (.ireturn, 1) := by decide +kernel
theorem dX1_carry_12 : decode cX1_carry 12 = .ok (.aload_n 0, 1) := by decide +kernel
theorem dX1_carry_13 : decode cX1_carry 13 = .ok (.iload_n 1, 1) := by decide +kernel
theorem dX1_carry_14 : decode cX1_carry 14 = .ok (.invokevirtual 23, 3) := by decide +kernel
theorem dX1_carry_17 : decode cX1_carry 17 = .ok (.istore 4, 2) := by decide +kernel
theorem dX1_carry_19 : decode cX1_carry 19 = .ok (.aload_n 0, 1) := by decide +kernel
theorem dX1_carry_20 : decode cX1_carry 20 = .ok (.iload_n 2, 1) := by decide +kernel
theorem dX1_carry_21 : decode cX1_carry 21 = .ok (.invokevirtual 23, 3) := by decide +kernel
theorem dX1_carry_24 : decode cX1_carry 24 = .ok (.istore 5, 2) := by decide +kernel
theorem dX1_carry_26 : decode cX1_carry 26 = .ok (.aload_n 0, 1) := by decide +kernel
theorem dX1_carry_27 : decode cX1_carry 27 = .ok (.iload_n 3, 1) := by decide +kernel
theorem dX1_carry_28 : decode cX1_carry 28 = .ok (.invokevirtual 23, 3) := by decide +kernel
theorem dX1_carry_31 : decode cX1_carry 31 = .ok (.istore 6, 2) := by decide +kernel
theorem dX1_carry_33 : decode cX1_carry 33 = .ok (.iload 4, 2) := by decide +kernel
theorem dX1_carry_35 : decode cX1_carry 35 = .ok (.iload 5, 2) := by decide +kernel
theorem dX1_carry_37 : decode cX1_carry 37 = .ok (.if_icmp .ge 17, 3) := by decide +kernel
theorem dX1_carry_40 : decode cX1_carry 40 = .ok (.iload 6, 2) := by decide +kernel
theorem dX1_carry_42 : decode cX1_carry 42 = .ok (.iload 4, 2) := by decide +kernel
theorem dX1_carry_44 : decode cX1_carry 44 = .ok (.if_icmp .le 12, 3) := by decide +kernel
theorem dX1_carry_47 : decode cX1_carry 47 = .ok (.iload 6, 2) := by decide +kernel
theorem dX1_carry_49 : decode cX1_carry 49 = .ok (.iload 5, 2) := by decide +kernel
theorem dX1_carry_51 : decode cX1_carry 51 = .ok (.if_icmp .ge 5, 3) := by decide +kernel
theorem dX1_carry_54 : decode cX1_carry 54 = .ok (.iconst (-1), 1) := by decide +kernel
theorem dX1_carry_55 : decode cX1_carry 55 = .ok (.ireturn, 1) := by decide +kernel
theorem dX1_carry_56 : decode cX1_carry 56 = .ok (.iload 5, 2) := by decide +kernel
theorem dX1_carry_58 : decode cX1_carry 58 = .ok (.iload 4, 2) := by decide +kernel
theorem dX1_carry_60 : decode cX1_carry 60 = .ok (.isub, 1) := by decide +kernel
theorem dX1_carry_61 : decode cX1_carry 61 = .ok (.iconst 1, 1) := by decide +kernel
theorem dX1_carry_62 : decode cX1_carry 62 = .ok (.isub, 1) := by decide +kernel
theorem dX1_carry_63 : decode cX1_carry 63 = .ok (.istore 7, 2) := by decide +kernel
theorem dX1_carry_65 : decode cX1_carry 65 = .ok (.iconst 0, 1) := by decide +kernel
theorem dX1_carry_66 : decode cX1_carry 66 = .ok (.istore 8, 2) := by decide +kernel
theorem dX1_carry_68 : decode cX1_carry 68 = .ok (.iload 8, 2) := by decide +kernel
theorem dX1_carry_70 : decode cX1_carry 70 = .ok (.iload 7, 2) := by decide +kernel
theorem dX1_carry_72 : decode cX1_carry 72 = .ok (.if_icmp .ge 33, 3) := by decide +kernel
theorem dX1_carry_75 : decode cX1_carry 75 = .ok (.aload_n 0, 1) := by decide +kernel
theorem dX1_carry_76 : decode cX1_carry 76 = .ok (.getfield 17, 3) := by decide +kernel
theorem dX1_carry_79 : decode cX1_carry 79 = .ok (.iload 8, 2) := by decide +kernel
theorem dX1_carry_81 : decode cX1_carry 81 = .ok (.aload_n 0, 1) := by decide +kernel
theorem dX1_carry_82 : decode cX1_carry 82 = .ok (.getfield 7, 3) := by decide +kernel
theorem dX1_carry_85 : decode cX1_carry 85 = .ok (.iload 4, 2) := by decide +kernel
theorem dX1_carry_87 : decode cX1_carry 87 = .ok (.iconst 1, 1) := by decide +kernel
theorem dX1_carry_88 : decode cX1_carry 88 = .ok (.iadd, 1) := by decide +kernel
theorem dX1_carry_89 : decode cX1_carry 89 = .ok (.iaload, 1) := by decide +kernel
theorem dX1_carry_90 : decode cX1_carry 90 = .ok (.iastore, 1) := by decide +kernel
theorem dX1_carry_91 : decode cX1_carry 91 = .ok (.aload_n 0, 1) := by decide +kernel
theorem dX1_carry_92 : decode cX1_carry 92 = .ok (.iload 4, 2) := by decide +kernel
theorem dX1_carry_94 : decode cX1_carry 94 = .ok (.iconst 1, 1) := by decide +kernel
theorem dX1_carry_95 : decode cX1_carry 95 = .ok (.iadd, 1) := by decide +kernel
theorem dX1_carry_96 : decode cX1_carry 96 = .ok (.invokevirtual 39, 3) := by decide +kernel
theorem dX1_carry_99 : decode cX1_carry 99 = .ok (.iinc 8 1, 3) := by decide +kernel
theorem dX1_carry_102 : decode cX1_carry 102 = .ok (.goto (-34), 3) := by decide +kernel
theorem dX1_carry_105 : decode cX1_carry 105 = .ok (.iconst 0, 1) := by decide +kernel
theorem dX1_carry_106 : decode cX1_carry 106 = .ok (.istore 8, 2) := by decide +kernel
theorem dX1_carry_108 : decode cX1_carry 108 = .ok (.iload 8, 2) := by decide +kernel
theorem dX1_carry_110 : decode cX1_carry 110 = .ok (.iload 7, 2) := by decide +kernel
theorem dX1_carry_112 : decode cX1_carry 112 = .ok (.if_icmp .ge 30, 3) := by decide +kernel
theorem dX1_carry_115 : decode cX1_carry 115 = .ok (.aload_n 0, 1) := by decide +kernel
theorem dX1_carry_116 : decode cX1_carry 116 = .ok (.aload_n 0, 1) := by decide +kernel
theorem dX1_carry_117 : decode cX1_carry 117 = .ok (.getfield 17, 3) := by decide +kernel
theorem dX1_carry_120 : decode cX1_carry 120 = .ok (.iload 8, 2) := by decide +kernel
theorem dX1_carry_122 : decode cX1_carry 122 = .ok (.iaload, 1) := by decide +kernel
theorem dX1_carry_123 : decode cX1_carry 123 = .ok (.aload_n 0, 1) := by decide +kernel
theorem dX1_carry_124 : decode cX1_carry 124 = .ok (.iload_n 3, 1) := by decide +kernel
theorem dX1_carry_125 : decode cX1_carry 125 = .ok (.invokevirtual 23, 3) := by decide +kernel
theorem dX1_carry_128 : decode cX1_carry 128 = .ok (.iconst 1, 1) := by decide +kernel
theorem dX1_carry_129 : decode cX1_carry 129 = .ok (.iadd, 1) := by decide +kernel
theorem dX1_carry_130 : decode cX1_carry 130 = .ok (.iload 8, 2) := by decide +kernel
theorem dX1_carry_132 : decode cX1_carry 132 = .ok (.iadd, 1) := by decide +kernel
theorem dX1_carry_133 : decode cX1_carry 133 = .ok (.invokevirtual 35, 3) := by decide +kernel
theorem dX1_carry_136 : decode cX1_carry 136 = .ok (.iinc 8 1, 3) := by decide +kernel
theorem dX1_carry_139 : decode cX1_carry 139 = .ok (.goto (-31), 3) := by decide +kernel
theorem dX1_carry_142 : decode cX1_carry 142 = .ok (.iload 7, 2) := by decide +kernel
theorem dX1_carry_144 : decode cX1_carry 144 = .ok (.ireturn, 1) := by decide +kernel
set_option maxRecDepth 20000 in
theorem gX1_carry_X1_lacks : GoodIn wsX1_carry (wsV RX1 27 RX1 yX1_lacks wsX1_lacks) := goodIn_app (goodIn_of _ (by decide +kernel)) (goodIn_r _ [7, 8, 9, 10, 11, 6, 12, 13, 2, 22, 23, 24, 25] (by decide +kernel) (by decide +kernel))
set_option maxRecDepth 20000 in
theorem gX1_carry_X1_find : GoodIn wsX1_carry (wsV RX1 23 RX1 yX1_find wsX1_find) := goodIn_app (goodIn_of _ (by decide +kernel)) (goodIn_r _ [12, 13, 2, 22, 23, 24, 25] (by decide +kernel) (by decide +kernel))
set_option maxRecDepth 20000 in
theorem gX1_carry_X1_drop : GoodIn wsX1_carry (wsV RX1 39 RX1 yX1_drop wsX1_drop) := goodIn_app (goodIn_of _ (by decide +kernel)) (goodIn_r _ [17, 13, 2, 22, 23, 24, 25] (by decide +kernel) (by decide +kernel))
set_option maxRecDepth 20000 in
theorem gX1_carry_X1_put : GoodIn wsX1_carry (wsV RX1 35 RX1 yX1_put wsX1_put) := goodIn_app (goodIn_of _ (by decide +kernel)) (goodIn_r _ [21, 13, 2, 22, 23, 24, 25] (by decide +kernel) (by decide +kernel))
theorem dX1_compare_0 : decode cX1_compare 0 = .ok (.aload_n 0, 1) := by decide +kernel
theorem dX1_compare_1 : decode cX1_compare 1 = .ok (.iload_n 1, 1) := by decide +kernel
theorem dX1_compare_2 : decode cX1_compare 2 = .ok (.iload_n 2, 1) := by decide +kernel
theorem dX1_compare_3 : decode cX1_compare 3 = .ok (.iconst 0, 1) := by decide +kernel
theorem dX1_compare_4 : decode cX1_compare 4 = .ok (.invokevirtual 27, 3) := by decide +kernel
theorem dX1_compare_7 : decode cX1_compare 7 = .ok (.ifCond .eq 5, 3) := by decide +kernel
theorem dX1_compare_10 : decode cX1_compare 10 = .ok (.iconst 0, 1) := by decide +kernel
theorem dX1_compare_11 : decode cX1_compare 11 = .ok (.ireturn, 1) := by decide +kernel
theorem dX1_compare_12 : decode cX1_compare 12 = .ok (.aload_n 0, 1) := by decide +kernel
theorem dX1_compare_13 : decode cX1_compare 13 = .ok (.iload_n 1, 1) := by decide +kernel
theorem dX1_compare_14 : decode cX1_compare 14 = .ok (.invokevirtual 23, 3) := by decide +kernel
theorem dX1_compare_17 : decode cX1_compare 17 = .ok (.istore_n 3, 1) := by decide +kernel
theorem dX1_compare_18 : decode cX1_compare 18 = .ok (.aload_n 0, 1) := by decide +kernel
theorem dX1_compare_19 : decode cX1_compare 19 = .ok (.iload_n 2, 1) := by decide +kernel
theorem dX1_compare_20 : decode cX1_compare 20 = .ok (.invokevirtual 23, 3) := by decide +kernel
theorem dX1_compare_23 : decode cX1_compare 23 = .ok (.istore 4, 2) := by decide +kernel
theorem dX1_compare_25 : decode cX1_compare 25 = .ok (.iload_n 3, 1) := by decide +kernel
theorem dX1_compare_26 : decode cX1_compare 26 = .ok (.iload 4, 2) := by decide +kernel
theorem dX1_compare_28 : decode cX1_compare 28 = .ok (.if_icmp .ge 7, 3) := by decide +kernel
theorem dX1_compare_31 : decode cX1_compare 31 = .ok (.iconst (-1), 1) := by decide +kernel
theorem dX1_compare_32 : decode cX1_compare 32 = .ok (.goto 14, 3) := by decide +kernel
theorem dX1_compare_35 : decode cX1_compare 35 = .ok (.iload_n 3, 1) := by decide +kernel
theorem dX1_compare_36 : decode cX1_compare 36 = .ok (.iload 4, 2) := by decide +kernel
theorem dX1_compare_38 : decode cX1_compare 38 = .ok (.if_icmp .le 7, 3) := by decide +kernel
theorem dX1_compare_41 : decode cX1_compare 41 = .ok (.iconst 1, 1) := by decide +kernel
theorem dX1_compare_42 : decode cX1_compare 42 = .ok (.goto 4, 3) := by decide +kernel
theorem dX1_compare_45 : decode cX1_compare 45 = .ok (.iconst 0, 1) := by decide +kernel
theorem dX1_compare_46 : decode cX1_compare 46 = .ok (.ireturn, 1) := by decide +kernel
set_option maxRecDepth 20000 in
theorem gX1_compare_X1_lacks : GoodIn wsX1_compare (wsV RX1 27 RX1 yX1_lacks wsX1_lacks) := goodIn_app (goodIn_of _ (by decide +kernel)) (goodIn_r _ [5, 6, 7, 8, 9, 4, 10, 11, 12, 13, 14, 15, 16] (by decide +kernel) (by decide +kernel))
set_option maxRecDepth 20000 in
theorem gX1_compare_X1_find : GoodIn wsX1_compare (wsV RX1 23 RX1 yX1_find wsX1_find) := goodIn_app (goodIn_of _ (by decide +kernel)) (goodIn_r _ [10, 11, 12, 13, 14, 15, 16] (by decide +kernel) (by decide +kernel))
theorem dX1_next_0 : decode cX1_next 0 = .ok (.aload_n 0, 1) := by decide +kernel
theorem dX1_next_1 : decode cX1_next 1 = .ok (.iload_n 1, 1) := by decide +kernel
theorem dX1_next_2 : decode cX1_next 2 = .ok (.iconst 0, 1) := by decide +kernel
theorem dX1_next_3 : decode cX1_next 3 = .ok (.iconst 0, 1) := by decide +kernel
theorem dX1_next_4 : decode cX1_next 4 = .ok (.invokevirtual 27, 3) := by decide +kernel
theorem dX1_next_7 : decode cX1_next 7 = .ok (.ifCond .eq 5, 3) := by decide +kernel
theorem dX1_next_10 : decode cX1_next 10 = .ok (.iconst 0, 1) := by decide +kernel
theorem dX1_next_11 : decode cX1_next 11 = .ok (.ireturn, 1) := by decide +kernel
theorem dX1_next_12 : decode cX1_next 12 = .ok (.aload_n 0, 1) := by decide +kernel
theorem dX1_next_13 : decode cX1_next 13 = .ok (.iload_n 1, 1) := by decide +kernel
theorem dX1_next_14 : decode cX1_next 14 = .ok (.invokevirtual 23, 3) := by decide +kernel
theorem dX1_next_17 : decode cX1_next 17 = .ok (.iload_n 2, 1) := by decide +kernel
theorem dX1_next_18 : decode cX1_next 18 = .ok (.ifCond .eq 7, 3) := by decide +kernel
theorem dX1_next_21 : decode cX1_next 21 = .ok (.iconst 1, 1) := by decide +kernel
theorem dX1_next_22 : decode cX1_next 22 = .ok (.goto 4, 3) := by decide +kernel
theorem dX1_next_25 : decode cX1_next 25 = .ok (.iconst (-1), 1) := by decide +kernel
theorem dX1_next_26 : decode cX1_next 26 = .ok (.iadd, 1) := by decide +kernel
theorem dX1_next_27 : decode cX1_next 27 = .ok (.istore_n 3, 1) := by decide +kernel
theorem dX1_next_28 : decode cX1_next 28 = .ok (.iload_n 3, 1) := by decide +kernel
theorem dX1_next_29 : decode cX1_next 29 = .ok (.ifCond .lt 11, 3) := by decide +kernel
theorem dX1_next_32 : decode cX1_next 32 = .ok (.iload_n 3, 1) := by decide +kernel
theorem dX1_next_33 : decode cX1_next 33 = .ok (.aload_n 0, 1) := by decide +kernel
theorem dX1_next_34 : decode cX1_next 34 = .ok (.getfield 13, 3) := by decide +kernel
theorem dX1_next_37 : decode cX1_next 37 = .ok (.if_icmp .lt 7, 3) := by decide +kernel
theorem dX1_next_40 : decode cX1_next 40 = .ok (.iconst (-1), 1) := by decide +kernel
theorem dX1_next_41 : decode cX1_next 41 = .ok (.goto 9, 3) := by decide +kernel
theorem dX1_next_44 : decode cX1_next 44 = .ok (.aload_n 0, 1) := by decide +kernel
theorem dX1_next_45 : decode cX1_next 45 = .ok (.getfield 7, 3) := by decide +kernel
theorem dX1_next_48 : decode cX1_next 48 = .ok (.iload_n 3, 1) := by decide +kernel
theorem dX1_next_49 : decode cX1_next 49 = .ok (.iaload, 1) := by decide +kernel
theorem dX1_next_50 : decode cX1_next 50 = .ok (.ireturn, 1) := by decide +kernel
set_option maxRecDepth 20000 in
theorem gX1_next_X1_lacks : GoodIn wsX1_next (wsV RX1 27 RX1 yX1_lacks wsX1_lacks) := goodIn_app (goodIn_of _ (by decide +kernel)) (goodIn_r _ [7, 8, 9, 10, 11, 6, 12, 1, 2, 13, 14, 15, 16] (by decide +kernel) (by decide +kernel))
set_option maxRecDepth 20000 in
theorem gX1_next_X1_find : GoodIn wsX1_next (wsV RX1 23 RX1 yX1_find wsX1_find) := goodIn_app (goodIn_of _ (by decide +kernel)) (goodIn_r _ [12, 1, 2, 13, 14, 15, 16] (by decide +kernel) (by decide +kernel))
theorem dX1_has_0 : decode cX1_has 0 = .ok (.aload_n 0, 1) := by decide +kernel
theorem dX1_has_1 : decode cX1_has 1 = .ok (.iconst 0, 1) := by decide +kernel
theorem dX1_has_2 : decode cX1_has 2 = .ok (.putfield 20, 3) := by decide +kernel
theorem dX1_has_5 : decode cX1_has 5 = .ok (.aload_n 0, 1) := by decide +kernel
theorem dX1_has_6 : decode cX1_has 6 = .ok (.iload_n 1, 1) := by decide +kernel
theorem dX1_has_7 : decode cX1_has 7 = .ok (.invokevirtual 23, 3) := by decide +kernel
theorem dX1_has_10 : decode cX1_has 10 = .ok (.ifCond .lt 7, 3) := by decide +kernel
theorem dX1_has_13 : decode cX1_has 13 = .ok (.iconst 1, 1) := by decide +kernel
theorem dX1_has_14 : decode cX1_has 14 = .ok (.goto 4, 3) := by decide +kernel
theorem dX1_has_17 : decode cX1_has 17 = .ok (.iconst 0, 1) := by decide +kernel
theorem dX1_has_18 : decode cX1_has 18 = .ok (.ireturn, 1) := by decide +kernel
set_option maxRecDepth 20000 in
theorem gX1_has_X1_find : GoodIn wsX1_has (wsV RX1 23 RX1 yX1_find wsX1_find) := goodIn_app (goodIn_of _ (by decide +kernel)) (goodIn_r _ [6, 7, 8, 9, 10, 11, 12] (by decide +kernel) (by decide +kernel))
theorem dX1_place_0 : decode cX1_place 0 = .ok (.aload_n 0, 1) := by decide +kernel
theorem dX1_place_1 : decode cX1_place 1 = .ok (.iload_n 1, 1) := by decide +kernel
theorem dX1_place_2 : decode cX1_place 2 = .ok (.iconst 0, 1) := by decide +kernel
theorem dX1_place_3 : decode cX1_place 3 = .ok (.iconst 0, 1) := by decide +kernel
theorem dX1_place_4 : decode cX1_place 4 = .ok (.invokevirtual 27, 3) := by decide +kernel
theorem dX1_place_7 : decode cX1_place 7 = .ok (.ifCond .eq 7, 3) := by decide +kernel
theorem dX1_place_10 : decode cX1_place 10 = .ok (.iconst 0, 1) := by decide +kernel
theorem dX1_place_11 : decode cX1_place 11 = .ok (.goto 8, 3) := by decide +kernel
theorem dX1_place_14 : decode cX1_place 14 = .ok (.aload_n 0, 1) := by decide +kernel
theorem dX1_place_15 : decode cX1_place 15 = .ok (.iload_n 1, 1) := by decide +kernel
theorem dX1_place_16 : decode cX1_place 16 = .ok (.invokevirtual 23, 3) := by decide +kernel
theorem dX1_place_19 : decode cX1_place 19 = .ok (.ireturn, 1) := by decide +kernel
set_option maxRecDepth 20000 in
theorem gX1_place_X1_lacks : GoodIn wsX1_place (wsV RX1 27 RX1 yX1_lacks wsX1_lacks) := goodIn_app (goodIn_of _ (by decide +kernel)) (goodIn_r _ [5, 6, 7, 8, 9, 4, 10, 11, 12, 13, 14, 15, 16] (by decide +kernel) (by decide +kernel))
set_option maxRecDepth 20000 in
theorem gX1_place_X1_find : GoodIn wsX1_place (wsV RX1 23 RX1 yX1_find wsX1_find) := goodIn_app (goodIn_of _ (by decide +kernel)) (goodIn_r _ [10, 11, 12, 13, 14, 15, 16] (by decide +kernel) (by decide +kernel))
theorem dX1_at_0 : decode cX1_at 0 = .ok (.aload_n 0, 1) := by decide +kernel
theorem dX1_at_1 : decode cX1_at 1 = .ok (.iconst 0, 1) := by decide +kernel
theorem dX1_at_2 : decode cX1_at 2 = .ok (.putfield 20, 3) := by decide +kernel
theorem dX1_at_5 : decode cX1_at 5 = .ok (.iload_n 1, 1) := by decide +kernel
theorem dX1_at_6 : decode cX1_at 6 = .ok (.ifCond .lt 11, 3) := by decide +kernel
theorem dX1_at_9 : decode cX1_at 9 = .ok (.iload_n 1, 1) := by decide +kernel
theorem dX1_at_10 : decode cX1_at 10 = .ok (.aload_n 0, 1) := by decide +kernel
theorem dX1_at_11 : decode cX1_at 11 = .ok (.getfield 13, 3) := by decide +kernel
theorem dX1_at_14 : decode cX1_at 14 = .ok (.if_icmp .lt 7, 3) := by decide +kernel
theorem dX1_at_17 : decode cX1_at 17 = .ok (.iconst (-1), 1) := by decide +kernel
theorem dX1_at_18 : decode cX1_at 18 = .ok (.goto 9, 3) := by decide +kernel
theorem dX1_at_21 : decode cX1_at 21 = .ok (.aload_n 0, 1) := by decide +kernel
theorem dX1_at_22 : decode cX1_at 22 = .ok (.getfield 7, 3) := by decide +kernel
theorem dX1_at_25 : decode cX1_at 25 = .ok (.iload_n 1, 1) := by decide +kernel
theorem dX1_at_26 : decode cX1_at 26 = .ok (.iaload, 1) := by decide +kernel
theorem dX1_at_27 : decode cX1_at 27 = .ok (.ireturn, 1) := by decide +kernel
theorem dX1_greatest_0 : decode cX1_greatest 0 = .ok (.aload_n 0, 1) := by decide +kernel
theorem dX1_greatest_1 : decode cX1_greatest 1 = .ok (.iload_n 1, 1) := by decide +kernel
theorem dX1_greatest_2 : decode cX1_greatest 2 = .ok (.iload_n 2, 1) := by decide +kernel
theorem dX1_greatest_3 : decode cX1_greatest 3 = .ok (.iconst 0, 1) := by decide +kernel
theorem dX1_greatest_4 : decode cX1_greatest 4 = .ok (.invokevirtual 27, 3) := by decide +kernel
theorem dX1_greatest_7 : decode cX1_greatest 7 = .ok (.ifCond .eq 5, 3) := by decide +kernel
theorem dX1_greatest_10 : decode cX1_greatest 10 = .ok (.iconst 0, 1) := by decide +kernel
theorem dX1_greatest_11 : decode cX1_greatest 11 = .ok (.ireturn, 1) := by decide +kernel
theorem dX1_greatest_12 : decode cX1_greatest 12 = .ok (.iconst (-1), 1) := by decide +kernel
theorem dX1_greatest_13 : decode cX1_greatest 13 = .ok (.istore_n 3, 1) := by decide +kernel
theorem dX1_greatest_14 : decode cX1_greatest 14 = .ok (.aload_n 0, 1) := by decide +kernel
theorem dX1_greatest_15 : decode cX1_greatest 15 = .ok (.iload_n 1, 1) := by decide +kernel
theorem dX1_greatest_16 : decode cX1_greatest 16 = .ok (.invokevirtual 23, 3) := by decide +kernel
theorem dX1_greatest_19 : decode cX1_greatest 19 = .ok (.istore 4, 2) := by decide +kernel
theorem dX1_greatest_21 : decode cX1_greatest 21 = .ok (.iload 4, 2) := by decide +kernel
theorem dX1_greatest_23 : decode cX1_greatest 23 = .ok (.aload_n 0, 1) := by decide +kernel
theorem dX1_greatest_24 : decode cX1_greatest 24 = .ok (.iload_n 2, 1) := by decide +kernel
theorem dX1_greatest_25 : decode cX1_greatest 25 = .ok (.invokevirtual 23, 3) := by decide +kernel
theorem dX1_greatest_28 : decode cX1_greatest 28 = .ok (.if_icmp .gt 32, 3) := by decide +kernel
theorem dX1_greatest_31 : decode cX1_greatest 31 = .ok (.aload_n 0, 1) := by decide +kernel
theorem dX1_greatest_32 : decode cX1_greatest 32 = .ok (.getfield 7, 3) := by decide +kernel
theorem dX1_greatest_35 : decode cX1_greatest 35 = .ok (.iload 4, 2) := by decide +kernel
theorem dX1_greatest_37 : decode cX1_greatest 37 = .ok (.iaload, 1) := by decide +kernel
theorem dX1_greatest_38 : decode cX1_greatest 38 = .ok (.iload_n 3, 1) := by decide +kernel
theorem dX1_greatest_39 : decode cX1_greatest 39 = .ok (.if_icmp .le 13, 3) := by decide +kernel
theorem dX1_greatest_42 : decode cX1_greatest 42 = .ok (.aload_n 0, 1) := by decide +kernel
theorem dX1_greatest_43 : decode cX1_greatest 43 = .ok (.getfield 7, 3) := by decide +kernel
theorem dX1_greatest_46 : decode cX1_greatest 46 = .ok (.iload 4, 2) := by decide +kernel
theorem dX1_greatest_48 : decode cX1_greatest 48 = .ok (.iaload, 1) := by decide +kernel
theorem dX1_greatest_49 : decode cX1_greatest 49 = .ok (.goto 4, 3) := by decide +kernel
theorem dX1_greatest_52 : decode cX1_greatest 52 = .ok (.iload_n 3, 1) := by decide +kernel
theorem dX1_greatest_53 : decode cX1_greatest 53 = .ok (.istore_n 3, 1) := by decide +kernel
theorem dX1_greatest_54 : decode cX1_greatest 54 = .ok (.iinc 4 1, 3) := by decide +kernel
theorem dX1_greatest_57 : decode cX1_greatest 57 = .ok (.goto (-36), 3) := by decide +kernel
theorem dX1_greatest_60 : decode cX1_greatest 60 = .ok (.iload_n 3, 1) := by decide +kernel
theorem dX1_greatest_61 : decode cX1_greatest 61 = .ok (.ireturn, 1) := by decide +kernel
set_option maxRecDepth 20000 in
theorem gX1_greatest_X1_lacks : GoodIn wsX1_greatest (wsV RX1 27 RX1 yX1_lacks wsX1_lacks) := goodIn_app (goodIn_of _ (by decide +kernel)) (goodIn_r _ [6, 7, 8, 9, 10, 5, 11, 12, 1, 13, 14, 15, 16] (by decide +kernel) (by decide +kernel))
set_option maxRecDepth 20000 in
theorem gX1_greatest_X1_find : GoodIn wsX1_greatest (wsV RX1 23 RX1 yX1_find wsX1_find) := goodIn_app (goodIn_of _ (by decide +kernel)) (goodIn_r _ [11, 12, 1, 13, 14, 15, 16] (by decide +kernel) (by decide +kernel))
theorem dX1_wipe_0 : decode cX1_wipe 0 = .ok (.aload_n 0, 1) := by decide +kernel
theorem dX1_wipe_1 : decode cX1_wipe 1 = .ok (.iconst 0, 1) := by decide +kernel
theorem dX1_wipe_2 : decode cX1_wipe 2 = .ok (.putfield 20, 3) := by decide +kernel
theorem dX1_wipe_5 : decode cX1_wipe 5 = .ok (.aload_n 0, 1) := by decide +kernel
theorem dX1_wipe_6 : decode cX1_wipe 6 = .ok (.iconst 1, 1) := by decide +kernel
theorem dX1_wipe_7 : decode cX1_wipe 7 = .ok (.putfield 13, 3) := by decide +kernel
theorem dX1_wipe_10 : decode cX1_wipe 10 = .ok (.aload_n 0, 1) := by decide +kernel
theorem dX1_wipe_11 : decode cX1_wipe 11 = .ok (.getfield 7, 3) := by decide +kernel
theorem dX1_wipe_14 : decode cX1_wipe 14 = .ok (.iconst 0, 1) := by decide +kernel
theorem dX1_wipe_15 : decode cX1_wipe 15 = .ok (.iconst 0, 1) := by decide +kernel
theorem dX1_wipe_16 : decode cX1_wipe 16 = .ok (.iastore, 1) := by decide +kernel
theorem dX1_wipe_17 : decode cX1_wipe 17 = .ok (.return_, 1) := by decide +kernel
theorem dX1_look_0 : decode cX1_look 0 = .ok (.aload_n 0, 1) := by decide +kernel
theorem dX1_look_1 : decode cX1_look 1 = .ok (.iconst 0, 1) := by decide +kernel
theorem dX1_look_2 : decode cX1_look 2 = .ok (.putfield 20, 3) := by decide +kernel
theorem dX1_look_5 : decode cX1_look 5 = .ok (.iload_n 1, 1) := by decide +kernel
theorem dX1_look_6 : decode cX1_look 6 = .ok (.ifCond .ne 10, 3) := by decide +kernel
theorem dX1_look_9 : decode cX1_look 9 = .ok (.aload_n 0, 1) := by decide +kernel
theorem dX1_look_10 : decode cX1_look 10 = .ok (.getfield 13, 3) := by decide +kernel
theorem dX1_look_13 : decode cX1_look 13 = .ok (.goto 35, 3) := by decide +kernel
theorem dX1_look_16 : decode cX1_look 16 = .ok (.iload_n 1, 1) := by decide +kernel
theorem dX1_look_17 : decode cX1_look 17 = .ok (.iconst 1, 1) := by decide +kernel
theorem dX1_look_18 : decode cX1_look 18 = .ok (.if_icmp .ne 17, 3) := by decide +kernel
theorem dX1_look_21 : decode cX1_look 21 = .ok (.aload_n 0, 1) := by decide +kernel
theorem dX1_look_22 : decode cX1_look 22 = .ok (.getfield 7, 3) := by decide +kernel
theorem dX1_look_25 : decode cX1_look 25 = .ok (.aload_n 0, 1) := by decide +kernel
theorem dX1_look_26 : decode cX1_look 26 = .ok (.getfield 13, 3) := by decide +kernel
theorem dX1_look_29 : decode cX1_look 29 = .ok (.iconst 1, 1) := by decide +kernel
theorem dX1_look_30 : decode cX1_look 30 = .ok (.isub, 1) := by decide +kernel
theorem dX1_look_31 : decode cX1_look 31 = .ok (.iaload, 1) := by decide +kernel
theorem dX1_look_32 : decode cX1_look 32 = .ok (.goto 16, 3) := by decide +kernel
theorem dX1_look_35 : decode cX1_look 35 = .ok (.iload_n 1, 1) := by decide +kernel
theorem dX1_look_36 : decode cX1_look 36 = .ok (.iconst 2, 1) := by decide +kernel
theorem dX1_look_37 : decode cX1_look 37 = .ok (.if_icmp .ne 10, 3) := by decide +kernel
theorem dX1_look_40 : decode cX1_look 40 = .ok (.aload_n 0, 1) := by decide +kernel
theorem dX1_look_41 : decode cX1_look 41 = .ok (.invokevirtual 31, 3) := by decide +kernel
theorem dX1_look_44 : decode cX1_look 44 = .ok (.goto 4, 3) := by decide +kernel
theorem dX1_look_47 : decode cX1_look 47 = .ok (.iconst (-1), 1) := by decide +kernel
theorem dX1_look_48 : decode cX1_look 48 = .ok (.ireturn, 1) := by decide +kernel
set_option maxRecDepth 20000 in
theorem gX1_look_X1_free : GoodIn wsX1_look (wsV RX1 31 RX1 yX1_free wsX1_free) := goodIn_app (goodIn_of _ (by decide +kernel)) (goodIn_r _ [8, 9, 10, 11, 7, 12, 2, 3, 13, 14, 15, 16] (by decide +kernel) (by decide +kernel))
end
section
/-! THE LINE AS A FUNCTION ON PLACES: n stamps; the stamp at place p is L p. Both sides are tied to it. -/
def ol_ok (n : Nat) (L : Nat → Nat) : Prop := 1 ≤ n ∧ n ≤ 1000 ∧ L 0 = 0 ∧ (∀ p, p < n → L p < 1000) ∧ ∀ p q, p < n → q < n → L p = L q → p = q
/-- the row of the stamps in their order -/
def ol_f (n : Nat) (L : Nat → Nat) (f : Nat → Int32) : Prop := ∀ p, p < n → f p = nI (L p)
/-- the row of the places -/
def ol_g (n : Nat) (L : Nat → Nat) (g : Nat → Int32) : Prop := (∀ p, p < n → g (L p) = nI p) ∧ ∀ v, v < 1000 → (∀ p, p < n → L p ≠ v) → g v = -1
def ol_at (n : Nat) (L : Nat → Nat) (x : Int32) (p : Nat) : Prop := p < n ∧ x = nI (L p)
def ol_no (n : Nat) (L : Nat → Nat) (x : Int32) : Prop := ∀ p, p < n → x ≠ nI (L p)
theorem ol_dec (n : Nat) (L : Nat → Nat) (x : Int32) : (∃ p, ol_at n L x p) ∨ ol_no n L x := by
  by_cases h : ∃ p, ol_at n L x p
  · exact Or.inl h
  · exact Or.inr (fun p hp e => h ⟨p, hp, e⟩)
theorem ol_m1 {n : Nat} (h : n < 2 ^ 31) : nI n ≠ -1 := by
  intro e
  have h1 := congrArg Int32.toInt e
  rw [nI_toInt h] at h1
  have h2 : (-1 : Int32).toInt = -1 := by decide
  omega
theorem ol_neg (n : Nat) (h : n < 2 ^ 31) : ¬ nI n < 0 := nI_pos h
theorem ol_at_un {n : Nat} {L : Nat → Nat} (h : ol_ok n L) {x : Int32} {p q : Nat} (hp : ol_at n L x p) (hq : ol_at n L x q) : p = q := by
  have h1 := h.2.2.2.1 p hp.1
  have h2 := h.2.2.2.1 q hq.1
  have e : nI (L p) = nI (L q) := hp.2.symm.trans hq.2
  exact h.2.2.2.2 p q hp.1 hq.1 ((nI_eq (by omega) (by omega)).mp e)
theorem ol_at_no {n : Nat} {L : Nat → Nat} {x : Int32} {p : Nat} (hp : ol_at n L x p) (h : ol_no n L x) : False := h p hp.1 hp.2
theorem ol_at0 {n : Nat} {L : Nat → Nat} (h : ol_ok n L) : ol_at n L 0 0 := ⟨h.1, by rw [h.2.2.1]; exact nI_0.symm⟩
/-- pigeons -/
theorem ol_pig : ∀ (m n : Nat) (f : Nat → Nat), (∀ p, p < n → f p < m) → (∀ p q, p < n → q < n → f p = f q → p = q) → n ≤ m := by
  intro m
  induction m with
  | zero =>
    intro n f hb _
    rcases Nat.eq_zero_or_pos n with h | h
    · omega
    · exact absurd (hb 0 h) (Nat.not_lt_zero _)
  | succ m ih =>
    intro n f hb hi
    rcases Nat.eq_zero_or_pos n with h | h
    · omega
    · have hl := hb (n - 1) (by omega)
      have h1 := ih (n - 1) (fun p => if f p = m then f (n - 1) else f p) (by
        intro p hp
        have h2 := hb p (by omega)
        show (if f p = m then f (n - 1) else f p) < m
        by_cases e : f p = m
        · have h3 : f (n - 1) ≠ m := fun e2 => by
            have h4 := hi p (n - 1) (by omega) (by omega) (by rw [e, e2])
            omega
          rw [if_pos e]; omega
        · rw [if_neg e]; omega) (by
        intro p q hp hq e
        have e : (if f p = m then f (n - 1) else f p) = (if f q = m then f (n - 1) else f q) := e
        by_cases e1 : f p = m
        · by_cases e2 : f q = m
          · exact hi p q (by omega) (by omega) (by rw [e1, e2])
          · rw [if_pos e1, if_neg e2] at e
            have h4 := hi (n - 1) q (by omega) (by omega) e
            omega
        · by_cases e2 : f q = m
          · rw [if_neg e1, if_pos e2] at e
            have h4 := hi p (n - 1) (by omega) (by omega) e
            omega
          · rw [if_neg e1, if_neg e2] at e
            exact hi p q (by omega) (by omega) e)
      omega
/-- the least number that none has (1000: all have one) -/
def ol_lf (n : Nat) (L : Nat → Nat) (k : Nat) : Prop := k ≤ 1000 ∧ (∀ v, v < k → ∃ p, p < n ∧ L p = v) ∧ (k < 1000 → ∀ p, p < n → L p ≠ k)
theorem ol_lf_ex (n : Nat) (L : Nat → Nat) : ∃ k, ol_lf n L k := by
  obtain ⟨k, hk, hm⟩ := pk_least (fun k => k = 1000 ∨ ∀ p, p < n → L p ≠ k) ⟨1000, Or.inl rfl⟩
  refine ⟨k, ?_, ?_, ?_⟩
  · rcases Nat.lt_or_ge 1000 k with h | h
    · exact absurd (Or.inl rfl) (hm 1000 h)
    · exact h
  · intro v hv
    by_cases h : ∃ p, p < n ∧ L p = v
    · exact h
    · exact absurd (Or.inr fun p hp e => h ⟨p, hp, e⟩) (hm v hv)
  · intro hlt
    rcases hk with h | h
    · omega
    · exact h
theorem ol_lf_un {n : Nat} {L : Nat → Nat} {a b : Nat} (ha : ol_lf n L a) (hb : ol_lf n L b) : a = b := by
  rcases Nat.lt_trichotomy a b with h | h | h
  · obtain ⟨p, hp, e⟩ := hb.2.1 a h
    exact absurd e (ha.2.2 (by have := hb.1; omega) p hp)
  · exact h
  · obtain ⟨p, hp, e⟩ := ha.2.1 b h
    exact absurd e (hb.2.2 (by have := ha.1; omega) p hp)
noncomputable def ol_fr (n : Nat) (L : Nat → Nat) : Nat := Classical.choose (ol_lf_ex n L)
theorem ol_fr_lf (n : Nat) (L : Nat → Nat) : ol_lf n L (ol_fr n L) := Classical.choose_spec (ol_lf_ex n L)
theorem ol_fr_of {n : Nat} {L : Nat → Nat} {k : Nat} (h : ol_lf n L k) : ol_fr n L = k := ol_lf_un (ol_fr_lf n L) h
theorem ol_fr_lt {n : Nat} {L : Nat → Nat} (h : ol_ok n L) (hn : n < 1000) : ol_fr n L < 1000 := by
  have hs := ol_fr_lf n L
  rcases Nat.lt_or_ge (ol_fr n L) 1000 with hl | hl
  · exact hl
  · have hall : ∀ v, v < 1000 → ∃ p, p < n ∧ L p = v := fun v hv => hs.2.1 v (by omega)
    have hc : ∀ v, ∃ p, v < 1000 → p < n ∧ L p = v := fun v => by
      by_cases hv : v < 1000
      · obtain ⟨p, hp⟩ := hall v hv
        exact ⟨p, fun _ => hp⟩
      · exact ⟨0, fun h => absurd h hv⟩
    have h1 := ol_pig n 1000 (fun v => Classical.choose (hc v)) (fun v hv => (Classical.choose_spec (hc v) hv).1) (fun v w hv hw e => by
      have e1 := (Classical.choose_spec (hc v) hv).2
      have e2 := (Classical.choose_spec (hc w) hw).2
      have e : Classical.choose (hc v) = Classical.choose (hc w) := e
      rw [← e1, ← e2, e])
    omega
theorem ol_fr_full {L : Nat → Nat} (h : ol_ok 1000 L) : ol_fr 1000 L = 1000 := by
  have hs := ol_fr_lf 1000 L
  rcases Nat.lt_or_ge (ol_fr 1000 L) 1000 with hl | hl
  · have hf := hs.2.2 hl
    have h1 := ol_pig 1000 1001 (fun p => if p = 1000 then ol_fr 1000 L else L p) (fun p hp => by
      show (if p = 1000 then ol_fr 1000 L else L p) < 1000
      by_cases e : p = 1000
      · rw [if_pos e]; exact hl
      · rw [if_neg e]; exact h.2.2.2.1 p (by omega)) (fun p q hp hq e => by
      have e : (if p = 1000 then ol_fr 1000 L else L p) = (if q = 1000 then ol_fr 1000 L else L q) := e
      by_cases e1 : p = 1000
      · by_cases e2 : q = 1000
        · omega
        · rw [if_pos e1, if_neg e2] at e
          exact absurd e.symm (hf q (by omega))
      · by_cases e2 : q = 1000
        · rw [if_neg e1, if_pos e2] at e
          exact absurd e (hf p (by omega))
        · rw [if_neg e1, if_neg e2] at e
          exact h.2.2.2.2 p q (by omega) (by omega) e)
    omega
  · have := hs.1
    omega
/-- one more, v at place q -/
def ol_ins (L : Nat → Nat) (q v : Nat) : Nat → Nat := fun p => if p < q then L p else if p = q then v else L (p - 1)
theorem ol_ins_lo {L : Nat → Nat} {q v p : Nat} (h : p < q) : ol_ins L q v p = L p := if_pos h
theorem ol_ins_at (L : Nat → Nat) (q v : Nat) : ol_ins L q v q = v := by
  unfold ol_ins
  rw [if_neg (Nat.lt_irrefl q), if_pos rfl]
theorem ol_ins_hi {L : Nat → Nat} {q v p : Nat} (h : q < p) : ol_ins L q v p = L (p - 1) := by
  unfold ol_ins
  rw [if_neg (by omega), if_neg (by omega)]
theorem ol_ok_ins {n : Nat} {L : Nat → Nat} (h : ol_ok n L) {q v : Nat} (h1 : 1 ≤ q) (hq : q ≤ n) (hn : n < 1000) (hv : v < 1000) (hf : ∀ p, p < n → L p ≠ v) : ol_ok (n + 1) (ol_ins L q v) := by
  obtain ⟨g1, g2, g3, g4, g5⟩ := h
  refine ⟨by omega, by omega, by rw [ol_ins_lo (by omega)]; exact g3, ?_, ?_⟩
  · intro p hp
    rcases Nat.lt_trichotomy p q with c | c | c
    · rw [ol_ins_lo c]; exact g4 p (by omega)
    · subst c; rw [ol_ins_at]; exact hv
    · rw [ol_ins_hi c]; exact g4 (p - 1) (by omega)
  · intro a b ha hb e
    rcases Nat.lt_trichotomy a q with ca | ca | ca
    · rw [ol_ins_lo ca] at e
      rcases Nat.lt_trichotomy b q with cb | cb | cb
      · rw [ol_ins_lo cb] at e; exact g5 a b (by omega) (by omega) e
      · subst cb; rw [ol_ins_at] at e; exact absurd e (hf a (by omega))
      · rw [ol_ins_hi cb] at e; have := g5 a (b - 1) (by omega) (by omega) e; omega
    · subst ca
      rw [ol_ins_at] at e
      rcases Nat.lt_trichotomy b a with cb | cb | cb
      · rw [ol_ins_lo cb] at e; exact absurd e.symm (hf b (by omega))
      · exact cb.symm
      · rw [ol_ins_hi cb] at e; exact absurd e.symm (hf (b - 1) (by omega))
    · rw [ol_ins_hi ca] at e
      rcases Nat.lt_trichotomy b q with cb | cb | cb
      · rw [ol_ins_lo cb] at e; have := g5 (a - 1) b (by omega) (by omega) e; omega
      · subst cb; rw [ol_ins_at] at e; exact absurd e (hf (a - 1) (by omega))
      · rw [ol_ins_hi cb] at e; have := g5 (a - 1) (b - 1) (by omega) (by omega) e; omega
/-- j more at the places q, q + 1 .., each the least number that none has -/
noncomputable def ol_many (n : Nat) (L : Nat → Nat) (q : Nat) : Nat → Nat → Nat
  | 0 => L
  | j + 1 => ol_ins (ol_many n L q j) (q + j) (ol_fr (n + j) (ol_many n L q j))
theorem ol_many_lo {n : Nat} {L : Nat → Nat} {q p : Nat} (h : p < q) : ∀ j, ol_many n L q j p = L p := by
  intro j
  induction j with
  | zero => rfl
  | succ j ih =>
    show ol_ins (ol_many n L q j) (q + j) (ol_fr (n + j) (ol_many n L q j)) p = L p
    rw [ol_ins_lo (by omega)]
    exact ih
theorem ol_many_hi {n : Nat} {L : Nat → Nat} {q : Nat} : ∀ j p, q + j ≤ p → ol_many n L q j p = L (p - j) := by
  intro j
  induction j with
  | zero => intro p _; rfl
  | succ j ih =>
    intro p hp
    show ol_ins (ol_many n L q j) (q + j) (ol_fr (n + j) (ol_many n L q j)) p = L (p - (j + 1))
    rw [ol_ins_hi (by omega), ih (p - 1) (by omega)]
    congr 1
    omega
theorem ol_many_at {n : Nat} {L : Nat → Nat} {q j : Nat} : ol_many n L q (j + 1) (q + j) = ol_fr (n + j) (ol_many n L q j) := ol_ins_at _ _ _
theorem ol_many_keep {n : Nat} {L : Nat → Nat} {q i : Nat} : ∀ j, i < j → ol_many n L q j (q + i) = ol_fr (n + i) (ol_many n L q i) := by
  intro j
  induction j with
  | zero => intro h; omega
  | succ j ih =>
    intro h
    rcases Nat.lt_or_ge i j with c | c
    · show ol_ins (ol_many n L q j) (q + j) (ol_fr (n + j) (ol_many n L q j)) (q + i) = _
      rw [ol_ins_lo (by omega)]
      exact ih c
    · have e : i = j := by omega
      subst e
      exact ol_many_at
theorem ol_ok_many {n : Nat} {L : Nat → Nat} (h : ol_ok n L) {q : Nat} (h1 : 1 ≤ q) (hq : q ≤ n) : ∀ j, n + j ≤ 1000 → ol_ok (n + j) (ol_many n L q j) := by
  intro j
  induction j with
  | zero => intro _; exact h
  | succ j ih =>
    intro hj
    have h2 := ih (by omega)
    have h3 := ol_fr_lt h2 (by omega)
    exact ol_ok_ins h2 (by omega) (by omega) (by omega) h3 ((ol_fr_lf _ _).2.2 h3)
/-- w go, from place s on -/
def ol_rem (L : Nat → Nat) (s w : Nat) : Nat → Nat := fun p => if p < s then L p else L (p + w)
theorem ol_rem_lo {L : Nat → Nat} {s w p : Nat} (h : p < s) : ol_rem L s w p = L p := if_pos h
theorem ol_rem_hi {L : Nat → Nat} {s w p : Nat} (h : s ≤ p) : ol_rem L s w p = L (p + w) := if_neg (by omega)
theorem ol_rem_0 (L : Nat → Nat) (s : Nat) : ol_rem L s 0 = L := by
  funext p
  unfold ol_rem
  split <;> rfl
theorem ol_rem_1 (L : Nat → Nat) (s w : Nat) : ol_rem (ol_rem L s w) s 1 = ol_rem L s (w + 1) := by
  funext p
  rcases Nat.lt_or_ge p s with h | h
  · rw [ol_rem_lo h, ol_rem_lo h, ol_rem_lo h]
  · rw [ol_rem_hi h, ol_rem_hi (by omega), ol_rem_hi h]
    congr 1
    omega
theorem ol_ok_rem {n : Nat} {L : Nat → Nat} (h : ol_ok n L) {s w : Nat} (h1 : 1 ≤ s) (hs : s + w ≤ n) : ol_ok (n - w) (ol_rem L s w) := by
  obtain ⟨g1, g2, g3, g4, g5⟩ := h
  refine ⟨by omega, by omega, by rw [ol_rem_lo (by omega)]; exact g3, ?_, ?_⟩
  · intro p hp
    rcases Nat.lt_or_ge p s with c | c
    · rw [ol_rem_lo c]; exact g4 p (by omega)
    · rw [ol_rem_hi c]; exact g4 (p + w) (by omega)
  · intro a b ha hb e
    rcases Nat.lt_or_ge a s with ca | ca
    · rw [ol_rem_lo ca] at e
      rcases Nat.lt_or_ge b s with cb | cb
      · rw [ol_rem_lo cb] at e; exact g5 a b (by omega) (by omega) e
      · rw [ol_rem_hi cb] at e; have := g5 a (b + w) (by omega) (by omega) e; omega
    · rw [ol_rem_hi ca] at e
      rcases Nat.lt_or_ge b s with cb | cb
      · rw [ol_rem_lo cb] at e; have := g5 (a + w) b (by omega) (by omega) e; omega
      · rw [ol_rem_hi cb] at e; have := g5 (a + w) (b + w) (by omega) (by omega) e; omega
/-- the places s .. e - 1 the other way round -/
def ol_rev (L : Nat → Nat) (s e : Nat) : Nat → Nat := fun p => if s ≤ p ∧ p < e then L (s + e - 1 - p) else L p
theorem ol_rev_in {L : Nat → Nat} {s e p : Nat} (h1 : s ≤ p) (h2 : p < e) : ol_rev L s e p = L (s + e - 1 - p) := if_pos ⟨h1, h2⟩
theorem ol_rev_out {L : Nat → Nat} {s e p : Nat} (h : p < s ∨ e ≤ p) : ol_rev L s e p = L p := if_neg (by omega)
theorem ol_ok_rev {n : Nat} {L : Nat → Nat} (h : ol_ok n L) {s e : Nat} (h1 : 1 ≤ s) (he : e ≤ n) : ol_ok n (ol_rev L s e) := by
  obtain ⟨g1, g2, g3, g4, g5⟩ := h
  refine ⟨g1, g2, by rw [ol_rev_out (by omega)]; exact g3, ?_, ?_⟩
  · intro p hp
    by_cases c : s ≤ p ∧ p < e
    · rw [ol_rev_in c.1 c.2]; exact g4 _ (by omega)
    · rw [ol_rev_out (by omega)]; exact g4 p hp
  · intro a b ha hb q
    by_cases ca : s ≤ a ∧ a < e
    · rw [ol_rev_in ca.1 ca.2] at q
      by_cases cb : s ≤ b ∧ b < e
      · rw [ol_rev_in cb.1 cb.2] at q; have := g5 _ _ (by omega) (by omega) q; omega
      · rw [ol_rev_out (by omega)] at q; have := g5 _ _ (by omega) (by omega) q; omega
    · rw [ol_rev_out (by omega)] at q
      by_cases cb : s ≤ b ∧ b < e
      · rw [ol_rev_in cb.1 cb.2] at q; have := g5 _ _ (by omega) (by omega) q; omega
      · rw [ol_rev_out (by omega)] at q; exact g5 _ _ (by omega) (by omega) q
/-- the places s .. m - 1 and m .. e - 1 change sides -/
def ol_swp (L : Nat → Nat) (s m e : Nat) : Nat → Nat := fun p => if p < s ∨ e ≤ p then L p else if p < s + (e - m) then L (m + (p - s)) else L (p - (e - m))
theorem ol_swp_out {L : Nat → Nat} {s m e p : Nat} (h : p < s ∨ e ≤ p) : ol_swp L s m e p = L p := if_pos h
theorem ol_swp_a {L : Nat → Nat} {s m e p : Nat} (h1 : s ≤ p) (h2 : p < e) (h3 : p < s + (e - m)) : ol_swp L s m e p = L (m + (p - s)) := by
  unfold ol_swp
  rw [if_neg (by omega), if_pos h3]
theorem ol_swp_b {L : Nat → Nat} {s m e p : Nat} (h2 : p < e) (h3 : s + (e - m) ≤ p) : ol_swp L s m e p = L (p - (e - m)) := by
  unfold ol_swp
  rw [if_neg (by omega), if_neg (by omega)]
theorem ol_rev3 (L : Nat → Nat) {s m e : Nat} (h1 : s ≤ m) (h2 : m ≤ e) : ol_rev (ol_rev (ol_rev L s m) m e) s e = ol_swp L s m e := by
  funext p
  by_cases c : s ≤ p ∧ p < e
  · rw [ol_rev_in c.1 c.2]
    by_cases d : p < s + (e - m)
    · rw [ol_swp_a c.1 c.2 d, ol_rev_in (by omega) (by omega), ol_rev_out (by omega)]
      congr 1
      omega
    · rw [ol_swp_b c.2 (by omega), ol_rev_out (by omega), ol_rev_in (by omega) (by omega)]
      congr 1
      omega
  · rw [ol_rev_out (by omega), ol_swp_out (by omega), ol_rev_out (by omega), ol_rev_out (by omega)]
/-- w of B at the places q .. q + w - 1 -/
def ol_blk (L B : Nat → Nat) (q w : Nat) : Nat → Nat := fun p => if p < q then L p else if p < q + w then B (p - q) else L (p - w)
theorem ol_blk_lo {L B : Nat → Nat} {q w p : Nat} (h : p < q) : ol_blk L B q w p = L p := if_pos h
theorem ol_blk_in {L B : Nat → Nat} {q w p : Nat} (h : q ≤ p) (h2 : p < q + w) : ol_blk L B q w p = B (p - q) := by
  unfold ol_blk
  rw [if_neg (by omega), if_pos h2]
theorem ol_blk_hi {L B : Nat → Nat} {q w p : Nat} (h : q + w ≤ p) : ol_blk L B q w p = L (p - w) := by
  unfold ol_blk
  rw [if_neg (by omega), if_neg (by omega)]
theorem ol_blk_0 (L B : Nat → Nat) (q : Nat) : ol_blk L B q 0 = L := by
  funext p
  rcases Nat.lt_or_ge p q with h | h
  · rw [ol_blk_lo h]
  · rw [ol_blk_hi (by omega)]; rfl
theorem ol_blk_1 (L B : Nat → Nat) (q w : Nat) : ol_ins (ol_blk L B q w) (q + w) (B w) = ol_blk L B q (w + 1) := by
  funext p
  rcases Nat.lt_trichotomy p (q + w) with h | h | h
  · rw [ol_ins_lo h]
    rcases Nat.lt_or_ge p q with c | c
    · rw [ol_blk_lo c, ol_blk_lo c]
    · rw [ol_blk_in c h, ol_blk_in c (by omega)]
  · subst h
    rw [ol_ins_at, ol_blk_in (by omega) (by omega)]
    congr 1
    omega
  · rw [ol_ins_hi h, ol_blk_hi (by omega), ol_blk_hi (by omega)]
    congr 1
    omega
theorem ol_carry_lo (L : Nat → Nat) {a b c : Nat} (h : c ≤ a) (h2 : a < b) : ol_blk (ol_rem L (a + 1) (b - a - 1)) (fun j => L (a + 1 + j)) (c + 1) (b - a - 1) = ol_swp L (c + 1) (a + 1) b := by
  funext p
  rcases Nat.lt_or_ge p (c + 1) with k | k
  · rw [ol_blk_lo k, ol_rem_lo (by omega), ol_swp_out (by omega)]
  · rcases Nat.lt_or_ge p (c + 1 + (b - a - 1)) with k2 | k2
    · rw [ol_blk_in k k2, ol_swp_a (by omega) (by omega) (by omega)]
    · rw [ol_blk_hi k2]
      rcases Nat.lt_or_ge p b with k3 | k3
      · rw [ol_rem_lo (by omega), ol_swp_b k3 (by omega)]
        congr 1
        try omega
      · rw [ol_rem_hi (by omega), ol_swp_out (by omega)]
        congr 1
        omega
theorem ol_carry_hi (L : Nat → Nat) {a b c : Nat} (h : b ≤ c) (h2 : a < b) : ol_blk (ol_rem L (a + 1) (b - a - 1)) (fun j => L (a + 1 + j)) (c - (b - a - 1) + 1) (b - a - 1) = ol_swp L (a + 1) b (c + 1) := by
  funext p
  rcases Nat.lt_or_ge p (c - (b - a - 1) + 1) with k | k
  · rw [ol_blk_lo k]
    rcases Nat.lt_or_ge p (a + 1) with k2 | k2
    · rw [ol_rem_lo k2, ol_swp_out (by omega)]
    · rw [ol_rem_hi k2, ol_swp_a k2 (by omega) (by omega)]
      congr 1
      omega
  · rcases Nat.lt_or_ge p (c + 1) with k2 | k2
    · rw [ol_blk_in k (by omega), ol_swp_b k2 (by omega)]
      show L _ = L _
      congr 1
      omega
    · rw [ol_blk_hi (by omega), ol_rem_hi (by omega), ol_swp_out (by omega)]
      congr 1
      omega
theorem ol_ok_swp {n : Nat} {L : Nat → Nat} (h : ol_ok n L) {s m e : Nat} (h1 : 1 ≤ s) (h2 : s ≤ m) (h3 : m ≤ e) (he : e ≤ n) : ol_ok n (ol_swp L s m e) := by
  rw [← ol_rev3 L h2 h3]
  exact ol_ok_rev (ol_ok_rev (ol_ok_rev h h1 (by omega)) (by omega) he) h1 he
/-- the greatest of j, from place a on -/
def ol_top (L : Nat → Nat) (a : Nat) : Nat → Int32
  | 0 => -1
  | j + 1 => if ol_top L a j < nI (L (a + j)) then nI (L (a + j)) else ol_top L a j
/-! THE LOOPS OF THE LINE'S KEEPER, a step each -/
def ol_t1 (N : Nat) (L : Nat → Nat) (s0 i : Nat) (g : Nat → Int32) : Prop := (∀ p, p < N → (p < s0 ∨ s0 + i ≤ p) → g (L p) = nI p) ∧ (∀ p, s0 ≤ p → p < s0 + i → g (L p) = -1) ∧ ∀ v, v < 1000 → (∀ p, p < N → L p ≠ v) → g v = -1
theorem ol_t1_0 {N : Nat} {L : Nat → Nat} {s0 : Nat} {g : Nat → Int32} (hg : ol_g N L g) : ol_t1 N L s0 0 g := ⟨fun p hp _ => hg.1 p hp, fun p h1 h2 => by omega, hg.2⟩
theorem ol_t1_s {N : Nat} {L : Nat → Nat} {s0 i : Nat} {g : Nat → Int32} (ok : ol_ok N L) (h : ol_t1 N L s0 i g) (hi : s0 + i < N) : ol_t1 N L s0 (i + 1) (upd g (L (s0 + i)) (-1)) := by
  obtain ⟨h1, h2, h3⟩ := h
  have inj := ok.2.2.2.2
  refine ⟨fun p hp c => ?_, fun p c1 c2 => ?_, fun v hv hn => ?_⟩
  · rw [pk_un (fun e => by have := inj p (s0 + i) hp hi e; omega)]
    exact h1 p hp (by omega)
  · by_cases e : p = s0 + i
    · subst e; exact pk_us
    · rw [pk_un (fun q => e (inj p (s0 + i) (by omega) hi q))]
      exact h2 p c1 (by omega)
  · rw [pk_un (fun e => hn (s0 + i) hi e.symm)]
    exact h3 v hv hn
def ol_t2 (N : Nat) (L : Nat → Nat) (s0 w j : Nat) (f g : Nat → Int32) : Prop := (∀ p, p < s0 → f p = nI (L p) ∧ g (L p) = nI p) ∧ (∀ p, s0 ≤ p → p < s0 + j → f p = nI (L (p + w)) ∧ g (L (p + w)) = nI p) ∧ (∀ p, s0 + w + j ≤ p → p < N → f p = nI (L p)) ∧ ∀ v, v < 1000 → (∀ p, p < N → (p < s0 ∨ s0 + w ≤ p) → L p ≠ v) → g v = -1
theorem ol_t2_0 {N : Nat} {L : Nat → Nat} {s0 w : Nat} {f g : Nat → Int32} (hf : ol_f N L f) (h : ol_t1 N L s0 w g) (hs : s0 + w ≤ N) : ol_t2 N L s0 w 0 f g := by
  refine ⟨fun p hp => ⟨hf p (by omega), h.1 p (by omega) (by omega)⟩, fun p a b => by omega, fun p a b => hf p b, fun v hv hn => ?_⟩
  by_cases c : ∃ p, p < N ∧ L p = v
  · obtain ⟨p, hp, e⟩ := c
    have h4 : ¬ (p < s0 ∨ s0 + w ≤ p) := fun q => hn p hp q e
    rw [← e]
    exact h.2.1 p (by omega) (by omega)
  · exact h.2.2 v hv (fun p hp e => c ⟨p, hp, e⟩)
theorem ol_t2_s {N : Nat} {L : Nat → Nat} {s0 w j : Nat} {f g : Nat → Int32} (ok : ol_ok N L) (h : ol_t2 N L s0 w j f g) (hj : s0 + w + j < N) : ol_t2 N L s0 w (j + 1) (upd f (s0 + j) (nI (L (s0 + w + j)))) (upd g (L (s0 + w + j)) (nI (s0 + j))) := by
  obtain ⟨h1, h2, h3, h4⟩ := h
  have inj := ok.2.2.2.2
  refine ⟨fun p hp => ⟨?_, ?_⟩, fun p c1 c2 => ?_, fun p c1 c2 => ?_, fun v hv hn => ?_⟩
  · rw [pk_un (by omega)]; exact (h1 p hp).1
  · rw [pk_un (fun e => by have := inj p (s0 + w + j) (by omega) hj e; omega)]; exact (h1 p hp).2
  · by_cases e : p = s0 + j
    · subst e
      have e2 : s0 + j + w = s0 + w + j := by omega
      rw [e2]
      exact ⟨pk_us, pk_us⟩
    · rw [pk_un e, pk_un (fun q => e (by have := inj (p + w) (s0 + w + j) (by omega) hj q; omega))]
      exact h2 p c1 (by omega)
  · rw [pk_un (by omega)]; exact h3 p (by omega) c2
  · rw [pk_un (fun e => hn (s0 + w + j) hj (by omega) e.symm)]
    exact h4 v hv hn
theorem ol_t2_e {N : Nat} {L : Nat → Nat} {s0 w : Nat} {f g : Nat → Int32} (h : ol_t2 N L s0 w (N - (s0 + w)) f g) (hs : s0 + w ≤ N) : ol_f (N - w) (ol_rem L s0 w) f ∧ ol_g (N - w) (ol_rem L s0 w) g := by
  obtain ⟨h1, h2, -, h4⟩ := h
  refine ⟨fun p hp => ?_, fun p hp => ?_, fun v hv hn => ?_⟩
  · rcases Nat.lt_or_ge p s0 with c | c
    · rw [ol_rem_lo c]; exact (h1 p c).1
    · rw [ol_rem_hi c]; exact (h2 p c (by omega)).1
  · rcases Nat.lt_or_ge p s0 with c | c
    · rw [ol_rem_lo c]; exact (h1 p c).2
    · rw [ol_rem_hi c]; exact (h2 p c (by omega)).2
  · refine h4 v hv (fun p hp c e => ?_)
    rcases c with c | c
    · exact hn p (by omega) (by rw [ol_rem_lo c]; exact e)
    · refine hn (p - w) (by omega) ?_
      rw [ol_rem_hi (by omega), show p - w + w = p by omega]
      exact e
/-- the gap: the places from k on have moved by w -/
def ol_o (N : Nat) (L : Nat → Nat) (w k : Nat) (f g : Nat → Int32) : Prop := (∀ p, p < k → f p = nI (L p) ∧ g (L p) = nI p) ∧ (∀ p, k ≤ p → p < N → f (p + w) = nI (L p) ∧ g (L p) = nI (p + w)) ∧ ∀ v, v < 1000 → (∀ p, p < N → L p ≠ v) → g v = -1
theorem ol_o_0 {N : Nat} {L : Nat → Nat} {w : Nat} {f g : Nat → Int32} (hf : ol_f N L f) (hg : ol_g N L g) : ol_o N L w N f g := ⟨fun p hp => ⟨hf p hp, hg.1 p hp⟩, fun p a b => by omega, hg.2⟩
theorem ol_o_s {N : Nat} {L : Nat → Nat} {w k : Nat} {f g : Nat → Int32} (ok : ol_ok N L) (h : ol_o N L w (k + 1) f g) (hk : k < N) : ol_o N L w k (upd f (k + w) (nI (L k))) (upd g (L k) (nI (k + w))) := by
  obtain ⟨h1, h2, h3⟩ := h
  have inj := ok.2.2.2.2
  refine ⟨fun p hp => ⟨?_, ?_⟩, fun p c1 c2 => ?_, fun v hv hn => ?_⟩
  · rw [pk_un (by omega)]; exact (h1 p (by omega)).1
  · rw [pk_un (fun e => by have := inj p k (by omega) hk e; omega)]; exact (h1 p (by omega)).2
  · by_cases e : p = k
    · subst e; exact ⟨pk_us, pk_us⟩
    · rw [pk_un (by omega), pk_un (fun q => e (inj p k c2 hk q))]
      exact h2 p (by omega) c2
  · rw [pk_un (fun e => hn k hk e.symm)]; exact h3 v hv hn
/-- the gap is filled up to j, all numbers under v have been looked at -/
def ol_w (N : Nat) (L : Nat → Nat) (s0 w j v : Nat) (f g : Nat → Int32) : Prop :=
  (∀ p, p < s0 → f p = nI (L p) ∧ g (L p) = nI p) ∧ (∀ i, i < j → f (s0 + i) = nI (ol_many N L s0 j (s0 + i)) ∧ g (ol_many N L s0 j (s0 + i)) = nI (s0 + i)) ∧
  (∀ p, s0 ≤ p → p < N → f (p + w) = nI (L p) ∧ g (L p) = nI (p + w)) ∧ (∀ u, u < 1000 → (∀ p, p < N + j → ol_many N L s0 j p ≠ u) → g u = -1) ∧ ∀ u, u < v → ∃ p, p < N + j ∧ ol_many N L s0 j p = u
theorem ol_w_0 {N : Nat} {L : Nat → Nat} {s0 w : Nat} {f g : Nat → Int32} (h : ol_o N L w s0 f g) : ol_w N L s0 w 0 0 f g :=
  ⟨h.1, fun i hi => by omega, h.2.1, fun u hu hn => h.2.2 u hu hn, fun u hu => by omega⟩
theorem ol_w_used {N : Nat} {L : Nat → Nat} {s0 w j v : Nat} {f g : Nat → Int32} (h : ol_w N L s0 w j v f g) (hs : s0 ≤ N) {p : Nat} (hp : p < N + j) : ∃ q, q < N + w + j ∧ g (ol_many N L s0 j p) = nI q := by
  obtain ⟨h1, h2, h3, -, -⟩ := h
  rcases Nat.lt_or_ge p s0 with c | c
  · exact ⟨p, by omega, by rw [ol_many_lo c]; exact (h1 p c).2⟩
  · rcases Nat.lt_or_ge p (s0 + j) with c2 | c2
    · have e : p = s0 + (p - s0) := by omega
      have h5 := (h2 (p - s0) (by omega)).2
      rw [← e] at h5
      exact ⟨p, by omega, h5⟩
    · exact ⟨p - j + w, by omega, by rw [ol_many_hi j p c2]; exact (h3 (p - j) (by omega) (by omega)).2⟩
theorem ol_w_skip {N : Nat} {L : Nat → Nat} {s0 w j v : Nat} {f g : Nat → Int32} (h : ol_w N L s0 w j v f g) (hv : v < 1000) (hg : g v ≠ -1) : ol_w N L s0 w j (v + 1) f g := by
  obtain ⟨h1, h2, h3, h4, h5⟩ := h
  refine ⟨h1, h2, h3, h4, fun u hu => ?_⟩
  rcases Nat.lt_or_ge u v with c | c
  · exact h5 u c
  · have e : u = v := by omega
    subst e
    by_cases hx : ∃ p, p < N + j ∧ ol_many N L s0 j p = u
    · exact hx
    · exact absurd (h4 u hv (fun p hp e => hx ⟨p, hp, e⟩)) hg
theorem ol_w_free {N : Nat} {L : Nat → Nat} {s0 w j v : Nat} {f g : Nat → Int32} (h : ol_w N L s0 w j v f g) (hs : s0 ≤ N) (hN : N + w + j < 2 ^ 31) (hv : v < 1000) (hg : g v = -1) : ol_fr (N + j) (ol_many N L s0 j) = v := by
  refine ol_fr_of ⟨by omega, h.2.2.2.2, fun _ p hp e => ?_⟩
  obtain ⟨q, hq, e2⟩ := ol_w_used h hs hp
  rw [e, hg] at e2
  exact ol_m1 (by omega) e2.symm
theorem ol_w_put {N : Nat} {L : Nat → Nat} {s0 w j v : Nat} {f g : Nat → Int32} (ok : ol_ok N L) (h1s : 1 ≤ s0) (h : ol_w N L s0 w j v f g) (hs : s0 ≤ N) (hj : j < w) (hN : N + w ≤ 1000) (hv : v < 1000) (hg : g v = -1) : ol_w N L s0 w (j + 1) (v + 1) (upd f (s0 + j) (nI v)) (upd g v (nI (s0 + j))) := by
  have hfr := ol_w_free h hs (by omega) hv hg
  have hM : ol_many N L s0 (j + 1) = ol_ins (ol_many N L s0 j) (s0 + j) v := by
    show ol_ins (ol_many N L s0 j) (s0 + j) (ol_fr (N + j) (ol_many N L s0 j)) = _
    rw [hfr]
  have hne : ∀ p, p < N + j → ol_many N L s0 j p ≠ v := by
    have h6 := (ol_fr_lf (N + j) (ol_many N L s0 j)).2.2
    rw [hfr] at h6
    exact h6 hv
  obtain ⟨h1, h2, h3, h4, h5⟩ := h
  refine ⟨fun p hp => ⟨?_, ?_⟩, fun i hi => ?_, fun p c1 c2 => ⟨?_, ?_⟩, fun u hu hn => ?_, fun u hu => ?_⟩
  · rw [pk_un (by omega)]; exact (h1 p hp).1
  · rw [pk_un (fun e => hne p (by omega) (by rw [ol_many_lo hp]; exact e))]; exact (h1 p hp).2
  · rw [hM]
    by_cases e : i = j
    · subst e
      rw [ol_ins_at]
      exact ⟨pk_us, pk_us⟩
    · rw [ol_ins_lo (by omega), pk_un (by omega), pk_un (hne (s0 + i) (by omega))]
      exact h2 i (by omega)
  · rw [pk_un (by omega)]; exact (h3 p c1 c2).1
  · rw [pk_un (fun e => hne (p + j) (by omega) (by rw [ol_many_hi j (p + j) (by omega), show p + j - j = p by omega]; exact e))]
    exact (h3 p c1 c2).2
  · rw [hM] at hn
    have hu2 : u ≠ v := fun e => hn (s0 + j) (by omega) (by rw [ol_ins_at]; exact e.symm)
    rw [pk_un hu2]
    refine h4 u hu (fun p hp e => ?_)
    rcases Nat.lt_or_ge p (s0 + j) with c | c
    · exact hn p (by omega) (by rw [ol_ins_lo c]; exact e)
    · exact hn (p + 1) (by omega) (by rw [ol_ins_hi (by omega)]; exact e)
  · rw [hM]
    rcases Nat.lt_or_ge u v with c | c
    · obtain ⟨p, hp, e⟩ := h5 u c
      rcases Nat.lt_or_ge p (s0 + j) with c2 | c2
      · exact ⟨p, by omega, by rw [ol_ins_lo c2]; exact e⟩
      · exact ⟨p + 1, by omega, by rw [ol_ins_hi (by omega)]; exact e⟩
    · exact ⟨s0 + j, by omega, by rw [ol_ins_at]; omega⟩
theorem ol_w_all {N : Nat} {L : Nat → Nat} {s0 w j : Nat} {f g : Nat → Int32} (ok : ol_ok N L) (h1s : 1 ≤ s0) (h : ol_w N L s0 w j 1000 f g) (hs : s0 ≤ N) (hN : N + w ≤ 1000) (hj : j < w) : False := by
  have h2 := ol_fr_lt (ol_ok_many ok h1s hs j (by omega)) (by omega)
  obtain ⟨p, hp, e⟩ := h.2.2.2.2 _ h2
  exact (ol_fr_lf (N + j) (ol_many N L s0 j)).2.2 h2 p hp e
theorem ol_w_e {N : Nat} {L : Nat → Nat} {s0 w v : Nat} {f g : Nat → Int32} (h : ol_w N L s0 w w v f g) (hs : s0 ≤ N) : ol_f (N + w) (ol_many N L s0 w) f ∧ ol_g (N + w) (ol_many N L s0 w) g := by
  obtain ⟨h1, h2, h3, h4, -⟩ := h
  have key : ∀ p, p < N + w → f p = nI (ol_many N L s0 w p) ∧ g (ol_many N L s0 w p) = nI p := by
    intro p hp
    rcases Nat.lt_or_ge p s0 with c | c
    · rw [ol_many_lo c]; exact h1 p c
    · rcases Nat.lt_or_ge p (s0 + w) with c2 | c2
      · have h5 := h2 (p - s0) (by omega)
        rw [show s0 + (p - s0) = p by omega] at h5
        exact h5
      · have h5 := h3 (p - w) (by omega) (by omega)
        rw [show p - w + w = p by omega] at h5
        rw [ol_many_hi w p c2]
        exact h5
  exact ⟨fun p hp => (key p hp).1, fun p hp => (key p hp).2, h4⟩
/-- two change places -/
def ol_sw (L : Nat → Nat) (a b : Nat) : Nat → Nat := fun p => if p = a then L b else if p = b then L a else L p
theorem ol_sw_a (L : Nat → Nat) (a b : Nat) : ol_sw L a b a = L b := if_pos rfl
theorem ol_sw_b (L : Nat → Nat) {a b : Nat} (h : a ≠ b) : ol_sw L a b b = L a := by
  unfold ol_sw
  rw [if_neg (fun e => h e.symm), if_pos rfl]
theorem ol_sw_o (L : Nat → Nat) {a b p : Nat} (h1 : p ≠ a) (h2 : p ≠ b) : ol_sw L a b p = L p := by
  unfold ol_sw
  rw [if_neg h1, if_neg h2]
theorem ol_sw_cases (L : Nat → Nat) (a b p : Nat) : ∃ q, ol_sw L a b p = L q ∧ ((p = a ∧ q = b) ∨ (p ≠ a ∧ p = b ∧ q = a) ∨ (p ≠ a ∧ p ≠ b ∧ q = p)) := by
  by_cases e1 : p = a
  · exact ⟨b, by rw [e1, ol_sw_a], Or.inl ⟨e1, rfl⟩⟩
  · by_cases e2 : p = b
    · exact ⟨a, by rw [e2, ol_sw_b L (fun e => e1 (by rw [e2, e]))], Or.inr (Or.inl ⟨e1, e2, rfl⟩)⟩
    · exact ⟨p, ol_sw_o L e1 e2, Or.inr (Or.inr ⟨e1, e2, rfl⟩)⟩
theorem ol_ok_sw {N : Nat} {L : Nat → Nat} (h : ol_ok N L) {a b : Nat} (ha : 1 ≤ a) (hb : 1 ≤ b) (haN : a < N) (hbN : b < N) : ol_ok N (ol_sw L a b) := by
  obtain ⟨g1, g2, g3, g4, g5⟩ := h
  refine ⟨g1, g2, by rw [ol_sw_o L (by omega) (by omega)]; exact g3, fun p hp => ?_, fun p q hp hq e => ?_⟩
  · obtain ⟨q, e, c⟩ := ol_sw_cases L a b p
    rw [e]
    exact g4 q (by omega)
  · obtain ⟨p', e1, c1⟩ := ol_sw_cases L a b p
    obtain ⟨q', e2, c2⟩ := ol_sw_cases L a b q
    rw [e1, e2] at e
    have := g5 p' q' (by omega) (by omega) e
    omega
theorem ol_sw_rep {N : Nat} {L : Nat → Nat} {f g : Nat → Int32} (ok : ol_ok N L) (hf : ol_f N L f) (hg : ol_g N L g) {a b : Nat} (hab : a ≠ b) (ha : a < N) (hb : b < N) :
    ol_f N (ol_sw L a b) (upd (upd f a (nI (L b))) b (nI (L a))) ∧ ol_g N (ol_sw L a b) (upd (upd g (L b) (nI a)) (L a) (nI b)) := by
  have inj := ok.2.2.2.2
  refine ⟨fun p hp => ?_, fun p hp => ?_, fun v hv hn => ?_⟩
  · by_cases e2 : p = b
    · subst e2; rw [ol_sw_b L hab]; exact pk_us
    · rw [pk_un e2]
      by_cases e1 : p = a
      · subst e1; rw [ol_sw_a]; exact pk_us
      · rw [pk_un e1, ol_sw_o L e1 e2]; exact hf p hp
  · by_cases e1 : p = a
    · subst e1
      rw [ol_sw_a, pk_un (fun e => hab (inj b p hb hp e).symm)]
      exact pk_us
    · by_cases e2 : p = b
      · subst e2; rw [ol_sw_b L hab]; exact pk_us
      · rw [ol_sw_o L e1 e2, pk_un (fun e => e1 (inj p a hp ha e)), pk_un (fun e => e2 (inj p b hp hb e))]
        exact hg.1 p hp
  · rw [pk_un (fun e => hn b hb (by rw [ol_sw_b L hab]; exact e.symm)), pk_un (fun e => hn a ha (by rw [ol_sw_a]; exact e.symm))]
    refine hg.2 v hv (fun p hp e => ?_)
    by_cases e1 : p = a
    · subst e1; exact hn b hb (by rw [ol_sw_b L hab]; exact e)
    · by_cases e2 : p = b
      · subst e2; exact hn a ha (by rw [ol_sw_a]; exact e)
      · exact hn p hp (by rw [ol_sw_o L e1 e2]; exact e)
/-- i turned at either end -/
def ol_rv (L : Nat → Nat) (s e i : Nat) : Nat → Nat := fun p => if (s ≤ p ∧ p < s + i) ∨ (e ≤ p + i ∧ p < e) then L (s + e - 1 - p) else L p
theorem ol_rv_in {L : Nat → Nat} {s e i p : Nat} (h : (s ≤ p ∧ p < s + i) ∨ (e ≤ p + i ∧ p < e)) : ol_rv L s e i p = L (s + e - 1 - p) := if_pos h
theorem ol_rv_out {L : Nat → Nat} {s e i p : Nat} (h : ¬ ((s ≤ p ∧ p < s + i) ∨ (e ≤ p + i ∧ p < e))) : ol_rv L s e i p = L p := if_neg h
theorem ol_rv_0 (L : Nat → Nat) (s e : Nat) : ol_rv L s e 0 = L := by
  funext p
  exact ol_rv_out (by omega)
theorem ol_rv_s (L : Nat → Nat) {s e i : Nat} (h : s + i + 1 + i < e) : ol_sw (ol_rv L s e i) (s + i) (e - 1 - i) = ol_rv L s e (i + 1) := by
  funext p
  by_cases e1 : p = s + i
  · subst e1
    rw [ol_sw_a, ol_rv_out (by omega), ol_rv_in (by omega)]
    congr 1
    omega
  · by_cases e2 : p = e - 1 - i
    · subst e2
      rw [ol_sw_b _ (by omega), ol_rv_out (by omega), ol_rv_in (by omega)]
      congr 1
      omega
    · rw [ol_sw_o _ e1 e2]
      by_cases c : (s ≤ p ∧ p < s + i) ∨ (e ≤ p + i ∧ p < e)
      · rw [ol_rv_in c, ol_rv_in (by omega)]
      · rw [ol_rv_out c, ol_rv_out (by omega)]
theorem ol_rv_e (L : Nat → Nat) {s e i : Nat} (h : e ≤ s + i + 1 + i) (h2 : i = 0 ∨ s + i + i ≤ e) : ol_rv L s e i = ol_rev L s e := by
  funext p
  by_cases c : s ≤ p ∧ p < e
  · rw [ol_rev_in c.1 c.2]
    by_cases d : (s ≤ p ∧ p < s + i) ∨ (e ≤ p + i ∧ p < e)
    · exact ol_rv_in d
    · rw [ol_rv_out d]
      congr 1
      omega
  · rw [ol_rev_out (by omega), ol_rv_out (by omega)]
/-! WHAT EACH CALL ANSWERS, in the line's own words -/
def ol_fd (N : Nat) (L : Nat → Nat) (x r : Int32) : Prop := (∀ p, ol_at N L x p → r = nI p) ∧ (ol_no N L x → r = -1)
theorem ol_fd_at {N : Nat} {L : Nat → Nat} (ok : ol_ok N L) {x : Int32} {p : Nat} (h : ol_at N L x p) : ol_fd N L x (nI p) := ⟨fun q hq => by rw [ol_at_un ok h hq], fun hn => (ol_at_no h hn).elim⟩
theorem ol_fd_no {N : Nat} {L : Nat → Nat} {x : Int32} (h : ol_no N L x) : ol_fd N L x (-1) := ⟨fun _ hq => (ol_at_no hq h).elim, fun _ => rfl⟩
theorem ol_fd_ex {N : Nat} {L : Nat → Nat} (ok : ol_ok N L) (x : Int32) : ∃ r, ol_fd N L x r ∧ ((∃ p, ol_at N L x p ∧ r = nI p) ∨ (ol_no N L x ∧ r = -1)) := by
  rcases ol_dec N L x with ⟨p, h⟩ | h
  · exact ⟨nI p, ol_fd_at ok h, Or.inl ⟨p, h, rfl⟩⟩
  · exact ⟨-1, ol_fd_no h, Or.inr ⟨h, rfl⟩⟩
def ol_hs (N : Nat) (L : Nat → Nat) (x r : Int32) : Prop := ((∃ p, ol_at N L x p) → r = 1) ∧ (ol_no N L x → r = 0)
theorem ol_hs_ex (N : Nat) (L : Nat → Nat) (x : Int32) : ∃ r, ol_hs N L x r ∧ ((r = 1 ∧ ∃ p, ol_at N L x p) ∨ (r = 0 ∧ ol_no N L x)) := by
  rcases ol_dec N L x with ⟨p, h⟩ | h
  · exact ⟨1, ⟨fun _ => rfl, fun hn => (ol_at_no h hn).elim⟩, Or.inl ⟨rfl, p, h⟩⟩
  · exact ⟨0, ⟨fun ⟨p, hp⟩ => (ol_at_no hp h).elim, fun _ => rfl⟩, Or.inr ⟨rfl, h⟩⟩
def ol_ps (N : Nat) (L : Nat → Nat) (x r : Int32) : Prop := (∀ p, p < N → x = nI p → r = nI (L p)) ∧ ((∀ p, p < N → x ≠ nI p) → r = -1)
theorem ol_ps_ex {N : Nat} (hN : N ≤ 1000) (L : Nat → Nat) (x : Int32) : ∃ r, ol_ps N L x r := by
  by_cases h : ∃ p, p < N ∧ x = nI p
  · obtain ⟨p, hp, e⟩ := h
    refine ⟨nI (L p), fun q hq e2 => ?_, fun hn => absurd e (hn p hp)⟩
    have e3 : p = q := (nI_eq (by omega) (by omega)).mp (e.symm.trans e2)
    rw [e3]
  · exact ⟨-1, fun q hq e2 => absurd ⟨q, hq, e2⟩ h, fun _ => rfl⟩
theorem ol_ps_at {N : Nat} {L : Nat → Nat} {p : Nat} (hN : N ≤ 1000) (hp : p < N) : ol_ps N L (nI p) (nI (L p)) := ⟨fun q hq e => by rw [(nI_eq (by omega) (by omega)).mp e], fun hn => absurd rfl (hn p hp)⟩
theorem ol_ps_hi {N : Nat} {L : Nat → Nat} {p : Nat} (hN : N ≤ 1000) (hp : p < 2 ^ 31) (h : N ≤ p) : ol_ps N L (nI p) (-1) := ⟨fun q hq e => by have := (nI_eq (by omega) (by omega)).mp e; omega, fun _ => rfl⟩
theorem ol_ps_m1 {N : Nat} {L : Nat → Nat} (hN : N ≤ 1000) : ol_ps N L (-1) (-1) := ⟨fun q hq e => (ol_m1 (by omega) e.symm).elim, fun _ => rfl⟩
/-- the least number that none has, as an answer -/
noncomputable def ol_fi (N : Nat) (L : Nat → Nat) : Int32 := if ol_fr N L < 1000 then nI (ol_fr N L) else -1
theorem ol_fi_lt {N : Nat} {L : Nat → Nat} (h : ol_fr N L < 1000) : ol_fi N L = nI (ol_fr N L) := if_pos h
theorem ol_fi_ge {N : Nat} {L : Nat → Nat} (h : ¬ ol_fr N L < 1000) : ol_fi N L = -1 := if_neg h
/-- the stamp x has the place p, and n more may come: r, then N' stamps L' -/
def ol_cmp (a b : Nat) : Int32 := if a < b then -1 else if a = b then 0 else 1
theorem ol_cmp_lt {a b : Nat} (h : a < b) : ol_cmp a b = -1 := if_pos h
theorem ol_cmp_eq {a : Nat} : ol_cmp a a = 0 := by
  unfold ol_cmp
  rw [if_neg (Nat.lt_irrefl a), if_pos rfl]
theorem ol_cmp_gt {a b : Nat} (h : b < a) : ol_cmp a b = 1 := by
  unfold ol_cmp
  rw [if_neg (by omega), if_neg (by omega)]
noncomputable def ol_lk (N : Nat) (L : Nat → Nat) (x : Int32) : Int32 := if x = 0 then nI N else if x = 1 then nI (L (N - 1)) else if x = 2 then ol_fi N L else -1
theorem ol_many1 (N : Nat) (L : Nat → Nat) (q : Nat) : ol_many N L q 1 = ol_ins L q (ol_fr N L) := rfl
theorem ol_f_up {N : Nat} {L : Nat → Nat} {f : Nat → Int32} (h : ol_f N L f) : ol_f N L f := h
theorem nI_m1 {n : Nat} (h : 1 ≤ n) : nI n - 1 = nI (n - 1) := by
  obtain ⟨k, rfl⟩ : ∃ k, n = k + 1 := ⟨n - 1, by omega⟩
  exact nI_pred k
theorem nI_0m1 : nI 0 - 1 = -1 := by decide +kernel
theorem ol_le {a b : Nat} (ha : a < 2 ^ 31) (hb : b < 2 ^ 31) (h : nI a ≤ nI b) : a ≤ b := (nI_leI ha hb).mp h
theorem ol_nle {a b : Nat} (ha : a < 2 ^ 31) (hb : b < 2 ^ 31) (h : ¬ nI a ≤ nI b) : b < a := Nat.lt_of_not_le (fun q => h ((nI_leI ha hb).mpr q))
theorem ol_lt {a b : Nat} (ha : a < 2 ^ 31) (hb : b < 2 ^ 31) (h : nI a < nI b) : a < b := (nI_ltI ha hb).mp h
theorem ol_nlt {a b : Nat} (ha : a < 2 ^ 31) (hb : b < 2 ^ 31) (h : ¬ nI a < nI b) : b ≤ a := Nat.le_of_not_lt (fun q => h ((nI_ltI ha hb).mpr q))
theorem ol_eq {a b : Nat} (ha : a < 2 ^ 31) (hb : b < 2 ^ 31) (h : nI a = nI b) : a = b := (nI_eq ha hb).mp h
theorem ol_ne {a b : Nat} (ha : a < 2 ^ 31) (hb : b < 2 ^ 31) (h : ¬ nI a = nI b) : a ≠ b := fun q => h (by rw [q])
/-- do three lack: 1, else 0 -/
def ol_lc (N : Nat) (L : Nat → Nat) (x y z r : Int32) : Prop := ((∃ p, ol_at N L x p) → (∃ p, ol_at N L y p) → (∃ p, ol_at N L z p) → r = 0) ∧ ((ol_no N L x ∨ ol_no N L y ∨ ol_no N L z) → r = 1)
theorem ol_lc_no {N : Nat} {L : Nat → Nat} {x y z : Int32} (h : ol_no N L x ∨ ol_no N L y ∨ ol_no N L z) : ol_lc N L x y z 1 := by
  refine ⟨fun ⟨p1, h1⟩ ⟨p2, h2⟩ ⟨p3, h3⟩ => ?_, fun _ => rfl⟩
  rcases h with h | h | h
  · exact (ol_at_no h1 h).elim
  · exact (ol_at_no h2 h).elim
  · exact (ol_at_no h3 h).elim
theorem ol_lc_at {N : Nat} {L : Nat → Nat} {x y z : Int32} {p q r : Nat} (h1 : ol_at N L x p) (h2 : ol_at N L y q) (h3 : ol_at N L z r) : ol_lc N L x y z 0 := by
  refine ⟨fun _ _ _ => rfl, fun h => ?_⟩
  rcases h with h | h | h
  · exact (ol_at_no h1 h).elim
  · exact (ol_at_no h2 h).elim
  · exact (ol_at_no h3 h).elim
/-- what behind, several .. answer and leave, the stamps being there -/
def sp_bh (N : Nat) (L : Nat → Nat) (p : Nat) (r : Int32) (N' : Nat) (L' : Nat → Nat) : Prop := (N < 1000 ∧ r = nI (ol_fr N L) ∧ N' = N + 1 ∧ L' = ol_many N L (p + 1) 1) ∨ (N = 1000 ∧ r = -1 ∧ N' = N ∧ L' = L)
def sp_sv (N : Nat) (L : Nat → Nat) (p : Nat) (z r : Int32) (N' : Nat) (L' : Nat → Nat) : Prop := (∃ w, 2 ≤ w ∧ w ≤ 64 ∧ z = nI w ∧ N + w ≤ 1000 ∧ r = nI (ol_fr N L) ∧ N' = N + w ∧ L' = ol_many N L (p + 1) w) ∨ ((∀ w, 2 ≤ w → w ≤ 64 → N + w ≤ 1000 → z ≠ nI w) ∧ r = -1 ∧ N' = N ∧ L' = L)
def sp_rm (N : Nat) (L : Nat → Nat) (x r : Int32) (N' : Nat) (L' : Nat → Nat) : Prop := (∃ p, ol_at N L x p ∧ 1 ≤ p ∧ r = 1 ∧ N' = N - 1 ∧ L' = ol_rem L p 1) ∨ ((ol_no N L x ∨ ol_at N L x 0) ∧ r = 0 ∧ N' = N ∧ L' = L)
def sp_cl (N : Nat) (L : Nat → Nat) (a b : Nat) (r : Int32) (N' : Nat) (L' : Nat → Nat) : Prop := r = nI (b - (a + 1)) ∧ N' = N - (b - (a + 1)) ∧ L' = ol_rem L (a + 1) (b - (a + 1))
def sp_cr (N : Nat) (L : Nat → Nat) (a b c : Nat) (r : Int32) (N' : Nat) (L' : Nat → Nat) : Prop := N' = N ∧ (((b ≤ a ∨ (a < c ∧ c < b)) ∧ r = -1 ∧ L' = L) ∨ (a < b ∧ c ≤ a ∧ r = nI (b - a - 1) ∧ L' = ol_swp L (c + 1) (a + 1) b) ∨ (a < b ∧ b ≤ c ∧ r = nI (b - a - 1) ∧ L' = ol_swp L (a + 1) b (c + 1)))
theorem ol_addm1 (p : Nat) : nI p + (-1) = nI p - 1 := (Int32.sub_eq_add_neg (nI p) 1).symm
theorem ol_two64 {z : Int32} (h1 : ¬ z < nI 2) (h2 : ¬ nI 64 < z) : ∃ w, 2 ≤ w ∧ w ≤ 64 ∧ z = nI w := by
  have h3 : ¬ z < 0 := fun h => h1 (Int32.lt_trans h (by decide))
  obtain ⟨j, hj, rfl⟩ := nI_of h3
  exact ⟨j, ol_nlt hj (by omega) h1, ol_nlt (by omega) hj h2, rfl⟩
theorem ol_ok_carry {N : Nat} {L : Nat → Nat} (ok : ol_ok N L) {a w c : Nat} (h : a + 1 + w ≤ N) (hc : c + 1 ≤ N - w) : ∀ j, j ≤ w → ol_ok (N - w + j) (ol_blk (ol_rem L (a + 1) w) (fun j => L (a + 1 + j)) (c + 1) j) := by
  intro j
  induction j with
  | zero =>
    intro _
    rw [ol_blk_0]
    exact ol_ok_rem ok (by omega) h
  | succ j ih =>
    intro hj
    have h1 := ih (by omega)
    have hN := ok.2.1
    have inj := ok.2.2.2.2
    rw [← ol_blk_1]
    refine ol_ok_ins h1 (by omega) (by omega) (by omega) (ok.2.2.2.1 _ (by omega)) (fun p hp e => ?_)
    have e : ol_blk (ol_rem L (a + 1) w) (fun j => L (a + 1 + j)) (c + 1) j p = L (a + 1 + j) := e
    rcases Nat.lt_or_ge p (c + 1) with k | k
    · rw [ol_blk_lo k] at e
      rcases Nat.lt_or_ge p (a + 1) with k2 | k2
      · rw [ol_rem_lo k2] at e; have := inj _ _ (by omega) (by omega) e; omega
      · rw [ol_rem_hi k2] at e; have := inj _ _ (by omega) (by omega) e; omega
    · rcases Nat.lt_or_ge p (c + 1 + j) with k2 | k2
      · rw [ol_blk_in k k2] at e
        have e : L (a + 1 + (p - (c + 1))) = L (a + 1 + j) := e
        have := inj _ _ (by omega) (by omega) e; omega
      · rw [ol_blk_hi k2] at e
        rcases Nat.lt_or_ge (p - j) (a + 1) with k3 | k3
        · rw [ol_rem_lo k3] at e; have := inj _ _ (by omega) (by omega) e; omega
        · rw [ol_rem_hi k3] at e; have := inj _ _ (by omega) (by omega) e; omega
theorem ol_sw3 {x : Int32} (h0 : ¬ x = 0) (h1 : ¬ x = 1) (h2 : ¬ x = 2) : x.toInt < 0 ∨ 2 < x.toInt := by
  have e0 : x.toInt ≠ 0 := fun e => h0 (Int32.toInt_inj.mp (e.trans (by decide)))
  have e1 : x.toInt ≠ 1 := fun e => h1 (Int32.toInt_inj.mp (e.trans (by decide)))
  have e2 : x.toInt ≠ 2 := fun e => h2 (Int32.toInt_inj.mp (e.trans (by decide)))
  omega
end
section
/-! ROWS OF MY OWN: a method that may throw (ow_Met), a call of one, a method with a handler table, short forms of worlds and calls -/
def ow_FE (first : State) (o : Outcome) (t : State) (L : List Loc) (k n : Nat) : Prop := first.WarmedH t.vm ∧ first.sameButNew ({ t with vm := first.vm } : State) L k n ∧ ((∃ v, o = .returned v) → first.sameButNew ({ t with vm := first.vm } : State) L 0 0)
def ow_Met (l : Launch) (y : MethodName) (ws : List Cond) (rm : Room) (Pc : Array Value → State → Prop) (Qc : Array Value → State → Outcome → State → Prop) (mc ms : Nat) (free : Addr → Prop) : Prop :=
  MetFree l y (headSpec ws rm) Pc (fun _ _ _ _ _ => True) (fun a st o t => Qc a st o t ∧ ∃ L, ow_FE st o t L mc ms ∧ ∀ q ∈ L, free q.base)
def ow_MQ (below : List Frame) (Qc : Array Value → State → Outcome → State → Prop) (a : Array Value) (s : State) (mc ms : Nat) (free : Addr → Prop) : State → Prop := fun t =>
  ∃ o, t.status = .running ∧ Ended t below o ∧ Qc a s o t ∧ ∃ L, ow_FE s o t L mc ms ∧ ∀ q ∈ L, free q.base
section OW
variable {p : Program} {l : Launch} {e : Env} {R : Room} {s : State} {m : MethodId} {args : Array Value} {below : List Frame} {meth : Method} {c : Code} {H : Heap} {locs : List Loc} {cells slots : Nat} {Q Q' : State → Prop}
variable {y : MethodName} {bytes cc : ByteArray} {maxL nL mc ms n index : Nat} {ret : Option FieldType} {ws ws' : List Cond} {rm : Room} {Pc : Array Value → State → Prop} {Qc : Array Value → State → Outcome → State → Prop} {free : Addr → Prop} {Ts : List Cond} {own C : String} {b : Addr} {As rest : List Value} {g : JFrame}
theorem ow_imp (h : ∀ t, Q t → Q' t) (k : W p l e R s m args below meth c H locs cells slots Q g) : W p l e R s m args below meth c H locs cells slots Q' g := fun T hT X => by
  obtain ⟨t, a, b⟩ := k T hT X
  exact ⟨t, a, h t b⟩
theorem ow_ofMQ {a : Array Value} {t : State} (h : MQ below Qc a s 0 0 free t) : ow_MQ below Qc a s mc ms free t := by
  obtain ⟨o, h1, h2, h3, L, ⟨_, h4, h5⟩, h6⟩ := h
  exact ⟨o, h1, h2, h3, L, ⟨h4, h5.mono (Nat.zero_le _) (Nat.zero_le _), fun _ => h5⟩, h6⟩
theorem ow_ret {a : Array Value} (k : W p l e R s m args below meth c H locs cells slots (MQ below Qc a s 0 0 free) g) : W p l e R s m args below meth c H locs cells slots (ow_MQ below Qc a s mc ms free) g :=
  ow_imp (fun _ h => ow_ofMQ h) k
theorem ow_ofW (hy : plainName y.cls = true) (hw : ws = Cond.code y cc maxL ret :: ws')
    (body : ∀ p e s m args below meth c s₁, BodyLoose p l y (headSpec ws rm) cc maxL ret e s m args below meth c s₁ → c.maxLocals = maxL → Pc args s →
      W p l e (headSpec ws rm).room s m args below meth c s.heap [] 0 0 (ow_MQ below Qc args s mc ms free) (entryFrame m args maxL)) : ow_Met l y ws rm Pc Qc mc ms free := by
  refine MetFree.of_bodyS (code := cc) (maxLocals := maxL) (ret := ret) hy ?_ ?_
  · intro args s m h hn
    obtain ⟨meth, c, h1, h2, h3, h4, h5, h6, -, -⟩ := Cond.code_spec hn (atoms_spec (ws := ws) h _ (by rw [hw]; exact List.mem_cons_self))
    exact ⟨meth, c, h1, h2, h3, h4, h5, h6⟩
  · intro p e s m args below meth c s₁ B hml hP _
    have hh0 : s₁.heap = s.heap := by rw [B.state]; rfl
    obtain ⟨t, a1, o, b1, b2, b3⟩ := body p e s m args below meth c s₁ B hml hP s₁ hh0 (Stand.of_body B)
    exact ⟨t, o, a1, b1, b2, ⟨b3.1, b3.2⟩⟩
/-- a method with a handler table; what it makes it says as others do -/
theorem ow_ofWH {hs : List (Nat × Nat × Nat × Nat)} (hy : plainName y.cls = true) (hw : ws = Cond.codeWith y cc maxL ret hs :: ws')
    (body : ∀ p e s m args below meth c s₁, BodyLoose p l y (headSpec ws rm) cc maxL ret e s m args below meth c s₁ → c.maxLocals = maxL → c.exceptionTable.toList = tableOf hs → Pc args s →
      W p l e (headSpec ws rm).room s m args below meth c s.heap [] 0 0 (MQ below Qc args s mc ms free) (entryFrame m args maxL)) : Met l y ws rm Pc Qc mc ms free := by
  refine MetFree.of_bodyS (code := cc) (maxLocals := maxL) (ret := ret) hy ?_ ?_
  · intro args s m h hn
    obtain ⟨m', meth, c, h0, h1, h2, h3, h4, -, h5, h6, -⟩ := Cond.codeWith_spec (atoms_spec (ws := ws) h _ (by rw [hw]; exact List.mem_cons_self))
    cases hn.symm.trans h0
    exact ⟨meth, c, h1, h2, h3, h4, h5, h6⟩
  · intro p e s m args below meth c s₁ B hml hP _
    have hh0 : s₁.heap = s.heap := by rw [B.state]; rfl
    have htab : c.exceptionTable.toList = tableOf hs := by
      obtain ⟨m', meth', c', h0, h1, h2, -, -, h5, -⟩ := Cond.codeWith_spec (atoms_spec (ws := ws) B.pre _ (by rw [hw]; exact List.mem_cons_self))
      cases B.named.symm.trans h0
      cases B.method.symm.trans h1
      cases (Stand.of_body B).code.symm.trans h2
      rw [← h5, table_eq]
    obtain ⟨t, a1, o, b1, b2, b3⟩ := body p e s m args below meth c s₁ B hml htab hP s₁ hh0 (Stand.of_body B)
    exact ⟨t, o, a1, b1, b2, ⟨b3.1, b3.2⟩⟩
/-- a call that may throw -/
def ow_Run (p : Program) (l : Launch) (e : Env) (R : Room) (s : State) (m : MethodId) (args : Array Value) (below : List Frame) (meth : Method) (c : Code) (H : Heap) (locs : List Loc) (cells slots mc ms : Nat) (g : JFrame) (rest : List Value) (Qa : State → Outcome → State → Prop) (free : Addr → Prop) : Prop :=
  ∀ T : State, T.heap = H → Stand p l e R s m args below meth c T locs cells slots → ∃ (o : Outcome) (st₀ t T' : State) (L : List Loc), st₀.heap = H ∧ s.vm.Alike st₀.vm ∧ ((∃ v, o = .returned v) → Stand p l e R s m args below meth c T' (locs ++ L) cells slots) ∧ Stand p l e R s m args below meth c T' (locs ++ L) (cells + mc) (slots + ms) ∧ (∀ q ∈ L, free q.base) ∧ T'.heap = t.heap ∧ s.vm.Alike t.vm ∧ Qa st₀ o t ∧
    (∀ v, o = .returned v → Goes p e below T g T' { g with pc := g.pc + 3, stack := v.toList ++ rest }) ∧
    (∀ x, o = .threw x → ∀ target, Steps p.tables e below ((T'.setTop { g with stack := rest }).pushFrame (.throwing x)) target → Steps p.tables e below (T.setTop g) target)
theorem ow_runV (S : CallFix p m c cc nL s args Ts own) (hM : ow_Met l y ws rm Pc Qc mc ms free) (cw : CallW R s args own C index y bytes maxL ret ws rm mc ms n) (hp : PreV s H C b Pc As)
    (hg : g.method = m) (hn : As.length = n) (hsize : g.locals.size = nL) (hstack : g.stack = As.reverse ++ .ref b :: rest) (hW : 2 * g.monitorRoom + (rest.map fun v => v.category).sum ≤ 8) (hdg : decode cc g.pc = .ok (.invokevirtual index, 3)) (hf : cells + mc ≤ R.cells ∧ slots + ms ≤ R.slots) :
    ow_Run p l e R s m args below meth c H locs cells slots mc ms g rest (Qc (Value.ref b :: As).toArray) free := by
  obtain ⟨⟨hrc, hrs, hfr, hlo, hws, hcw, hcode, hini, hy, hlen, hl⟩, hin, hse⟩ := cw
  obtain ⟨hx, hb, hml, ho, -⟩ := S
  obtain ⟨hbl, ⟨cellB, hcB, hoB, hclB⟩, hPc⟩ := hp
  intro T hT X
  obtain ⟨mk, methM, hnamed, hmethM, hstM, habM⟩ := Cond.instanceMethod_spec hin
  obtain ⟨methM', cM, hmethM', -, -, -, -, -, -, hsigM⟩ := Cond.code_spec hnamed hcode
  cases hmethM.symm.trans hmethM'
  obtain ⟨c2, r2, m2, q1, q2, q3, q4, kP, hkP, hkPi⟩ := Cond.selects_spec hse
  cases hclB.symm.trans q1
  cases (State.methodFound?_of_named hnamed hy).symm.trans q2
  cases hnamed.symm.trans q3
  have hselP : selectMethod e.platform s.vm cellB.cls mk = .method mk := by rw [Launch.admits_selectMethod X.admits]; exact q4
  subst hb
  obtain ⟨vm₁, X₁, hstep₁⟩ := X.invokevirtual hx ho hl hnamed hmethM hstM hkP hkPi hy (a := b) (cell := cellB) (by rw [hT]; exact hcB)
    (fun z h => by rw [h] at hoB; cases hoB) hselP hmethM habM hkP hkPi (g := g) hg (argsL := As) (rest := rest) (hn.trans (hlen _ hsigM)) hstack hdg
  have hn1 : (T.setVm vm₁).methodNamed? y = some mk := X₁.named hnamed
  have hdg1 : decode c.code ({ g with stack := rest } : JFrame).pc = .ok (.invokevirtual index, 3) := hdg
  have h1 : (headSpec ws rm).pre.before (Value.ref b :: As).toArray (T.setVm vm₁) = true := atoms_intro fun w hw => hws w hw _ _ X₁.warmed
  have h2 : (Cond.code y bytes maxL ret).before (Value.ref b :: As).toArray (T.setVm vm₁) = true := hws _ hcw _ _ X₁.warmed
  have h3 : (Cond.initialized y.cls).before (Value.ref b :: As).toArray (T.setVm vm₁) = true := word_at X₁.warmed (Or.inl (by first | rfl | simp [Cond.onTables, Cond.keeps, Cond.steady])) hini
  obtain ⟨methY, cY, hmY, hcY, -, hlY, -, -, -, -⟩ := Cond.code_spec hn1 h2
  obtain ⟨kY, hkY, -⟩ := className_of_methodNamed hn1
  have hinitY : kY.init = .initialized := Cond.initialized_spec (findClass_of_methodNamed hn1) hkY h3
  have h : At (T.setVm vm₁) ({ g with stack := rest } : JFrame).method c below := by
    show At (T.setVm vm₁) g.method c below
    rw [hg]; exact X₁.here
  have happ : (headSpec ws rm).appliesLoose y e.platform ((T.setVm vm₁).calling { g with stack := rest } mk (Value.ref b :: As).toArray) = true :=
    Spec.appliesLoose_calling (g := { g with stack := rest }) h hdg1 hn1 hkY hinitY
      (X₁.room_calling (g := { g with stack := rest }) (R' := (headSpec ws rm).room) (by show g.locals.size = _; rw [hsize, hml]) hmY hcY hfr (by
        rw [hlY]
        show 2 * g.monitorRoom + (rest.map fun v => v.category).sum + (maxL + 11) + rm.locals ≤ R.locals
        omega) (by show cells + rm.cells ≤ R.cells; rw [hrc]; exact hf.1) (by show slots + rm.slots ≤ R.slots; rw [hrs]; exact hf.2)) h1
  obtain ⟨mid, hmid⟩ := h.above
  have hfrm : ((T.setVm vm₁).setTop { g with stack := rest }).frames = (.java { g with stack := rest } :: mid) ++ below := by rw [State.frames_setTop' _ h.top, hmid]; rfl
  obtain ⟨o, s₂, hsteps, -, hend, hq, L, ⟨hW2, hsame, hsame0⟩, hL⟩ := Steps.callFree hM p X₁.admits X₁.cas X₁.clock (acts := []) hfrm happ (hbl _ _ _ _ (hPc (T.setVm vm₁) hT X₁.warmed)) trivial
  rw [State.frames_setTop' _ h.top, X₁.tail] at hend
  have hW2' : (T.setVm vm₁).WarmedH s₂.vm := hW2
  have hal : s.vm.Alike s₂.vm := (State.WarmedH.trans X₁.warmed hW2').alike
  cases o with
  | returned v =>
    obtain ⟨T', X', hWT, -, ht⟩ := X₁.outOf (g := { g with stack := rest }) hg hdg1 hend hW2 (hsame0 ⟨v, rfl⟩)
    refine ⟨.returned v, (T.setVm vm₁).calling { g with stack := rest } mk (Value.ref b :: As).toArray, s₂, T', L, hT, X₁.warmed.alike, fun _ => X', stand_widen X' (by omega) (by omega), hL, ?_, hal, hq, ?_, fun x hx => by cases hx⟩
    · rw [ht]; first | rfl | simp [State.setFrames, State.setTop, State.modifyTopJava]
    · intro v' hv'
      cases hv'
      intro target hr
      refine hstep₁ target fun acts => ?_
      rw [doInvoke_state]
      refine hsteps.trans ?_
      rw [ht]
      exact hr
  | threw x =>
    obtain ⟨T', X', hWT, -, ht⟩ := X₁.outOfThrown (g := { g with stack := rest }) hg hend hW2 hsame
    refine ⟨.threw x, (T.setVm vm₁).calling { g with stack := rest } mk (Value.ref b :: As).toArray, s₂, T', L, hT, X₁.warmed.alike, fun ⟨v, hv⟩ => by (cases hv), X', hL, ?_, hal, hq, fun v hv => by (cases hv), ?_⟩
    · rw [ht]; first | rfl | simp [State.pushFrame, State.setFrames, State.setTop, State.modifyTopJava]
    · intro x' hx'
      cases hx'
      intro target hr
      refine hstep₁ target fun acts => ?_
      rw [doInvoke_state]
      refine hsteps.trans ?_
      rw [ht]
      exact hr
/-- what is known of what was thrown: a new cell of that kind; nothing that was there has changed -/
def ow_ex (E : String) (st : State) (x : Nat) (t : State) : Prop := (∃ cell : Cell, t.heap[x]? = some cell ∧ cell.vm.isStatics = false ∧ st.vm.findClass E = some cell.cls) ∧ st.heap.size ≤ t.heap.size ∧ ∀ q : Nat, q < st.heap.size → t.heap[q]? = st.heap[q]?
/-- the ends of a method that throws: 'ok oc t' where it returns -/
def ow_Q (E : String) (thr : Prop) (ok : Array Value → State → Outcome → State → Prop) : Array Value → State → Outcome → State → Prop := fun a st oc t =>
  ((∃ v, oc = .returned v) ∧ ¬ thr ∧ ok a st oc t) ∨ (thr ∧ ∃ x, oc = .threw x ∧ ow_ex E st x t)
end OW
/-! SHORT FORMS: arrays by natural places, worlds ahead of and behind a call -/
def ow_Pc (D : va_G) (cl : List vw_C) (tys : List (ClassId × FieldType)) (ws : va_W) (sz : Nat) (av : List Value) : Array Value → State → Prop := va_Pc av (fun U => U.heap.size = sz ∧ va_P D cl ws U.heap ∧ va_K D cl tys U ∧ va_D (fun _ => True) ws)
def ow_Rc (D : va_G) (cl : List vw_C) (tys : List (ClassId × FieldType)) (ws : va_W) (av : List Value) : Array Value → State → Prop := va_Pc av (fun U => va_P D cl ws U.heap ∧ va_K D cl tys U)
def ow_B (D : va_G) (cl : List vw_C) {S : Type} (w : S → va_W) (A1 : Nat → Prop) (u : S) (t : State) : Prop := va_P D cl (w u) t.heap ∧ va_D A1 (w u)
theorem ow_Pc_bl {D : va_G} {cl : List vw_C} {tys : List (ClassId × FieldType)} {ws : va_W} {sz : Nat} {av : List Value} : FrameBlind (ow_Pc D cl tys ws sz av) := fun a U g mk q => by
  obtain ⟨q0, q1, qP, qK, qD⟩ := q
  exact ⟨q0, q1, qP, va_K.moved (u := U) (U := U.calling g mk a) (Vm.Alike.refl U.vm) qK, qD⟩
theorem ow_Rc_bl {D : va_G} {cl : List vw_C} {tys : List (ClassId × FieldType)} {ws : va_W} {av : List Value} : FrameBlind (ow_Rc D cl tys ws av) := fun a U g mk q => by
  obtain ⟨q0, qP, qK⟩ := q
  exact ⟨q0, qP, va_K.moved (u := U) (U := U.calling g mk a) (Vm.Alike.refl U.vm) qK⟩
section OX
variable {p : Program} {l : Launch} {e : Env} {R : Room} {s : State} {m : MethodId} {args : Array Value} {below : List Frame} {meth : Method} {c : Code} {H : Heap} {locs : List Loc} {cells slots : Nat} {Q : State → Prop}
variable {cc : ByteArray} {pc : Nat} {ls : Array Slot} {rest st0 : List Value} {D : va_G} {cl : List vw_C} {A : Nat → Prop} {a : Nat} {tys tys' : List (ClassId × FieldType)} {ws wc wr : va_W} {H0 : Heap} {mc ms : Nat} {As : List Value}
theorem ow_PreV (hK : va_K D cl tys s) (hP : va_P D cl ws H) (hD : va_D A ws) {q : vw_C} {ci q0 b : Nat} {fs : List Value} (hc : cl[ci]? = some q) (he : ws[q0]? = some (b, .inr (ci, fs))) : PreV s H q.1 b (ow_Pc D cl tys ws H.size (.ref b :: As)) As :=
  ⟨ow_Pc_bl, va_recv hK hP hc he, fun U hU hW => ⟨rfl, by rw [hU], by rw [hU]; exact hP, va_K.moved hW.alike hK, hD.weaken (fun _ _ _ _ => trivial)⟩⟩
theorem ow_PreR (hK : va_K D cl tys s) (hP : va_P D cl ws H) {q : vw_C} {ci q0 b : Nat} {fs : List Value} (hc : cl[ci]? = some q) (he : ws[q0]? = some (b, .inr (ci, fs))) : PreV s H q.1 b (ow_Rc D cl tys ws (.ref b :: As)) As :=
  ⟨ow_Rc_bl, va_recv hK hP hc he, fun U hU hW => ⟨rfl, by rw [hU]; exact hP, va_K.moved hW.alike hK⟩⟩
theorem ow_PreI (hK : va_K D cl tys s) (hP : va_P D cl ws H) (hD : va_D A ws) : PreS s H (ow_Pc D cl tys ws H.size As) As :=
  ⟨ow_Pc_bl, fun U hU hW => ⟨rfl, by rw [hU], by rw [hU]; exact hP, va_K.moved hW.alike hK, hD.weaken (fun _ _ _ _ => trivial)⟩⟩
theorem ow_top {x z : Int32} (h : x = z) (k : W p l e R s m args below meth c H locs cells slots Q (F0 m pc ls (.int z :: rest))) : W p l e R s m args below meth c H locs cells slots Q (F0 m pc ls (.int x :: rest)) := h ▸ k
theorem ow_iald (hexec : p.tables.exec = Jvm.exec) (hb : c.code = cc) (hK : va_K D cl tys s) (hP : va_P D cl ws H) (q0 t0 : Nat) {cA : ClassId} {n : Nat} {f : Nat → Int32} (ha : ws[q0]? = some (a, .inl (cA, n, .inl f))) (ht : tys[t0]? = some (cA, .int)) {k : Nat} {v : Int32} (hk : k < n) (hn : n < 2 ^ 31) (hv : f k = v) (hdg : decode cc pc = .ok (.iaload, 1))
    (kk : W p l e R s m args below meth c H locs cells slots Q (F0 m (pc + 1) ls (.int v :: rest))) : W p l e R s m args below meth c H locs cells slots Q (F0 m pc ls (.int (nI k) :: .ref a :: rest)) := by
  refine va_iald hexec hb hK hP q0 t0 ha ht (vp_in_nI hk hn) hdg ?_
  rw [nI_clamp (by omega), hv]
  exact kk
theorem ow_iast (hexec : p.tables.exec = Jvm.exec) (hb : c.code = cc) (hK : va_K D cl tys s) (hP : va_P D cl ws H) (hD : va_D A ws) (hS : va_S A H0 H locs) (q0 t0 : Nat) {cA : ClassId} {n : Nat} {f : Nat → Int32} (ha : ws[q0]? = some (a, .inl (cA, n, .inl f))) (ht : tys[t0]? = some (cA, .int)) {k : Nat} {x : Int32} (hk : k < n) (hn : n < 2 ^ 31) (hdg : decode cc pc = .ok (.iastore, 1))
    (kk : ∀ (H1 : Heap) (locs1 : List Loc), va_P D cl (ws.set q0 (a, .inl (cA, n, .inl (upd f k x)))) H1 → va_D A (ws.set q0 (a, .inl (cA, n, .inl (upd f k x)))) → va_S A H0 H1 locs1 → W p l e R s m args below meth c H1 locs1 cells slots Q (F0 m (pc + 1) ls rest)) : W p l e R s m args below meth c H locs cells slots Q (F0 m pc ls (.int x :: .int (nI k) :: .ref a :: rest)) := by
  refine va_iast hexec hb hK hP hD hS q0 t0 ha ht (vp_in_nI hk hn) hdg (fun H1 locs1 h1 h2 h3 => ?_)
  rw [nI_clamp (by omega)] at h1 h2
  exact kk H1 locs1 h1 h2 h3
theorem ow_lald (hexec : p.tables.exec = Jvm.exec) (hb : c.code = cc) (hK : va_K D cl tys s) (hP : va_P D cl ws H) (q0 t0 : Nat) {cA : ClassId} {n : Nat} {f : Nat → Int64} (ha : ws[q0]? = some (a, .inl (cA, n, .inr (.inl f)))) (ht : tys[t0]? = some (cA, .long)) {i : Int32} {k : Nat} {v : Int64} (hi : i = nI k) (hk : k < n) (hn : n < 2 ^ 31) (hv : f k = v) (hdg : decode cc pc = .ok (.laload, 1))
    (kk : W p l e R s m args below meth c H locs cells slots Q (F0 m (pc + 1) ls (.long v :: rest))) : W p l e R s m args below meth c H locs cells slots Q (F0 m pc ls (.int i :: .ref a :: rest)) := by
  subst hi
  refine va_lald hexec hb hK hP q0 t0 ha ht (vp_in_nI hk hn) hdg ?_
  rw [nI_clamp (by omega), hv]
  exact kk
theorem ow_last (hexec : p.tables.exec = Jvm.exec) (hb : c.code = cc) (hK : va_K D cl tys s) (hP : va_P D cl ws H) (hD : va_D A ws) (hS : va_S A H0 H locs) (q0 t0 : Nat) {cA : ClassId} {n : Nat} {f : Nat → Int64} (ha : ws[q0]? = some (a, .inl (cA, n, .inr (.inl f)))) (ht : tys[t0]? = some (cA, .long)) {i : Int32} {k : Nat} {x : Int64} (hi : i = nI k) (hk : k < n) (hn : n < 2 ^ 31) (hdg : decode cc pc = .ok (.lastore, 1))
    (kk : ∀ (H1 : Heap) (locs1 : List Loc), va_P D cl (ws.set q0 (a, .inl (cA, n, .inr (.inl (vp_updL f k x))))) H1 → va_D A (ws.set q0 (a, .inl (cA, n, .inr (.inl (vp_updL f k x))))) → va_S A H0 H1 locs1 → W p l e R s m args below meth c H1 locs1 cells slots Q (F0 m (pc + 1) ls rest)) : W p l e R s m args below meth c H locs cells slots Q (F0 m pc ls (.long x :: .int i :: .ref a :: rest)) := by
  subst hi
  refine va_last hexec hb hK hP hD hS q0 t0 ha ht (vp_in_nI hk hn) hdg (fun H1 locs1 h1 h2 h3 => ?_)
  rw [nI_clamp (by omega)] at h1 h2
  exact kk H1 locs1 h1 h2 h3
theorem ow_callR {r : Int32} {av : Array Value} (hr : CallRun p l e R s m args below meth c H locs cells slots 0 0 (F0 m pc ls st0) rest (QcRead r av) (fun _ => False)) (kk : W p l e R s m args below meth c H locs cells slots Q (F0 m (pc + 3) ls (.int r :: rest))) : W p l e R s m args below meth c H locs cells slots Q (F0 m pc ls st0) := W.callR hr kk
theorem ow_calli {S : Type} {post : Int32 → S → Prop} {w : S → va_W} {av : Array Value} (hr : va_Run p l e R s m args below meth c H locs cells slots mc ms (F0 m pc ls st0) rest (va_Qi post (ow_B D cl w (va_A wc H.size)) (va_A wc H.size) av) (va_A wc H.size))
    (hP : va_P D cl ws H) (hD : va_D A ws) (hS : va_S A H0 H locs) (hA : ∀ q, H0.size ≤ q → A q) (isC isR : List Nat) (hC : isC.map (fun i => ws[i]?) = wc.map some) (hR : isR.map (fun i => ws[i]?) = wr.map some) (hn : va_nd isR = true) (hdis : ∀ i ∈ isR, i ∉ isC)
    (kk : ∀ (r : Int32) (u : S) (H1 : Heap) (locs1 : List Loc), post r u → va_P D cl (wr ++ w u) H1 → va_D A (wr ++ w u) → va_S A H0 H1 locs1 → W p l e R s m args below meth c H1 locs1 (cells + mc) (slots + ms) Q (F0 m (pc + 3) ls (.int r :: rest))) : W p l e R s m args below meth c H locs cells slots Q (F0 m pc ls st0) := by
  have hF := va_free (wc := wc) hD hS hA isC hC
  refine va_calli hr hS (fun q _ h => hF q h) hF (fun r u t H1 locs1 ht hvm hw hB hz1 hk1 hS1 => ?_)
  obtain ⟨hP1, hD1⟩ := hB
  rw [ht] at hP1
  obtain ⟨hP2, hD2⟩ := va_join hP hD isC isR hC hR hn hdis hk1 hF hP1 hD1
  exact kk r u H1 locs1 hw hP2 hD2 hS1
theorem ow_callv {S : Type} {post : S → Prop} {w : S → va_W} {av : Array Value} (hr : va_Run p l e R s m args below meth c H locs cells slots mc ms (F0 m pc ls st0) rest (va_Qv post (ow_B D cl w (va_A wc H.size)) (va_A wc H.size) av) (va_A wc H.size))
    (hP : va_P D cl ws H) (hD : va_D A ws) (hS : va_S A H0 H locs) (hA : ∀ q, H0.size ≤ q → A q) (isC isR : List Nat) (hC : isC.map (fun i => ws[i]?) = wc.map some) (hR : isR.map (fun i => ws[i]?) = wr.map some) (hn : va_nd isR = true) (hdis : ∀ i ∈ isR, i ∉ isC)
    (kk : ∀ (u : S) (H1 : Heap) (locs1 : List Loc), post u → va_P D cl (wr ++ w u) H1 → va_D A (wr ++ w u) → va_S A H0 H1 locs1 → W p l e R s m args below meth c H1 locs1 (cells + mc) (slots + ms) Q (F0 m (pc + 3) ls rest)) : W p l e R s m args below meth c H locs cells slots Q (F0 m pc ls st0) := by
  have hF := va_free (wc := wc) hD hS hA isC hC
  refine va_callv hr hS (fun q _ h => hF q h) hF (fun u t H1 locs1 ht hvm hw hB hz1 hk1 hS1 => ?_)
  obtain ⟨hP1, hD1⟩ := hB
  rw [ht] at hP1
  obtain ⟨hP2, hD2⟩ := va_join hP hD isC isR hC hR hn hdis hk1 hF hP1 hD1
  exact kk u H1 locs1 hw hP2 hD2 hS1
end OX
/-! WHAT IS THROWN: out of a method without a table of handlers; into the one handler of a method that has one -/
section OT
variable {p : Program} {l : Launch} {e : Env} {R : Room} {s : State} {m : MethodId} {args : Array Value} {below : List Frame} {meth : Method} {c : Code} {H : Heap} {locs : List Loc} {cells slots : Nat} {Q : State → Prop}
variable {cc : ByteArray} {pc : Nat} {ls : Array Slot} {rest st0 : List Value} {D : va_G} {cl : List vw_C} {A : Nat → Prop} {a : Nat} {tys : List (ClassId × FieldType)} {ws wc wr : va_W} {H0 : Heap} {mc ms mF sF : Nat} {As : List Value} {free : Addr → Prop}
/-- one entry covers the place, its name links, the object is of just that name -/
theorem ow_find {u : State} {f : JFrame} {x : Addr} {meth' : Method} {code : Code} (hm : u.vm.method? f.method = some meth') (hc : meth'.code = some code) {q : ExceptionTableEntry} (htab : code.exceptionTable.toList = [q]) (hx : covers q f.pc = true) (h0 : q.catchType ≠ 0)
    {k : ClassId} {cell : Cell} (hl : u.vm.ClassLinks e.platform f.method.cls q.catchType k) (hcell : u.heap[x]? = some cell) (hobj : ∀ j, cell.vm ≠ .statics j) (hcls : cell.cls = k) (hk : ∃ z, u.vm.classes[k]? = some z)
    (Q : Handler → Pre) (E : CtlPost) (d : Bool) (acts : List Action) : wp (findHandler f x) Q E e d acts u ↔ Q (.found q.handlerPc) d acts (u.setVm (u.vm.noted f.method.cls q.catchType (.cls k))) := by
  rw [W.findHandler_eq hm hc, htab]
  simp only [covers] at hx
  obtain ⟨g1, g2⟩ := (resolveClass_links e.toSetting hl).op (op := VmOp.resolveClass f.method.cls q.catchType) rfl
  have hal : u.vm.Alike (u.vm.noted f.method.cls q.catchType (.cls k)) := (Vm.Alike.refl u.vm).noted _ _ _
  obtain ⟨z, hz⟩ := hk
  obtain ⟨z', hz', -⟩ := hal.2.2 _ _ hz
  have hfit : (u.vm.noted f.method.cls q.catchType (.cls k)).assignable k k = true := by
    show (u.vm.noted f.method.cls q.catchType (.cls k)).assignableAux (255 + 1) k k = true
    rw [Vm.assignableAux]
    simp
  subst hcls
  simp [findHandler.go, hx, h0, g1, g2, hcell, hobj, hz', hfit, VmOp.dirties, VmOp.acts]
theorem ow_step {u : State} {f : JFrame} {x : Addr} {r : List Frame} {hp : Nat} {vm' : Vm} (hf : ∀ (Q : Handler → Pre) (E : CtlPost) (d : Bool) (acts : List Action), wp (findHandler f x) Q E e d acts u ↔ Q (.found hp) d acts (u.setVm vm')) :
    (stepThrowing e u x (.java f :: r)).Is ((u.setVm vm').setFrames (.java { f with pc := hp, stack := [.ref x] } :: r)) [] := by
  simp only [stepThrowing, searchFrame, vmDo]
  generalize hr : Sem.go _ e false [] u = res
  obtain ⟨as, rfl, ha⟩ := Sem.eq_ok_of hr (a := Handler.found hp) (s' := u.setVm vm') (acts' := []) (by simp [hf _ _ _ _])
  exact ⟨rfl, ha⟩
theorem ow_caught {T : State} (X : Stand p l e R s m args below meth c T locs cells slots) {x : Addr} {g : JFrame} (hg : g.method = m) {own E : String} (hown : s.vm.findClass own = some m.cls) {q : ExceptionTableEntry} (htab : c.exceptionTable.toList = [q]) (hx : covers q g.pc = true) (h0 : q.catchType ≠ 0)
    (hlink : (Cond.classLink own q.catchType E).before args s = true) {cell : Cell} (hcell : T.heap[x]? = some cell) (hobj : cell.vm.isStatics = false) (hcls : s.vm.findClass E = some cell.cls) :
    ∃ vm', Stand p l e R s m args below meth c (T.setVm vm') locs cells slots ∧
      ∀ target, Steps p.tables e below ((T.setVm vm').setTop { g with pc := q.handlerPc, stack := [.ref x] }) target → Steps p.tables e below ((T.setTop g).pushFrame (.throwing x)) target := by
  have hpl : e.platform.magicAccessors = ({} : Platform).magicAccessors := by rw [X.admits.platform]
  obtain ⟨k, hk, hcl⟩ := Cond.classLink_spec hown hlink e.platform hpl
  cases hcls.symm.trans hk
  obtain ⟨dk, _, _, kt, hd, _, _, _, _, hkt, _, hopen⟩ := hcl.here
  have hcl0 := X.warmed.classLinks hcl
  have hW' : s.WarmedH (T.vm.noted m.cls q.catchType (.cls cell.cls)) := X.warmed.noted hd hopen (State.rightAt_cls hcl)
  obtain ⟨kt', hkt', -⟩ := X.warmed.alike.2.2 _ _ hkt
  refine ⟨_, X.noted hW', fun target hrest => ?_⟩
  subst hg
  obtain ⟨hgo, hw⟩ := At.throwing (g := g) X.here x
  refine Steps.head hgo hw ?_
  rw [stepThread_throwing (frames_entered X.here.top _), (ow_step (u := (T.setTop g).pushFrame (.throwing x)) (f := g) (x := x) (hp := q.handlerPc) (vm' := T.vm.noted g.method.cls q.catchType (.cls cell.cls)) (fun Q E d acts => by
    have h1 := ow_find (e := e) (u := (T.setTop g).pushFrame (.throwing x)) (f := g) (x := x) (meth' := meth) (code := c) X.method' X.code htab hx h0 (k := cell.cls) (cell := cell) hcl0 hcell (VmData.ne_statics_of hobj) rfl ⟨kt', hkt'⟩ Q E d acts
    exact h1)).1]
  obtain ⟨g₀, hg⟩ := Option.isSome_iff_exists.mp X.here.top
  obtain ⟨r, hr⟩ := State.topJava?_eq_some.mp hg
  have hr' : (T.setVm (T.vm.noted g.method.cls q.catchType (.cls cell.cls))).frames = .java g₀ :: r := hr
  rw [State.setTop_of_frames _ hr'] at hrest
  have e1 : ∀ (F G : List Frame), ((T.setFrames F).setVm (T.vm.noted g.method.cls q.catchType (.cls cell.cls))).setFrames G = (T.setVm (T.vm.noted g.method.cls q.catchType (.cls cell.cls))).setFrames G := fun F G => by
    have h1 : (T.setFrames F).setVm (T.vm.noted g.method.cls q.catchType (.cls cell.cls)) = (T.setVm (T.vm.noted g.method.cls q.catchType (.cls cell.cls))).setFrames F := rfl
    rw [h1, State.setFrames_setFrames]
  rw [hr, List.tail_cons, State.pushFrame, State.setTop_of_frames _ hr, State.setFrames_setFrames, e1]
  exact hrest
theorem ow_emp {c : Code} (h : c.exceptionTable.isEmpty = true) (pc : Nat) : ∀ x ∈ c.exceptionTable.toList, covers x pc = false := by
  have h1 : c.exceptionTable.toList = [] := by
    have h2 : c.exceptionTable.size = 0 := by simpa [Array.isEmpty] using h
    exact List.eq_nil_of_length_eq_zero (by simpa using h2)
  rw [h1]
  intro q hq
  cases hq
/-- the callee looks whether something is there: it comes back and nothing has changed, or throws, and so does the caller -/
theorem ow_callD {E : String} {thr thr' okP : Prop} {av : Array Value} {ok' : Array Value → State → Outcome → State → Prop}
    (hr : ow_Run p l e R s m args below meth c s.heap locs cells slots mc ms (F0 m pc ls st0) rest (ow_Q E thr (fun _ st oc t => oc = .returned none ∧ t.heap = st.heap ∧ okP) av) (fun _ => False))
    (hlocs : ∀ q ∈ locs, free q.base) (hemp : c.exceptionTable.isEmpty = true) (hlocks : meth.locks = false) (hc : cells + mc ≤ mF) (hs : slots + ms ≤ sF) (ht : thr → thr')
    (kk : okP → W p l e R s m args below meth c s.heap locs cells slots (ow_MQ below (ow_Q E thr' ok') args s mF sF free) (F0 m (pc + 3) ls rest)) :
    W p l e R s m args below meth c s.heap locs cells slots (ow_MQ below (ow_Q E thr' ok') args s mF sF free) (F0 m pc ls st0) := by
  intro T hT X
  obtain ⟨o, st₀, t, T', L, h0, hal0, X0, X', hL, e1, hal, hq, hret, hthr⟩ := hr T hT X
  have hLn : ∀ q ∈ L, free q.base := fun q h => (hL q h).elim
  rcases hq with ⟨⟨v, rfl⟩, -, hv, hh, hok⟩ | ⟨hth, x, rfl, ⟨cell, hc1, hc2, hc3⟩, hx3, hx4⟩
  · cases hv
    have X2 : Stand p l e R s m args below meth c T' locs cells slots := Stand.forget (X0 ⟨_, rfl⟩) (fun q h => (hL q h).elim)
    obtain ⟨t2, a1, b1⟩ := kk hok T' (by rw [e1, hh, h0]) X2
    exact ⟨t2, hret none rfl t2 a1, b1⟩
  · have X2 : Stand p l e R s m args below meth c T' locs (cells + mc) (slots + ms) := Stand.forget X' (fun q h => (hL q h).elim)
    obtain ⟨w1, w2, w3, w4, w5⟩ := X2.leaveThrown x (g := { F0 m pc ls st0 with stack := rest }) rfl rfl rfl (ow_emp hemp _) hlocks
    refine ⟨_, hthr x rfl _ w1, .threw x, w2, w3, Or.inr ⟨ht hth, x, rfl, ?_⟩, locs, ⟨w4, w5.mono hc hs, fun ⟨v, hv⟩ => by (cases hv)⟩, hlocs⟩
    rw [h0] at hx3 hx4
    refine ⟨⟨cell, ?_, hc2, ?_⟩, ?_, ?_⟩
    · show T'.heap[x]? = some cell
      rw [e1]; exact hc1
    · rw [← hal0.findClass]; exact hc3
    · show s.heap.size ≤ T'.heap.size
      rw [e1]; exact hx3
    · intro q hq
      show T'.heap[q]? = s.heap[q]?
      rw [e1]; exact hx4 q hq
end OT
/-! A CALL IN A METHOD THAT CATCHES -/
section OC
variable {p : Program} {l : Launch} {e : Env} {R : Room} {s : State} {m : MethodId} {args : Array Value} {below : List Frame} {meth : Method} {c : Code} {H : Heap} {locs : List Loc} {cells slots : Nat} {Q : State → Prop}
variable {cc : ByteArray} {pc hpc : Nat} {ls : Array Slot} {rest st0 : List Value} {D : va_G} {cl : List vw_C} {A : Nat → Prop} {a : Nat} {tys : List (ClassId × FieldType)} {ws wc wr : va_W} {H0 : Heap} {mc ms : Nat} {As : List Value} {free : Addr → Prop} {own E : String} {q0 : ExceptionTableEntry} {thr : Prop} {av : Array Value}
theorem ow_catch {T T' t st₀ : State} {x : Nat} (X' : Stand p l e R s m args below meth c T' locs cells slots) (h0 : st₀.heap = H) (hal0 : s.vm.Alike st₀.vm) (e1 : T'.heap = t.heap) (hex : ow_ex E st₀ x t)
    (hthr : ∀ target, Steps p.tables e below ((T'.setTop { F0 m pc ls st0 with stack := rest }).pushFrame (.throwing x)) target → Steps p.tables e below (T.setTop (F0 m pc ls st0)) target)
    (hP : va_P D cl ws H) (hS : va_S A H0 H locs) (hown : s.vm.findClass own = some m.cls) (htab : c.exceptionTable.toList = [q0]) (hx : covers q0 pc = true) (hct : q0.catchType ≠ 0) (hlink : (Cond.classLink own q0.catchType E).before args s = true) (hh : q0.handlerPc = hpc)
    (k2 : ∀ (x : Nat) (H1 : Heap), va_P D cl ws H1 → va_S A H0 H1 locs → W p l e R s m args below meth c H1 locs cells slots Q (F0 m hpc ls [.ref x])) : ∃ t, Steps p.tables e below (T.setTop (F0 m pc ls st0)) t ∧ Q t := by
  obtain ⟨⟨cell, hc1, hc2, hc3⟩, hx3, hx4⟩ := hex
  rw [h0] at hx3 hx4
  subst hh
  obtain ⟨vm', X2, st⟩ := ow_caught X' (x := x) (g := { F0 m pc ls st0 with stack := rest }) rfl hown htab hx hct hlink (cell := cell) (by rw [e1]; exact hc1) hc2 (by rw [← hal0.findClass]; exact hc3)
  have hk : ∀ q : Nat, q < H.size → T'.heap[q]? = H[q]? := fun q hq => by rw [e1]; exact hx4 q hq
  have hsz : H.size ≤ T'.heap.size := by rw [e1]; exact hx3
  obtain ⟨t2, a1, b1⟩ := k2 x T'.heap (hP.kept fun k q hq => hk _ (va_at.lt (hP k q hq))) ⟨Nat.le_trans hS.1 hsz, fun q h1 h2 => by rw [hk q (Nat.lt_of_lt_of_le h1 hS.1)]; exact hS.2.1 q h1 h2, hS.2.2⟩ (T'.setVm vm') rfl X2
  exact ⟨t2, hthr _ (st _ a1), b1⟩
theorem ow_callC {S : Type} {post : Int32 → S → Prop} {w : S → va_W} (hr : ow_Run p l e R s m args below meth c H locs cells slots mc ms (F0 m pc ls st0) rest (ow_Q E thr (va_Qi post (ow_B D cl w (va_A wc H.size)) (va_A wc H.size)) av) (va_A wc H.size))
    (hP : va_P D cl ws H) (hD : va_D A ws) (hS : va_S A H0 H locs) (hA : ∀ q, H0.size ≤ q → A q) (isC isR : List Nat) (hC : isC.map (fun i => ws[i]?) = wc.map some) (hR : isR.map (fun i => ws[i]?) = wr.map some) (hn : va_nd isR = true) (hdis : ∀ i ∈ isR, i ∉ isC)
    (hown : s.vm.findClass own = some m.cls) (htab : c.exceptionTable.toList = [q0]) (hx : covers q0 pc = true) (hct : q0.catchType ≠ 0) (hlink : (Cond.classLink own q0.catchType E).before args s = true) (hh : q0.handlerPc = hpc)
    (k1 : ¬ thr → ∀ (r : Int32) (u : S) (H1 : Heap) (locs1 : List Loc), post r u → va_P D cl (wr ++ w u) H1 → va_D A (wr ++ w u) → va_S A H0 H1 locs1 → W p l e R s m args below meth c H1 locs1 cells slots Q (F0 m (pc + 3) ls (.int r :: rest)))
    (k2 : thr → ∀ (x : Nat) (H1 : Heap) (locs1 : List Loc), va_P D cl ws H1 → va_S A H0 H1 locs1 → W p l e R s m args below meth c H1 locs1 (cells + mc) (slots + ms) Q (F0 m hpc ls [.ref x])) : W p l e R s m args below meth c H locs cells slots Q (F0 m pc ls st0) := by
  have hF := va_free (wc := wc) hD hS hA isC hC
  intro T hT X
  obtain ⟨o, st₀, t, T', L, h0, hal0, X0, X', hL, e1, hal, hq, hret, hthr⟩ := hr T hT X
  have hLA : ∀ q ∈ locs ++ L, A q.base := fun q h => by
    rcases List.mem_append.mp h with h | h
    · exact hS.2.2 q h
    · exact hF _ (hL q h)
  rcases hq with ⟨⟨v, rfl⟩, hnt, ⟨r, u, hv, hpost, hP1, hD1⟩, hz, hk⟩ | ⟨hth, x, rfl, hex⟩
  · cases hv
    rw [h0] at hz hk
    obtain ⟨hP2, hD2⟩ := va_join hP hD isC isR hC hR hn hdis hk hF hP1 hD1
    have hS2 : va_S A H0 t.heap (locs ++ L) := ⟨Nat.le_trans hS.1 hz, fun q h1 h2 => by rw [hk q (Nat.lt_of_lt_of_le h1 hS.1) (fun h3 => h2 (hF q h3))]; exact hS.2.1 q h1 h2, hLA⟩
    obtain ⟨t2, a1, b1⟩ := k1 hnt r u t.heap (locs ++ L) hpost hP2 hD2 hS2 T' e1 (X0 ⟨_, rfl⟩)
    exact ⟨t2, hret _ rfl t2 a1, b1⟩
  · have hS2 : va_S A H0 H (locs ++ L) := ⟨hS.1, hS.2.1, hLA⟩
    exact ow_catch X' h0 hal0 e1 hex (hthr x rfl) hP hS2 hown htab hx hct hlink hh (fun x H1 h1 h2 => k2 hth x H1 (locs ++ L) h1 h2)
theorem ow_callCR {r : Int32} (hr : ow_Run p l e R s m args below meth c H locs cells slots mc ms (F0 m pc ls st0) rest (ow_Q E thr (QcRead r) av) (fun _ => False))
    (hP : va_P D cl ws H) (hS : va_S A H0 H locs)
    (hown : s.vm.findClass own = some m.cls) (htab : c.exceptionTable.toList = [q0]) (hx : covers q0 pc = true) (hct : q0.catchType ≠ 0) (hlink : (Cond.classLink own q0.catchType E).before args s = true) (hh : q0.handlerPc = hpc)
    (k1 : ¬ thr → W p l e R s m args below meth c H locs cells slots Q (F0 m (pc + 3) ls (.int r :: rest)))
    (k2 : thr → ∀ (x : Nat) (H1 : Heap), va_P D cl ws H1 → va_S A H0 H1 locs → W p l e R s m args below meth c H1 locs (cells + mc) (slots + ms) Q (F0 m hpc ls [.ref x])) : W p l e R s m args below meth c H locs cells slots Q (F0 m pc ls st0) := by
  intro T hT X
  obtain ⟨o, st₀, t, T', L, h0, hal0, X0, X', hL, e1, hal, hq, hret, hthr⟩ := hr T hT X
  have X2 : Stand p l e R s m args below meth c T' locs (cells + mc) (slots + ms) := Stand.forget X' (fun q h => (hL q h).elim)
  rcases hq with ⟨⟨v, rfl⟩, hnt, hv, hhe⟩ | ⟨hth, x, rfl, hex⟩
  · cases hv
    obtain ⟨t2, a1, b1⟩ := k1 hnt T' (by rw [e1, hhe, h0]) (Stand.forget (X0 ⟨_, rfl⟩) (fun q h => (hL q h).elim))
    exact ⟨t2, hret _ rfl t2 a1, b1⟩
  · exact ow_catch X2 h0 hal0 e1 hex (hthr x rfl) hP hS hown htab hx hct hlink hh (k2 hth)
end OC
/-! WORLDS OF METHODS THAT MAY THROW: two statics of what is thrown hold references, nobody asks which -/
abbrev ow_IAE : String := "java/lang/IllegalArgumentException"
def ow_B4 : List Cond := [.castable ow_IAE ow_IAE, .declares (Bundle.initS "java/lang/RuntimeException"), .declares (Bundle.initS "java/lang/Exception"), .declares (Bundle.initS "java/lang/Throwable")]
def ow_Z (U : State) : Prop := vx_Zq Bundle.tN "UNASSIGNED_STACK" Bundle.steD (fun _ => False) U U.heap ∧ vx_Zq Bundle.tN "SUPPRESSED_SENTINEL" Bundle.listD (fun _ => False) U U.heap ∧ (∀ w ∈ ow_B4, va_Nw w U) ∧ ∃ sa : Nat, vk_R RX0 55 "there is no such stamp" sa U
theorem ow_B4_warm {s U : State} (hW : s.WarmedH U.vm) (h : ∀ w ∈ ow_B4, va_Nw w s) : ∀ w ∈ ow_B4, va_Nw w U := by
  intro w hw
  have h1 := h w hw
  simp only [ow_B4, List.mem_cons, List.not_mem_nil, or_false] at hw
  rcases hw with rfl | rfl | rfl | rfl
  · exact va_Nw.warmC hW h1
  · exact va_Nw.warmD hW h1
  · exact va_Nw.warmD hW h1
  · exact va_Nw.warmD hW h1
theorem ow_Z.moved {u U : State} (hW : u.WarmedH U.vm) (hh : U.heap = u.heap) (h : ow_Z u) : ow_Z U := by
  obtain ⟨h1, h2, h3, sa, h4⟩ := h
  unfold ow_Z
  rw [hh]
  exact ⟨vx_Zq.moved hW.alike h1, vx_Zq.moved hW.alike h2, ow_B4_warm hW h3, sa, vk_R.warm hW h4⟩
theorem ow_Z.same {u U : State} (hv : U.vm = u.vm) (hh : U.heap = u.heap) (h : ow_Z u) : ow_Z U := ow_Z.moved (by rw [hv]; exact State.WarmedH.refl u) hh h
def ow_Px (D : va_G) (cl : List vw_C) (tys : List (ClassId × FieldType)) (ws : va_W) (sz : Nat) (av : List Value) : Array Value → State → Prop := va_Pc av (fun U => U.heap.size = sz ∧ va_P D cl ws U.heap ∧ va_K D cl tys U ∧ va_D (fun _ => True) ws ∧ ow_Z U)
def ow_Rx (D : va_G) (cl : List vw_C) (tys : List (ClassId × FieldType)) (ws : va_W) (av : List Value) : Array Value → State → Prop := va_Pc av (fun U => va_P D cl ws U.heap ∧ va_K D cl tys U ∧ ow_Z U)
theorem ow_Px_bl {D : va_G} {cl : List vw_C} {tys : List (ClassId × FieldType)} {ws : va_W} {sz : Nat} {av : List Value} : FrameBlind (ow_Px D cl tys ws sz av) := fun a U g mk q => by
  obtain ⟨q0, q1, qP, qK, qD, qZ⟩ := q
  exact ⟨q0, q1, qP, va_K.moved (u := U) (U := U.calling g mk a) (Vm.Alike.refl U.vm) qK, qD, ow_Z.same (u := U) (U := U.calling g mk a) rfl rfl qZ⟩
theorem ow_Rx_bl {D : va_G} {cl : List vw_C} {tys : List (ClassId × FieldType)} {ws : va_W} {av : List Value} : FrameBlind (ow_Rx D cl tys ws av) := fun a U g mk q => by
  obtain ⟨q0, qP, qK, qZ⟩ := q
  exact ⟨q0, qP, va_K.moved (u := U) (U := U.calling g mk a) (Vm.Alike.refl U.vm) qK, ow_Z.same (u := U) (U := U.calling g mk a) rfl rfl qZ⟩
section OV
variable {s : State} {H : Heap} {D : va_G} {cl : List vw_C} {A : Nat → Prop} {tys : List (ClassId × FieldType)} {ws : va_W} {As : List Value}
theorem ow_PreRx (hK : va_K D cl tys s) (hP : va_P D cl ws s.heap) (hZ : ow_Z s) {q : vw_C} {ci q0 b : Nat} {fs : List Value} (hc : cl[ci]? = some q) (he : ws[q0]? = some (b, .inr (ci, fs))) : PreV s s.heap q.1 b (ow_Rx D cl tys ws (.ref b :: As)) As :=
  ⟨ow_Rx_bl, va_recv hK hP hc he, fun U hU hW => ⟨rfl, by rw [hU]; exact hP, va_K.moved hW.alike hK, ow_Z.moved hW hU hZ⟩⟩
theorem ow_PrePx (hK : va_K D cl tys s) (hP : va_P D cl ws s.heap) (hD : va_D A ws) (hZ : ow_Z s) {q : vw_C} {ci q0 b : Nat} {fs : List Value} (hc : cl[ci]? = some q) (he : ws[q0]? = some (b, .inr (ci, fs))) : PreV s s.heap q.1 b (ow_Px D cl tys ws s.heap.size (.ref b :: As)) As :=
  ⟨ow_Px_bl, va_recv hK hP hc he, fun U hU hW => ⟨rfl, by rw [hU], by rw [hU]; exact hP, va_K.moved hW.alike hK, hD.weaken (fun _ _ _ _ => trivial), ow_Z.moved hW hU hZ⟩⟩
end OV
/-! THE THROW: 'throw new IllegalArgumentException("there is no such stamp")' -/
theorem ow_nt {l : Launch} (hf : l.flags = flags0) : l.stackTraces = false := by
  unfold Launch.stackTraces
  rw [hf]
  decide +kernel
theorem ow_B4_use {s : State} {args : Array Value} (h : ∀ w ∈ ow_B4, va_Nw w s) : ∀ w ∈ ow_B4, w.before args s = true := by
  intro w hw
  have h1 := h w hw
  simp only [ow_B4, List.mem_cons, List.not_mem_nil, or_false] at hw
  rcases hw with rfl | rfl | rfl | rfl
  · exact va_Nw.use rfl h1
  · exact va_Nw.use rfl h1
  · exact va_Nw.use rfl h1
  · exact va_Nw.use rfl h1
abbrev ow_at : List Cond := vx_atS RX0 57 "java/lang/IllegalArgumentException" ["java/lang/RuntimeException", "java/lang/Exception"]
theorem ow_at_rest : ∀ w ∈ ow_at.filter (fun w => !goodWord w), w ∈ ow_B4 := by decide +kernel
theorem ow_at_ot : ∀ w ∈ Cond.classLink RX0 53 "java/lang/IllegalArgumentException" :: Cond.initialized "java/lang/IllegalArgumentException" :: ow_at, vx_ot w = true := by decide +kernel
section OTH
variable {p : Program} {l : Launch} {e : Env} {R : Room} {s : State} {m : MethodId} {args : Array Value} {below : List Frame} {meth : Method} {c : Code} {H : Heap} {locs : List Loc} {cells slots : Nat}
variable {cc : ByteArray} {pc : Nat} {ls : Array Slot} {thr : Prop} {ok' : Array Value → State → Outcome → State → Prop}
theorem ow_throw (hexec : p.tables.exec = Jvm.exec) (hb : c.code = cc) (hf : l.flags = flags0) (hown : s.vm.findClass RX0 = some m.cls)
    (hk : (Cond.classLink RX0 53 "java/lang/IllegalArgumentException").before args s = true) (hini : (Cond.initialized "java/lang/IllegalArgumentException").before args s = true) (hg : ∀ w ∈ ow_at.filter goodWord, w.before args s = true) (hZ : ow_Z s) (hsize : ls.size = c.maxLocals)
    (d0 : decode cc pc = .ok (.new 53, 3)) (d3 : decode cc (pc + 3) = .ok (.dup, 1)) (d4 : decode cc (pc + 4) = .ok (.ldc 55, 2)) (d6 : decode cc (pc + 6) = .ok (.invokespecial 57, 3)) (d9 : decode cc (pc + 9) = .ok (.athrow, 1))
    (hemp : c.exceptionTable.isEmpty = true) (hlocks : meth.locks = false) (hRf : 5 < R.frames) (hRl : 82 ≤ R.locals) (hRc : 1 ≤ R.cells) (hRs : 6 ≤ R.slots) (hthr : thr) :
    W p l e R s m args below meth c s.heap [] 0 0 (ow_MQ below (ow_Q ow_IAE thr ok') args s 1 6 (fun _ => False)) (F0 m pc ls []) := by
  obtain ⟨hU, hN, hB, sa, hstr⟩ := hZ
  refine ow_imp (fun t ht => ?_) (vx_throwS (Qc := fun _ _ _ _ => False) (XC := fun E st t => E = ow_IAE ∧ st.heap.size ≤ t.heap.size ∧ ∀ q : Nat, q < st.heap.size → t.heap[q]? = st.heap[q]?) (free := fun _ => False) (mc := 1) (ms := 6)
    hexec hb (ow_nt hf) (own := RX0) (cls := "java/lang/IllegalArgumentException") (text := "there is no such stamp") (names := ["java/lang/RuntimeException", "java/lang/Exception"]) (ik := 53) (is := 55) (ic := 57) (sa := sa) (A := fun _ => False)
    hown (by decide) (by decide) hk hini hstr (vx_hat hg ow_at_rest (ow_B4_use hB)) ow_at_ot hU hN va_S.rf hsize d0 d3 d4 d6 d9 (ow_emp hemp _) hRf (by simpa using hRl) (by omega) (by omega) hlocks
    (fun t _ h2 h3 => ⟨rfl, h2, h3⟩) (fun z h => by cases h) (by decide) (by decide))
  obtain ⟨o, h1, h2, h3⟩ := ht
  rcases h3 with ⟨hf, _⟩ | ⟨q, rfl, E, ce, L, ⟨rfl, hz, hk2⟩, hce, hcv, hcl, hW, hs, hL⟩
  · exact hf.elim
  · exact ⟨.threw q, h1, h2, Or.inr ⟨hthr, q, rfl, ⟨ce, hce, by rw [hcv]; rfl, hcl⟩, hz, hk2⟩, L, ⟨hW, hs, fun ⟨v, hv⟩ => by (cases hv)⟩, hL⟩
end OTH
end
section
/-! THE STATES: of the landed object and its two rows; of the reference and its two rows -/
abbrev wX (h a b : Nat) (cA cB : ClassId) (u : Int32 × (Nat → Int32) × (Nat → Int32)) : va_W := [(h, .inr (0, [.ref a, .ref b, .int u.1])), (a, .inl (cA, 1000, .inl u.2.1)), (b, .inl (cB, 1000, .inl u.2.2))]
abbrev wM (h a b : Nat) (cA cB : ClassId) (u : Int32 × Int32 × (Nat → Int32) × (Nat → Int32)) : va_W := [(h, .inr (1, [.int u.1, .ref a, .int u.2.1, .ref b])), (a, .inl (cA, 1000, .inl u.2.2.1)), (b, .inl (cB, 1000, .inl u.2.2.2))]
/-- the landed object and the law's own cell for answers -/
abbrev wO (h a b o : Nat) (cA cB cO : ClassId) (u : (Int32 × (Nat → Int32) × (Nat → Int32)) × (Nat → Int64)) : va_W := [(h, .inr (0, [.ref a, .ref b, .int u.1.1])), (a, .inl (cA, 1000, .inl u.1.2.1)), (b, .inl (cB, 1000, .inl u.1.2.2)), (o, .inl (cO, 1, .inr (.inl u.2)))]
end
section
set_option maxHeartbeats 4000000 in
set_option maxRecDepth 100000 in
/-- thrown(): what the field holds -/
theorem c_M_thrown (l : Launch) (dC : Nat → ClassId) (dI : Nat → Nat → Nat) (h a b : Nat) (cA cB : ClassId) (th n : Int32) (f as : Nat → Int32) : Met l yX1_thrown wsX1_thrown ({ frames := 0, cells := 0, slots := 0, locals := 0 }) (ow_Rc (dC, dI) vwCl [(cA, .int), (cB, .int)] (wM h a b cA cB (th, n, f, as)) [.ref h]) (QcRead th) 0 0 (fun _ => False) := by
  refine Met.ofW (cc := cX1_thrown) (maxL := 1) (ret := (some .int)) (by decide) rfl ?_
  intro pg ev s m args below meth cd s₁ B hml hv
  obtain ⟨rfl, hP, hK⟩ := hv
  have hx := B.exec
  have hb := B.bytes
  have hr := B.returns
  have hts := atoms_spec (ws := wsX1_thrown) B.pre
  have hown : s.vm.findClass RX1 = some m.cls := findClass_of_methodNamed B.named
  have hlocks := B.notSynchronized
  have hP : va_P (dC, dI) vwCl [(h, .inr (1, [.int th, .ref a, .int n, .ref b])), (a, .inl (cA, 1000, .inl f)), (b, .inl (cB, 1000, .inl as))] s.heap := hP
  have hl := lv_entry ([.ref h]) (n := 1) (Nat.le_of_ble_eq_true rfl)
  rw [lg_entry_eq]
  generalize (lg_sl ([.ref h]) ++ List.replicate (1 - (lg_sl ([.ref h])).length) Slot.unset).toArray = ls at hl ⊢
  have hl : lv_has ls 1 [(0, .ref h)] := hl
  refine lv_aload_n hx hb dX1_thrown_0 rfl (lv_at hl 0 rfl) ?_
  refine va_get (D := (dC, dI)) (ci := 1) (v := .int th) (C := RX1) (T := TX1) (N := 4) hx hb hts (by decide +kernel) hown hK hP 0 rfl rfl 0 (by decide) (hts (.fieldLink RX1 20 "OrderLineModel" "thrown" "I") (by decide +kernel)) (fun _ h9 => h9) rfl dX1_thrown_1 ?_
  exact W.iret (v := th) hx hb hr (fun t ht hW => ⟨by rw [show th = th from rfl], ht⟩) (fun q h => by cases h) dX1_thrown_4
set_option maxHeartbeats 4000000 in
set_option maxRecDepth 100000 in
/-- find(x): its place, or -1 -/
theorem c_M_find (l : Launch) (dC : Nat → ClassId) (dI : Nat → Nat → Nat) (h a b : Nat) (cA cB : ClassId) (th : Int32) (N : Nat) (L : Nat → Nat) (f as : Nat → Int32) (x r : Int32) (hN : N ≤ 1000) (hf : ol_f N L f) (hfd : ol_fd N L x r) : Met l yX1_find wsX1_find ({ frames := 0, cells := 0, slots := 0, locals := 0 }) (ow_Rc (dC, dI) vwCl [(cA, .int), (cB, .int)] (wM h a b cA cB (th, nI N, f, as)) [.ref h, .int x]) (QcRead r) 0 0 (fun _ => False) := by
  refine Met.ofW (cc := cX1_find) (maxL := 3) (ret := (some .int)) (by decide) rfl ?_
  intro pg ev s m args below meth cd s₁ B hml hv
  obtain ⟨rfl, hP, hK⟩ := hv
  have hx := B.exec
  have hb := B.bytes
  have hr := B.returns
  have hts := atoms_spec (ws := wsX1_find) B.pre
  have hown : s.vm.findClass RX1 = some m.cls := findClass_of_methodNamed B.named
  have hlocks := B.notSynchronized
  have hP : va_P (dC, dI) vwCl [(h, .inr (1, [.int th, .ref a, .int (nI N), .ref b])), (a, .inl (cA, 1000, .inl f)), (b, .inl (cB, 1000, .inl as))] s.heap := hP
  have hl := lv_entry ([.ref h, .int x]) (n := 3) (Nat.le_of_ble_eq_true rfl)
  rw [lg_entry_eq]
  generalize (lg_sl ([.ref h, .int x]) ++ List.replicate (3 - (lg_sl ([.ref h, .int x])).length) Slot.unset).toArray = ls at hl ⊢
  have hl : lv_has ls 3 [(0, .ref h), (1, .int x)] := hl
  refine lv_iconst (v := nI 0) hx hb dX1_find_0 (by decide +kernel) ?_
  refine lv_istore_n (lv' := [(2, .int (nI 0)), (0, .ref h), (1, .int x)]) hx hb dX1_find_1 rfl hl (by decide) rfl (fun ls hl => ?_)
  have loop : ∀ (k : Nat) (i : Nat), N < i + k → i ≤ N → (∀ q, q < i → x ≠ nI (L q)) → ∀ ls : Array Slot, lv_has ls 3 [(0, .ref h), (1, .int x), (2, .int (nI i))] → W pg l ev (headSpec wsX1_find ({ frames := 0, cells := 0, slots := 0, locals := 0 })).room s m ([.ref h, .int x] : List Value).toArray below meth cd s.heap [] 0 0 (MQ below (QcRead r) ([.ref h, .int x] : List Value).toArray s 0 0 (fun _ => False)) (F0 m 2 ls []) := by
    intro k
    induction k with
    | zero =>
      intro i h1 h2 h3
      exact absurd h1 (by omega)
    | succ k ih =>
      intro i hk hi hno ls hl
      refine lv_iload_n hx hb dX1_find_2 rfl (lv_at hl 2 rfl) ?_
      refine lv_aload_n hx hb dX1_find_3 rfl (lv_at hl 0 rfl) ?_
      refine va_get (D := (dC, dI)) (ci := 1) (v := .int (nI N)) (C := RX1) (T := TX1) (N := 4) hx hb hts (by decide +kernel) hown hK hP 0 rfl rfl 2 (by decide) (hts (.fieldLink RX1 13 "OrderLineModel" "many" "I") (by decide +kernel)) (fun _ h9 => h9) rfl dX1_find_4 ?_
      refine lv_icmp_ge (tgt := 28) hx hb dX1_find_7 (by decide) (fun c_7 => ?_) (fun c_7 => ?_)
      · have hc := ol_le (by omega) (by omega) c_7
        refine lv_iconst (v := (-1)) hx hb dX1_find_28 (by decide +kernel) ?_
        exact W.iret (v := ((-1))) hx hb hr (fun t ht hW => ⟨by rw [hfd.2 (fun q hq => hno q (by omega))], ht⟩) (fun q h => by cases h) dX1_find_29
      · have hc := ol_nle (by omega) (by omega) c_7
        refine lv_aload_n hx hb dX1_find_10 rfl (lv_at hl 0 rfl) ?_
        refine va_get (D := (dC, dI)) (ci := 1) (v := .ref a) (C := RX1) (T := TX1) (N := 4) hx hb hts (by decide +kernel) hown hK hP 0 rfl rfl 1 (by decide) (hts (.fieldLink RX1 7 "OrderLineModel" "line" "[I") (by decide +kernel)) (fun _ h9 => h9) rfl dX1_find_11 ?_
        refine lv_iload_n hx hb dX1_find_14 rfl (lv_at hl 2 rfl) ?_
        refine ow_iald (k := i) (v := nI (L i)) hx hb hK hP 1 0 rfl rfl (by omega) (by decide) (hf i hc) dX1_find_15 ?_
        refine lv_iload_n hx hb dX1_find_16 rfl (lv_at hl 1 rfl) ?_
        refine lv_icmp_ne (tgt := 22) hx hb dX1_find_17 (by decide) (fun c_17 => ?_) (fun c_17 => ?_)
        · have hne : x ≠ nI (L i) := fun e => c_17 e.symm
          refine lv_iinc (v := nI (i + 1)) (lv' := [(2, .int (nI (i + 1))), (0, .ref h), (1, .int x)]) hx hb dX1_find_22 hl (k := 2) rfl (nI_1 i) (by decide) rfl (fun ls hl => ?_)
          refine lv_goto (tgt := 2) hx hb dX1_find_25 (by decide) ?_
          exact ih (i + 1) (by omega) (by omega) (fun q hq => (Nat.lt_or_ge q i).elim (fun h9 => hno q h9) (fun h9 => by rw [show q = i by omega]; exact hne)) ls (lv_sub hl [1, 2, 0] rfl)
        · refine lv_iload_n hx hb dX1_find_20 rfl (lv_at hl 2 rfl) ?_
          exact W.iret (v := (nI i)) hx hb hr (fun t ht hW => ⟨by rw [hfd.1 i ⟨hc, c_17.symm⟩], ht⟩) (fun q h => by cases h) dX1_find_21
  exact loop (N + 1) 0 (by omega) (by omega) (fun q hq => absurd hq (Nat.not_lt_zero q)) ls (lv_sub hl [1, 2, 0] rfl)
set_option maxHeartbeats 4000000 in
set_option maxRecDepth 100000 in
/-- free(): the least number that none has, or -1 -/
theorem c_M_free (l : Launch) (dC : Nat → ClassId) (dI : Nat → Nat → Nat) (h a b : Nat) (cA cB : ClassId) (th : Int32) (N : Nat) (L : Nat → Nat) (f as : Nat → Int32) (ok : ol_ok N L) (hf : ol_f N L f) : Met l yX1_free wsX1_free ({ frames := 1, cells := 0, slots := 0, locals := 22 }) (ow_Rc (dC, dI) vwCl [(cA, .int), (cB, .int)] (wM h a b cA cB (th, nI N, f, as)) [.ref h]) (QcRead (ol_fi N L)) 0 0 (fun _ => False) := by
  refine Met.ofW (cc := cX1_free) (maxL := 2) (ret := (some .int)) (by decide) rfl ?_
  intro pg ev s m args below meth cd s₁ B hml hv
  obtain ⟨rfl, hP, hK⟩ := hv
  have hx := B.exec
  have hb := B.bytes
  have hr := B.returns
  have hts := atoms_spec (ws := wsX1_free) B.pre
  have hown : s.vm.findClass RX1 = some m.cls := findClass_of_methodNamed B.named
  have hlocks := B.notSynchronized
  have hP : va_P (dC, dI) vwCl [(h, .inr (1, [.int th, .ref a, .int (nI N), .ref b])), (a, .inl (cA, 1000, .inl f)), (b, .inl (cB, 1000, .inl as))] s.heap := hP
  have hl := lv_entry ([.ref h]) (n := 2) (Nat.le_of_ble_eq_true rfl)
  rw [lg_entry_eq]
  generalize (lg_sl ([.ref h]) ++ List.replicate (2 - (lg_sl ([.ref h])).length) Slot.unset).toArray = ls at hl ⊢
  have hl : lv_has ls 2 [(0, .ref h)] := hl
  refine lv_iconst (v := nI 0) hx hb dX1_free_0 (by decide +kernel) ?_
  refine lv_istore_n (lv' := [(1, .int (nI 0)), (0, .ref h)]) hx hb dX1_free_1 rfl hl (by decide) rfl (fun ls hl => ?_)
  have loop : ∀ (k : Nat) (v : Nat), 1000 < v + k → v ≤ 1000 → (∀ u, u < v → ∃ p, p < N ∧ L p = u) → ∀ ls : Array Slot, lv_has ls 2 [(0, .ref h), (1, .int (nI v))] → W pg l ev (headSpec wsX1_free ({ frames := 1, cells := 0, slots := 0, locals := 22 })).room s m ([.ref h] : List Value).toArray below meth cd s.heap [] 0 0 (MQ below (QcRead (ol_fi N L)) ([.ref h] : List Value).toArray s 0 0 (fun _ => False)) (F0 m 2 ls []) := by
    intro k
    induction k with
    | zero =>
      intro v h1 h2 h3
      exact absurd h1 (by omega)
    | succ k ih =>
      intro v hk hv hus ls hl
      refine lv_iload_n hx hb dX1_free_2 rfl (lv_at hl 1 rfl) ?_
      refine lv_sipush (v := nI 1000) hx hb dX1_free_3 (by decide +kernel) ?_
      refine lv_icmp_ge (tgt := 23) hx hb dX1_free_6 (by decide) (fun c_6 => ?_) (fun c_6 => ?_)
      · have hd : (v < 1000 ∧ ol_no N L (nI v)) ∨ v = 1000 := Or.inr (by have := ol_le (by omega) (by omega) c_6; omega)
        refine lv_iload_n hx hb dX1_free_23 rfl (lv_at hl 1 rfl) ?_
        refine lv_sipush (v := nI 1000) hx hb dX1_free_24 (by decide +kernel) ?_
        refine lv_icmp_ge (tgt := 34) hx hb dX1_free_27 (by decide) (fun c_27 => ?_) (fun c_27 => ?_)
        · have hv2 := ol_le (by omega) (by omega) c_27
          have hfi : ol_fi N L = -1 := ol_fi_ge (by rw [ol_fr_of (k := 1000) ⟨by omega, fun u hu => hus u (by omega), fun h9 => absurd h9 (by omega)⟩]; omega)
          refine lv_iconst (v := (-1)) hx hb dX1_free_34 (by decide +kernel) ?_
          exact W.iret (v := ((-1))) hx hb hr (fun t ht hW => ⟨by rw [hfi], ht⟩) (fun q h => by cases h) dX1_free_35
        · have hv2 := ol_nle (by omega) (by omega) c_27
          have hfr : ol_fr N L = v := by
            rcases hd with ⟨_, hno⟩ | h9
            · exact ol_fr_of ⟨by omega, hus, fun _ p hp e => hno p hp (by rw [e])⟩
            · omega
          have hfi : ol_fi N L = nI v := by rw [ol_fi_lt (by omega), hfr]
          refine lv_iload_n hx hb dX1_free_30 rfl (lv_at hl 1 rfl) ?_
          refine lv_goto (tgt := 35) hx hb dX1_free_31 (by decide) ?_
          exact W.iret (v := (nI v)) hx hb hr (fun t ht hW => ⟨by rw [hfi], ht⟩) (fun q h => by cases h) dX1_free_35
      · have hlt := ol_nle (by omega) (by omega) c_6
        refine lv_aload_n hx hb dX1_free_9 rfl (lv_at hl 0 rfl) ?_
        refine lv_iload_n hx hb dX1_free_10 rfl (lv_at hl 1 rfl) ?_
        obtain ⟨r1, hfd1, hc1⟩ := ol_fd_ex ok (nI v)
        refine ow_callR (r := r1) (W.runV (As := [.int (nI v)]) (rest := []) ⟨hx, hb, hml, hown, hts⟩ (c_M_find l dC dI h a b cA cB th N L f as (nI v) r1 ok.2.1 hf hfd1) (cwV 1 hts gX1_free_X1_find rfl rfl rfl (by decide +kernel) ⟨Nat.le_of_ble_eq_true rfl, Nat.le_of_ble_eq_true rfl⟩) (ow_PreR hK hP (ci := 1) (q0 := 0) rfl rfl) rfl rfl hl.1 rfl (lv_room (Nat.le_of_ble_eq_true rfl)) dX1_free_11 ⟨Nat.le_of_ble_eq_true rfl, Nat.le_of_ble_eq_true rfl⟩) ?_
        refine lv_if_lt (tgt := 23) hx hb dX1_free_14 (by decide) (fun c_14 => ?_) (fun c_14 => ?_)
        · have hno : ol_no N L (nI v) := by
            rcases hc1 with ⟨p1, hp1, e1⟩ | ⟨h1, e1⟩
            · exact absurd (e1 ▸ c_14) (nI_pos (by have := hp1.1; have := ok.2.1; omega))
            · exact h1
          have hd : (v < 1000 ∧ ol_no N L (nI v)) ∨ v = 1000 := Or.inl ⟨hlt, hno⟩
          refine lv_iload_n hx hb dX1_free_23 rfl (lv_at hl 1 rfl) ?_
          refine lv_sipush (v := nI 1000) hx hb dX1_free_24 (by decide +kernel) ?_
          refine lv_icmp_ge (tgt := 34) hx hb dX1_free_27 (by decide) (fun c_27 => ?_) (fun c_27 => ?_)
          · have hv2 := ol_le (by omega) (by omega) c_27
            have hfi : ol_fi N L = -1 := ol_fi_ge (by rw [ol_fr_of (k := 1000) ⟨by omega, fun u hu => hus u (by omega), fun h9 => absurd h9 (by omega)⟩]; omega)
            refine lv_iconst (v := (-1)) hx hb dX1_free_34 (by decide +kernel) ?_
            exact W.iret (v := ((-1))) hx hb hr (fun t ht hW => ⟨by rw [hfi], ht⟩) (fun q h => by cases h) dX1_free_35
          · have hv2 := ol_nle (by omega) (by omega) c_27
            have hfr : ol_fr N L = v := by
              rcases hd with ⟨_, hno⟩ | h9
              · exact ol_fr_of ⟨by omega, hus, fun _ p hp e => hno p hp (by rw [e])⟩
              · omega
            have hfi : ol_fi N L = nI v := by rw [ol_fi_lt (by omega), hfr]
            refine lv_iload_n hx hb dX1_free_30 rfl (lv_at hl 1 rfl) ?_
            refine lv_goto (tgt := 35) hx hb dX1_free_31 (by decide) ?_
            exact W.iret (v := (nI v)) hx hb hr (fun t ht hW => ⟨by rw [hfi], ht⟩) (fun q h => by cases h) dX1_free_35
        · have hus1 : ∃ p, p < N ∧ L p = v := by
            rcases hc1 with ⟨p1, hp1, e1⟩ | ⟨h1, e1⟩
            · exact ⟨p1, hp1.1, (ol_eq (by omega) (by have := ok.2.2.2.1 p1 hp1.1; omega) hp1.2).symm⟩
            · exact absurd (by rw [e1]; decide) c_14
          refine lv_iinc (v := nI (v + 1)) (lv' := [(1, .int (nI (v + 1))), (0, .ref h)]) hx hb dX1_free_17 hl (k := 1) rfl (nI_1 v) (by decide) rfl (fun ls hl => ?_)
          refine lv_goto (tgt := 2) hx hb dX1_free_20 (by decide) ?_
          exact ih (v + 1) (by omega) (by omega) (fun u hu => (Nat.lt_or_ge u v).elim (fun h9 => hus u h9) (fun h9 => by rw [show u = v by omega]; exact hus1)) ls (lv_sub hl [1, 0] rfl)
  exact loop 1001 0 (by omega) (by omega) (fun u hu => absurd hu (Nat.not_lt_zero u)) ls (lv_sub hl [1, 0] rfl)
set_option maxHeartbeats 4000000 in
set_option maxRecDepth 100000 in
/-- put(v, q): one more, v at place q -/
theorem c_M_put (l : Launch) (dC : Nat → ClassId) (dI : Nat → Nat → Nat) (h a b : Nat) (cA cB : ClassId) (th : Int32) (N : Nat) (L : Nat → Nat) (f as : Nat → Int32) (v q sz : Nat) (hf : ol_f N L f) (hN : N < 1000) (hq : q ≤ N) : Met l yX1_put wsX1_put ({ frames := 0, cells := 0, slots := 0, locals := 0 }) (ow_Pc (dC, dI) vwCl [(cA, .int), (cB, .int)] (wM h a b cA cB (th, nI N, f, as)) sz [.ref h, .int (nI v), .int (nI q)]) (va_Qv (fun u : Int32 × Int32 × (Nat → Int32) × (Nat → Int32) => u.1 = th ∧ u.2.1 = nI (N + 1) ∧ ol_f (N + 1) (ol_ins L q v) u.2.2.1 ∧ u.2.2.2 = as) (ow_B (dC, dI) vwCl (wM h a b cA cB) (va_A (wM h a b cA cB (th, nI N, f, as)) sz)) (va_A (wM h a b cA cB (th, nI N, f, as)) sz)) 0 0 (va_A (wM h a b cA cB (th, nI N, f, as)) sz) := by
  refine Met.ofW (cc := cX1_put) (maxL := 4) (ret := none) (by decide) rfl ?_
  intro pg ev s m args below meth cd s₁ B hml hv
  obtain ⟨rfl, hsz, hP, hK, hD0⟩ := hv
  have hx := B.exec
  have hb := B.bytes
  have hr := B.returns
  have hts := atoms_spec (ws := wsX1_put) B.pre
  have hown : s.vm.findClass RX1 = some m.cls := findClass_of_methodNamed B.named
  have hlocks := B.notSynchronized
  subst hsz
  have hD := hD0.self (sz := s.heap.size)
  generalize hAe : va_A (wM h a b cA cB (th, nI N, f, as)) s.heap.size = A at hD ⊢
  have hA : ∀ q : Nat, s.heap.size ≤ q → A q := fun q h => by rw [← hAe]; exact Or.inr h
  have hS : va_S A s.heap s.heap [] := va_S.rf
  have hD : va_D A [(h, .inr (1, [.int th, .ref a, .int (nI N), .ref b])), (a, .inl (cA, 1000, .inl f)), (b, .inl (cB, 1000, .inl as))] := hD
  have hP : va_P (dC, dI) vwCl [(h, .inr (1, [.int th, .ref a, .int (nI N), .ref b])), (a, .inl (cA, 1000, .inl f)), (b, .inl (cB, 1000, .inl as))] s.heap := hP
  have hl := lv_entry ([.ref h, .int (nI v), .int (nI q)]) (n := 4) (Nat.le_of_ble_eq_true rfl)
  rw [lg_entry_eq]
  generalize (lg_sl ([.ref h, .int (nI v), .int (nI q)]) ++ List.replicate (4 - (lg_sl ([.ref h, .int (nI v), .int (nI q)])).length) Slot.unset).toArray = ls at hl ⊢
  have hl : lv_has ls 4 [(0, .ref h), (1, .int (nI v)), (2, .int (nI q))] := hl
  refine lv_aload_n hx hb dX1_put_0 rfl (lv_at hl 0 rfl) ?_
  refine va_get (D := (dC, dI)) (ci := 1) (v := .int (nI N)) (C := RX1) (T := TX1) (N := 4) hx hb hts (by decide +kernel) hown hK hP 0 rfl rfl 2 (by decide) (hts (.fieldLink RX1 13 "OrderLineModel" "many" "I") (by decide +kernel)) (fun _ h9 => h9) rfl dX1_put_1 ?_
  refine lv_istore_n (lv' := [(3, .int (nI N)), (0, .ref h), (1, .int (nI v)), (2, .int (nI q))]) hx hb dX1_put_4 rfl hl (by decide) rfl (fun ls hl => ?_)
  have loop : ∀ (k : Nat) (i : Nat) (f1 : Nat → Int32), i < q + k → q ≤ i → i ≤ N → (∀ p, i < p → p ≤ N → f1 p = f (p - 1)) → (∀ p, p ≤ i → p < N → f1 p = f p) → ∀ (H : Heap) (locs : List Loc), va_P (dC, dI) vwCl [(h, .inr (1, [.int th, .ref a, .int (nI N), .ref b])), (a, .inl (cA, 1000, .inl f1)), (b, .inl (cB, 1000, .inl as))] H → va_D A [(h, .inr (1, [.int th, .ref a, .int (nI N), .ref b])), (a, .inl (cA, 1000, .inl f1)), (b, .inl (cB, 1000, .inl as))] → va_S A s.heap H locs → ∀ ls : Array Slot, lv_has ls 4 [(0, .ref h), (1, .int (nI v)), (2, .int (nI q)), (3, .int (nI i))] → W pg l ev (headSpec wsX1_put ({ frames := 0, cells := 0, slots := 0, locals := 0 })).room s m ([.ref h, .int (nI v), .int (nI q)] : List Value).toArray below meth cd H locs 0 0 (MQ below (va_Qv (fun u : Int32 × Int32 × (Nat → Int32) × (Nat → Int32) => u.1 = th ∧ u.2.1 = nI (N + 1) ∧ ol_f (N + 1) (ol_ins L q v) u.2.2.1 ∧ u.2.2.2 = as) (ow_B (dC, dI) vwCl (wM h a b cA cB) A) A) ([.ref h, .int (nI v), .int (nI q)] : List Value).toArray s 0 0 A) (F0 m 5 ls []) := by
    intro k
    induction k with
    | zero =>
      intro i f1 h1 h2 h3
      exact absurd h1 (by omega)
    | succ k ih =>
      intro i f1 hk hi hiN h1 h2 H locs hP hD hS ls hl
      refine lv_iload_n hx hb dX1_put_5 rfl (lv_at hl 3 rfl) ?_
      refine lv_iload_n hx hb dX1_put_6 rfl (lv_at hl 2 rfl) ?_
      refine lv_icmp_le (tgt := 30) hx hb dX1_put_7 (by decide) (fun c_7 => ?_) (fun c_7 => ?_)
      · have hc := ol_le (by omega) (by omega) c_7
        refine lv_aload_n hx hb dX1_put_30 rfl (lv_at hl 0 rfl) ?_
        refine va_get (D := (dC, dI)) (ci := 1) (v := .ref a) (C := RX1) (T := TX1) (N := 4) hx hb hts (by decide +kernel) hown hK hP 0 rfl rfl 1 (by decide) (hts (.fieldLink RX1 7 "OrderLineModel" "line" "[I") (by decide +kernel)) (fun _ h9 => h9) rfl dX1_put_31 ?_
        refine lv_iload_n hx hb dX1_put_34 rfl (lv_at hl 2 rfl) ?_
        refine lv_iload_n hx hb dX1_put_35 rfl (lv_at hl 1 rfl) ?_
        refine ow_iast (k := q) hx hb hK hP hD hS 1 0 rfl rfl (by omega) (by decide) dX1_put_36 (fun H locs hP hD hS => ?_)
        have hP : va_P (dC, dI) vwCl [(h, .inr (1, [.int th, .ref a, .int (nI N), .ref b])), (a, .inl (cA, 1000, .inl (upd f1 q ((nI v))))), (b, .inl (cB, 1000, .inl as))] H := hP
        have hD : va_D A [(h, .inr (1, [.int th, .ref a, .int (nI N), .ref b])), (a, .inl (cA, 1000, .inl (upd f1 q ((nI v))))), (b, .inl (cB, 1000, .inl as))] := hD
        refine lv_aload_n hx hb dX1_put_37 rfl (lv_at hl 0 rfl) ?_
        refine lv_dup hx hb dX1_put_38 rfl ?_
        refine va_get (D := (dC, dI)) (ci := 1) (v := .int (nI N)) (C := RX1) (T := TX1) (N := 4) hx hb hts (by decide +kernel) hown hK hP 0 rfl rfl 2 (by decide) (hts (.fieldLink RX1 13 "OrderLineModel" "many" "I") (by decide +kernel)) (fun _ h9 => h9) rfl dX1_put_39 ?_
        refine lv_iconst (v := 1) hx hb dX1_put_42 (by decide +kernel) ?_
        refine lv_iadd hx hb dX1_put_43 ?_
        refine ow_top (z := nI (N + 1)) (nI_1 N) ?_
        refine va_put (D := (dC, dI)) (ci := 1) (v := .int (nI (N + 1))) (ty := (.int)) (C := RX1) (T := TX1) (N := 4) hx hb hts (by decide +kernel) tyX1 tyX1_ok nmX1 hown hK hP hD hS 0 rfl rfl 2 (by decide) (hts (.fieldLink RX1 13 "OrderLineModel" "many" "I") (by decide +kernel)) (fun _ h9 => h9) rfl (by decide +kernel) rfl rfl (Nat.le_of_ble_eq_true rfl) dX1_put_44 (fun H locs hP hD hS => ?_)
        have hP : va_P (dC, dI) vwCl [(h, .inr (1, [.int th, .ref a, .int (nI (N + 1)), .ref b])), (a, .inl (cA, 1000, .inl (upd f1 q ((nI v))))), (b, .inl (cB, 1000, .inl as))] H := hP
        have hD : va_D A [(h, .inr (1, [.int th, .ref a, .int (nI (N + 1)), .ref b])), (a, .inl (cA, 1000, .inl (upd f1 q ((nI v))))), (b, .inl (cB, 1000, .inl as))] := hD
        have hpost : ol_f (N + 1) (ol_ins L q v) (upd f1 q (nI v)) := by
          intro p hp
          rcases Nat.lt_trichotomy p q with h9 | h9 | h9
          · rw [ol_ins_lo h9]; exact (pk_un (by omega)).trans ((h2 p (by omega) (by omega)).trans (hf p (by omega)))
          · subst h9; rw [ol_ins_at]; exact pk_us
          · rw [ol_ins_hi h9]; exact (pk_un (by omega)).trans ((h1 p (by omega) (by omega)).trans (hf (p - 1) (by omega)))
        exact W.vret hx hb hr (fun t ht hW => ⟨⟨(th, nI (N + 1), upd f1 q (nI v), as), rfl, ⟨rfl, rfl, hpost, rfl⟩, by rw [ht]; exact hP, hD⟩, hS.F ht⟩) hS.2.2 dX1_put_47
      · have hc := ol_nle (by omega) (by omega) c_7
        refine lv_aload_n hx hb dX1_put_10 rfl (lv_at hl 0 rfl) ?_
        refine va_get (D := (dC, dI)) (ci := 1) (v := .ref a) (C := RX1) (T := TX1) (N := 4) hx hb hts (by decide +kernel) hown hK hP 0 rfl rfl 1 (by decide) (hts (.fieldLink RX1 7 "OrderLineModel" "line" "[I") (by decide +kernel)) (fun _ h9 => h9) rfl dX1_put_11 ?_
        refine lv_iload_n hx hb dX1_put_14 rfl (lv_at hl 3 rfl) ?_
        refine lv_aload_n hx hb dX1_put_15 rfl (lv_at hl 0 rfl) ?_
        refine va_get (D := (dC, dI)) (ci := 1) (v := .ref a) (C := RX1) (T := TX1) (N := 4) hx hb hts (by decide +kernel) hown hK hP 0 rfl rfl 1 (by decide) (hts (.fieldLink RX1 7 "OrderLineModel" "line" "[I") (by decide +kernel)) (fun _ h9 => h9) rfl dX1_put_16 ?_
        refine lv_iload_n hx hb dX1_put_19 rfl (lv_at hl 3 rfl) ?_
        refine lv_iconst (v := 1) hx hb dX1_put_20 (by decide +kernel) ?_
        refine lv_isub hx hb dX1_put_21 ?_
        refine ow_top (z := nI (i - 1)) (nI_m1 (by omega)) ?_
        refine ow_iald (k := i - 1) (v := f (i - 1)) hx hb hK hP 1 0 rfl rfl (by omega) (by decide) (h2 (i - 1) (by omega) (by omega)) dX1_put_22 ?_
        refine ow_iast (k := i) hx hb hK hP hD hS 1 0 rfl rfl (by omega) (by decide) dX1_put_23 (fun H locs hP hD hS => ?_)
        have hP : va_P (dC, dI) vwCl [(h, .inr (1, [.int th, .ref a, .int (nI N), .ref b])), (a, .inl (cA, 1000, .inl (upd f1 i ((f (i - 1)))))), (b, .inl (cB, 1000, .inl as))] H := hP
        have hD : va_D A [(h, .inr (1, [.int th, .ref a, .int (nI N), .ref b])), (a, .inl (cA, 1000, .inl (upd f1 i ((f (i - 1)))))), (b, .inl (cB, 1000, .inl as))] := hD
        refine lv_iinc (v := nI (i - 1)) (lv' := [(3, .int (nI (i - 1))), (0, .ref h), (1, .int (nI v)), (2, .int (nI q))]) hx hb dX1_put_24 hl (k := 3) rfl (sb_m1 (by omega)) (by decide) rfl (fun ls hl => ?_)
        refine lv_goto (tgt := 5) hx hb dX1_put_27 (by decide) ?_
        exact ih (i - 1) (upd f1 i (f (i - 1))) (by omega) (by omega) (by omega) (fun p c1 c2 => (Decidable.em (p = i)).elim (fun e9 => by subst e9; exact pk_us) (fun e9 => (pk_un e9).trans (h1 p (by omega) c2))) (fun p c1 c2 => (pk_un (by omega)).trans (h2 p (by omega) c2)) H locs hP hD hS ls (lv_sub hl [1, 2, 3, 0] rfl)
  exact loop (N + 1) N f (by omega) (by omega) (by omega) (fun p c1 c2 => by omega) (fun p c1 c2 => rfl) _ _ hP hD hS ls (lv_sub hl [1, 2, 3, 0] rfl)
set_option maxHeartbeats 4000000 in
set_option maxRecDepth 100000 in
/-- drop(q): the one at place q goes -/
theorem c_M_drop (l : Launch) (dC : Nat → ClassId) (dI : Nat → Nat → Nat) (h a b : Nat) (cA cB : ClassId) (th : Int32) (N : Nat) (L : Nat → Nat) (f as : Nat → Int32) (q sz : Nat) (hf : ol_f N L f) (hN : N ≤ 1000) (hq : q < N) : Met l yX1_drop wsX1_drop ({ frames := 0, cells := 0, slots := 0, locals := 0 }) (ow_Pc (dC, dI) vwCl [(cA, .int), (cB, .int)] (wM h a b cA cB (th, nI N, f, as)) sz [.ref h, .int (nI q)]) (va_Qv (fun u : Int32 × Int32 × (Nat → Int32) × (Nat → Int32) => u.1 = th ∧ u.2.1 = nI (N - 1) ∧ ol_f (N - 1) (ol_rem L q 1) u.2.2.1 ∧ u.2.2.2 = as) (ow_B (dC, dI) vwCl (wM h a b cA cB) (va_A (wM h a b cA cB (th, nI N, f, as)) sz)) (va_A (wM h a b cA cB (th, nI N, f, as)) sz)) 0 0 (va_A (wM h a b cA cB (th, nI N, f, as)) sz) := by
  refine Met.ofW (cc := cX1_drop) (maxL := 3) (ret := none) (by decide) rfl ?_
  intro pg ev s m args below meth cd s₁ B hml hv
  obtain ⟨rfl, hsz, hP, hK, hD0⟩ := hv
  have hx := B.exec
  have hb := B.bytes
  have hr := B.returns
  have hts := atoms_spec (ws := wsX1_drop) B.pre
  have hown : s.vm.findClass RX1 = some m.cls := findClass_of_methodNamed B.named
  have hlocks := B.notSynchronized
  subst hsz
  have hD := hD0.self (sz := s.heap.size)
  generalize hAe : va_A (wM h a b cA cB (th, nI N, f, as)) s.heap.size = A at hD ⊢
  have hA : ∀ q : Nat, s.heap.size ≤ q → A q := fun q h => by rw [← hAe]; exact Or.inr h
  have hS : va_S A s.heap s.heap [] := va_S.rf
  have hD : va_D A [(h, .inr (1, [.int th, .ref a, .int (nI N), .ref b])), (a, .inl (cA, 1000, .inl f)), (b, .inl (cB, 1000, .inl as))] := hD
  have hP : va_P (dC, dI) vwCl [(h, .inr (1, [.int th, .ref a, .int (nI N), .ref b])), (a, .inl (cA, 1000, .inl f)), (b, .inl (cB, 1000, .inl as))] s.heap := hP
  have hl := lv_entry ([.ref h, .int (nI q)]) (n := 3) (Nat.le_of_ble_eq_true rfl)
  rw [lg_entry_eq]
  generalize (lg_sl ([.ref h, .int (nI q)]) ++ List.replicate (3 - (lg_sl ([.ref h, .int (nI q)])).length) Slot.unset).toArray = ls at hl ⊢
  have hl : lv_has ls 3 [(0, .ref h), (1, .int (nI q))] := hl
  refine lv_aload_n hx hb dX1_drop_0 rfl (lv_at hl 0 rfl) ?_
  refine lv_dup hx hb dX1_drop_1 rfl ?_
  refine va_get (D := (dC, dI)) (ci := 1) (v := .int (nI N)) (C := RX1) (T := TX1) (N := 4) hx hb hts (by decide +kernel) hown hK hP 0 rfl rfl 2 (by decide) (hts (.fieldLink RX1 13 "OrderLineModel" "many" "I") (by decide +kernel)) (fun _ h9 => h9) rfl dX1_drop_2 ?_
  refine lv_iconst (v := 1) hx hb dX1_drop_5 (by decide +kernel) ?_
  refine lv_isub hx hb dX1_drop_6 ?_
  refine ow_top (z := nI (N - 1)) (nI_m1 (by omega)) ?_
  refine va_put (D := (dC, dI)) (ci := 1) (v := .int (nI (N - 1))) (ty := (.int)) (C := RX1) (T := TX1) (N := 4) hx hb hts (by decide +kernel) tyX1 tyX1_ok nmX1 hown hK hP hD hS 0 rfl rfl 2 (by decide) (hts (.fieldLink RX1 13 "OrderLineModel" "many" "I") (by decide +kernel)) (fun _ h9 => h9) rfl (by decide +kernel) rfl rfl (Nat.le_of_ble_eq_true rfl) dX1_drop_7 (fun H locs hP hD hS => ?_)
  have hP : va_P (dC, dI) vwCl [(h, .inr (1, [.int th, .ref a, .int (nI (N - 1)), .ref b])), (a, .inl (cA, 1000, .inl f)), (b, .inl (cB, 1000, .inl as))] H := hP
  have hD : va_D A [(h, .inr (1, [.int th, .ref a, .int (nI (N - 1)), .ref b])), (a, .inl (cA, 1000, .inl f)), (b, .inl (cB, 1000, .inl as))] := hD
  refine lv_iload_n hx hb dX1_drop_10 rfl (lv_at hl 1 rfl) ?_
  refine lv_istore_n (lv' := [(2, .int (nI q)), (0, .ref h), (1, .int (nI q))]) hx hb dX1_drop_11 rfl hl (by decide) rfl (fun ls hl => ?_)
  have loop : ∀ (k : Nat) (i : Nat) (f1 : Nat → Int32), N - 1 < i + k → q ≤ i → i ≤ N - 1 → (∀ p, p < i → f1 p = nI (ol_rem L q 1 p)) → (∀ p, i ≤ p → p < N → f1 p = nI (L p)) → ∀ (H : Heap) (locs : List Loc), va_P (dC, dI) vwCl [(h, .inr (1, [.int th, .ref a, .int (nI (N - 1)), .ref b])), (a, .inl (cA, 1000, .inl f1)), (b, .inl (cB, 1000, .inl as))] H → va_D A [(h, .inr (1, [.int th, .ref a, .int (nI (N - 1)), .ref b])), (a, .inl (cA, 1000, .inl f1)), (b, .inl (cB, 1000, .inl as))] → va_S A s.heap H locs → ∀ ls : Array Slot, lv_has ls 3 [(0, .ref h), (1, .int (nI q)), (2, .int (nI i))] → W pg l ev (headSpec wsX1_drop ({ frames := 0, cells := 0, slots := 0, locals := 0 })).room s m ([.ref h, .int (nI q)] : List Value).toArray below meth cd H locs 0 0 (MQ below (va_Qv (fun u : Int32 × Int32 × (Nat → Int32) × (Nat → Int32) => u.1 = th ∧ u.2.1 = nI (N - 1) ∧ ol_f (N - 1) (ol_rem L q 1) u.2.2.1 ∧ u.2.2.2 = as) (ow_B (dC, dI) vwCl (wM h a b cA cB) A) A) ([.ref h, .int (nI q)] : List Value).toArray s 0 0 A) (F0 m 12 ls []) := by
    intro k
    induction k with
    | zero =>
      intro i f1 h1 h2 h3
      exact absurd h1 (by omega)
    | succ k ih =>
      intro i f1 hk hi hiN h1 h2 H locs hP hD hS ls hl
      refine lv_iload_n hx hb dX1_drop_12 rfl (lv_at hl 2 rfl) ?_
      refine lv_aload_n hx hb dX1_drop_13 rfl (lv_at hl 0 rfl) ?_
      refine va_get (D := (dC, dI)) (ci := 1) (v := .int (nI (N - 1))) (C := RX1) (T := TX1) (N := 4) hx hb hts (by decide +kernel) hown hK hP 0 rfl rfl 2 (by decide) (hts (.fieldLink RX1 13 "OrderLineModel" "many" "I") (by decide +kernel)) (fun _ h9 => h9) rfl dX1_drop_14 ?_
      refine lv_icmp_ge (tgt := 40) hx hb dX1_drop_17 (by decide) (fun c_17 => ?_) (fun c_17 => ?_)
      · have hc := ol_le (by omega) (by omega) c_17
        exact W.vret hx hb hr (fun t ht hW => ⟨⟨(th, nI (N - 1), f1, as), rfl, ⟨rfl, rfl, fun p hp => h1 p (by omega), rfl⟩, by rw [ht]; exact hP, hD⟩, hS.F ht⟩) hS.2.2 dX1_drop_40
      · have hc := ol_nle (by omega) (by omega) c_17
        refine lv_aload_n hx hb dX1_drop_20 rfl (lv_at hl 0 rfl) ?_
        refine va_get (D := (dC, dI)) (ci := 1) (v := .ref a) (C := RX1) (T := TX1) (N := 4) hx hb hts (by decide +kernel) hown hK hP 0 rfl rfl 1 (by decide) (hts (.fieldLink RX1 7 "OrderLineModel" "line" "[I") (by decide +kernel)) (fun _ h9 => h9) rfl dX1_drop_21 ?_
        refine lv_iload_n hx hb dX1_drop_24 rfl (lv_at hl 2 rfl) ?_
        refine lv_aload_n hx hb dX1_drop_25 rfl (lv_at hl 0 rfl) ?_
        refine va_get (D := (dC, dI)) (ci := 1) (v := .ref a) (C := RX1) (T := TX1) (N := 4) hx hb hts (by decide +kernel) hown hK hP 0 rfl rfl 1 (by decide) (hts (.fieldLink RX1 7 "OrderLineModel" "line" "[I") (by decide +kernel)) (fun _ h9 => h9) rfl dX1_drop_26 ?_
        refine lv_iload_n hx hb dX1_drop_29 rfl (lv_at hl 2 rfl) ?_
        refine lv_iconst (v := 1) hx hb dX1_drop_30 (by decide +kernel) ?_
        refine lv_iadd hx hb dX1_drop_31 ?_
        refine ow_top (z := nI (i + 1)) (nI_1 i) ?_
        refine ow_iald (k := i + 1) (v := nI (L (i + 1))) hx hb hK hP 1 0 rfl rfl (by omega) (by decide) (h2 (i + 1) (by omega) (by omega)) dX1_drop_32 ?_
        refine ow_iast (k := i) hx hb hK hP hD hS 1 0 rfl rfl (by omega) (by decide) dX1_drop_33 (fun H locs hP hD hS => ?_)
        have hP : va_P (dC, dI) vwCl [(h, .inr (1, [.int th, .ref a, .int (nI (N - 1)), .ref b])), (a, .inl (cA, 1000, .inl (upd f1 i ((nI (L (i + 1))))))), (b, .inl (cB, 1000, .inl as))] H := hP
        have hD : va_D A [(h, .inr (1, [.int th, .ref a, .int (nI (N - 1)), .ref b])), (a, .inl (cA, 1000, .inl (upd f1 i ((nI (L (i + 1))))))), (b, .inl (cB, 1000, .inl as))] := hD
        refine lv_iinc (v := nI (i + 1)) (lv' := [(2, .int (nI (i + 1))), (0, .ref h), (1, .int (nI q))]) hx hb dX1_drop_34 hl (k := 2) rfl (nI_1 i) (by decide) rfl (fun ls hl => ?_)
        refine lv_goto (tgt := 12) hx hb dX1_drop_37 (by decide) ?_
        exact ih (i + 1) (upd f1 i (nI (L (i + 1)))) (by omega) (by omega) (by omega) (fun p c1 => (Decidable.em (p = i)).elim (fun e9 => by subst e9; rw [ol_rem_hi (by omega)]; exact pk_us) (fun e9 => (pk_un e9).trans (h1 p (by omega)))) (fun p c1 c2 => (pk_un (by omega)).trans (h2 p (by omega) c2)) H locs hP hD hS ls (lv_sub hl [1, 2, 0] rfl)
  exact loop (N + 1) q f (by omega) (by omega) (by omega) (fun p c1 => by rw [ol_rem_lo c1]; exact hf p (by omega)) (fun p c1 c2 => hf p c2) _ _ hP hD hS ls (lv_sub hl [1, 2, 0] rfl)
set_option maxHeartbeats 4000000 in
set_option maxRecDepth 100000 in
/-- lacks(x, y, z): 1 if one of them isn't there, and the field says so -/
theorem c_M_lacks (l : Launch) (dC : Nat → ClassId) (dI : Nat → Nat → Nat) (h a b : Nat) (cA cB : ClassId) (th : Int32) (N : Nat) (L : Nat → Nat) (f as : Nat → Int32) (x y z tt : Int32) (sz : Nat) (ok : ol_ok N L) (hf : ol_f N L f) (hlc : ol_lc N L x y z tt) : Met l yX1_lacks wsX1_lacks ({ frames := 1, cells := 0, slots := 0, locals := 22 }) (ow_Pc (dC, dI) vwCl [(cA, .int), (cB, .int)] (wM h a b cA cB (th, nI N, f, as)) sz [.ref h, .int x, .int y, .int z]) (va_Qi (fun (r : Int32) (u : Int32 × Int32 × (Nat → Int32) × (Nat → Int32)) => r = tt ∧ u = (tt, nI N, f, as)) (ow_B (dC, dI) vwCl (wM h a b cA cB) (va_A (wM h a b cA cB (th, nI N, f, as)) sz)) (va_A (wM h a b cA cB (th, nI N, f, as)) sz)) 0 0 (va_A (wM h a b cA cB (th, nI N, f, as)) sz) := by
  refine Met.ofW (cc := cX1_lacks) (maxL := 4) (ret := (some .boolean)) (by decide) rfl ?_
  intro pg ev s m args below meth cd s₁ B hml hv
  obtain ⟨rfl, hsz, hP, hK, hD0⟩ := hv
  have hx := B.exec
  have hb := B.bytes
  have hr := B.returns
  have hts := atoms_spec (ws := wsX1_lacks) B.pre
  have hown : s.vm.findClass RX1 = some m.cls := findClass_of_methodNamed B.named
  have hlocks := B.notSynchronized
  subst hsz
  have hD := hD0.self (sz := s.heap.size)
  generalize hAe : va_A (wM h a b cA cB (th, nI N, f, as)) s.heap.size = A at hD ⊢
  have hA : ∀ q : Nat, s.heap.size ≤ q → A q := fun q h => by rw [← hAe]; exact Or.inr h
  have hS : va_S A s.heap s.heap [] := va_S.rf
  have hD : va_D A [(h, .inr (1, [.int th, .ref a, .int (nI N), .ref b])), (a, .inl (cA, 1000, .inl f)), (b, .inl (cB, 1000, .inl as))] := hD
  have hP : va_P (dC, dI) vwCl [(h, .inr (1, [.int th, .ref a, .int (nI N), .ref b])), (a, .inl (cA, 1000, .inl f)), (b, .inl (cB, 1000, .inl as))] s.heap := hP
  have hl := lv_entry ([.ref h, .int x, .int y, .int z]) (n := 4) (Nat.le_of_ble_eq_true rfl)
  rw [lg_entry_eq]
  generalize (lg_sl ([.ref h, .int x, .int y, .int z]) ++ List.replicate (4 - (lg_sl ([.ref h, .int x, .int y, .int z])).length) Slot.unset).toArray = ls at hl ⊢
  have hl : lv_has ls 4 [(0, .ref h), (1, .int x), (2, .int y), (3, .int z)] := hl
  refine lv_aload_n hx hb dX1_lacks_0 rfl (lv_at hl 0 rfl) ?_
  refine lv_aload_n hx hb dX1_lacks_1 rfl (lv_at hl 0 rfl) ?_
  refine lv_iload_n hx hb dX1_lacks_2 rfl (lv_at hl 1 rfl) ?_
  obtain ⟨r1, hfd1, hc1⟩ := ol_fd_ex ok x
  refine ow_callR (r := r1) (W.runV (As := [.int x]) (rest := [.ref h]) ⟨hx, hb, hml, hown, hts⟩ (c_M_find l dC dI h a b cA cB th N L f as x r1 ok.2.1 hf hfd1) (cwV 1 hts gX1_lacks_X1_find rfl rfl rfl (by decide +kernel) ⟨Nat.le_of_ble_eq_true rfl, Nat.le_of_ble_eq_true rfl⟩) (ow_PreR hK hP (ci := 1) (q0 := 0) rfl rfl) rfl rfl hl.1 rfl (lv_room (Nat.le_of_ble_eq_true rfl)) dX1_lacks_3 ⟨Nat.le_of_ble_eq_true rfl, Nat.le_of_ble_eq_true rfl⟩) ?_
  refine lv_if_lt (tgt := 29) hx hb dX1_lacks_6 (by decide) (fun c_6 => ?_) (fun c_6 => ?_)
  · have htt : tt = 1 := hlc.2 (by
      rcases hc1 with ⟨p9, hp9, e9⟩ | ⟨h9, e9⟩
      · exact absurd (e9 ▸ c_6) (nI_pos (by have := hp9.1; have := ok.2.1; omega))
      · exact Or.inl h9)
    refine lv_iconst (v := 1) hx hb dX1_lacks_29 (by decide +kernel) ?_
    refine va_put (D := (dC, dI)) (ci := 1) (v := .int 1) (ty := (.int)) (C := RX1) (T := TX1) (N := 4) hx hb hts (by decide +kernel) tyX1 tyX1_ok nmX1 hown hK hP hD hS 0 rfl rfl 0 (by decide) (hts (.fieldLink RX1 20 "OrderLineModel" "thrown" "I") (by decide +kernel)) (fun _ h9 => h9) rfl (by decide +kernel) rfl rfl (Nat.le_of_ble_eq_true rfl) dX1_lacks_30 (fun H locs hP hD hS => ?_)
    have hP : va_P (dC, dI) vwCl [(h, .inr (1, [.int 1, .ref a, .int (nI N), .ref b])), (a, .inl (cA, 1000, .inl f)), (b, .inl (cB, 1000, .inl as))] H := hP
    have hD : va_D A [(h, .inr (1, [.int 1, .ref a, .int (nI N), .ref b])), (a, .inl (cA, 1000, .inl f)), (b, .inl (cB, 1000, .inl as))] := hD
    refine lv_aload_n hx hb dX1_lacks_33 rfl (lv_at hl 0 rfl) ?_
    refine va_get (D := (dC, dI)) (ci := 1) (v := .int 1) (C := RX1) (T := TX1) (N := 4) hx hb hts (by decide +kernel) hown hK hP 0 rfl rfl 0 (by decide) (hts (.fieldLink RX1 20 "OrderLineModel" "thrown" "I") (by decide +kernel)) (fun _ h9 => h9) rfl dX1_lacks_34 ?_
    refine lv_if_le (tgt := 44) hx hb dX1_lacks_37 (by decide) (fun c_37 => ((by decide : ¬ (1 : Int32) ≤ 0) c_37).elim) (fun c_37 => ?_)
    refine lv_iconst (v := 1) hx hb dX1_lacks_40 (by decide +kernel) ?_
    refine lv_goto (tgt := 45) hx hb dX1_lacks_41 (by decide) ?_
    exact W.zret (v := 1) hx hb hr narrow_b1 (fun t ht hW => ⟨⟨1, (1, nI N, f, as), rfl, ⟨htt.symm, by rw [htt]⟩, by rw [ht]; exact hP, hD⟩, hS.F ht⟩) hS.2.2 dX1_lacks_45
  · have ha1 : ∃ p, ol_at N L x p := by
      rcases hc1 with ⟨p9, hp9, e9⟩ | ⟨h9, e9⟩
      · exact ⟨p9, hp9⟩
      · exact absurd (by rw [e9]; decide) c_6
    refine lv_aload_n hx hb dX1_lacks_9 rfl (lv_at hl 0 rfl) ?_
    refine lv_iload_n hx hb dX1_lacks_10 rfl (lv_at hl 2 rfl) ?_
    obtain ⟨r2, hfd2, hc2⟩ := ol_fd_ex ok y
    refine ow_callR (r := r2) (W.runV (As := [.int y]) (rest := [.ref h]) ⟨hx, hb, hml, hown, hts⟩ (c_M_find l dC dI h a b cA cB th N L f as y r2 ok.2.1 hf hfd2) (cwV 1 hts gX1_lacks_X1_find rfl rfl rfl (by decide +kernel) ⟨Nat.le_of_ble_eq_true rfl, Nat.le_of_ble_eq_true rfl⟩) (ow_PreR hK hP (ci := 1) (q0 := 0) rfl rfl) rfl rfl hl.1 rfl (lv_room (Nat.le_of_ble_eq_true rfl)) dX1_lacks_11 ⟨Nat.le_of_ble_eq_true rfl, Nat.le_of_ble_eq_true rfl⟩) ?_
    refine lv_if_lt (tgt := 29) hx hb dX1_lacks_14 (by decide) (fun c_14 => ?_) (fun c_14 => ?_)
    · have htt : tt = 1 := hlc.2 (by
        rcases hc2 with ⟨p9, hp9, e9⟩ | ⟨h9, e9⟩
        · exact absurd (e9 ▸ c_14) (nI_pos (by have := hp9.1; have := ok.2.1; omega))
        · exact Or.inr (Or.inl h9))
      refine lv_iconst (v := 1) hx hb dX1_lacks_29 (by decide +kernel) ?_
      refine va_put (D := (dC, dI)) (ci := 1) (v := .int 1) (ty := (.int)) (C := RX1) (T := TX1) (N := 4) hx hb hts (by decide +kernel) tyX1 tyX1_ok nmX1 hown hK hP hD hS 0 rfl rfl 0 (by decide) (hts (.fieldLink RX1 20 "OrderLineModel" "thrown" "I") (by decide +kernel)) (fun _ h9 => h9) rfl (by decide +kernel) rfl rfl (Nat.le_of_ble_eq_true rfl) dX1_lacks_30 (fun H locs hP hD hS => ?_)
      have hP : va_P (dC, dI) vwCl [(h, .inr (1, [.int 1, .ref a, .int (nI N), .ref b])), (a, .inl (cA, 1000, .inl f)), (b, .inl (cB, 1000, .inl as))] H := hP
      have hD : va_D A [(h, .inr (1, [.int 1, .ref a, .int (nI N), .ref b])), (a, .inl (cA, 1000, .inl f)), (b, .inl (cB, 1000, .inl as))] := hD
      refine lv_aload_n hx hb dX1_lacks_33 rfl (lv_at hl 0 rfl) ?_
      refine va_get (D := (dC, dI)) (ci := 1) (v := .int 1) (C := RX1) (T := TX1) (N := 4) hx hb hts (by decide +kernel) hown hK hP 0 rfl rfl 0 (by decide) (hts (.fieldLink RX1 20 "OrderLineModel" "thrown" "I") (by decide +kernel)) (fun _ h9 => h9) rfl dX1_lacks_34 ?_
      refine lv_if_le (tgt := 44) hx hb dX1_lacks_37 (by decide) (fun c_37 => ((by decide : ¬ (1 : Int32) ≤ 0) c_37).elim) (fun c_37 => ?_)
      refine lv_iconst (v := 1) hx hb dX1_lacks_40 (by decide +kernel) ?_
      refine lv_goto (tgt := 45) hx hb dX1_lacks_41 (by decide) ?_
      exact W.zret (v := 1) hx hb hr narrow_b1 (fun t ht hW => ⟨⟨1, (1, nI N, f, as), rfl, ⟨htt.symm, by rw [htt]⟩, by rw [ht]; exact hP, hD⟩, hS.F ht⟩) hS.2.2 dX1_lacks_45
    · have ha2 : ∃ p, ol_at N L y p := by
        rcases hc2 with ⟨p9, hp9, e9⟩ | ⟨h9, e9⟩
        · exact ⟨p9, hp9⟩
        · exact absurd (by rw [e9]; decide) c_14
      refine lv_aload_n hx hb dX1_lacks_17 rfl (lv_at hl 0 rfl) ?_
      refine lv_iload_n hx hb dX1_lacks_18 rfl (lv_at hl 3 rfl) ?_
      obtain ⟨r3, hfd3, hc3⟩ := ol_fd_ex ok z
      refine ow_callR (r := r3) (W.runV (As := [.int z]) (rest := [.ref h]) ⟨hx, hb, hml, hown, hts⟩ (c_M_find l dC dI h a b cA cB th N L f as z r3 ok.2.1 hf hfd3) (cwV 1 hts gX1_lacks_X1_find rfl rfl rfl (by decide +kernel) ⟨Nat.le_of_ble_eq_true rfl, Nat.le_of_ble_eq_true rfl⟩) (ow_PreR hK hP (ci := 1) (q0 := 0) rfl rfl) rfl rfl hl.1 rfl (lv_room (Nat.le_of_ble_eq_true rfl)) dX1_lacks_19 ⟨Nat.le_of_ble_eq_true rfl, Nat.le_of_ble_eq_true rfl⟩) ?_
      refine lv_if_lt (tgt := 29) hx hb dX1_lacks_22 (by decide) (fun c_22 => ?_) (fun c_22 => ?_)
      · have htt : tt = 1 := hlc.2 (by
          rcases hc3 with ⟨p9, hp9, e9⟩ | ⟨h9, e9⟩
          · exact absurd (e9 ▸ c_22) (nI_pos (by have := hp9.1; have := ok.2.1; omega))
          · exact Or.inr (Or.inr h9))
        refine lv_iconst (v := 1) hx hb dX1_lacks_29 (by decide +kernel) ?_
        refine va_put (D := (dC, dI)) (ci := 1) (v := .int 1) (ty := (.int)) (C := RX1) (T := TX1) (N := 4) hx hb hts (by decide +kernel) tyX1 tyX1_ok nmX1 hown hK hP hD hS 0 rfl rfl 0 (by decide) (hts (.fieldLink RX1 20 "OrderLineModel" "thrown" "I") (by decide +kernel)) (fun _ h9 => h9) rfl (by decide +kernel) rfl rfl (Nat.le_of_ble_eq_true rfl) dX1_lacks_30 (fun H locs hP hD hS => ?_)
        have hP : va_P (dC, dI) vwCl [(h, .inr (1, [.int 1, .ref a, .int (nI N), .ref b])), (a, .inl (cA, 1000, .inl f)), (b, .inl (cB, 1000, .inl as))] H := hP
        have hD : va_D A [(h, .inr (1, [.int 1, .ref a, .int (nI N), .ref b])), (a, .inl (cA, 1000, .inl f)), (b, .inl (cB, 1000, .inl as))] := hD
        refine lv_aload_n hx hb dX1_lacks_33 rfl (lv_at hl 0 rfl) ?_
        refine va_get (D := (dC, dI)) (ci := 1) (v := .int 1) (C := RX1) (T := TX1) (N := 4) hx hb hts (by decide +kernel) hown hK hP 0 rfl rfl 0 (by decide) (hts (.fieldLink RX1 20 "OrderLineModel" "thrown" "I") (by decide +kernel)) (fun _ h9 => h9) rfl dX1_lacks_34 ?_
        refine lv_if_le (tgt := 44) hx hb dX1_lacks_37 (by decide) (fun c_37 => ((by decide : ¬ (1 : Int32) ≤ 0) c_37).elim) (fun c_37 => ?_)
        refine lv_iconst (v := 1) hx hb dX1_lacks_40 (by decide +kernel) ?_
        refine lv_goto (tgt := 45) hx hb dX1_lacks_41 (by decide) ?_
        exact W.zret (v := 1) hx hb hr narrow_b1 (fun t ht hW => ⟨⟨1, (1, nI N, f, as), rfl, ⟨htt.symm, by rw [htt]⟩, by rw [ht]; exact hP, hD⟩, hS.F ht⟩) hS.2.2 dX1_lacks_45
      · have ha3 : ∃ p, ol_at N L z p := by
          rcases hc3 with ⟨p9, hp9, e9⟩ | ⟨h9, e9⟩
          · exact ⟨p9, hp9⟩
          · exact absurd (by rw [e9]; decide) c_22
        have htt : tt = 0 := hlc.1 ha1 ha2 ha3
        refine lv_iconst (v := 0) hx hb dX1_lacks_25 (by decide +kernel) ?_
        refine lv_goto (tgt := 30) hx hb dX1_lacks_26 (by decide) ?_
        refine va_put (D := (dC, dI)) (ci := 1) (v := .int 0) (ty := (.int)) (C := RX1) (T := TX1) (N := 4) hx hb hts (by decide +kernel) tyX1 tyX1_ok nmX1 hown hK hP hD hS 0 rfl rfl 0 (by decide) (hts (.fieldLink RX1 20 "OrderLineModel" "thrown" "I") (by decide +kernel)) (fun _ h9 => h9) rfl (by decide +kernel) rfl rfl (Nat.le_of_ble_eq_true rfl) dX1_lacks_30 (fun H locs hP hD hS => ?_)
        have hP : va_P (dC, dI) vwCl [(h, .inr (1, [.int 0, .ref a, .int (nI N), .ref b])), (a, .inl (cA, 1000, .inl f)), (b, .inl (cB, 1000, .inl as))] H := hP
        have hD : va_D A [(h, .inr (1, [.int 0, .ref a, .int (nI N), .ref b])), (a, .inl (cA, 1000, .inl f)), (b, .inl (cB, 1000, .inl as))] := hD
        refine lv_aload_n hx hb dX1_lacks_33 rfl (lv_at hl 0 rfl) ?_
        refine va_get (D := (dC, dI)) (ci := 1) (v := .int 0) (C := RX1) (T := TX1) (N := 4) hx hb hts (by decide +kernel) hown hK hP 0 rfl rfl 0 (by decide) (hts (.fieldLink RX1 20 "OrderLineModel" "thrown" "I") (by decide +kernel)) (fun _ h9 => h9) rfl dX1_lacks_34 ?_
        refine lv_if_le (tgt := 44) hx hb dX1_lacks_37 (by decide) (fun c_37 => ?_) (fun c_37 => (c_37 (by decide)).elim)
        refine lv_iconst (v := 0) hx hb dX1_lacks_44 (by decide +kernel) ?_
        exact W.zret (v := 0) hx hb hr narrow_b0 (fun t ht hW => ⟨⟨0, (0, nI N, f, as), rfl, ⟨htt.symm, by rw [htt]⟩, by rw [ht]; exact hP, hD⟩, hS.F ht⟩) hS.2.2 dX1_lacks_45
end
section
set_option maxHeartbeats 4000000 in
set_option maxRecDepth 100000 in
/-- behind(x) -/
theorem c_M_behind (l : Launch) (dC : Nat → ClassId) (dI : Nat → Nat → Nat) (h a b : Nat) (cA cB : ClassId) (th : Int32) (N : Nat) (L : Nat → Nat) (f as : Nat → Int32) (tt r : Int32) (N' : Nat) (L' : Nat → Nat) (sz : Nat) (ok : ol_ok N L) (hf : ol_f N L f) (x : Int32) (hsp : (ol_no N L x ∧ tt = 1 ∧ r = 0 ∧ N' = N ∧ L' = L) ∨ (tt = 0 ∧ ∃ p, ol_at N L x p ∧ sp_bh N L p r N' L')) : Met l yX1_behind wsX1_behind ({ frames := 2, cells := 0, slots := 0, locals := 45 }) (ow_Pc (dC, dI) vwCl [(cA, .int), (cB, .int)] (wM h a b cA cB (th, nI N, f, as)) sz [.ref h, .int x]) (va_Qi (fun (r' : Int32) (u : Int32 × Int32 × (Nat → Int32) × (Nat → Int32)) => r' = r ∧ u.1 = tt ∧ u.2.1 = nI N' ∧ ol_f N' L' u.2.2.1) (ow_B (dC, dI) vwCl (wM h a b cA cB) (va_A (wM h a b cA cB (th, nI N, f, as)) sz)) (va_A (wM h a b cA cB (th, nI N, f, as)) sz)) 0 0 (va_A (wM h a b cA cB (th, nI N, f, as)) sz) := by
  refine Met.ofW (cc := cX1_behind) (maxL := 3) (ret := (some .int)) (by decide) rfl ?_
  intro pg ev s m args below meth cd s₁ B hml hv
  obtain ⟨rfl, hsz, hP, hK, hD0⟩ := hv
  have hx := B.exec
  have hb := B.bytes
  have hr := B.returns
  have hts := atoms_spec (ws := wsX1_behind) B.pre
  have hown : s.vm.findClass RX1 = some m.cls := findClass_of_methodNamed B.named
  have hlocks := B.notSynchronized
  subst hsz
  have hD := hD0.self (sz := s.heap.size)
  generalize hAe : va_A (wM h a b cA cB (th, nI N, f, as)) s.heap.size = A at hD ⊢
  have hA : ∀ q : Nat, s.heap.size ≤ q → A q := fun q h => by rw [← hAe]; exact Or.inr h
  have hS : va_S A s.heap s.heap [] := va_S.rf
  have hD : va_D A [(h, .inr (1, [.int th, .ref a, .int (nI N), .ref b])), (a, .inl (cA, 1000, .inl f)), (b, .inl (cB, 1000, .inl as))] := hD
  have hP : va_P (dC, dI) vwCl [(h, .inr (1, [.int th, .ref a, .int (nI N), .ref b])), (a, .inl (cA, 1000, .inl f)), (b, .inl (cB, 1000, .inl as))] s.heap := hP
  have hl := lv_entry ([.ref h, .int x]) (n := 3) (Nat.le_of_ble_eq_true rfl)
  rw [lg_entry_eq]
  generalize (lg_sl ([.ref h, .int x]) ++ List.replicate (3 - (lg_sl ([.ref h, .int x])).length) Slot.unset).toArray = ls at hl ⊢
  have hl : lv_has ls 3 [(0, .ref h), (1, .int x)] := hl
  have hlc : ol_lc N L x 0 0 tt := by
    rcases hsp with ⟨h1, h2, _⟩ | ⟨h2, p, h1, _⟩
    · rw [h2]; exact ol_lc_no (Or.inl h1)
    · rw [h2]; exact ol_lc_at h1 (ol_at0 ok) (ol_at0 ok)
  refine lv_aload_n hx hb dX1_behind_0 rfl (lv_at hl 0 rfl) ?_
  refine lv_iload_n hx hb dX1_behind_1 rfl (lv_at hl 1 rfl) ?_
  refine lv_iconst (v := 0) hx hb dX1_behind_2 (by decide +kernel) ?_
  refine lv_iconst (v := 0) hx hb dX1_behind_3 (by decide +kernel) ?_
  refine ow_calli (wr := []) (va_runV (As := [.int x, .int 0, .int 0]) (rest := []) ⟨hx, hb, hml, hown, hts⟩ (c_M_lacks l dC dI h a b cA cB th N L f as x 0 0 tt _ ok hf hlc) (cwV 3 hts gX1_behind_X1_lacks rfl rfl rfl (by decide +kernel) ⟨Nat.le_of_ble_eq_true rfl, Nat.le_of_ble_eq_true rfl⟩) (ow_PreV hK hP hD (ci := 1) (q0 := 0) rfl rfl) rfl rfl hl.1 rfl (lv_room (Nat.le_of_ble_eq_true rfl)) dX1_behind_4 ⟨Nat.le_of_ble_eq_true rfl, Nat.le_of_ble_eq_true rfl⟩) hP hD hS hA [0, 1, 2] [] rfl rfl (by decide) (by decide) (fun r0 u H locs hw hP hD hS => ?_)
  obtain ⟨er, eu⟩ := hw
  subst eu
  refine ow_top (z := tt) er ?_
  have hP : va_P (dC, dI) vwCl [(h, .inr (1, [.int tt, .ref a, .int (nI N), .ref b])), (a, .inl (cA, 1000, .inl f)), (b, .inl (cB, 1000, .inl as))] H := hP
  have hD : va_D A [(h, .inr (1, [.int tt, .ref a, .int (nI N), .ref b])), (a, .inl (cA, 1000, .inl f)), (b, .inl (cB, 1000, .inl as))] := hD
  refine lv_if_eq (tgt := 12) hx hb dX1_behind_7 (by decide) (fun c_7 => ?_) (fun c_7 => ?_)
  · have hs : ∃ p, ol_at N L x p ∧ sp_bh N L p r N' L' := by
      rcases hsp with ⟨_, e9, _⟩ | ⟨_, h9⟩
      · exact absurd (e9.symm.trans c_7) (by decide)
      · exact h9
    refine lv_aload_n hx hb dX1_behind_12 rfl (lv_at hl 0 rfl) ?_
    obtain ⟨p, hp, hs⟩ := hs
    refine ow_callR (r := ol_fi N L) (W.runV (As := []) (rest := []) ⟨hx, hb, hml, hown, hts⟩ (c_M_free l dC dI h a b cA cB tt N L f as ok hf) (cwV 0 hts gX1_behind_X1_free rfl rfl rfl (by decide +kernel) ⟨Nat.le_of_ble_eq_true rfl, Nat.le_of_ble_eq_true rfl⟩) (ow_PreR hK hP (ci := 1) (q0 := 0) rfl rfl) rfl rfl hl.1 rfl (lv_room (Nat.le_of_ble_eq_true rfl)) dX1_behind_13 ⟨Nat.le_of_ble_eq_true rfl, Nat.le_of_ble_eq_true rfl⟩) ?_
    refine lv_istore_n (lv' := [(2, .int (ol_fi N L)), (0, .ref h), (1, .int x)]) hx hb dX1_behind_16 rfl hl (by decide) rfl (fun ls hl => ?_)
    refine lv_iload_n hx hb dX1_behind_17 rfl (lv_at hl 0 rfl) ?_
    have hs2 := hs
    refine lv_if_lt (tgt := 33) hx hb dX1_behind_18 (by decide) (fun c_18 => ?_) (fun c_18 => ?_)
    · obtain ⟨hr0, hN0, hL0⟩ : r = -1 ∧ N' = N ∧ L' = L := by
        rcases hs with ⟨h1, _⟩ | ⟨_, h2⟩
        · exact absurd (ol_fi_lt (ol_fr_lt ok h1) ▸ c_18) (nI_pos (by have := ol_fr_lt ok h1; omega))
        · exact h2
      have hfi : ol_fi N L = -1 := by
        rcases hs2 with ⟨h1, h2, _⟩ | ⟨h1, _⟩
        · exact absurd (h2.symm.trans hr0) (ol_m1 (by have := ol_fr_lt ok h1; omega))
        · subst h1; exact ol_fi_ge (by rw [ol_fr_full ok]; omega)
      refine lv_iload_n hx hb dX1_behind_33 rfl (lv_at hl 0 rfl) ?_
      exact W.iret (v := (ol_fi N L)) hx hb hr (fun t ht hW => ⟨⟨(ol_fi N L), (tt, nI N, f, as), rfl, ⟨by rw [hr0]; exact hfi, rfl, by rw [hN0], by rw [hN0, hL0]; exact hf⟩, by rw [ht]; exact hP, hD⟩, hS.F ht⟩) hS.2.2 dX1_behind_34
    · obtain ⟨hlt, hr0, hN0, hL0⟩ : N < 1000 ∧ r = nI (ol_fr N L) ∧ N' = N + 1 ∧ L' = ol_many N L (p + 1) 1 := by
        rcases hs with h1 | ⟨h1, _⟩
        · exact h1
        · subst h1; exact absurd (by rw [ol_fi_ge (by rw [ol_fr_full ok]; omega)]; decide) c_18
      have hfl := ol_fr_lt ok hlt
      refine lv_aload_n hx hb dX1_behind_21 rfl (lv_at hl 1 rfl) ?_
      refine lv_iload_n hx hb dX1_behind_22 rfl (lv_at hl 0 rfl) ?_
      refine ow_top (z := nI (ol_fr N L)) (ol_fi_lt hfl) ?_
      refine lv_aload_n hx hb dX1_behind_23 rfl (lv_at hl 1 rfl) ?_
      refine lv_iload_n hx hb dX1_behind_24 rfl (lv_at hl 2 rfl) ?_
      refine ow_callR (r := nI p) (W.runV (As := [.int x]) (rest := [.int (nI (ol_fr N L)), .ref h]) ⟨hx, hb, hml, hown, hts⟩ (c_M_find l dC dI h a b cA cB tt N L f as x (nI p) ok.2.1 hf (ol_fd_at ok hp)) (cwV 1 hts gX1_behind_X1_find rfl rfl rfl (by decide +kernel) ⟨Nat.le_of_ble_eq_true rfl, Nat.le_of_ble_eq_true rfl⟩) (ow_PreR hK hP (ci := 1) (q0 := 0) rfl rfl) rfl rfl hl.1 rfl (lv_room (Nat.le_of_ble_eq_true rfl)) dX1_behind_25 ⟨Nat.le_of_ble_eq_true rfl, Nat.le_of_ble_eq_true rfl⟩) ?_
      refine lv_iconst (v := 1) hx hb dX1_behind_28 (by decide +kernel) ?_
      refine lv_iadd hx hb dX1_behind_29 ?_
      refine ow_top (z := nI (p + 1)) (nI_1 p) ?_
      refine ow_callv (wr := []) (va_runV (As := [.int (nI (ol_fr N L)), .int (nI (p + 1))]) (rest := []) ⟨hx, hb, hml, hown, hts⟩ (c_M_put l dC dI h a b cA cB tt N L f as (ol_fr N L) (p + 1) _ hf hlt hp.1) (cwV 2 hts gX1_behind_X1_put rfl rfl rfl (by decide +kernel) ⟨Nat.le_of_ble_eq_true rfl, Nat.le_of_ble_eq_true rfl⟩) (ow_PreV hK hP hD (ci := 1) (q0 := 0) rfl rfl) rfl rfl hl.1 rfl (lv_room (Nat.le_of_ble_eq_true rfl)) dX1_behind_30 ⟨Nat.le_of_ble_eq_true rfl, Nat.le_of_ble_eq_true rfl⟩) hP hD hS hA [0, 1, 2] [] rfl rfl (by decide) (by decide) (fun u H locs hw hP hD hS => ?_)
      obtain ⟨u1, u2, u3, u4⟩ := u
      obtain ⟨e1, e2, hf2, e4⟩ := hw
      obtain rfl : tt = u1 := e1.symm
      obtain rfl : nI (N + 1) = u2 := e2.symm
      obtain rfl : as = u4 := e4.symm
      have hP : va_P (dC, dI) vwCl [(h, .inr (1, [.int tt, .ref a, .int (nI (N + 1)), .ref b])), (a, .inl (cA, 1000, .inl u3)), (b, .inl (cB, 1000, .inl as))] H := hP
      have hD : va_D A [(h, .inr (1, [.int tt, .ref a, .int (nI (N + 1)), .ref b])), (a, .inl (cA, 1000, .inl u3)), (b, .inl (cB, 1000, .inl as))] := hD
      refine lv_iload_n hx hb dX1_behind_33 rfl (lv_at hl 0 rfl) ?_
      exact W.iret (v := (ol_fi N L)) hx hb hr (fun t ht hW => ⟨⟨(ol_fi N L), (tt, nI (N + 1), u3, as), rfl, ⟨by rw [hr0]; exact ol_fi_lt hfl, rfl, by rw [hN0], by rw [hN0, hL0]; exact hf2⟩, by rw [ht]; exact hP, hD⟩, hS.F ht⟩) hS.2.2 dX1_behind_34
  · obtain ⟨hr0, hN0, hL0⟩ : r = 0 ∧ N' = N ∧ L' = L := by
      rcases hsp with ⟨_, _, e9⟩ | ⟨e9, _⟩
      · exact e9
      · exact absurd e9 c_7
    refine lv_iconst (v := 0) hx hb dX1_behind_10 (by decide +kernel) ?_
    exact W.iret (v := 0) hx hb hr (fun t ht hW => ⟨⟨0, (tt, nI N, f, as), rfl, ⟨hr0.symm, rfl, by rw [hN0], by rw [hN0, hL0]; exact hf⟩, by rw [ht]; exact hP, hD⟩, hS.F ht⟩) hS.2.2 dX1_behind_11
set_option maxHeartbeats 4000000 in
set_option maxRecDepth 100000 in
/-- has(x) -/
theorem c_M_has (l : Launch) (dC : Nat → ClassId) (dI : Nat → Nat → Nat) (h a b : Nat) (cA cB : ClassId) (th : Int32) (N : Nat) (L : Nat → Nat) (f as : Nat → Int32) (r : Int32) (sz : Nat) (ok : ol_ok N L) (hf : ol_f N L f) (x : Int32) (hh : ol_hs N L x r) : Met l yX1_has wsX1_has ({ frames := 1, cells := 0, slots := 0, locals := 22 }) (ow_Pc (dC, dI) vwCl [(cA, .int), (cB, .int)] (wM h a b cA cB (th, nI N, f, as)) sz [.ref h, .int x]) (va_Qi (fun (r' : Int32) (u : Int32 × Int32 × (Nat → Int32) × (Nat → Int32)) => r' = r ∧ u = (0, nI N, f, as)) (ow_B (dC, dI) vwCl (wM h a b cA cB) (va_A (wM h a b cA cB (th, nI N, f, as)) sz)) (va_A (wM h a b cA cB (th, nI N, f, as)) sz)) 0 0 (va_A (wM h a b cA cB (th, nI N, f, as)) sz) := by
  refine Met.ofW (cc := cX1_has) (maxL := 2) (ret := (some .boolean)) (by decide) rfl ?_
  intro pg ev s m args below meth cd s₁ B hml hv
  obtain ⟨rfl, hsz, hP, hK, hD0⟩ := hv
  have hx := B.exec
  have hb := B.bytes
  have hr := B.returns
  have hts := atoms_spec (ws := wsX1_has) B.pre
  have hown : s.vm.findClass RX1 = some m.cls := findClass_of_methodNamed B.named
  have hlocks := B.notSynchronized
  subst hsz
  have hD := hD0.self (sz := s.heap.size)
  generalize hAe : va_A (wM h a b cA cB (th, nI N, f, as)) s.heap.size = A at hD ⊢
  have hA : ∀ q : Nat, s.heap.size ≤ q → A q := fun q h => by rw [← hAe]; exact Or.inr h
  have hS : va_S A s.heap s.heap [] := va_S.rf
  have hD : va_D A [(h, .inr (1, [.int th, .ref a, .int (nI N), .ref b])), (a, .inl (cA, 1000, .inl f)), (b, .inl (cB, 1000, .inl as))] := hD
  have hP : va_P (dC, dI) vwCl [(h, .inr (1, [.int th, .ref a, .int (nI N), .ref b])), (a, .inl (cA, 1000, .inl f)), (b, .inl (cB, 1000, .inl as))] s.heap := hP
  have hl := lv_entry ([.ref h, .int x]) (n := 2) (Nat.le_of_ble_eq_true rfl)
  rw [lg_entry_eq]
  generalize (lg_sl ([.ref h, .int x]) ++ List.replicate (2 - (lg_sl ([.ref h, .int x])).length) Slot.unset).toArray = ls at hl ⊢
  have hl : lv_has ls 2 [(0, .ref h), (1, .int x)] := hl
  refine lv_aload_n hx hb dX1_has_0 rfl (lv_at hl 0 rfl) ?_
  refine lv_iconst (v := 0) hx hb dX1_has_1 (by decide +kernel) ?_
  refine va_put (D := (dC, dI)) (ci := 1) (v := .int 0) (ty := (.int)) (C := RX1) (T := TX1) (N := 4) hx hb hts (by decide +kernel) tyX1 tyX1_ok nmX1 hown hK hP hD hS 0 rfl rfl 0 (by decide) (hts (.fieldLink RX1 20 "OrderLineModel" "thrown" "I") (by decide +kernel)) (fun _ h9 => h9) rfl (by decide +kernel) rfl rfl (Nat.le_of_ble_eq_true rfl) dX1_has_2 (fun H locs hP hD hS => ?_)
  have hP : va_P (dC, dI) vwCl [(h, .inr (1, [.int 0, .ref a, .int (nI N), .ref b])), (a, .inl (cA, 1000, .inl f)), (b, .inl (cB, 1000, .inl as))] H := hP
  have hD : va_D A [(h, .inr (1, [.int 0, .ref a, .int (nI N), .ref b])), (a, .inl (cA, 1000, .inl f)), (b, .inl (cB, 1000, .inl as))] := hD
  refine lv_aload_n hx hb dX1_has_5 rfl (lv_at hl 0 rfl) ?_
  refine lv_iload_n hx hb dX1_has_6 rfl (lv_at hl 1 rfl) ?_
  obtain ⟨r1, hfd1, hc1⟩ := ol_fd_ex ok x
  refine ow_callR (r := r1) (W.runV (As := [.int x]) (rest := []) ⟨hx, hb, hml, hown, hts⟩ (c_M_find l dC dI h a b cA cB 0 N L f as x r1 ok.2.1 hf hfd1) (cwV 1 hts gX1_has_X1_find rfl rfl rfl (by decide +kernel) ⟨Nat.le_of_ble_eq_true rfl, Nat.le_of_ble_eq_true rfl⟩) (ow_PreR hK hP (ci := 1) (q0 := 0) rfl rfl) rfl rfl hl.1 rfl (lv_room (Nat.le_of_ble_eq_true rfl)) dX1_has_7 ⟨Nat.le_of_ble_eq_true rfl, Nat.le_of_ble_eq_true rfl⟩) ?_
  refine lv_if_lt (tgt := 17) hx hb dX1_has_10 (by decide) (fun c_10 => ?_) (fun c_10 => ?_)
  · have hr0 : r = 0 := hh.2 (by
      rcases hc1 with ⟨p9, hp9, e9⟩ | ⟨h9, e9⟩
      · exact absurd (e9 ▸ c_10) (nI_pos (by have := hp9.1; have := ok.2.1; omega))
      · exact h9)
    refine lv_iconst (v := 0) hx hb dX1_has_17 (by decide +kernel) ?_
    exact W.zret (v := 0) hx hb hr narrow_b0 (fun t ht hW => ⟨⟨0, (0, nI N, f, as), rfl, ⟨hr0.symm, rfl⟩, by rw [ht]; exact hP, hD⟩, hS.F ht⟩) hS.2.2 dX1_has_18
  · have hr0 : r = 1 := hh.1 (by
      rcases hc1 with ⟨p9, hp9, e9⟩ | ⟨h9, e9⟩
      · exact ⟨p9, hp9⟩
      · exact absurd (by rw [e9]; decide) c_10)
    refine lv_iconst (v := 1) hx hb dX1_has_13 (by decide +kernel) ?_
    refine lv_goto (tgt := 18) hx hb dX1_has_14 (by decide) ?_
    exact W.zret (v := 1) hx hb hr narrow_b1 (fun t ht hW => ⟨⟨1, (0, nI N, f, as), rfl, ⟨hr0.symm, rfl⟩, by rw [ht]; exact hP, hD⟩, hS.F ht⟩) hS.2.2 dX1_has_18
set_option maxHeartbeats 4000000 in
set_option maxRecDepth 100000 in
/-- place(x) -/
theorem c_M_place (l : Launch) (dC : Nat → ClassId) (dI : Nat → Nat → Nat) (h a b : Nat) (cA cB : ClassId) (th : Int32) (N : Nat) (L : Nat → Nat) (f as : Nat → Int32) (tt r : Int32) (N' : Nat) (L' : Nat → Nat) (sz : Nat) (ok : ol_ok N L) (hf : ol_f N L f) (x : Int32) (hsp : (ol_no N L x ∧ tt = 1 ∧ r = 0 ∧ N' = N ∧ L' = L) ∨ (tt = 0 ∧ ∃ p, ol_at N L x p ∧ r = nI p ∧ N' = N ∧ L' = L)) : Met l yX1_place wsX1_place ({ frames := 2, cells := 0, slots := 0, locals := 45 }) (ow_Pc (dC, dI) vwCl [(cA, .int), (cB, .int)] (wM h a b cA cB (th, nI N, f, as)) sz [.ref h, .int x]) (va_Qi (fun (r' : Int32) (u : Int32 × Int32 × (Nat → Int32) × (Nat → Int32)) => r' = r ∧ u.1 = tt ∧ u.2.1 = nI N' ∧ ol_f N' L' u.2.2.1) (ow_B (dC, dI) vwCl (wM h a b cA cB) (va_A (wM h a b cA cB (th, nI N, f, as)) sz)) (va_A (wM h a b cA cB (th, nI N, f, as)) sz)) 0 0 (va_A (wM h a b cA cB (th, nI N, f, as)) sz) := by
  refine Met.ofW (cc := cX1_place) (maxL := 2) (ret := (some .int)) (by decide) rfl ?_
  intro pg ev s m args below meth cd s₁ B hml hv
  obtain ⟨rfl, hsz, hP, hK, hD0⟩ := hv
  have hx := B.exec
  have hb := B.bytes
  have hr := B.returns
  have hts := atoms_spec (ws := wsX1_place) B.pre
  have hown : s.vm.findClass RX1 = some m.cls := findClass_of_methodNamed B.named
  have hlocks := B.notSynchronized
  subst hsz
  have hD := hD0.self (sz := s.heap.size)
  generalize hAe : va_A (wM h a b cA cB (th, nI N, f, as)) s.heap.size = A at hD ⊢
  have hA : ∀ q : Nat, s.heap.size ≤ q → A q := fun q h => by rw [← hAe]; exact Or.inr h
  have hS : va_S A s.heap s.heap [] := va_S.rf
  have hD : va_D A [(h, .inr (1, [.int th, .ref a, .int (nI N), .ref b])), (a, .inl (cA, 1000, .inl f)), (b, .inl (cB, 1000, .inl as))] := hD
  have hP : va_P (dC, dI) vwCl [(h, .inr (1, [.int th, .ref a, .int (nI N), .ref b])), (a, .inl (cA, 1000, .inl f)), (b, .inl (cB, 1000, .inl as))] s.heap := hP
  have hl := lv_entry ([.ref h, .int x]) (n := 2) (Nat.le_of_ble_eq_true rfl)
  rw [lg_entry_eq]
  generalize (lg_sl ([.ref h, .int x]) ++ List.replicate (2 - (lg_sl ([.ref h, .int x])).length) Slot.unset).toArray = ls at hl ⊢
  have hl : lv_has ls 2 [(0, .ref h), (1, .int x)] := hl
  have hlc : ol_lc N L x 0 0 tt := by
    rcases hsp with ⟨h1, h2, _⟩ | ⟨h2, p, h1, _⟩
    · rw [h2]; exact ol_lc_no (Or.inl h1)
    · rw [h2]; exact ol_lc_at h1 (ol_at0 ok) (ol_at0 ok)
  refine lv_aload_n hx hb dX1_place_0 rfl (lv_at hl 0 rfl) ?_
  refine lv_iload_n hx hb dX1_place_1 rfl (lv_at hl 1 rfl) ?_
  refine lv_iconst (v := 0) hx hb dX1_place_2 (by decide +kernel) ?_
  refine lv_iconst (v := 0) hx hb dX1_place_3 (by decide +kernel) ?_
  refine ow_calli (wr := []) (va_runV (As := [.int x, .int 0, .int 0]) (rest := []) ⟨hx, hb, hml, hown, hts⟩ (c_M_lacks l dC dI h a b cA cB th N L f as x 0 0 tt _ ok hf hlc) (cwV 3 hts gX1_place_X1_lacks rfl rfl rfl (by decide +kernel) ⟨Nat.le_of_ble_eq_true rfl, Nat.le_of_ble_eq_true rfl⟩) (ow_PreV hK hP hD (ci := 1) (q0 := 0) rfl rfl) rfl rfl hl.1 rfl (lv_room (Nat.le_of_ble_eq_true rfl)) dX1_place_4 ⟨Nat.le_of_ble_eq_true rfl, Nat.le_of_ble_eq_true rfl⟩) hP hD hS hA [0, 1, 2] [] rfl rfl (by decide) (by decide) (fun r0 u H locs hw hP hD hS => ?_)
  obtain ⟨er, eu⟩ := hw
  subst eu
  refine ow_top (z := tt) er ?_
  have hP : va_P (dC, dI) vwCl [(h, .inr (1, [.int tt, .ref a, .int (nI N), .ref b])), (a, .inl (cA, 1000, .inl f)), (b, .inl (cB, 1000, .inl as))] H := hP
  have hD : va_D A [(h, .inr (1, [.int tt, .ref a, .int (nI N), .ref b])), (a, .inl (cA, 1000, .inl f)), (b, .inl (cB, 1000, .inl as))] := hD
  refine lv_if_eq (tgt := 14) hx hb dX1_place_7 (by decide) (fun c_7 => ?_) (fun c_7 => ?_)
  · have hs : ∃ p, ol_at N L x p ∧ r = nI p ∧ N' = N ∧ L' = L := by
      rcases hsp with ⟨_, e9, _⟩ | ⟨_, h9⟩
      · exact absurd (e9.symm.trans c_7) (by decide)
      · exact h9
    refine lv_aload_n hx hb dX1_place_14 rfl (lv_at hl 0 rfl) ?_
    refine lv_iload_n hx hb dX1_place_15 rfl (lv_at hl 1 rfl) ?_
    obtain ⟨p, hp, hr0, hN0, hL0⟩ := hs
    refine ow_callR (r := nI p) (W.runV (As := [.int x]) (rest := []) ⟨hx, hb, hml, hown, hts⟩ (c_M_find l dC dI h a b cA cB tt N L f as x (nI p) ok.2.1 hf (ol_fd_at ok hp)) (cwV 1 hts gX1_place_X1_find rfl rfl rfl (by decide +kernel) ⟨Nat.le_of_ble_eq_true rfl, Nat.le_of_ble_eq_true rfl⟩) (ow_PreR hK hP (ci := 1) (q0 := 0) rfl rfl) rfl rfl hl.1 rfl (lv_room (Nat.le_of_ble_eq_true rfl)) dX1_place_16 ⟨Nat.le_of_ble_eq_true rfl, Nat.le_of_ble_eq_true rfl⟩) ?_
    exact W.iret (v := (nI p)) hx hb hr (fun t ht hW => ⟨⟨(nI p), (tt, nI N, f, as), rfl, ⟨hr0.symm, rfl, by rw [hN0], by rw [hN0, hL0]; exact hf⟩, by rw [ht]; exact hP, hD⟩, hS.F ht⟩) hS.2.2 dX1_place_19
  · obtain ⟨hr0, hN0, hL0⟩ : r = 0 ∧ N' = N ∧ L' = L := by
      rcases hsp with ⟨_, _, e9⟩ | ⟨e9, _⟩
      · exact e9
      · exact absurd e9 c_7
    refine lv_iconst (v := 0) hx hb dX1_place_10 (by decide +kernel) ?_
    refine lv_goto (tgt := 19) hx hb dX1_place_11 (by decide) ?_
    exact W.iret (v := 0) hx hb hr (fun t ht hW => ⟨⟨0, (tt, nI N, f, as), rfl, ⟨hr0.symm, rfl, by rw [hN0], by rw [hN0, hL0]; exact hf⟩, by rw [ht]; exact hP, hD⟩, hS.F ht⟩) hS.2.2 dX1_place_19
set_option maxHeartbeats 4000000 in
set_option maxRecDepth 100000 in
/-- at(x) -/
theorem c_M_at (l : Launch) (dC : Nat → ClassId) (dI : Nat → Nat → Nat) (h a b : Nat) (cA cB : ClassId) (th : Int32) (N : Nat) (L : Nat → Nat) (f as : Nat → Int32) (r : Int32) (sz : Nat) (ok : ol_ok N L) (hf : ol_f N L f) (x : Int32) (hh : ol_ps N L x r) : Met l yX1_at wsX1_at ({ frames := 0, cells := 0, slots := 0, locals := 0 }) (ow_Pc (dC, dI) vwCl [(cA, .int), (cB, .int)] (wM h a b cA cB (th, nI N, f, as)) sz [.ref h, .int x]) (va_Qi (fun (r' : Int32) (u : Int32 × Int32 × (Nat → Int32) × (Nat → Int32)) => r' = r ∧ u = (0, nI N, f, as)) (ow_B (dC, dI) vwCl (wM h a b cA cB) (va_A (wM h a b cA cB (th, nI N, f, as)) sz)) (va_A (wM h a b cA cB (th, nI N, f, as)) sz)) 0 0 (va_A (wM h a b cA cB (th, nI N, f, as)) sz) := by
  refine Met.ofW (cc := cX1_at) (maxL := 2) (ret := (some .int)) (by decide) rfl ?_
  intro pg ev s m args below meth cd s₁ B hml hv
  obtain ⟨rfl, hsz, hP, hK, hD0⟩ := hv
  have hx := B.exec
  have hb := B.bytes
  have hr := B.returns
  have hts := atoms_spec (ws := wsX1_at) B.pre
  have hown : s.vm.findClass RX1 = some m.cls := findClass_of_methodNamed B.named
  have hlocks := B.notSynchronized
  subst hsz
  have hD := hD0.self (sz := s.heap.size)
  generalize hAe : va_A (wM h a b cA cB (th, nI N, f, as)) s.heap.size = A at hD ⊢
  have hA : ∀ q : Nat, s.heap.size ≤ q → A q := fun q h => by rw [← hAe]; exact Or.inr h
  have hS : va_S A s.heap s.heap [] := va_S.rf
  have hD : va_D A [(h, .inr (1, [.int th, .ref a, .int (nI N), .ref b])), (a, .inl (cA, 1000, .inl f)), (b, .inl (cB, 1000, .inl as))] := hD
  have hP : va_P (dC, dI) vwCl [(h, .inr (1, [.int th, .ref a, .int (nI N), .ref b])), (a, .inl (cA, 1000, .inl f)), (b, .inl (cB, 1000, .inl as))] s.heap := hP
  have hl := lv_entry ([.ref h, .int x]) (n := 2) (Nat.le_of_ble_eq_true rfl)
  rw [lg_entry_eq]
  generalize (lg_sl ([.ref h, .int x]) ++ List.replicate (2 - (lg_sl ([.ref h, .int x])).length) Slot.unset).toArray = ls at hl ⊢
  have hl : lv_has ls 2 [(0, .ref h), (1, .int x)] := hl
  have hN := ok.2.1
  refine lv_aload_n hx hb dX1_at_0 rfl (lv_at hl 0 rfl) ?_
  refine lv_iconst (v := 0) hx hb dX1_at_1 (by decide +kernel) ?_
  refine va_put (D := (dC, dI)) (ci := 1) (v := .int 0) (ty := (.int)) (C := RX1) (T := TX1) (N := 4) hx hb hts (by decide +kernel) tyX1 tyX1_ok nmX1 hown hK hP hD hS 0 rfl rfl 0 (by decide) (hts (.fieldLink RX1 20 "OrderLineModel" "thrown" "I") (by decide +kernel)) (fun _ h9 => h9) rfl (by decide +kernel) rfl rfl (Nat.le_of_ble_eq_true rfl) dX1_at_2 (fun H locs hP hD hS => ?_)
  have hP : va_P (dC, dI) vwCl [(h, .inr (1, [.int 0, .ref a, .int (nI N), .ref b])), (a, .inl (cA, 1000, .inl f)), (b, .inl (cB, 1000, .inl as))] H := hP
  have hD : va_D A [(h, .inr (1, [.int 0, .ref a, .int (nI N), .ref b])), (a, .inl (cA, 1000, .inl f)), (b, .inl (cB, 1000, .inl as))] := hD
  refine lv_iload_n hx hb dX1_at_5 rfl (lv_at hl 1 rfl) ?_
  refine lv_if_lt (tgt := 17) hx hb dX1_at_6 (by decide) (fun c_6 => ?_) (fun c_6 => ?_)
  · have hr0 : r = -1 := hh.2 (fun q hq e => nI_pos (by omega) (e ▸ c_6))
    refine lv_iconst (v := (-1)) hx hb dX1_at_17 (by decide +kernel) ?_
    refine lv_goto (tgt := 27) hx hb dX1_at_18 (by decide) ?_
    exact W.iret (v := ((-1))) hx hb hr (fun t ht hW => ⟨⟨((-1)), (0, nI N, f, as), rfl, ⟨hr0.symm, rfl⟩, by rw [ht]; exact hP, hD⟩, hS.F ht⟩) hS.2.2 dX1_at_27
  · obtain ⟨j, hj, ej⟩ := nI_of c_6
    refine lv_iload_n hx hb dX1_at_9 rfl (lv_at hl 1 rfl) ?_
    refine lv_aload_n hx hb dX1_at_10 rfl (lv_at hl 0 rfl) ?_
    refine va_get (D := (dC, dI)) (ci := 1) (v := .int (nI N)) (C := RX1) (T := TX1) (N := 4) hx hb hts (by decide +kernel) hown hK hP 0 rfl rfl 2 (by decide) (hts (.fieldLink RX1 13 "OrderLineModel" "many" "I") (by decide +kernel)) (fun _ h9 => h9) rfl dX1_at_11 ?_
    refine lv_icmp_lt (tgt := 21) hx hb dX1_at_14 (by decide) (fun c_14 => ?_) (fun c_14 => ?_)
    · have hc := ol_lt hj (by omega) (ej ▸ c_14)
      have hr0 : r = nI (L j) := hh.1 j hc ej
      refine lv_aload_n hx hb dX1_at_21 rfl (lv_at hl 0 rfl) ?_
      refine va_get (D := (dC, dI)) (ci := 1) (v := .ref a) (C := RX1) (T := TX1) (N := 4) hx hb hts (by decide +kernel) hown hK hP 0 rfl rfl 1 (by decide) (hts (.fieldLink RX1 7 "OrderLineModel" "line" "[I") (by decide +kernel)) (fun _ h9 => h9) rfl dX1_at_22 ?_
      refine lv_iload_n hx hb dX1_at_25 rfl (lv_at hl 1 rfl) ?_
      refine ow_top (z := nI j) ej ?_
      refine ow_iald (k := j) (v := nI (L j)) hx hb hK hP 1 0 rfl rfl (by omega) (by decide) (hf j hc) dX1_at_26 ?_
      exact W.iret (v := (nI (L j))) hx hb hr (fun t ht hW => ⟨⟨(nI (L j)), (0, nI N, f, as), rfl, ⟨hr0.symm, rfl⟩, by rw [ht]; exact hP, hD⟩, hS.F ht⟩) hS.2.2 dX1_at_27
    · have hc := ol_nlt hj (by omega) (ej ▸ c_14)
      have hr0 : r = -1 := hh.2 (fun q hq e => by have := ol_eq hj (by omega) (ej.symm.trans e); omega)
      refine lv_iconst (v := (-1)) hx hb dX1_at_17 (by decide +kernel) ?_
      refine lv_goto (tgt := 27) hx hb dX1_at_18 (by decide) ?_
      exact W.iret (v := ((-1))) hx hb hr (fun t ht hW => ⟨⟨((-1)), (0, nI N, f, as), rfl, ⟨hr0.symm, rfl⟩, by rw [ht]; exact hP, hD⟩, hS.F ht⟩) hS.2.2 dX1_at_27
set_option maxHeartbeats 4000000 in
set_option maxRecDepth 100000 in
/-- compare(x, y) -/
theorem c_M_compare (l : Launch) (dC : Nat → ClassId) (dI : Nat → Nat → Nat) (h a b : Nat) (cA cB : ClassId) (th : Int32) (N : Nat) (L : Nat → Nat) (f as : Nat → Int32) (tt r : Int32) (N' : Nat) (L' : Nat → Nat) (sz : Nat) (ok : ol_ok N L) (hf : ol_f N L f) (x y : Int32) (hsp : ((ol_no N L x ∨ ol_no N L y) ∧ tt = 1 ∧ r = 0 ∧ N' = N ∧ L' = L) ∨ (tt = 0 ∧ ∃ p q, ol_at N L x p ∧ ol_at N L y q ∧ r = ol_cmp p q ∧ N' = N ∧ L' = L)) : Met l yX1_compare wsX1_compare ({ frames := 2, cells := 0, slots := 0, locals := 45 }) (ow_Pc (dC, dI) vwCl [(cA, .int), (cB, .int)] (wM h a b cA cB (th, nI N, f, as)) sz [.ref h, .int x, .int y]) (va_Qi (fun (r' : Int32) (u : Int32 × Int32 × (Nat → Int32) × (Nat → Int32)) => r' = r ∧ u.1 = tt ∧ u.2.1 = nI N' ∧ ol_f N' L' u.2.2.1) (ow_B (dC, dI) vwCl (wM h a b cA cB) (va_A (wM h a b cA cB (th, nI N, f, as)) sz)) (va_A (wM h a b cA cB (th, nI N, f, as)) sz)) 0 0 (va_A (wM h a b cA cB (th, nI N, f, as)) sz) := by
  refine Met.ofW (cc := cX1_compare) (maxL := 5) (ret := (some .int)) (by decide) rfl ?_
  intro pg ev s m args below meth cd s₁ B hml hv
  obtain ⟨rfl, hsz, hP, hK, hD0⟩ := hv
  have hx := B.exec
  have hb := B.bytes
  have hr := B.returns
  have hts := atoms_spec (ws := wsX1_compare) B.pre
  have hown : s.vm.findClass RX1 = some m.cls := findClass_of_methodNamed B.named
  have hlocks := B.notSynchronized
  subst hsz
  have hD := hD0.self (sz := s.heap.size)
  generalize hAe : va_A (wM h a b cA cB (th, nI N, f, as)) s.heap.size = A at hD ⊢
  have hA : ∀ q : Nat, s.heap.size ≤ q → A q := fun q h => by rw [← hAe]; exact Or.inr h
  have hS : va_S A s.heap s.heap [] := va_S.rf
  have hD : va_D A [(h, .inr (1, [.int th, .ref a, .int (nI N), .ref b])), (a, .inl (cA, 1000, .inl f)), (b, .inl (cB, 1000, .inl as))] := hD
  have hP : va_P (dC, dI) vwCl [(h, .inr (1, [.int th, .ref a, .int (nI N), .ref b])), (a, .inl (cA, 1000, .inl f)), (b, .inl (cB, 1000, .inl as))] s.heap := hP
  have hl := lv_entry ([.ref h, .int x, .int y]) (n := 5) (Nat.le_of_ble_eq_true rfl)
  rw [lg_entry_eq]
  generalize (lg_sl ([.ref h, .int x, .int y]) ++ List.replicate (5 - (lg_sl ([.ref h, .int x, .int y])).length) Slot.unset).toArray = ls at hl ⊢
  have hl : lv_has ls 5 [(0, .ref h), (1, .int x), (2, .int y)] := hl
  have hlc : ol_lc N L x y 0 tt := by
    rcases hsp with ⟨h1, h2, _⟩ | ⟨h2, p, q, h1, h3, _⟩
    · rw [h2]; exact ol_lc_no (h1.elim Or.inl (fun h => Or.inr (Or.inl h)))
    · rw [h2]; exact ol_lc_at h1 h3 (ol_at0 ok)
  refine lv_aload_n hx hb dX1_compare_0 rfl (lv_at hl 0 rfl) ?_
  refine lv_iload_n hx hb dX1_compare_1 rfl (lv_at hl 1 rfl) ?_
  refine lv_iload_n hx hb dX1_compare_2 rfl (lv_at hl 2 rfl) ?_
  refine lv_iconst (v := 0) hx hb dX1_compare_3 (by decide +kernel) ?_
  refine ow_calli (wr := []) (va_runV (As := [.int x, .int y, .int 0]) (rest := []) ⟨hx, hb, hml, hown, hts⟩ (c_M_lacks l dC dI h a b cA cB th N L f as x y 0 tt _ ok hf hlc) (cwV 3 hts gX1_compare_X1_lacks rfl rfl rfl (by decide +kernel) ⟨Nat.le_of_ble_eq_true rfl, Nat.le_of_ble_eq_true rfl⟩) (ow_PreV hK hP hD (ci := 1) (q0 := 0) rfl rfl) rfl rfl hl.1 rfl (lv_room (Nat.le_of_ble_eq_true rfl)) dX1_compare_4 ⟨Nat.le_of_ble_eq_true rfl, Nat.le_of_ble_eq_true rfl⟩) hP hD hS hA [0, 1, 2] [] rfl rfl (by decide) (by decide) (fun r0 u H locs hw hP hD hS => ?_)
  obtain ⟨er, eu⟩ := hw
  subst eu
  refine ow_top (z := tt) er ?_
  have hP : va_P (dC, dI) vwCl [(h, .inr (1, [.int tt, .ref a, .int (nI N), .ref b])), (a, .inl (cA, 1000, .inl f)), (b, .inl (cB, 1000, .inl as))] H := hP
  have hD : va_D A [(h, .inr (1, [.int tt, .ref a, .int (nI N), .ref b])), (a, .inl (cA, 1000, .inl f)), (b, .inl (cB, 1000, .inl as))] := hD
  refine lv_if_eq (tgt := 12) hx hb dX1_compare_7 (by decide) (fun c_7 => ?_) (fun c_7 => ?_)
  · have hs : ∃ p q, ol_at N L x p ∧ ol_at N L y q ∧ r = ol_cmp p q ∧ N' = N ∧ L' = L := by
      rcases hsp with ⟨_, e9, _⟩ | ⟨_, h9⟩
      · exact absurd (e9.symm.trans c_7) (by decide)
      · exact h9
    obtain ⟨p, q, hp, hq, hrc, hN0, hL0⟩ := hs
    have hpN : p < N := hp.1
    have hqN : q < N := hq.1
    have hN : N ≤ 1000 := ok.2.1
    refine lv_aload_n hx hb dX1_compare_12 rfl (lv_at hl 0 rfl) ?_
    refine lv_iload_n hx hb dX1_compare_13 rfl (lv_at hl 1 rfl) ?_
    refine ow_callR (r := nI p) (W.runV (As := [.int x]) (rest := []) ⟨hx, hb, hml, hown, hts⟩ (c_M_find l dC dI h a b cA cB tt N L f as x (nI p) ok.2.1 hf (ol_fd_at ok hp)) (cwV 1 hts gX1_compare_X1_find rfl rfl rfl (by decide +kernel) ⟨Nat.le_of_ble_eq_true rfl, Nat.le_of_ble_eq_true rfl⟩) (ow_PreR hK hP (ci := 1) (q0 := 0) rfl rfl) rfl rfl hl.1 rfl (lv_room (Nat.le_of_ble_eq_true rfl)) dX1_compare_14 ⟨Nat.le_of_ble_eq_true rfl, Nat.le_of_ble_eq_true rfl⟩) ?_
    refine lv_istore_n (lv' := [(3, .int (nI p)), (0, .ref h), (1, .int x), (2, .int y)]) hx hb dX1_compare_17 rfl hl (by decide) rfl (fun ls hl => ?_)
    refine lv_aload_n hx hb dX1_compare_18 rfl (lv_at hl 1 rfl) ?_
    refine lv_iload_n hx hb dX1_compare_19 rfl (lv_at hl 3 rfl) ?_
    refine ow_callR (r := nI q) (W.runV (As := [.int y]) (rest := []) ⟨hx, hb, hml, hown, hts⟩ (c_M_find l dC dI h a b cA cB tt N L f as y (nI q) ok.2.1 hf (ol_fd_at ok hq)) (cwV 1 hts gX1_compare_X1_find rfl rfl rfl (by decide +kernel) ⟨Nat.le_of_ble_eq_true rfl, Nat.le_of_ble_eq_true rfl⟩) (ow_PreR hK hP (ci := 1) (q0 := 0) rfl rfl) rfl rfl hl.1 rfl (lv_room (Nat.le_of_ble_eq_true rfl)) dX1_compare_20 ⟨Nat.le_of_ble_eq_true rfl, Nat.le_of_ble_eq_true rfl⟩) ?_
    refine lv_istore (lv' := [(4, .int (nI q)), (3, .int (nI p)), (0, .ref h), (1, .int x), (2, .int y)]) hx hb dX1_compare_23 hl (by decide) rfl (fun ls hl => ?_)
    refine lv_iload_n hx hb dX1_compare_25 rfl (lv_at hl 1 rfl) ?_
    refine lv_iload hx hb dX1_compare_26 (lv_at hl 0 rfl) ?_
    refine lv_icmp_ge (tgt := 35) hx hb dX1_compare_28 (by decide) (fun c_28 => ?_) (fun c_28 => ?_)
    · have hc := ol_le (by omega) (by omega) c_28
      refine lv_iload_n hx hb dX1_compare_35 rfl (lv_at hl 1 rfl) ?_
      refine lv_iload hx hb dX1_compare_36 (lv_at hl 0 rfl) ?_
      refine lv_icmp_le (tgt := 45) hx hb dX1_compare_38 (by decide) (fun c_38 => ?_) (fun c_38 => ?_)
      · have hc2 := ol_le (by omega) (by omega) c_38
        have hr0 : r = 0 := by rw [hrc, show p = q by omega, ol_cmp_eq]
        refine lv_iconst (v := 0) hx hb dX1_compare_45 (by decide +kernel) ?_
        exact W.iret (v := 0) hx hb hr (fun t ht hW => ⟨⟨0, (tt, nI N, f, as), rfl, ⟨hr0.symm, rfl, by rw [hN0], by rw [hN0, hL0]; exact hf⟩, by rw [ht]; exact hP, hD⟩, hS.F ht⟩) hS.2.2 dX1_compare_46
      · have hc2 := ol_nle (by omega) (by omega) c_38
        have hr0 : r = 1 := by rw [hrc, ol_cmp_gt hc2]
        refine lv_iconst (v := 1) hx hb dX1_compare_41 (by decide +kernel) ?_
        refine lv_goto (tgt := 46) hx hb dX1_compare_42 (by decide) ?_
        exact W.iret (v := 1) hx hb hr (fun t ht hW => ⟨⟨1, (tt, nI N, f, as), rfl, ⟨hr0.symm, rfl, by rw [hN0], by rw [hN0, hL0]; exact hf⟩, by rw [ht]; exact hP, hD⟩, hS.F ht⟩) hS.2.2 dX1_compare_46
    · have hc := ol_nle (by omega) (by omega) c_28
      have hr0 : r = -1 := by rw [hrc, ol_cmp_lt hc]
      refine lv_iconst (v := (-1)) hx hb dX1_compare_31 (by decide +kernel) ?_
      refine lv_goto (tgt := 46) hx hb dX1_compare_32 (by decide) ?_
      exact W.iret (v := ((-1))) hx hb hr (fun t ht hW => ⟨⟨((-1)), (tt, nI N, f, as), rfl, ⟨hr0.symm, rfl, by rw [hN0], by rw [hN0, hL0]; exact hf⟩, by rw [ht]; exact hP, hD⟩, hS.F ht⟩) hS.2.2 dX1_compare_46
  · obtain ⟨hr0, hN0, hL0⟩ : r = 0 ∧ N' = N ∧ L' = L := by
      rcases hsp with ⟨_, _, e9⟩ | ⟨e9, _⟩
      · exact e9
      · exact absurd e9 c_7
    refine lv_iconst (v := 0) hx hb dX1_compare_10 (by decide +kernel) ?_
    exact W.iret (v := 0) hx hb hr (fun t ht hW => ⟨⟨0, (tt, nI N, f, as), rfl, ⟨hr0.symm, rfl, by rw [hN0], by rw [hN0, hL0]; exact hf⟩, by rw [ht]; exact hP, hD⟩, hS.F ht⟩) hS.2.2 dX1_compare_11
set_option maxHeartbeats 4000000 in
set_option maxRecDepth 100000 in
/-- next(x, z) -/
theorem c_M_next (l : Launch) (dC : Nat → ClassId) (dI : Nat → Nat → Nat) (h a b : Nat) (cA cB : ClassId) (th : Int32) (N : Nat) (L : Nat → Nat) (f as : Nat → Int32) (tt r : Int32) (N' : Nat) (L' : Nat → Nat) (sz : Nat) (ok : ol_ok N L) (hf : ol_f N L f) (x z : Int32) (hsp : (ol_no N L x ∧ tt = 1 ∧ r = 0 ∧ N' = N ∧ L' = L) ∨ (tt = 0 ∧ ∃ p, ol_at N L x p ∧ ol_ps N L (if z = 0 then nI p - 1 else nI p + 1) r ∧ N' = N ∧ L' = L)) : Met l yX1_next wsX1_next ({ frames := 2, cells := 0, slots := 0, locals := 45 }) (ow_Pc (dC, dI) vwCl [(cA, .int), (cB, .int)] (wM h a b cA cB (th, nI N, f, as)) sz [.ref h, .int x, .int z]) (va_Qi (fun (r' : Int32) (u : Int32 × Int32 × (Nat → Int32) × (Nat → Int32)) => r' = r ∧ u.1 = tt ∧ u.2.1 = nI N' ∧ ol_f N' L' u.2.2.1) (ow_B (dC, dI) vwCl (wM h a b cA cB) (va_A (wM h a b cA cB (th, nI N, f, as)) sz)) (va_A (wM h a b cA cB (th, nI N, f, as)) sz)) 0 0 (va_A (wM h a b cA cB (th, nI N, f, as)) sz) := by
  refine Met.ofW (cc := cX1_next) (maxL := 4) (ret := (some .int)) (by decide) rfl ?_
  intro pg ev s m args below meth cd s₁ B hml hv
  obtain ⟨rfl, hsz, hP, hK, hD0⟩ := hv
  have hx := B.exec
  have hb := B.bytes
  have hr := B.returns
  have hts := atoms_spec (ws := wsX1_next) B.pre
  have hown : s.vm.findClass RX1 = some m.cls := findClass_of_methodNamed B.named
  have hlocks := B.notSynchronized
  subst hsz
  have hD := hD0.self (sz := s.heap.size)
  generalize hAe : va_A (wM h a b cA cB (th, nI N, f, as)) s.heap.size = A at hD ⊢
  have hA : ∀ q : Nat, s.heap.size ≤ q → A q := fun q h => by rw [← hAe]; exact Or.inr h
  have hS : va_S A s.heap s.heap [] := va_S.rf
  have hD : va_D A [(h, .inr (1, [.int th, .ref a, .int (nI N), .ref b])), (a, .inl (cA, 1000, .inl f)), (b, .inl (cB, 1000, .inl as))] := hD
  have hP : va_P (dC, dI) vwCl [(h, .inr (1, [.int th, .ref a, .int (nI N), .ref b])), (a, .inl (cA, 1000, .inl f)), (b, .inl (cB, 1000, .inl as))] s.heap := hP
  have hl := lv_entry ([.ref h, .int x, .int z]) (n := 4) (Nat.le_of_ble_eq_true rfl)
  rw [lg_entry_eq]
  generalize (lg_sl ([.ref h, .int x, .int z]) ++ List.replicate (4 - (lg_sl ([.ref h, .int x, .int z])).length) Slot.unset).toArray = ls at hl ⊢
  have hl : lv_has ls 4 [(0, .ref h), (1, .int x), (2, .int z)] := hl
  have hlc : ol_lc N L x 0 0 tt := by
    rcases hsp with ⟨h1, h2, _⟩ | ⟨h2, p, h1, _⟩
    · rw [h2]; exact ol_lc_no (Or.inl h1)
    · rw [h2]; exact ol_lc_at h1 (ol_at0 ok) (ol_at0 ok)
  refine lv_aload_n hx hb dX1_next_0 rfl (lv_at hl 0 rfl) ?_
  refine lv_iload_n hx hb dX1_next_1 rfl (lv_at hl 1 rfl) ?_
  refine lv_iconst (v := 0) hx hb dX1_next_2 (by decide +kernel) ?_
  refine lv_iconst (v := 0) hx hb dX1_next_3 (by decide +kernel) ?_
  refine ow_calli (wr := []) (va_runV (As := [.int x, .int 0, .int 0]) (rest := []) ⟨hx, hb, hml, hown, hts⟩ (c_M_lacks l dC dI h a b cA cB th N L f as x 0 0 tt _ ok hf hlc) (cwV 3 hts gX1_next_X1_lacks rfl rfl rfl (by decide +kernel) ⟨Nat.le_of_ble_eq_true rfl, Nat.le_of_ble_eq_true rfl⟩) (ow_PreV hK hP hD (ci := 1) (q0 := 0) rfl rfl) rfl rfl hl.1 rfl (lv_room (Nat.le_of_ble_eq_true rfl)) dX1_next_4 ⟨Nat.le_of_ble_eq_true rfl, Nat.le_of_ble_eq_true rfl⟩) hP hD hS hA [0, 1, 2] [] rfl rfl (by decide) (by decide) (fun r0 u H locs hw hP hD hS => ?_)
  obtain ⟨er, eu⟩ := hw
  subst eu
  refine ow_top (z := tt) er ?_
  have hP : va_P (dC, dI) vwCl [(h, .inr (1, [.int tt, .ref a, .int (nI N), .ref b])), (a, .inl (cA, 1000, .inl f)), (b, .inl (cB, 1000, .inl as))] H := hP
  have hD : va_D A [(h, .inr (1, [.int tt, .ref a, .int (nI N), .ref b])), (a, .inl (cA, 1000, .inl f)), (b, .inl (cB, 1000, .inl as))] := hD
  refine lv_if_eq (tgt := 12) hx hb dX1_next_7 (by decide) (fun c_7 => ?_) (fun c_7 => ?_)
  · have hs : ∃ p, ol_at N L x p ∧ ol_ps N L (if z = 0 then nI p - 1 else nI p + 1) r ∧ N' = N ∧ L' = L := by
      rcases hsp with ⟨_, e9, _⟩ | ⟨_, h9⟩
      · exact absurd (e9.symm.trans c_7) (by decide)
      · exact h9
    obtain ⟨p, hp, hps, hN0, hL0⟩ := hs
    have hpN : p < N := hp.1
    have hN : N ≤ 1000 := ok.2.1
    refine lv_aload_n hx hb dX1_next_12 rfl (lv_at hl 0 rfl) ?_
    refine lv_iload_n hx hb dX1_next_13 rfl (lv_at hl 1 rfl) ?_
    refine ow_callR (r := nI p) (W.runV (As := [.int x]) (rest := []) ⟨hx, hb, hml, hown, hts⟩ (c_M_find l dC dI h a b cA cB tt N L f as x (nI p) ok.2.1 hf (ol_fd_at ok hp)) (cwV 1 hts gX1_next_X1_find rfl rfl rfl (by decide +kernel) ⟨Nat.le_of_ble_eq_true rfl, Nat.le_of_ble_eq_true rfl⟩) (ow_PreR hK hP (ci := 1) (q0 := 0) rfl rfl) rfl rfl hl.1 rfl (lv_room (Nat.le_of_ble_eq_true rfl)) dX1_next_14 ⟨Nat.le_of_ble_eq_true rfl, Nat.le_of_ble_eq_true rfl⟩) ?_
    refine lv_iload_n hx hb dX1_next_17 rfl (lv_at hl 2 rfl) ?_
    refine lv_if_eq (tgt := 25) hx hb dX1_next_18 (by decide) (fun c_18 => ?_) (fun c_18 => ?_)
    · rw [if_pos c_18] at hps
      refine lv_iconst (v := (-1)) hx hb dX1_next_25 (by decide +kernel) ?_
      refine lv_iadd hx hb dX1_next_26 ?_
      refine ow_top (z := nI p - 1) (ol_addm1 p) ?_
      refine lv_istore_n (lv' := [(3, .int (nI p - 1)), (0, .ref h), (1, .int x), (2, .int z)]) hx hb dX1_next_27 rfl hl (by decide) rfl (fun ls hl => ?_)
      refine lv_iload_n hx hb dX1_next_28 rfl (lv_at hl 0 rfl) ?_
      refine lv_if_lt (tgt := 40) hx hb dX1_next_29 (by decide) (fun c_29 => ?_) (fun c_29 => ?_)
      · have hr0 : r = -1 := hps.2 (fun q9 hq9 e9 => nI_pos (by omega) (e9 ▸ c_29))
        refine lv_iconst (v := (-1)) hx hb dX1_next_40 (by decide +kernel) ?_
        refine lv_goto (tgt := 50) hx hb dX1_next_41 (by decide) ?_
        exact W.iret (v := ((-1))) hx hb hr (fun t ht hW => ⟨⟨((-1)), (tt, nI N, f, as), rfl, ⟨hr0.symm, rfl, by rw [hN0], by rw [hN0, hL0]; exact hf⟩, by rw [ht]; exact hP, hD⟩, hS.F ht⟩) hS.2.2 dX1_next_50
      · obtain ⟨j, hjlt, hj⟩ := nI_of c_29
        refine lv_iload_n hx hb dX1_next_32 rfl (lv_at hl 0 rfl) ?_
        refine lv_aload_n hx hb dX1_next_33 rfl (lv_at hl 1 rfl) ?_
        refine va_get (D := (dC, dI)) (ci := 1) (v := .int (nI N)) (C := RX1) (T := TX1) (N := 4) hx hb hts (by decide +kernel) hown hK hP 0 rfl rfl 2 (by decide) (hts (.fieldLink RX1 13 "OrderLineModel" "many" "I") (by decide +kernel)) (fun _ h9 => h9) rfl dX1_next_34 ?_
        refine lv_icmp_lt (tgt := 44) hx hb dX1_next_37 (by decide) (fun c_37 => ?_) (fun c_37 => ?_)
        · have hc := ol_lt hjlt (by omega) (hj ▸ c_37)
          have hr0 : r = nI (L j) := hps.1 j hc hj
          refine lv_aload_n hx hb dX1_next_44 rfl (lv_at hl 1 rfl) ?_
          refine va_get (D := (dC, dI)) (ci := 1) (v := .ref a) (C := RX1) (T := TX1) (N := 4) hx hb hts (by decide +kernel) hown hK hP 0 rfl rfl 1 (by decide) (hts (.fieldLink RX1 7 "OrderLineModel" "line" "[I") (by decide +kernel)) (fun _ h9 => h9) rfl dX1_next_45 ?_
          refine lv_iload_n hx hb dX1_next_48 rfl (lv_at hl 0 rfl) ?_
          refine ow_top (z := nI j) hj ?_
          refine ow_iald (k := j) (v := nI (L j)) hx hb hK hP 1 0 rfl rfl (by omega) (by decide) (hf j hc) dX1_next_49 ?_
          exact W.iret (v := (nI (L j))) hx hb hr (fun t ht hW => ⟨⟨(nI (L j)), (tt, nI N, f, as), rfl, ⟨hr0.symm, rfl, by rw [hN0], by rw [hN0, hL0]; exact hf⟩, by rw [ht]; exact hP, hD⟩, hS.F ht⟩) hS.2.2 dX1_next_50
        · have hc := ol_nlt hjlt (by omega) (hj ▸ c_37)
          have hr0 : r = -1 := hps.2 (fun q9 hq9 e9 => by have := ol_eq hjlt (by omega) (hj.symm.trans e9); omega)
          refine lv_iconst (v := (-1)) hx hb dX1_next_40 (by decide +kernel) ?_
          refine lv_goto (tgt := 50) hx hb dX1_next_41 (by decide) ?_
          exact W.iret (v := ((-1))) hx hb hr (fun t ht hW => ⟨⟨((-1)), (tt, nI N, f, as), rfl, ⟨hr0.symm, rfl, by rw [hN0], by rw [hN0, hL0]; exact hf⟩, by rw [ht]; exact hP, hD⟩, hS.F ht⟩) hS.2.2 dX1_next_50
    · rw [if_neg c_18] at hps
      refine lv_iconst (v := 1) hx hb dX1_next_21 (by decide +kernel) ?_
      refine lv_goto (tgt := 26) hx hb dX1_next_22 (by decide) ?_
      refine lv_iadd hx hb dX1_next_26 ?_
      refine ow_top (z := nI (p + 1)) (nI_1 p) ?_
      rw [nI_1] at hps
      have hk : nI (p + 1) = nI (p + 1) := rfl
      refine lv_istore_n (lv' := [(3, .int (nI (p + 1))), (0, .ref h), (1, .int x), (2, .int z)]) hx hb dX1_next_27 rfl hl (by decide) rfl (fun ls hl => ?_)
      refine lv_iload_n hx hb dX1_next_28 rfl (lv_at hl 0 rfl) ?_
      refine lv_if_lt (tgt := 40) hx hb dX1_next_29 (by decide) (fun c_29 => absurd c_29 (nI_pos (by omega))) (fun c_29 => ?_)
      obtain ⟨j, hj, hjlt⟩ : ∃ j, nI (p + 1) = nI j ∧ j < 2 ^ 31 := ⟨p + 1, rfl, by omega⟩
      refine lv_iload_n hx hb dX1_next_32 rfl (lv_at hl 0 rfl) ?_
      refine lv_aload_n hx hb dX1_next_33 rfl (lv_at hl 1 rfl) ?_
      refine va_get (D := (dC, dI)) (ci := 1) (v := .int (nI N)) (C := RX1) (T := TX1) (N := 4) hx hb hts (by decide +kernel) hown hK hP 0 rfl rfl 2 (by decide) (hts (.fieldLink RX1 13 "OrderLineModel" "many" "I") (by decide +kernel)) (fun _ h9 => h9) rfl dX1_next_34 ?_
      refine lv_icmp_lt (tgt := 44) hx hb dX1_next_37 (by decide) (fun c_37 => ?_) (fun c_37 => ?_)
      · have hc := ol_lt hjlt (by omega) (hj ▸ c_37)
        have hr0 : r = nI (L j) := hps.1 j hc hj
        refine lv_aload_n hx hb dX1_next_44 rfl (lv_at hl 1 rfl) ?_
        refine va_get (D := (dC, dI)) (ci := 1) (v := .ref a) (C := RX1) (T := TX1) (N := 4) hx hb hts (by decide +kernel) hown hK hP 0 rfl rfl 1 (by decide) (hts (.fieldLink RX1 7 "OrderLineModel" "line" "[I") (by decide +kernel)) (fun _ h9 => h9) rfl dX1_next_45 ?_
        refine lv_iload_n hx hb dX1_next_48 rfl (lv_at hl 0 rfl) ?_
        refine ow_top (z := nI j) hj ?_
        refine ow_iald (k := j) (v := nI (L j)) hx hb hK hP 1 0 rfl rfl (by omega) (by decide) (hf j hc) dX1_next_49 ?_
        exact W.iret (v := (nI (L j))) hx hb hr (fun t ht hW => ⟨⟨(nI (L j)), (tt, nI N, f, as), rfl, ⟨hr0.symm, rfl, by rw [hN0], by rw [hN0, hL0]; exact hf⟩, by rw [ht]; exact hP, hD⟩, hS.F ht⟩) hS.2.2 dX1_next_50
      · have hc := ol_nlt hjlt (by omega) (hj ▸ c_37)
        have hr0 : r = -1 := hps.2 (fun q9 hq9 e9 => by have := ol_eq hjlt (by omega) (hj.symm.trans e9); omega)
        refine lv_iconst (v := (-1)) hx hb dX1_next_40 (by decide +kernel) ?_
        refine lv_goto (tgt := 50) hx hb dX1_next_41 (by decide) ?_
        exact W.iret (v := ((-1))) hx hb hr (fun t ht hW => ⟨⟨((-1)), (tt, nI N, f, as), rfl, ⟨hr0.symm, rfl, by rw [hN0], by rw [hN0, hL0]; exact hf⟩, by rw [ht]; exact hP, hD⟩, hS.F ht⟩) hS.2.2 dX1_next_50
  · obtain ⟨hr0, hN0, hL0⟩ : r = 0 ∧ N' = N ∧ L' = L := by
      rcases hsp with ⟨_, _, e9⟩ | ⟨e9, _⟩
      · exact e9
      · exact absurd e9 c_7
    refine lv_iconst (v := 0) hx hb dX1_next_10 (by decide +kernel) ?_
    exact W.iret (v := 0) hx hb hr (fun t ht hW => ⟨⟨0, (tt, nI N, f, as), rfl, ⟨hr0.symm, rfl, by rw [hN0], by rw [hN0, hL0]; exact hf⟩, by rw [ht]; exact hP, hD⟩, hS.F ht⟩) hS.2.2 dX1_next_11
set_option maxHeartbeats 4000000 in
set_option maxRecDepth 100000 in
/-- remove(x) -/
theorem c_M_remove (l : Launch) (dC : Nat → ClassId) (dI : Nat → Nat → Nat) (h a b : Nat) (cA cB : ClassId) (th : Int32) (N : Nat) (L : Nat → Nat) (f as : Nat → Int32) (r : Int32) (N' : Nat) (L' : Nat → Nat) (sz : Nat) (ok : ol_ok N L) (hf : ol_f N L f) (x : Int32) (hsp : sp_rm N L x r N' L') : Met l yX1_remove wsX1_remove ({ frames := 1, cells := 0, slots := 0, locals := 22 }) (ow_Pc (dC, dI) vwCl [(cA, .int), (cB, .int)] (wM h a b cA cB (th, nI N, f, as)) sz [.ref h, .int x]) (va_Qi (fun (r' : Int32) (u : Int32 × Int32 × (Nat → Int32) × (Nat → Int32)) => r' = r ∧ u.1 = 0 ∧ u.2.1 = nI N' ∧ ol_f N' L' u.2.2.1) (ow_B (dC, dI) vwCl (wM h a b cA cB) (va_A (wM h a b cA cB (th, nI N, f, as)) sz)) (va_A (wM h a b cA cB (th, nI N, f, as)) sz)) 0 0 (va_A (wM h a b cA cB (th, nI N, f, as)) sz) := by
  refine Met.ofW (cc := cX1_remove) (maxL := 3) (ret := (some .boolean)) (by decide) rfl ?_
  intro pg ev s m args below meth cd s₁ B hml hv
  obtain ⟨rfl, hsz, hP, hK, hD0⟩ := hv
  have hx := B.exec
  have hb := B.bytes
  have hr := B.returns
  have hts := atoms_spec (ws := wsX1_remove) B.pre
  have hown : s.vm.findClass RX1 = some m.cls := findClass_of_methodNamed B.named
  have hlocks := B.notSynchronized
  subst hsz
  have hD := hD0.self (sz := s.heap.size)
  generalize hAe : va_A (wM h a b cA cB (th, nI N, f, as)) s.heap.size = A at hD ⊢
  have hA : ∀ q : Nat, s.heap.size ≤ q → A q := fun q h => by rw [← hAe]; exact Or.inr h
  have hS : va_S A s.heap s.heap [] := va_S.rf
  have hD : va_D A [(h, .inr (1, [.int th, .ref a, .int (nI N), .ref b])), (a, .inl (cA, 1000, .inl f)), (b, .inl (cB, 1000, .inl as))] := hD
  have hP : va_P (dC, dI) vwCl [(h, .inr (1, [.int th, .ref a, .int (nI N), .ref b])), (a, .inl (cA, 1000, .inl f)), (b, .inl (cB, 1000, .inl as))] s.heap := hP
  have hl := lv_entry ([.ref h, .int x]) (n := 3) (Nat.le_of_ble_eq_true rfl)
  rw [lg_entry_eq]
  generalize (lg_sl ([.ref h, .int x]) ++ List.replicate (3 - (lg_sl ([.ref h, .int x])).length) Slot.unset).toArray = ls at hl ⊢
  have hl : lv_has ls 3 [(0, .ref h), (1, .int x)] := hl
  have hN := ok.2.1
  refine lv_aload_n hx hb dX1_remove_0 rfl (lv_at hl 0 rfl) ?_
  refine lv_iconst (v := 0) hx hb dX1_remove_1 (by decide +kernel) ?_
  refine va_put (D := (dC, dI)) (ci := 1) (v := .int 0) (ty := (.int)) (C := RX1) (T := TX1) (N := 4) hx hb hts (by decide +kernel) tyX1 tyX1_ok nmX1 hown hK hP hD hS 0 rfl rfl 0 (by decide) (hts (.fieldLink RX1 20 "OrderLineModel" "thrown" "I") (by decide +kernel)) (fun _ h9 => h9) rfl (by decide +kernel) rfl rfl (Nat.le_of_ble_eq_true rfl) dX1_remove_2 (fun H locs hP hD hS => ?_)
  have hP : va_P (dC, dI) vwCl [(h, .inr (1, [.int 0, .ref a, .int (nI N), .ref b])), (a, .inl (cA, 1000, .inl f)), (b, .inl (cB, 1000, .inl as))] H := hP
  have hD : va_D A [(h, .inr (1, [.int 0, .ref a, .int (nI N), .ref b])), (a, .inl (cA, 1000, .inl f)), (b, .inl (cB, 1000, .inl as))] := hD
  refine lv_aload_n hx hb dX1_remove_5 rfl (lv_at hl 0 rfl) ?_
  refine lv_iload_n hx hb dX1_remove_6 rfl (lv_at hl 1 rfl) ?_
  obtain ⟨r1, hfd1, hc1⟩ := ol_fd_ex ok x
  refine ow_callR (r := r1) (W.runV (As := [.int x]) (rest := []) ⟨hx, hb, hml, hown, hts⟩ (c_M_find l dC dI h a b cA cB 0 N L f as x r1 ok.2.1 hf hfd1) (cwV 1 hts gX1_remove_X1_find rfl rfl rfl (by decide +kernel) ⟨Nat.le_of_ble_eq_true rfl, Nat.le_of_ble_eq_true rfl⟩) (ow_PreR hK hP (ci := 1) (q0 := 0) rfl rfl) rfl rfl hl.1 rfl (lv_room (Nat.le_of_ble_eq_true rfl)) dX1_remove_7 ⟨Nat.le_of_ble_eq_true rfl, Nat.le_of_ble_eq_true rfl⟩) ?_
  refine lv_istore_n (lv' := [(2, .int r1), (0, .ref h), (1, .int x)]) hx hb dX1_remove_10 rfl hl (by decide) rfl (fun ls hl => ?_)
  refine lv_iload_n hx hb dX1_remove_11 rfl (lv_at hl 0 rfl) ?_
  refine lv_iconst (v := 1) hx hb dX1_remove_12 (by decide +kernel) ?_
  refine lv_icmp_ge (tgt := 18) hx hb dX1_remove_13 (by decide) (fun c_13 => ?_) (fun c_13 => ?_)
  · obtain ⟨p, hp, hp1, hr1, hr0, hN0, hL0⟩ : ∃ p, ol_at N L x p ∧ 1 ≤ p ∧ r1 = nI p ∧ r = 1 ∧ N' = N - 1 ∧ L' = ol_rem L p 1 := by
      rcases hc1 with ⟨p, hp, e9⟩ | ⟨_, e9⟩
      · have hpN := hp.1
        have h9 : 1 ≤ p := ol_le (by omega) (by omega) (show nI 1 ≤ nI p from e9 ▸ c_13)
        rcases hsp with ⟨q, hq, h1, h2⟩ | ⟨h1 | h1, _⟩
        · exact ⟨p, hp, h9, e9, by rw [ol_at_un ok hp hq]; exact h2⟩
        · exact (ol_at_no hp h1).elim
        · have := ol_at_un ok hp h1; omega
      · exact absurd c_13 (by rw [e9]; decide)
    have hpN := hp.1
    refine lv_aload_n hx hb dX1_remove_18 rfl (lv_at hl 1 rfl) ?_
    refine lv_iload_n hx hb dX1_remove_19 rfl (lv_at hl 0 rfl) ?_
    refine ow_top (z := nI p) hr1 ?_
    refine ow_callv (wr := []) (va_runV (As := [.int (nI p)]) (rest := []) ⟨hx, hb, hml, hown, hts⟩ (c_M_drop l dC dI h a b cA cB 0 N L f as p _ hf hN hpN) (cwV 1 hts gX1_remove_X1_drop rfl rfl rfl (by decide +kernel) ⟨Nat.le_of_ble_eq_true rfl, Nat.le_of_ble_eq_true rfl⟩) (ow_PreV hK hP hD (ci := 1) (q0 := 0) rfl rfl) rfl rfl hl.1 rfl (lv_room (Nat.le_of_ble_eq_true rfl)) dX1_remove_20 ⟨Nat.le_of_ble_eq_true rfl, Nat.le_of_ble_eq_true rfl⟩) hP hD hS hA [0, 1, 2] [] rfl rfl (by decide) (by decide) (fun u H locs hw hP hD hS => ?_)
    obtain ⟨u1, u2, u3, u4⟩ := u
    obtain ⟨e1, e2, hf2, e4⟩ := hw
    obtain rfl : 0 = u1 := e1.symm
    obtain rfl : nI (N - 1) = u2 := e2.symm
    obtain rfl : as = u4 := e4.symm
    have hP : va_P (dC, dI) vwCl [(h, .inr (1, [.int 0, .ref a, .int (nI (N - 1)), .ref b])), (a, .inl (cA, 1000, .inl u3)), (b, .inl (cB, 1000, .inl as))] H := hP
    have hD : va_D A [(h, .inr (1, [.int 0, .ref a, .int (nI (N - 1)), .ref b])), (a, .inl (cA, 1000, .inl u3)), (b, .inl (cB, 1000, .inl as))] := hD
    refine lv_iconst (v := 1) hx hb dX1_remove_23 (by decide +kernel) ?_
    exact W.zret (v := 1) hx hb hr narrow_b1 (fun t ht hW => ⟨⟨1, (0, nI (N - 1), u3, as), rfl, ⟨hr0.symm, rfl, by rw [hN0], by rw [hN0, hL0]; exact hf2⟩, by rw [ht]; exact hP, hD⟩, hS.F ht⟩) hS.2.2 dX1_remove_24
  · obtain ⟨hr0, hN0, hL0⟩ : r = 0 ∧ N' = N ∧ L' = L := by
      rcases hsp with ⟨q, hq, h1, _⟩ | ⟨_, h2⟩
      · have hqN := hq.1
        exact absurd (show nI 1 ≤ r1 by rw [hfd1.1 q hq]; exact nI_le h1 (by omega)) c_13
      · exact h2
    refine lv_iconst (v := 0) hx hb dX1_remove_16 (by decide +kernel) ?_
    exact W.zret (v := 0) hx hb hr narrow_b0 (fun t ht hW => ⟨⟨0, (0, nI N, f, as), rfl, ⟨hr0.symm, rfl, by rw [hN0], by rw [hN0, hL0]; exact hf⟩, by rw [ht]; exact hP, hD⟩, hS.F ht⟩) hS.2.2 dX1_remove_17
set_option maxHeartbeats 4000000 in
set_option maxRecDepth 100000 in
/-- wipe() -/
theorem c_M_wipe (l : Launch) (dC : Nat → ClassId) (dI : Nat → Nat → Nat) (h a b : Nat) (cA cB : ClassId) (th : Int32) (N : Nat) (L : Nat → Nat) (f as : Nat → Int32) (sz : Nat) (ok : ol_ok N L) (hf : ol_f N L f) : Met l yX1_wipe wsX1_wipe ({ frames := 0, cells := 0, slots := 0, locals := 0 }) (ow_Pc (dC, dI) vwCl [(cA, .int), (cB, .int)] (wM h a b cA cB (th, nI N, f, as)) sz [.ref h]) (va_Qv (fun u : Int32 × Int32 × (Nat → Int32) × (Nat → Int32) => u.1 = 0 ∧ u.2.1 = nI 1 ∧ ol_f 1 L u.2.2.1) (ow_B (dC, dI) vwCl (wM h a b cA cB) (va_A (wM h a b cA cB (th, nI N, f, as)) sz)) (va_A (wM h a b cA cB (th, nI N, f, as)) sz)) 0 0 (va_A (wM h a b cA cB (th, nI N, f, as)) sz) := by
  refine Met.ofW (cc := cX1_wipe) (maxL := 1) (ret := none) (by decide) rfl ?_
  intro pg ev s m args below meth cd s₁ B hml hv
  obtain ⟨rfl, hsz, hP, hK, hD0⟩ := hv
  have hx := B.exec
  have hb := B.bytes
  have hr := B.returns
  have hts := atoms_spec (ws := wsX1_wipe) B.pre
  have hown : s.vm.findClass RX1 = some m.cls := findClass_of_methodNamed B.named
  have hlocks := B.notSynchronized
  subst hsz
  have hD := hD0.self (sz := s.heap.size)
  generalize hAe : va_A (wM h a b cA cB (th, nI N, f, as)) s.heap.size = A at hD ⊢
  have hA : ∀ q : Nat, s.heap.size ≤ q → A q := fun q h => by rw [← hAe]; exact Or.inr h
  have hS : va_S A s.heap s.heap [] := va_S.rf
  have hD : va_D A [(h, .inr (1, [.int th, .ref a, .int (nI N), .ref b])), (a, .inl (cA, 1000, .inl f)), (b, .inl (cB, 1000, .inl as))] := hD
  have hP : va_P (dC, dI) vwCl [(h, .inr (1, [.int th, .ref a, .int (nI N), .ref b])), (a, .inl (cA, 1000, .inl f)), (b, .inl (cB, 1000, .inl as))] s.heap := hP
  have hl := lv_entry ([.ref h]) (n := 1) (Nat.le_of_ble_eq_true rfl)
  rw [lg_entry_eq]
  generalize (lg_sl ([.ref h]) ++ List.replicate (1 - (lg_sl ([.ref h])).length) Slot.unset).toArray = ls at hl ⊢
  have hl : lv_has ls 1 [(0, .ref h)] := hl
  refine lv_aload_n hx hb dX1_wipe_0 rfl (lv_at hl 0 rfl) ?_
  refine lv_iconst (v := 0) hx hb dX1_wipe_1 (by decide +kernel) ?_
  refine va_put (D := (dC, dI)) (ci := 1) (v := .int 0) (ty := (.int)) (C := RX1) (T := TX1) (N := 4) hx hb hts (by decide +kernel) tyX1 tyX1_ok nmX1 hown hK hP hD hS 0 rfl rfl 0 (by decide) (hts (.fieldLink RX1 20 "OrderLineModel" "thrown" "I") (by decide +kernel)) (fun _ h9 => h9) rfl (by decide +kernel) rfl rfl (Nat.le_of_ble_eq_true rfl) dX1_wipe_2 (fun H locs hP hD hS => ?_)
  have hP : va_P (dC, dI) vwCl [(h, .inr (1, [.int 0, .ref a, .int (nI N), .ref b])), (a, .inl (cA, 1000, .inl f)), (b, .inl (cB, 1000, .inl as))] H := hP
  have hD : va_D A [(h, .inr (1, [.int 0, .ref a, .int (nI N), .ref b])), (a, .inl (cA, 1000, .inl f)), (b, .inl (cB, 1000, .inl as))] := hD
  refine lv_aload_n hx hb dX1_wipe_5 rfl (lv_at hl 0 rfl) ?_
  refine lv_iconst (v := nI 1) hx hb dX1_wipe_6 (by decide +kernel) ?_
  refine va_put (D := (dC, dI)) (ci := 1) (v := .int (nI 1)) (ty := (.int)) (C := RX1) (T := TX1) (N := 4) hx hb hts (by decide +kernel) tyX1 tyX1_ok nmX1 hown hK hP hD hS 0 rfl rfl 2 (by decide) (hts (.fieldLink RX1 13 "OrderLineModel" "many" "I") (by decide +kernel)) (fun _ h9 => h9) rfl (by decide +kernel) rfl rfl (Nat.le_of_ble_eq_true rfl) dX1_wipe_7 (fun H locs hP hD hS => ?_)
  have hP : va_P (dC, dI) vwCl [(h, .inr (1, [.int 0, .ref a, .int (nI 1), .ref b])), (a, .inl (cA, 1000, .inl f)), (b, .inl (cB, 1000, .inl as))] H := hP
  have hD : va_D A [(h, .inr (1, [.int 0, .ref a, .int (nI 1), .ref b])), (a, .inl (cA, 1000, .inl f)), (b, .inl (cB, 1000, .inl as))] := hD
  refine lv_aload_n hx hb dX1_wipe_10 rfl (lv_at hl 0 rfl) ?_
  refine va_get (D := (dC, dI)) (ci := 1) (v := .ref a) (C := RX1) (T := TX1) (N := 4) hx hb hts (by decide +kernel) hown hK hP 0 rfl rfl 1 (by decide) (hts (.fieldLink RX1 7 "OrderLineModel" "line" "[I") (by decide +kernel)) (fun _ h9 => h9) rfl dX1_wipe_11 ?_
  refine lv_iconst (v := nI 0) hx hb dX1_wipe_14 (by decide +kernel) ?_
  refine lv_iconst (v := nI 0) hx hb dX1_wipe_15 (by decide +kernel) ?_
  refine ow_iast (k := 0) hx hb hK hP hD hS 1 0 rfl rfl (by decide) (by decide) dX1_wipe_16 (fun H locs hP hD hS => ?_)
  have hP : va_P (dC, dI) vwCl [(h, .inr (1, [.int 0, .ref a, .int (nI 1), .ref b])), (a, .inl (cA, 1000, .inl (upd f 0 ((nI 0))))), (b, .inl (cB, 1000, .inl as))] H := hP
  have hD : va_D A [(h, .inr (1, [.int 0, .ref a, .int (nI 1), .ref b])), (a, .inl (cA, 1000, .inl (upd f 0 ((nI 0))))), (b, .inl (cB, 1000, .inl as))] := hD
  have hpost : ol_f 1 L (upd f 0 (nI 0)) := fun p hp => by rw [show p = 0 by omega, ok.2.2.1]; exact pk_us
  exact W.vret hx hb hr (fun t ht hW => ⟨⟨(0, nI 1, upd f 0 (nI 0), as), rfl, ⟨rfl, rfl, hpost⟩, by rw [ht]; exact hP, hD⟩, hS.F ht⟩) hS.2.2 dX1_wipe_17
set_option maxHeartbeats 4000000 in
set_option maxRecDepth 100000 in
/-- look(x) -/
theorem c_M_look (l : Launch) (dC : Nat → ClassId) (dI : Nat → Nat → Nat) (h a b : Nat) (cA cB : ClassId) (th : Int32) (N : Nat) (L : Nat → Nat) (f as : Nat → Int32) (sz : Nat) (ok : ol_ok N L) (hf : ol_f N L f) (x : Int32) : Met l yX1_look wsX1_look ({ frames := 2, cells := 0, slots := 0, locals := 43 }) (ow_Pc (dC, dI) vwCl [(cA, .int), (cB, .int)] (wM h a b cA cB (th, nI N, f, as)) sz [.ref h, .int x]) (va_Qi (fun (r' : Int32) (u : Int32 × Int32 × (Nat → Int32) × (Nat → Int32)) => r' = ol_lk N L x ∧ u = (0, nI N, f, as)) (ow_B (dC, dI) vwCl (wM h a b cA cB) (va_A (wM h a b cA cB (th, nI N, f, as)) sz)) (va_A (wM h a b cA cB (th, nI N, f, as)) sz)) 0 0 (va_A (wM h a b cA cB (th, nI N, f, as)) sz) := by
  refine Met.ofW (cc := cX1_look) (maxL := 2) (ret := (some .int)) (by decide) rfl ?_
  intro pg ev s m args below meth cd s₁ B hml hv
  obtain ⟨rfl, hsz, hP, hK, hD0⟩ := hv
  have hx := B.exec
  have hb := B.bytes
  have hr := B.returns
  have hts := atoms_spec (ws := wsX1_look) B.pre
  have hown : s.vm.findClass RX1 = some m.cls := findClass_of_methodNamed B.named
  have hlocks := B.notSynchronized
  subst hsz
  have hD := hD0.self (sz := s.heap.size)
  generalize hAe : va_A (wM h a b cA cB (th, nI N, f, as)) s.heap.size = A at hD ⊢
  have hA : ∀ q : Nat, s.heap.size ≤ q → A q := fun q h => by rw [← hAe]; exact Or.inr h
  have hS : va_S A s.heap s.heap [] := va_S.rf
  have hD : va_D A [(h, .inr (1, [.int th, .ref a, .int (nI N), .ref b])), (a, .inl (cA, 1000, .inl f)), (b, .inl (cB, 1000, .inl as))] := hD
  have hP : va_P (dC, dI) vwCl [(h, .inr (1, [.int th, .ref a, .int (nI N), .ref b])), (a, .inl (cA, 1000, .inl f)), (b, .inl (cB, 1000, .inl as))] s.heap := hP
  have hl := lv_entry ([.ref h, .int x]) (n := 2) (Nat.le_of_ble_eq_true rfl)
  rw [lg_entry_eq]
  generalize (lg_sl ([.ref h, .int x]) ++ List.replicate (2 - (lg_sl ([.ref h, .int x])).length) Slot.unset).toArray = ls at hl ⊢
  have hl : lv_has ls 2 [(0, .ref h), (1, .int x)] := hl
  have h1N := ok.1
  have hN := ok.2.1
  refine lv_aload_n hx hb dX1_look_0 rfl (lv_at hl 0 rfl) ?_
  refine lv_iconst (v := 0) hx hb dX1_look_1 (by decide +kernel) ?_
  refine va_put (D := (dC, dI)) (ci := 1) (v := .int 0) (ty := (.int)) (C := RX1) (T := TX1) (N := 4) hx hb hts (by decide +kernel) tyX1 tyX1_ok nmX1 hown hK hP hD hS 0 rfl rfl 0 (by decide) (hts (.fieldLink RX1 20 "OrderLineModel" "thrown" "I") (by decide +kernel)) (fun _ h9 => h9) rfl (by decide +kernel) rfl rfl (Nat.le_of_ble_eq_true rfl) dX1_look_2 (fun H locs hP hD hS => ?_)
  have hP : va_P (dC, dI) vwCl [(h, .inr (1, [.int 0, .ref a, .int (nI N), .ref b])), (a, .inl (cA, 1000, .inl f)), (b, .inl (cB, 1000, .inl as))] H := hP
  have hD : va_D A [(h, .inr (1, [.int 0, .ref a, .int (nI N), .ref b])), (a, .inl (cA, 1000, .inl f)), (b, .inl (cB, 1000, .inl as))] := hD
  refine lv_iload_n hx hb dX1_look_5 rfl (lv_at hl 1 rfl) ?_
  refine lv_if_ne (tgt := 16) hx hb dX1_look_6 (by decide) (fun c_6 => ?_) (fun c_6 => ?_)
  · refine lv_iload_n hx hb dX1_look_16 rfl (lv_at hl 1 rfl) ?_
    refine lv_iconst (v := 1) hx hb dX1_look_17 (by decide +kernel) ?_
    refine lv_icmp_ne (tgt := 35) hx hb dX1_look_18 (by decide) (fun c_18 => ?_) (fun c_18 => ?_)
    · refine lv_iload_n hx hb dX1_look_35 rfl (lv_at hl 1 rfl) ?_
      refine lv_iconst (v := 2) hx hb dX1_look_36 (by decide +kernel) ?_
      refine lv_icmp_ne (tgt := 47) hx hb dX1_look_37 (by decide) (fun c_37 => ?_) (fun c_37 => ?_)
      · have hr0 : -1 = ol_lk N L x := by unfold ol_lk; rw [if_neg c_6, if_neg c_18, if_neg c_37]
        refine lv_iconst (v := (-1)) hx hb dX1_look_47 (by decide +kernel) ?_
        exact W.iret (v := ((-1))) hx hb hr (fun t ht hW => ⟨⟨((-1)), (0, nI N, f, as), rfl, ⟨hr0, rfl⟩, by rw [ht]; exact hP, hD⟩, hS.F ht⟩) hS.2.2 dX1_look_48
      · have hr0 : ol_fi N L = ol_lk N L x := by unfold ol_lk; rw [if_neg c_6, if_neg c_18, if_pos c_37]
        refine lv_aload_n hx hb dX1_look_40 rfl (lv_at hl 0 rfl) ?_
        refine ow_callR (r := ol_fi N L) (W.runV (As := []) (rest := []) ⟨hx, hb, hml, hown, hts⟩ (c_M_free l dC dI h a b cA cB 0 N L f as ok hf) (cwV 0 hts gX1_look_X1_free rfl rfl rfl (by decide +kernel) ⟨Nat.le_of_ble_eq_true rfl, Nat.le_of_ble_eq_true rfl⟩) (ow_PreR hK hP (ci := 1) (q0 := 0) rfl rfl) rfl rfl hl.1 rfl (lv_room (Nat.le_of_ble_eq_true rfl)) dX1_look_41 ⟨Nat.le_of_ble_eq_true rfl, Nat.le_of_ble_eq_true rfl⟩) ?_
        refine lv_goto (tgt := 48) hx hb dX1_look_44 (by decide) ?_
        exact W.iret (v := (ol_fi N L)) hx hb hr (fun t ht hW => ⟨⟨(ol_fi N L), (0, nI N, f, as), rfl, ⟨hr0, rfl⟩, by rw [ht]; exact hP, hD⟩, hS.F ht⟩) hS.2.2 dX1_look_48
    · have hr0 : nI (L (N - 1)) = ol_lk N L x := by unfold ol_lk; rw [if_neg c_6, if_pos c_18]
      refine lv_aload_n hx hb dX1_look_21 rfl (lv_at hl 0 rfl) ?_
      refine va_get (D := (dC, dI)) (ci := 1) (v := .ref a) (C := RX1) (T := TX1) (N := 4) hx hb hts (by decide +kernel) hown hK hP 0 rfl rfl 1 (by decide) (hts (.fieldLink RX1 7 "OrderLineModel" "line" "[I") (by decide +kernel)) (fun _ h9 => h9) rfl dX1_look_22 ?_
      refine lv_aload_n hx hb dX1_look_25 rfl (lv_at hl 0 rfl) ?_
      refine va_get (D := (dC, dI)) (ci := 1) (v := .int (nI N)) (C := RX1) (T := TX1) (N := 4) hx hb hts (by decide +kernel) hown hK hP 0 rfl rfl 2 (by decide) (hts (.fieldLink RX1 13 "OrderLineModel" "many" "I") (by decide +kernel)) (fun _ h9 => h9) rfl dX1_look_26 ?_
      refine lv_iconst (v := 1) hx hb dX1_look_29 (by decide +kernel) ?_
      refine lv_isub hx hb dX1_look_30 ?_
      refine ow_top (z := nI (N - 1)) (nI_m1 h1N) ?_
      refine ow_iald (k := N - 1) (v := nI (L (N - 1))) hx hb hK hP 1 0 rfl rfl (by omega) (by decide) (hf (N - 1) (by omega)) dX1_look_31 ?_
      refine lv_goto (tgt := 48) hx hb dX1_look_32 (by decide) ?_
      exact W.iret (v := (nI (L (N - 1)))) hx hb hr (fun t ht hW => ⟨⟨(nI (L (N - 1))), (0, nI N, f, as), rfl, ⟨hr0, rfl⟩, by rw [ht]; exact hP, hD⟩, hS.F ht⟩) hS.2.2 dX1_look_48
  · have hr0 : nI N = ol_lk N L x := by unfold ol_lk; rw [if_pos c_6]
    refine lv_aload_n hx hb dX1_look_9 rfl (lv_at hl 0 rfl) ?_
    refine va_get (D := (dC, dI)) (ci := 1) (v := .int (nI N)) (C := RX1) (T := TX1) (N := 4) hx hb hts (by decide +kernel) hown hK hP 0 rfl rfl 2 (by decide) (hts (.fieldLink RX1 13 "OrderLineModel" "many" "I") (by decide +kernel)) (fun _ h9 => h9) rfl dX1_look_10 ?_
    refine lv_goto (tgt := 48) hx hb dX1_look_13 (by decide) ?_
    exact W.iret (v := (nI N)) hx hb hr (fun t ht hW => ⟨⟨(nI N), (0, nI N, f, as), rfl, ⟨hr0, rfl⟩, by rw [ht]; exact hP, hD⟩, hS.F ht⟩) hS.2.2 dX1_look_48
set_option maxHeartbeats 4000000 in
set_option maxRecDepth 100000 in
/-- greatest(x, y) -/
theorem c_M_greatest (l : Launch) (dC : Nat → ClassId) (dI : Nat → Nat → Nat) (h a b : Nat) (cA cB : ClassId) (th : Int32) (N : Nat) (L : Nat → Nat) (f as : Nat → Int32) (tt r : Int32) (N' : Nat) (L' : Nat → Nat) (sz : Nat) (ok : ol_ok N L) (hf : ol_f N L f) (x y : Int32) (hsp : ((ol_no N L x ∨ ol_no N L y) ∧ tt = 1 ∧ r = 0 ∧ N' = N ∧ L' = L) ∨ (tt = 0 ∧ ∃ p q, ol_at N L x p ∧ ol_at N L y q ∧ r = ol_top L p (q + 1 - p) ∧ N' = N ∧ L' = L)) : Met l yX1_greatest wsX1_greatest ({ frames := 2, cells := 0, slots := 0, locals := 45 }) (ow_Pc (dC, dI) vwCl [(cA, .int), (cB, .int)] (wM h a b cA cB (th, nI N, f, as)) sz [.ref h, .int x, .int y]) (va_Qi (fun (r' : Int32) (u : Int32 × Int32 × (Nat → Int32) × (Nat → Int32)) => r' = r ∧ u.1 = tt ∧ u.2.1 = nI N' ∧ ol_f N' L' u.2.2.1) (ow_B (dC, dI) vwCl (wM h a b cA cB) (va_A (wM h a b cA cB (th, nI N, f, as)) sz)) (va_A (wM h a b cA cB (th, nI N, f, as)) sz)) 0 0 (va_A (wM h a b cA cB (th, nI N, f, as)) sz) := by
  refine Met.ofW (cc := cX1_greatest) (maxL := 5) (ret := (some .int)) (by decide) rfl ?_
  intro pg ev s m args below meth cd s₁ B hml hv
  obtain ⟨rfl, hsz, hP, hK, hD0⟩ := hv
  have hx := B.exec
  have hb := B.bytes
  have hr := B.returns
  have hts := atoms_spec (ws := wsX1_greatest) B.pre
  have hown : s.vm.findClass RX1 = some m.cls := findClass_of_methodNamed B.named
  have hlocks := B.notSynchronized
  subst hsz
  have hD := hD0.self (sz := s.heap.size)
  generalize hAe : va_A (wM h a b cA cB (th, nI N, f, as)) s.heap.size = A at hD ⊢
  have hA : ∀ q : Nat, s.heap.size ≤ q → A q := fun q h => by rw [← hAe]; exact Or.inr h
  have hS : va_S A s.heap s.heap [] := va_S.rf
  have hD : va_D A [(h, .inr (1, [.int th, .ref a, .int (nI N), .ref b])), (a, .inl (cA, 1000, .inl f)), (b, .inl (cB, 1000, .inl as))] := hD
  have hP : va_P (dC, dI) vwCl [(h, .inr (1, [.int th, .ref a, .int (nI N), .ref b])), (a, .inl (cA, 1000, .inl f)), (b, .inl (cB, 1000, .inl as))] s.heap := hP
  have hl := lv_entry ([.ref h, .int x, .int y]) (n := 5) (Nat.le_of_ble_eq_true rfl)
  rw [lg_entry_eq]
  generalize (lg_sl ([.ref h, .int x, .int y]) ++ List.replicate (5 - (lg_sl ([.ref h, .int x, .int y])).length) Slot.unset).toArray = ls at hl ⊢
  have hl : lv_has ls 5 [(0, .ref h), (1, .int x), (2, .int y)] := hl
  have hlc : ol_lc N L x y 0 tt := by
    rcases hsp with ⟨h1, h2, _⟩ | ⟨h2, p, q, h1, h3, _⟩
    · rw [h2]; exact ol_lc_no (h1.elim Or.inl (fun h => Or.inr (Or.inl h)))
    · rw [h2]; exact ol_lc_at h1 h3 (ol_at0 ok)
  refine lv_aload_n hx hb dX1_greatest_0 rfl (lv_at hl 0 rfl) ?_
  refine lv_iload_n hx hb dX1_greatest_1 rfl (lv_at hl 1 rfl) ?_
  refine lv_iload_n hx hb dX1_greatest_2 rfl (lv_at hl 2 rfl) ?_
  refine lv_iconst (v := 0) hx hb dX1_greatest_3 (by decide +kernel) ?_
  refine ow_calli (wr := []) (va_runV (As := [.int x, .int y, .int 0]) (rest := []) ⟨hx, hb, hml, hown, hts⟩ (c_M_lacks l dC dI h a b cA cB th N L f as x y 0 tt _ ok hf hlc) (cwV 3 hts gX1_greatest_X1_lacks rfl rfl rfl (by decide +kernel) ⟨Nat.le_of_ble_eq_true rfl, Nat.le_of_ble_eq_true rfl⟩) (ow_PreV hK hP hD (ci := 1) (q0 := 0) rfl rfl) rfl rfl hl.1 rfl (lv_room (Nat.le_of_ble_eq_true rfl)) dX1_greatest_4 ⟨Nat.le_of_ble_eq_true rfl, Nat.le_of_ble_eq_true rfl⟩) hP hD hS hA [0, 1, 2] [] rfl rfl (by decide) (by decide) (fun r0 u H locs hw hP hD hS => ?_)
  obtain ⟨er, eu⟩ := hw
  subst eu
  refine ow_top (z := tt) er ?_
  have hP : va_P (dC, dI) vwCl [(h, .inr (1, [.int tt, .ref a, .int (nI N), .ref b])), (a, .inl (cA, 1000, .inl f)), (b, .inl (cB, 1000, .inl as))] H := hP
  have hD : va_D A [(h, .inr (1, [.int tt, .ref a, .int (nI N), .ref b])), (a, .inl (cA, 1000, .inl f)), (b, .inl (cB, 1000, .inl as))] := hD
  refine lv_if_eq (tgt := 12) hx hb dX1_greatest_7 (by decide) (fun c_7 => ?_) (fun c_7 => ?_)
  · have hs : ∃ p q, ol_at N L x p ∧ ol_at N L y q ∧ r = ol_top L p (q + 1 - p) ∧ N' = N ∧ L' = L := by
      rcases hsp with ⟨_, e9, _⟩ | ⟨_, h9⟩
      · exact absurd (e9.symm.trans c_7) (by decide)
      · exact h9
    obtain ⟨p, q, hp, hq, hrc, hN0, hL0⟩ := hs
    have hpN : p < N := hp.1
    have hqN : q < N := hq.1
    have hN : N ≤ 1000 := ok.2.1
    refine lv_iconst (v := (-1)) hx hb dX1_greatest_12 (by decide +kernel) ?_
    refine lv_istore_n (lv' := [(3, .int ((-1))), (0, .ref h), (1, .int x), (2, .int y)]) hx hb dX1_greatest_13 rfl hl (by decide) rfl (fun ls hl => ?_)
    refine lv_aload_n hx hb dX1_greatest_14 rfl (lv_at hl 1 rfl) ?_
    refine lv_iload_n hx hb dX1_greatest_15 rfl (lv_at hl 2 rfl) ?_
    refine ow_callR (r := nI p) (W.runV (As := [.int x]) (rest := []) ⟨hx, hb, hml, hown, hts⟩ (c_M_find l dC dI h a b cA cB tt N L f as x (nI p) ok.2.1 hf (ol_fd_at ok hp)) (cwV 1 hts gX1_greatest_X1_find rfl rfl rfl (by decide +kernel) ⟨Nat.le_of_ble_eq_true rfl, Nat.le_of_ble_eq_true rfl⟩) (ow_PreR hK hP (ci := 1) (q0 := 0) rfl rfl) rfl rfl hl.1 rfl (lv_room (Nat.le_of_ble_eq_true rfl)) dX1_greatest_16 ⟨Nat.le_of_ble_eq_true rfl, Nat.le_of_ble_eq_true rfl⟩) ?_
    refine lv_istore (lv' := [(4, .int (nI p)), (3, .int ((-1))), (0, .ref h), (1, .int x), (2, .int y)]) hx hb dX1_greatest_19 hl (by decide) rfl (fun ls hl => ?_)
    have loop : ∀ (k : Nat) (i : Nat), N < p + i + k → p + i ≤ N → i ≤ q + 1 - p → ∀ (H : Heap) (locs : List Loc), va_P (dC, dI) vwCl [(h, .inr (1, [.int tt, .ref a, .int (nI N), .ref b])), (a, .inl (cA, 1000, .inl f)), (b, .inl (cB, 1000, .inl as))] H → va_D A [(h, .inr (1, [.int tt, .ref a, .int (nI N), .ref b])), (a, .inl (cA, 1000, .inl f)), (b, .inl (cB, 1000, .inl as))] → va_S A s.heap H locs → ∀ ls : Array Slot, lv_has ls 5 [(0, .ref h), (1, .int x), (2, .int y), (3, .int (ol_top L p i)), (4, .int (nI (p + i)))] → W pg l ev (headSpec wsX1_greatest ({ frames := 2, cells := 0, slots := 0, locals := 45 })).room s m ([.ref h, .int x, .int y] : List Value).toArray below meth cd H locs 0 0 (MQ below (va_Qi (fun (r' : Int32) (u : Int32 × Int32 × (Nat → Int32) × (Nat → Int32)) => r' = r ∧ u.1 = tt ∧ u.2.1 = nI N' ∧ ol_f N' L' u.2.2.1) (ow_B (dC, dI) vwCl (wM h a b cA cB) A) A) ([.ref h, .int x, .int y] : List Value).toArray s 0 0 A) (F0 m 21 ls []) := by
      intro k
      induction k with
      | zero =>
        intro i h1 h2 h3
        exact absurd h1 (by omega)
      | succ k ih =>
        intro i hk hi hi2 H locs hP hD hS ls hl
        refine lv_iload hx hb dX1_greatest_21 (lv_at hl 4 rfl) ?_
        refine lv_aload_n hx hb dX1_greatest_23 rfl (lv_at hl 0 rfl) ?_
        refine lv_iload_n hx hb dX1_greatest_24 rfl (lv_at hl 2 rfl) ?_
        refine ow_callR (r := nI q) (W.runV (As := [.int y]) (rest := [.int (nI (p + i))]) ⟨hx, hb, hml, hown, hts⟩ (c_M_find l dC dI h a b cA cB tt N L f as y (nI q) ok.2.1 hf (ol_fd_at ok hq)) (cwV 1 hts gX1_greatest_X1_find rfl rfl rfl (by decide +kernel) ⟨Nat.le_of_ble_eq_true rfl, Nat.le_of_ble_eq_true rfl⟩) (ow_PreR hK hP (ci := 1) (q0 := 0) rfl rfl) rfl rfl hl.1 rfl (lv_room (Nat.le_of_ble_eq_true rfl)) dX1_greatest_25 ⟨Nat.le_of_ble_eq_true rfl, Nat.le_of_ble_eq_true rfl⟩) ?_
        refine lv_icmp_gt (tgt := 60) hx hb dX1_greatest_28 (by decide) (fun c_28 => ?_) (fun c_28 => ?_)
        · have hc := ol_lt (by omega) (by omega) c_28
          have hr0 : r = ol_top L p i := by rw [hrc, show q + 1 - p = i by omega]
          refine lv_iload_n hx hb dX1_greatest_60 rfl (lv_at hl 3 rfl) ?_
          exact W.iret (v := (ol_top L p i)) hx hb hr (fun t ht hW => ⟨⟨(ol_top L p i), (tt, nI N, f, as), rfl, ⟨hr0.symm, rfl, by rw [hN0], by rw [hN0, hL0]; exact hf⟩, by rw [ht]; exact hP, hD⟩, hS.F ht⟩) hS.2.2 dX1_greatest_61
        · have hc := ol_nlt (by omega) (by omega) c_28
          refine lv_aload_n hx hb dX1_greatest_31 rfl (lv_at hl 0 rfl) ?_
          refine va_get (D := (dC, dI)) (ci := 1) (v := .ref a) (C := RX1) (T := TX1) (N := 4) hx hb hts (by decide +kernel) hown hK hP 0 rfl rfl 1 (by decide) (hts (.fieldLink RX1 7 "OrderLineModel" "line" "[I") (by decide +kernel)) (fun _ h9 => h9) rfl dX1_greatest_32 ?_
          refine lv_iload hx hb dX1_greatest_35 (lv_at hl 4 rfl) ?_
          refine ow_iald (k := p + i) (v := nI (L (p + i))) hx hb hK hP 1 0 rfl rfl (by omega) (by decide) (hf (p + i) (by omega)) dX1_greatest_37 ?_
          refine lv_iload_n hx hb dX1_greatest_38 rfl (lv_at hl 3 rfl) ?_
          refine lv_icmp_le (tgt := 52) hx hb dX1_greatest_39 (by decide) (fun c_39 => ?_) (fun c_39 => ?_)
          · have hm : ol_top L p (i + 1) = ol_top L p i := if_neg (fun h9 => Int32.not_le.mpr h9 c_39)
            refine lv_iload_n hx hb dX1_greatest_52 rfl (lv_at hl 3 rfl) ?_
            refine ow_top (z := ol_top L p (i + 1)) hm.symm ?_
            refine lv_istore_n (lv' := [(3, .int (ol_top L p (i + 1))), (0, .ref h), (1, .int x), (2, .int y), (4, .int (nI (p + i)))]) hx hb dX1_greatest_53 rfl hl (by decide) rfl (fun ls hl => ?_)
            refine lv_iinc (v := nI (p + (i + 1))) (lv' := [(4, .int (nI (p + (i + 1)))), (3, .int (ol_top L p (i + 1))), (0, .ref h), (1, .int x), (2, .int y)]) hx hb dX1_greatest_54 hl (k := 4) rfl (nI_1 (p + i)) (by decide) rfl (fun ls hl => ?_)
            refine lv_goto (tgt := 21) hx hb dX1_greatest_57 (by decide) ?_
            exact ih (i + 1) (by omega) (by omega) (by omega) H locs hP hD hS ls (lv_sub hl [2, 3, 4, 1, 0] rfl)
          · have hm : ol_top L p (i + 1) = nI (L (p + i)) := if_pos (Int32.not_le.mp c_39)
            refine lv_aload_n hx hb dX1_greatest_42 rfl (lv_at hl 0 rfl) ?_
            refine va_get (D := (dC, dI)) (ci := 1) (v := .ref a) (C := RX1) (T := TX1) (N := 4) hx hb hts (by decide +kernel) hown hK hP 0 rfl rfl 1 (by decide) (hts (.fieldLink RX1 7 "OrderLineModel" "line" "[I") (by decide +kernel)) (fun _ h9 => h9) rfl dX1_greatest_43 ?_
            refine lv_iload hx hb dX1_greatest_46 (lv_at hl 4 rfl) ?_
            refine ow_iald (k := p + i) (v := nI (L (p + i))) hx hb hK hP 1 0 rfl rfl (by omega) (by decide) (hf (p + i) (by omega)) dX1_greatest_48 ?_
            refine lv_goto (tgt := 53) hx hb dX1_greatest_49 (by decide) ?_
            refine ow_top (z := ol_top L p (i + 1)) hm.symm ?_
            refine lv_istore_n (lv' := [(3, .int (ol_top L p (i + 1))), (0, .ref h), (1, .int x), (2, .int y), (4, .int (nI (p + i)))]) hx hb dX1_greatest_53 rfl hl (by decide) rfl (fun ls hl => ?_)
            refine lv_iinc (v := nI (p + (i + 1))) (lv' := [(4, .int (nI (p + (i + 1)))), (3, .int (ol_top L p (i + 1))), (0, .ref h), (1, .int x), (2, .int y)]) hx hb dX1_greatest_54 hl (k := 4) rfl (nI_1 (p + i)) (by decide) rfl (fun ls hl => ?_)
            refine lv_goto (tgt := 21) hx hb dX1_greatest_57 (by decide) ?_
            exact ih (i + 1) (by omega) (by omega) (by omega) H locs hP hD hS ls (lv_sub hl [2, 3, 4, 1, 0] rfl)
    exact loop (N + 2) 0 (by omega) (by omega) (by omega) _ _ hP hD hS ls (lv_sub hl [2, 3, 4, 1, 0] rfl)
  · obtain ⟨hr0, hN0, hL0⟩ : r = 0 ∧ N' = N ∧ L' = L := by
      rcases hsp with ⟨_, _, e9⟩ | ⟨e9, _⟩
      · exact e9
      · exact absurd e9 c_7
    refine lv_iconst (v := 0) hx hb dX1_greatest_10 (by decide +kernel) ?_
    exact W.iret (v := 0) hx hb hr (fun t ht hW => ⟨⟨0, (tt, nI N, f, as), rfl, ⟨hr0.symm, rfl, by rw [hN0], by rw [hN0, hL0]; exact hf⟩, by rw [ht]; exact hP, hD⟩, hS.F ht⟩) hS.2.2 dX1_greatest_11
set_option maxHeartbeats 4000000 in
set_option maxRecDepth 100000 in
/-- several(x, z) -/
theorem c_M_several (l : Launch) (dC : Nat → ClassId) (dI : Nat → Nat → Nat) (h a b : Nat) (cA cB : ClassId) (th : Int32) (N : Nat) (L : Nat → Nat) (f as : Nat → Int32) (tt r : Int32) (N' : Nat) (L' : Nat → Nat) (sz : Nat) (ok : ol_ok N L) (hf : ol_f N L f) (x z : Int32) (hsp : (ol_no N L x ∧ tt = 1 ∧ r = 0 ∧ N' = N ∧ L' = L) ∨ (tt = 0 ∧ ∃ p, ol_at N L x p ∧ sp_sv N L p z r N' L')) : Met l yX1_several wsX1_several ({ frames := 2, cells := 0, slots := 0, locals := 45 }) (ow_Pc (dC, dI) vwCl [(cA, .int), (cB, .int)] (wM h a b cA cB (th, nI N, f, as)) sz [.ref h, .int x, .int z]) (va_Qi (fun (r' : Int32) (u : Int32 × Int32 × (Nat → Int32) × (Nat → Int32)) => r' = r ∧ u.1 = tt ∧ u.2.1 = nI N' ∧ ol_f N' L' u.2.2.1) (ow_B (dC, dI) vwCl (wM h a b cA cB) (va_A (wM h a b cA cB (th, nI N, f, as)) sz)) (va_A (wM h a b cA cB (th, nI N, f, as)) sz)) 0 0 (va_A (wM h a b cA cB (th, nI N, f, as)) sz) := by
  refine Met.ofW (cc := cX1_several) (maxL := 6) (ret := (some .int)) (by decide) rfl ?_
  intro pg ev s m args below meth cd s₁ B hml hv
  obtain ⟨rfl, hsz, hP, hK, hD0⟩ := hv
  have hx := B.exec
  have hb := B.bytes
  have hr := B.returns
  have hts := atoms_spec (ws := wsX1_several) B.pre
  have hown : s.vm.findClass RX1 = some m.cls := findClass_of_methodNamed B.named
  have hlocks := B.notSynchronized
  subst hsz
  have hD := hD0.self (sz := s.heap.size)
  generalize hAe : va_A (wM h a b cA cB (th, nI N, f, as)) s.heap.size = A at hD ⊢
  have hA : ∀ q : Nat, s.heap.size ≤ q → A q := fun q h => by rw [← hAe]; exact Or.inr h
  have hS : va_S A s.heap s.heap [] := va_S.rf
  have hD : va_D A [(h, .inr (1, [.int th, .ref a, .int (nI N), .ref b])), (a, .inl (cA, 1000, .inl f)), (b, .inl (cB, 1000, .inl as))] := hD
  have hP : va_P (dC, dI) vwCl [(h, .inr (1, [.int th, .ref a, .int (nI N), .ref b])), (a, .inl (cA, 1000, .inl f)), (b, .inl (cB, 1000, .inl as))] s.heap := hP
  have hl := lv_entry ([.ref h, .int x, .int z]) (n := 6) (Nat.le_of_ble_eq_true rfl)
  rw [lg_entry_eq]
  generalize (lg_sl ([.ref h, .int x, .int z]) ++ List.replicate (6 - (lg_sl ([.ref h, .int x, .int z])).length) Slot.unset).toArray = ls at hl ⊢
  have hl : lv_has ls 6 [(0, .ref h), (1, .int x), (2, .int z)] := hl
  have hlc : ol_lc N L x 0 0 tt := by
    rcases hsp with ⟨h1, h2, _⟩ | ⟨h2, p, h1, _⟩
    · rw [h2]; exact ol_lc_no (Or.inl h1)
    · rw [h2]; exact ol_lc_at h1 (ol_at0 ok) (ol_at0 ok)
  refine lv_aload_n hx hb dX1_several_0 rfl (lv_at hl 0 rfl) ?_
  refine lv_iload_n hx hb dX1_several_1 rfl (lv_at hl 1 rfl) ?_
  refine lv_iconst (v := 0) hx hb dX1_several_2 (by decide +kernel) ?_
  refine lv_iconst (v := 0) hx hb dX1_several_3 (by decide +kernel) ?_
  refine ow_calli (wr := []) (va_runV (As := [.int x, .int 0, .int 0]) (rest := []) ⟨hx, hb, hml, hown, hts⟩ (c_M_lacks l dC dI h a b cA cB th N L f as x 0 0 tt _ ok hf hlc) (cwV 3 hts gX1_several_X1_lacks rfl rfl rfl (by decide +kernel) ⟨Nat.le_of_ble_eq_true rfl, Nat.le_of_ble_eq_true rfl⟩) (ow_PreV hK hP hD (ci := 1) (q0 := 0) rfl rfl) rfl rfl hl.1 rfl (lv_room (Nat.le_of_ble_eq_true rfl)) dX1_several_4 ⟨Nat.le_of_ble_eq_true rfl, Nat.le_of_ble_eq_true rfl⟩) hP hD hS hA [0, 1, 2] [] rfl rfl (by decide) (by decide) (fun r0 u H locs hw hP hD hS => ?_)
  obtain ⟨er, eu⟩ := hw
  subst eu
  refine ow_top (z := tt) er ?_
  have hP : va_P (dC, dI) vwCl [(h, .inr (1, [.int tt, .ref a, .int (nI N), .ref b])), (a, .inl (cA, 1000, .inl f)), (b, .inl (cB, 1000, .inl as))] H := hP
  have hD : va_D A [(h, .inr (1, [.int tt, .ref a, .int (nI N), .ref b])), (a, .inl (cA, 1000, .inl f)), (b, .inl (cB, 1000, .inl as))] := hD
  refine lv_if_eq (tgt := 12) hx hb dX1_several_7 (by decide) (fun c_7 => ?_) (fun c_7 => ?_)
  · have hs : ∃ p, ol_at N L x p ∧ sp_sv N L p z r N' L' := by
      rcases hsp with ⟨_, e9, _⟩ | ⟨_, h9⟩
      · exact absurd (e9.symm.trans c_7) (by decide)
      · exact h9
    obtain ⟨p, hp, hs⟩ := hs
    have hpN : p < N := hp.1
    have hN : N ≤ 1000 := ok.2.1
    refine lv_iload_n hx hb dX1_several_12 rfl (lv_at hl 2 rfl) ?_
    refine lv_iconst (v := nI 2) hx hb dX1_several_13 (by decide +kernel) ?_
    refine lv_icmp_lt (tgt := 35) hx hb dX1_several_14 (by decide) (fun c_14 => ?_) (fun c_14 => ?_)
    · obtain ⟨hr0, hN0, hL0⟩ : r = -1 ∧ N' = N ∧ L' = L := by
        rcases hs with ⟨w9, a1, a2, a3, a4, _⟩ | ⟨_, h2⟩
        · exact absurd (a3 ▸ c_14) (nI_nlt a1 (by omega))
        · exact h2
      refine lv_iconst (v := (-1)) hx hb dX1_several_35 (by decide +kernel) ?_
      exact W.iret (v := ((-1))) hx hb hr (fun t ht hW => ⟨⟨((-1)), (tt, nI N, f, as), rfl, ⟨hr0.symm, rfl, by rw [hN0], by rw [hN0, hL0]; exact hf⟩, by rw [ht]; exact hP, hD⟩, hS.F ht⟩) hS.2.2 dX1_several_36
    · refine lv_iload_n hx hb dX1_several_17 rfl (lv_at hl 2 rfl) ?_
      refine lv_bipush (v := nI 64) hx hb dX1_several_18 (by decide +kernel) ?_
      refine lv_icmp_gt (tgt := 35) hx hb dX1_several_20 (by decide) (fun c_20 => ?_) (fun c_20 => ?_)
      · obtain ⟨hr0, hN0, hL0⟩ : r = -1 ∧ N' = N ∧ L' = L := by
          rcases hs with ⟨w9, a1, a2, a3, a4, _⟩ | ⟨_, h2⟩
          · exact absurd (a3 ▸ c_20) (nI_nlt a2 (by omega))
          · exact h2
        refine lv_iconst (v := (-1)) hx hb dX1_several_35 (by decide +kernel) ?_
        exact W.iret (v := ((-1))) hx hb hr (fun t ht hW => ⟨⟨((-1)), (tt, nI N, f, as), rfl, ⟨hr0.symm, rfl, by rw [hN0], by rw [hN0, hL0]; exact hf⟩, by rw [ht]; exact hP, hD⟩, hS.F ht⟩) hS.2.2 dX1_several_36
      · obtain ⟨w, hw1, hw2, hz⟩ := ol_two64 c_14 c_20
        refine lv_aload_n hx hb dX1_several_23 rfl (lv_at hl 0 rfl) ?_
        refine va_get (D := (dC, dI)) (ci := 1) (v := .int (nI N)) (C := RX1) (T := TX1) (N := 4) hx hb hts (by decide +kernel) hown hK hP 0 rfl rfl 2 (by decide) (hts (.fieldLink RX1 13 "OrderLineModel" "many" "I") (by decide +kernel)) (fun _ h9 => h9) rfl dX1_several_24 ?_
        refine lv_iload_n hx hb dX1_several_27 rfl (lv_at hl 2 rfl) ?_
        refine lv_iadd hx hb dX1_several_28 ?_
        refine ow_top (z := nI (N + w)) (by rw [hz]; exact nI_add N w) ?_
        refine lv_sipush (v := nI 1000) hx hb dX1_several_29 (by decide +kernel) ?_
        refine lv_icmp_le (tgt := 37) hx hb dX1_several_32 (by decide) (fun c_32 => ?_) (fun c_32 => ?_)
        · have hc := ol_le (by omega) (by omega) c_32
          obtain ⟨hr0, hN0, hL0⟩ : r = nI (ol_fr N L) ∧ N' = N + w ∧ L' = ol_many N L (p + 1) w := by
            rcases hs with ⟨w9, a1, a2, a3, a4, a5⟩ | ⟨h9, _⟩
            · rw [ol_eq (by omega) (by omega) (hz.symm.trans a3)]; exact a5
            · exact absurd hz (h9 w hw1 hw2 hc)
          have hfl := ol_fr_lt ok (show N < 1000 by omega)
          refine lv_aload_n hx hb dX1_several_37 rfl (lv_at hl 0 rfl) ?_
          refine ow_callR (r := ol_fi N L) (W.runV (As := []) (rest := []) ⟨hx, hb, hml, hown, hts⟩ (c_M_free l dC dI h a b cA cB tt N L f as ok hf) (cwV 0 hts gX1_several_X1_free rfl rfl rfl (by decide +kernel) ⟨Nat.le_of_ble_eq_true rfl, Nat.le_of_ble_eq_true rfl⟩) (ow_PreR hK hP (ci := 1) (q0 := 0) rfl rfl) rfl rfl hl.1 rfl (lv_room (Nat.le_of_ble_eq_true rfl)) dX1_several_38 ⟨Nat.le_of_ble_eq_true rfl, Nat.le_of_ble_eq_true rfl⟩) ?_
          refine ow_top (z := nI (ol_fr N L)) (ol_fi_lt hfl) ?_
          refine lv_istore_n (lv' := [(3, .int (nI (ol_fr N L))), (0, .ref h), (1, .int x), (2, .int z)]) hx hb dX1_several_41 rfl hl (by decide) rfl (fun ls hl => ?_)
          refine lv_aload_n hx hb dX1_several_42 rfl (lv_at hl 1 rfl) ?_
          refine lv_iload_n hx hb dX1_several_43 rfl (lv_at hl 2 rfl) ?_
          refine ow_callR (r := nI p) (W.runV (As := [.int x]) (rest := []) ⟨hx, hb, hml, hown, hts⟩ (c_M_find l dC dI h a b cA cB tt N L f as x (nI p) ok.2.1 hf (ol_fd_at ok hp)) (cwV 1 hts gX1_several_X1_find rfl rfl rfl (by decide +kernel) ⟨Nat.le_of_ble_eq_true rfl, Nat.le_of_ble_eq_true rfl⟩) (ow_PreR hK hP (ci := 1) (q0 := 0) rfl rfl) rfl rfl hl.1 rfl (lv_room (Nat.le_of_ble_eq_true rfl)) dX1_several_44 ⟨Nat.le_of_ble_eq_true rfl, Nat.le_of_ble_eq_true rfl⟩) ?_
          refine lv_iconst (v := 1) hx hb dX1_several_47 (by decide +kernel) ?_
          refine lv_iadd hx hb dX1_several_48 ?_
          refine ow_top (z := nI (p + 1)) (nI_1 p) ?_
          refine lv_istore (lv' := [(4, .int (nI (p + 1))), (3, .int (nI (ol_fr N L))), (0, .ref h), (1, .int x), (2, .int z)]) hx hb dX1_several_49 hl (by decide) rfl (fun ls hl => ?_)
          refine lv_iconst (v := nI 0) hx hb dX1_several_51 (by decide +kernel) ?_
          refine lv_istore (lv' := [(5, .int (nI 0)), (4, .int (nI (p + 1))), (3, .int (nI (ol_fr N L))), (0, .ref h), (1, .int x), (2, .int z)]) hx hb dX1_several_52 hl (by decide) rfl (fun ls hl => ?_)
          have loop : ∀ (k : Nat) (i : Nat) (f1 : Nat → Int32), w < i + k → i ≤ w → ol_f (N + i) (ol_many N L (p + 1) i) f1 → ∀ (H : Heap) (locs : List Loc), va_P (dC, dI) vwCl [(h, .inr (1, [.int tt, .ref a, .int (nI (N + i)), .ref b])), (a, .inl (cA, 1000, .inl f1)), (b, .inl (cB, 1000, .inl as))] H → va_D A [(h, .inr (1, [.int tt, .ref a, .int (nI (N + i)), .ref b])), (a, .inl (cA, 1000, .inl f1)), (b, .inl (cB, 1000, .inl as))] → va_S A s.heap H locs → ∀ ls : Array Slot, lv_has ls 6 [(0, .ref h), (1, .int x), (2, .int z), (3, .int (nI (ol_fr N L))), (4, .int (nI (p + 1))), (5, .int (nI i))] → W pg l ev (headSpec wsX1_several ({ frames := 2, cells := 0, slots := 0, locals := 45 })).room s m ([.ref h, .int x, .int z] : List Value).toArray below meth cd H locs 0 0 (MQ below (va_Qi (fun (r' : Int32) (u : Int32 × Int32 × (Nat → Int32) × (Nat → Int32)) => r' = r ∧ u.1 = tt ∧ u.2.1 = nI N' ∧ ol_f N' L' u.2.2.1) (ow_B (dC, dI) vwCl (wM h a b cA cB) A) A) ([.ref h, .int x, .int z] : List Value).toArray s 0 0 A) (F0 m 54 ls []) := by
            intro k
            induction k with
            | zero =>
              intro i f1 h1 h2 h3
              exact absurd h1 (by omega)
            | succ k ih =>
              intro i f1 hk hi hf1 H locs hP hD hS ls hl
              refine lv_iload hx hb dX1_several_54 (lv_at hl 5 rfl) ?_
              refine lv_iload_n hx hb dX1_several_56 rfl (lv_at hl 2 rfl) ?_
              refine lv_icmp_ge (tgt := 79) hx hb dX1_several_57 (by decide) (fun c_57 => ?_) (fun c_57 => ?_)
              · have hi3 := ol_le (by omega) (by omega) (hz ▸ c_57)
                obtain rfl : i = w := by omega
                refine lv_iload_n hx hb dX1_several_79 rfl (lv_at hl 3 rfl) ?_
                exact W.iret (v := (nI (ol_fr N L))) hx hb hr (fun t ht hW => ⟨⟨(nI (ol_fr N L)), (tt, nI (N + i), f1, as), rfl, ⟨hr0.symm, rfl, by rw [hN0], by rw [hN0, hL0]; exact hf1⟩, by rw [ht]; exact hP, hD⟩, hS.F ht⟩) hS.2.2 dX1_several_80
              · have hi3 := ol_nle (by omega) (by omega) (hz ▸ c_57)
                have ok1 : ol_ok (N + i) (ol_many N L (p + 1) i) := ol_ok_many ok (by omega) (by omega) i (by omega)
                have hfl1 := ol_fr_lt ok1 (by omega)
                refine lv_aload_n hx hb dX1_several_60 rfl (lv_at hl 0 rfl) ?_
                refine lv_aload_n hx hb dX1_several_61 rfl (lv_at hl 0 rfl) ?_
                refine ow_callR (r := ol_fi (N + i) (ol_many N L (p + 1) i)) (W.runV (As := []) (rest := [.ref h]) ⟨hx, hb, hml, hown, hts⟩ (c_M_free l dC dI h a b cA cB tt (N + i) (ol_many N L (p + 1) i) f1 as ok1 hf1) (cwV 0 hts gX1_several_X1_free rfl rfl rfl (by decide +kernel) ⟨Nat.le_of_ble_eq_true rfl, Nat.le_of_ble_eq_true rfl⟩) (ow_PreR hK hP (ci := 1) (q0 := 0) rfl rfl) rfl rfl hl.1 rfl (lv_room (Nat.le_of_ble_eq_true rfl)) dX1_several_62 ⟨Nat.le_of_ble_eq_true rfl, Nat.le_of_ble_eq_true rfl⟩) ?_
                refine ow_top (z := nI (ol_fr (N + i) (ol_many N L (p + 1) i))) (ol_fi_lt hfl1) ?_
                refine lv_iload hx hb dX1_several_65 (lv_at hl 4 rfl) ?_
                refine lv_iload hx hb dX1_several_67 (lv_at hl 5 rfl) ?_
                refine lv_iadd hx hb dX1_several_69 ?_
                refine ow_top (z := nI (p + 1 + i)) (nI_add (p + 1) i) ?_
                refine ow_callv (wr := []) (va_runV (As := [.int (nI (ol_fr (N + i) (ol_many N L (p + 1) i))), .int (nI (p + 1 + i))]) (rest := []) ⟨hx, hb, hml, hown, hts⟩ (c_M_put l dC dI h a b cA cB tt (N + i) (ol_many N L (p + 1) i) f1 as (ol_fr (N + i) (ol_many N L (p + 1) i)) (p + 1 + i) _ hf1 (by omega) (by omega)) (cwV 2 hts gX1_several_X1_put rfl rfl rfl (by decide +kernel) ⟨Nat.le_of_ble_eq_true rfl, Nat.le_of_ble_eq_true rfl⟩) (ow_PreV hK hP hD (ci := 1) (q0 := 0) rfl rfl) rfl rfl hl.1 rfl (lv_room (Nat.le_of_ble_eq_true rfl)) dX1_several_70 ⟨Nat.le_of_ble_eq_true rfl, Nat.le_of_ble_eq_true rfl⟩) hP hD hS hA [0, 1, 2] [] rfl rfl (by decide) (by decide) (fun u H locs hw hP hD hS => ?_)
                obtain ⟨u1, u2, u3, u4⟩ := u
                obtain ⟨e1, e2, hf2, e4⟩ := hw
                obtain rfl : tt = u1 := e1.symm
                obtain rfl : nI (N + i + 1) = u2 := e2.symm
                obtain rfl : as = u4 := e4.symm
                have hP : va_P (dC, dI) vwCl [(h, .inr (1, [.int tt, .ref a, .int (nI (N + (i + 1))), .ref b])), (a, .inl (cA, 1000, .inl u3)), (b, .inl (cB, 1000, .inl as))] H := hP
                have hD : va_D A [(h, .inr (1, [.int tt, .ref a, .int (nI (N + (i + 1))), .ref b])), (a, .inl (cA, 1000, .inl u3)), (b, .inl (cB, 1000, .inl as))] := hD
                refine lv_iinc (v := nI (i + 1)) (lv' := [(5, .int (nI (i + 1))), (0, .ref h), (1, .int x), (2, .int z), (3, .int (nI (ol_fr N L))), (4, .int (nI (p + 1)))]) hx hb dX1_several_73 hl (k := 5) rfl (nI_1 i) (by decide) rfl (fun ls hl => ?_)
                refine lv_goto (tgt := 54) hx hb dX1_several_76 (by decide) ?_
                exact ih (i + 1) u3 (by omega) (by omega) hf2 H locs hP hD hS ls (lv_sub hl [1, 2, 3, 4, 5, 0] rfl)
          exact loop (w + 1) 0 f (by omega) (by omega) hf _ _ hP hD hS ls (lv_sub hl [3, 4, 5, 2, 1, 0] rfl)
        · have hc := ol_nle (by omega) (by omega) c_32
          obtain ⟨hr0, hN0, hL0⟩ : r = -1 ∧ N' = N ∧ L' = L := by
            rcases hs with ⟨w9, a1, a2, a3, a4, _⟩ | ⟨_, h2⟩
            · have := ol_eq (by omega) (by omega) (hz.symm.trans a3); omega
            · exact h2
          refine lv_iconst (v := (-1)) hx hb dX1_several_35 (by decide +kernel) ?_
          exact W.iret (v := ((-1))) hx hb hr (fun t ht hW => ⟨⟨((-1)), (tt, nI N, f, as), rfl, ⟨hr0.symm, rfl, by rw [hN0], by rw [hN0, hL0]; exact hf⟩, by rw [ht]; exact hP, hD⟩, hS.F ht⟩) hS.2.2 dX1_several_36
  · obtain ⟨hr0, hN0, hL0⟩ : r = 0 ∧ N' = N ∧ L' = L := by
      rcases hsp with ⟨_, _, e9⟩ | ⟨e9, _⟩
      · exact e9
      · exact absurd e9 c_7
    refine lv_iconst (v := 0) hx hb dX1_several_10 (by decide +kernel) ?_
    exact W.iret (v := 0) hx hb hr (fun t ht hW => ⟨⟨0, (tt, nI N, f, as), rfl, ⟨hr0.symm, rfl, by rw [hN0], by rw [hN0, hL0]; exact hf⟩, by rw [ht]; exact hP, hD⟩, hS.F ht⟩) hS.2.2 dX1_several_11
set_option maxHeartbeats 4000000 in
set_option maxRecDepth 100000 in
/-- clear(x, y) -/
theorem c_M_clear (l : Launch) (dC : Nat → ClassId) (dI : Nat → Nat → Nat) (h a b : Nat) (cA cB : ClassId) (th : Int32) (N : Nat) (L : Nat → Nat) (f as : Nat → Int32) (tt r : Int32) (N' : Nat) (L' : Nat → Nat) (sz : Nat) (ok : ol_ok N L) (hf : ol_f N L f) (x y : Int32) (hsp : ((ol_no N L x ∨ ol_no N L y) ∧ tt = 1 ∧ r = 0 ∧ N' = N ∧ L' = L) ∨ (tt = 0 ∧ ∃ p q, ol_at N L x p ∧ ol_at N L y q ∧ sp_cl N L p q r N' L')) : Met l yX1_clear wsX1_clear ({ frames := 2, cells := 0, slots := 0, locals := 45 }) (ow_Pc (dC, dI) vwCl [(cA, .int), (cB, .int)] (wM h a b cA cB (th, nI N, f, as)) sz [.ref h, .int x, .int y]) (va_Qi (fun (r' : Int32) (u : Int32 × Int32 × (Nat → Int32) × (Nat → Int32)) => r' = r ∧ u.1 = tt ∧ u.2.1 = nI N' ∧ ol_f N' L' u.2.2.1) (ow_B (dC, dI) vwCl (wM h a b cA cB) (va_A (wM h a b cA cB (th, nI N, f, as)) sz)) (va_A (wM h a b cA cB (th, nI N, f, as)) sz)) 0 0 (va_A (wM h a b cA cB (th, nI N, f, as)) sz) := by
  refine Met.ofW (cc := cX1_clear) (maxL := 4) (ret := (some .int)) (by decide) rfl ?_
  intro pg ev s m args below meth cd s₁ B hml hv
  obtain ⟨rfl, hsz, hP, hK, hD0⟩ := hv
  have hx := B.exec
  have hb := B.bytes
  have hr := B.returns
  have hts := atoms_spec (ws := wsX1_clear) B.pre
  have hown : s.vm.findClass RX1 = some m.cls := findClass_of_methodNamed B.named
  have hlocks := B.notSynchronized
  subst hsz
  have hD := hD0.self (sz := s.heap.size)
  generalize hAe : va_A (wM h a b cA cB (th, nI N, f, as)) s.heap.size = A at hD ⊢
  have hA : ∀ q : Nat, s.heap.size ≤ q → A q := fun q h => by rw [← hAe]; exact Or.inr h
  have hS : va_S A s.heap s.heap [] := va_S.rf
  have hD : va_D A [(h, .inr (1, [.int th, .ref a, .int (nI N), .ref b])), (a, .inl (cA, 1000, .inl f)), (b, .inl (cB, 1000, .inl as))] := hD
  have hP : va_P (dC, dI) vwCl [(h, .inr (1, [.int th, .ref a, .int (nI N), .ref b])), (a, .inl (cA, 1000, .inl f)), (b, .inl (cB, 1000, .inl as))] s.heap := hP
  have hl := lv_entry ([.ref h, .int x, .int y]) (n := 4) (Nat.le_of_ble_eq_true rfl)
  rw [lg_entry_eq]
  generalize (lg_sl ([.ref h, .int x, .int y]) ++ List.replicate (4 - (lg_sl ([.ref h, .int x, .int y])).length) Slot.unset).toArray = ls at hl ⊢
  have hl : lv_has ls 4 [(0, .ref h), (1, .int x), (2, .int y)] := hl
  have hlc : ol_lc N L x y 0 tt := by
    rcases hsp with ⟨h1, h2, _⟩ | ⟨h2, p, q, h1, h3, _⟩
    · rw [h2]; exact ol_lc_no (h1.elim Or.inl (fun h => Or.inr (Or.inl h)))
    · rw [h2]; exact ol_lc_at h1 h3 (ol_at0 ok)
  refine lv_aload_n hx hb dX1_clear_0 rfl (lv_at hl 0 rfl) ?_
  refine lv_iload_n hx hb dX1_clear_1 rfl (lv_at hl 1 rfl) ?_
  refine lv_iload_n hx hb dX1_clear_2 rfl (lv_at hl 2 rfl) ?_
  refine lv_iconst (v := 0) hx hb dX1_clear_3 (by decide +kernel) ?_
  refine ow_calli (wr := []) (va_runV (As := [.int x, .int y, .int 0]) (rest := []) ⟨hx, hb, hml, hown, hts⟩ (c_M_lacks l dC dI h a b cA cB th N L f as x y 0 tt _ ok hf hlc) (cwV 3 hts gX1_clear_X1_lacks rfl rfl rfl (by decide +kernel) ⟨Nat.le_of_ble_eq_true rfl, Nat.le_of_ble_eq_true rfl⟩) (ow_PreV hK hP hD (ci := 1) (q0 := 0) rfl rfl) rfl rfl hl.1 rfl (lv_room (Nat.le_of_ble_eq_true rfl)) dX1_clear_4 ⟨Nat.le_of_ble_eq_true rfl, Nat.le_of_ble_eq_true rfl⟩) hP hD hS hA [0, 1, 2] [] rfl rfl (by decide) (by decide) (fun r0 u H locs hw hP hD hS => ?_)
  obtain ⟨er, eu⟩ := hw
  subst eu
  refine ow_top (z := tt) er ?_
  have hP : va_P (dC, dI) vwCl [(h, .inr (1, [.int tt, .ref a, .int (nI N), .ref b])), (a, .inl (cA, 1000, .inl f)), (b, .inl (cB, 1000, .inl as))] H := hP
  have hD : va_D A [(h, .inr (1, [.int tt, .ref a, .int (nI N), .ref b])), (a, .inl (cA, 1000, .inl f)), (b, .inl (cB, 1000, .inl as))] := hD
  refine lv_if_eq (tgt := 12) hx hb dX1_clear_7 (by decide) (fun c_7 => ?_) (fun c_7 => ?_)
  · have hs : ∃ p q, ol_at N L x p ∧ ol_at N L y q ∧ sp_cl N L p q r N' L' := by
      rcases hsp with ⟨_, e9, _⟩ | ⟨_, h9⟩
      · exact absurd (e9.symm.trans c_7) (by decide)
      · exact h9
    obtain ⟨p, q, hp, hq, hrc, hN0, hL0⟩ := hs
    have hpN : p < N := hp.1
    have hqN : q < N := hq.1
    have hN : N ≤ 1000 := ok.2.1
    refine lv_iconst (v := nI 0) hx hb dX1_clear_12 (by decide +kernel) ?_
    refine lv_istore_n (lv' := [(3, .int (nI 0)), (0, .ref h), (1, .int x), (2, .int y)]) hx hb dX1_clear_13 rfl hl (by decide) rfl (fun ls hl => ?_)
    have loop : ∀ (k : Nat) (i : Nat) (f1 : Nat → Int32), q < i + k → i ≤ q - (p + 1) → ol_f (N - i) (ol_rem L (p + 1) i) f1 → ∀ (H : Heap) (locs : List Loc), va_P (dC, dI) vwCl [(h, .inr (1, [.int tt, .ref a, .int (nI (N - i)), .ref b])), (a, .inl (cA, 1000, .inl f1)), (b, .inl (cB, 1000, .inl as))] H → va_D A [(h, .inr (1, [.int tt, .ref a, .int (nI (N - i)), .ref b])), (a, .inl (cA, 1000, .inl f1)), (b, .inl (cB, 1000, .inl as))] → va_S A s.heap H locs → ∀ ls : Array Slot, lv_has ls 4 [(0, .ref h), (1, .int x), (2, .int y), (3, .int (nI i))] → W pg l ev (headSpec wsX1_clear ({ frames := 2, cells := 0, slots := 0, locals := 45 })).room s m ([.ref h, .int x, .int y] : List Value).toArray below meth cd H locs 0 0 (MQ below (va_Qi (fun (r' : Int32) (u : Int32 × Int32 × (Nat → Int32) × (Nat → Int32)) => r' = r ∧ u.1 = tt ∧ u.2.1 = nI N' ∧ ol_f N' L' u.2.2.1) (ow_B (dC, dI) vwCl (wM h a b cA cB) A) A) ([.ref h, .int x, .int y] : List Value).toArray s 0 0 A) (F0 m 14 ls []) := by
      intro k
      induction k with
      | zero =>
        intro i f1 h1 h2 h3
        exact absurd h1 (by omega)
      | succ k ih =>
        intro i f1 hk hi hf1 H locs hP hD hS ls hl
        have ok1 : ol_ok (N - i) (ol_rem L (p + 1) i) := ol_ok_rem ok (by omega) (by omega)
        have hp1 : ol_at (N - i) (ol_rem L (p + 1) i) x p := ⟨by omega, by rw [ol_rem_lo (by omega)]; exact hp.2⟩
        have hq1 : ol_at (N - i) (ol_rem L (p + 1) i) y (q - i) := by
          rcases Nat.lt_or_ge p q with h9 | h9
          · exact ⟨by omega, by rw [ol_rem_hi (by omega), show q - i + i = q by omega]; exact hq.2⟩
          · have e9 : i = 0 := by omega
            subst e9
            rw [ol_rem_0]; exact hq
        refine lv_aload_n hx hb dX1_clear_14 rfl (lv_at hl 0 rfl) ?_
        refine lv_iload_n hx hb dX1_clear_15 rfl (lv_at hl 1 rfl) ?_
        refine ow_callR (r := nI p) (W.runV (As := [.int x]) (rest := []) ⟨hx, hb, hml, hown, hts⟩ (c_M_find l dC dI h a b cA cB tt (N - i) (ol_rem L (p + 1) i) f1 as x (nI p) (by omega) hf1 (ol_fd_at ok1 hp1)) (cwV 1 hts gX1_clear_X1_find rfl rfl rfl (by decide +kernel) ⟨Nat.le_of_ble_eq_true rfl, Nat.le_of_ble_eq_true rfl⟩) (ow_PreR hK hP (ci := 1) (q0 := 0) rfl rfl) rfl rfl hl.1 rfl (lv_room (Nat.le_of_ble_eq_true rfl)) dX1_clear_16 ⟨Nat.le_of_ble_eq_true rfl, Nat.le_of_ble_eq_true rfl⟩) ?_
        refine lv_iconst (v := 1) hx hb dX1_clear_19 (by decide +kernel) ?_
        refine lv_iadd hx hb dX1_clear_20 ?_
        refine ow_top (z := nI (p + 1)) (nI_1 p) ?_
        refine lv_aload_n hx hb dX1_clear_21 rfl (lv_at hl 0 rfl) ?_
        refine lv_iload_n hx hb dX1_clear_22 rfl (lv_at hl 2 rfl) ?_
        refine ow_callR (r := nI (q - i)) (W.runV (As := [.int y]) (rest := [.int (nI (p + 1))]) ⟨hx, hb, hml, hown, hts⟩ (c_M_find l dC dI h a b cA cB tt (N - i) (ol_rem L (p + 1) i) f1 as y (nI (q - i)) (by omega) hf1 (ol_fd_at ok1 hq1)) (cwV 1 hts gX1_clear_X1_find rfl rfl rfl (by decide +kernel) ⟨Nat.le_of_ble_eq_true rfl, Nat.le_of_ble_eq_true rfl⟩) (ow_PreR hK hP (ci := 1) (q0 := 0) rfl rfl) rfl rfl hl.1 rfl (lv_room (Nat.le_of_ble_eq_true rfl)) dX1_clear_23 ⟨Nat.le_of_ble_eq_true rfl, Nat.le_of_ble_eq_true rfl⟩) ?_
        refine lv_icmp_ge (tgt := 46) hx hb dX1_clear_26 (by decide) (fun c_26 => ?_) (fun c_26 => ?_)
        · have hc := ol_le (by omega) (by omega) c_26
          have ei : i = q - (p + 1) := by omega
          refine lv_iload_n hx hb dX1_clear_46 rfl (lv_at hl 3 rfl) ?_
          exact W.iret (v := (nI i)) hx hb hr (fun t ht hW => ⟨⟨(nI i), (tt, nI (N - i), f1, as), rfl, ⟨by rw [hrc, ei], rfl, by rw [hN0, ei], by rw [hN0, hL0, ← ei]; exact hf1⟩, by rw [ht]; exact hP, hD⟩, hS.F ht⟩) hS.2.2 dX1_clear_47
        · have hc := ol_nle (by omega) (by omega) c_26
          refine lv_aload_n hx hb dX1_clear_29 rfl (lv_at hl 0 rfl) ?_
          refine lv_aload_n hx hb dX1_clear_30 rfl (lv_at hl 0 rfl) ?_
          refine lv_iload_n hx hb dX1_clear_31 rfl (lv_at hl 1 rfl) ?_
          refine ow_callR (r := nI p) (W.runV (As := [.int x]) (rest := [.ref h]) ⟨hx, hb, hml, hown, hts⟩ (c_M_find l dC dI h a b cA cB tt (N - i) (ol_rem L (p + 1) i) f1 as x (nI p) (by omega) hf1 (ol_fd_at ok1 hp1)) (cwV 1 hts gX1_clear_X1_find rfl rfl rfl (by decide +kernel) ⟨Nat.le_of_ble_eq_true rfl, Nat.le_of_ble_eq_true rfl⟩) (ow_PreR hK hP (ci := 1) (q0 := 0) rfl rfl) rfl rfl hl.1 rfl (lv_room (Nat.le_of_ble_eq_true rfl)) dX1_clear_32 ⟨Nat.le_of_ble_eq_true rfl, Nat.le_of_ble_eq_true rfl⟩) ?_
          refine lv_iconst (v := 1) hx hb dX1_clear_35 (by decide +kernel) ?_
          refine lv_iadd hx hb dX1_clear_36 ?_
          refine ow_top (z := nI (p + 1)) (nI_1 p) ?_
          refine ow_callv (wr := []) (va_runV (As := [.int (nI (p + 1))]) (rest := []) ⟨hx, hb, hml, hown, hts⟩ (c_M_drop l dC dI h a b cA cB tt (N - i) (ol_rem L (p + 1) i) f1 as (p + 1) _ hf1 (by omega) (by omega)) (cwV 1 hts gX1_clear_X1_drop rfl rfl rfl (by decide +kernel) ⟨Nat.le_of_ble_eq_true rfl, Nat.le_of_ble_eq_true rfl⟩) (ow_PreV hK hP hD (ci := 1) (q0 := 0) rfl rfl) rfl rfl hl.1 rfl (lv_room (Nat.le_of_ble_eq_true rfl)) dX1_clear_37 ⟨Nat.le_of_ble_eq_true rfl, Nat.le_of_ble_eq_true rfl⟩) hP hD hS hA [0, 1, 2] [] rfl rfl (by decide) (by decide) (fun u H locs hw hP hD hS => ?_)
          obtain ⟨u1, u2, u3, u4⟩ := u
          obtain ⟨e1, e2, hf2, e4⟩ := hw
          obtain rfl : tt = u1 := e1.symm
          obtain rfl : nI (N - i - 1) = u2 := e2.symm
          obtain rfl : as = u4 := e4.symm
          rw [ol_rem_1] at hf2
          have eN : N - i - 1 = N - (i + 1) := by omega
          rw [eN] at hf2 hP hD
          have hP : va_P (dC, dI) vwCl [(h, .inr (1, [.int tt, .ref a, .int (nI (N - (i + 1))), .ref b])), (a, .inl (cA, 1000, .inl u3)), (b, .inl (cB, 1000, .inl as))] H := hP
          have hD : va_D A [(h, .inr (1, [.int tt, .ref a, .int (nI (N - (i + 1))), .ref b])), (a, .inl (cA, 1000, .inl u3)), (b, .inl (cB, 1000, .inl as))] := hD
          refine lv_iinc (v := nI (i + 1)) (lv' := [(3, .int (nI (i + 1))), (0, .ref h), (1, .int x), (2, .int y)]) hx hb dX1_clear_40 hl (k := 3) rfl (nI_1 i) (by decide) rfl (fun ls hl => ?_)
          refine lv_goto (tgt := 14) hx hb dX1_clear_43 (by decide) ?_
          exact ih (i + 1) u3 (by omega) (by omega) hf2 H locs hP hD hS ls (lv_sub hl [1, 2, 3, 0] rfl)
    exact loop (q + 1) 0 f (by omega) (by omega) (by rw [ol_rem_0]; exact hf) _ _ hP hD hS ls (lv_sub hl [1, 2, 3, 0] rfl)
  · obtain ⟨hr0, hN0, hL0⟩ : r = 0 ∧ N' = N ∧ L' = L := by
      rcases hsp with ⟨_, _, e9⟩ | ⟨e9, _⟩
      · exact e9
      · exact absurd e9 c_7
    refine lv_iconst (v := 0) hx hb dX1_clear_10 (by decide +kernel) ?_
    exact W.iret (v := 0) hx hb hr (fun t ht hW => ⟨⟨0, (tt, nI N, f, as), rfl, ⟨hr0.symm, rfl, by rw [hN0], by rw [hN0, hL0]; exact hf⟩, by rw [ht]; exact hP, hD⟩, hS.F ht⟩) hS.2.2 dX1_clear_11
set_option maxHeartbeats 4000000 in
set_option maxRecDepth 100000 in
/-- carry(x, y, z) -/
theorem c_M_carry (l : Launch) (dC : Nat → ClassId) (dI : Nat → Nat → Nat) (h a b : Nat) (cA cB : ClassId) (th : Int32) (N : Nat) (L : Nat → Nat) (f as : Nat → Int32) (tt r : Int32) (N' : Nat) (L' : Nat → Nat) (sz : Nat) (ok : ol_ok N L) (hf : ol_f N L f) (x y z : Int32) (hsp : ((ol_no N L x ∨ ol_no N L y ∨ ol_no N L z) ∧ tt = 1 ∧ r = 0 ∧ N' = N ∧ L' = L) ∨ (tt = 0 ∧ ∃ p q o, ol_at N L x p ∧ ol_at N L y q ∧ ol_at N L z o ∧ sp_cr N L p q o r N' L')) : Met l yX1_carry wsX1_carry ({ frames := 2, cells := 0, slots := 0, locals := 45 }) (ow_Pc (dC, dI) vwCl [(cA, .int), (cB, .int)] (wM h a b cA cB (th, nI N, f, as)) sz [.ref h, .int x, .int y, .int z]) (va_Qi (fun (r' : Int32) (u : Int32 × Int32 × (Nat → Int32) × (Nat → Int32)) => r' = r ∧ u.1 = tt ∧ u.2.1 = nI N' ∧ ol_f N' L' u.2.2.1) (ow_B (dC, dI) vwCl (wM h a b cA cB) (va_A (wM h a b cA cB (th, nI N, f, as)) sz)) (va_A (wM h a b cA cB (th, nI N, f, as)) sz)) 0 0 (va_A (wM h a b cA cB (th, nI N, f, as)) sz) := by
  refine Met.ofW (cc := cX1_carry) (maxL := 9) (ret := (some .int)) (by decide) rfl ?_
  intro pg ev s m args below meth cd s₁ B hml hv
  obtain ⟨rfl, hsz, hP, hK, hD0⟩ := hv
  have hx := B.exec
  have hb := B.bytes
  have hr := B.returns
  have hts := atoms_spec (ws := wsX1_carry) B.pre
  have hown : s.vm.findClass RX1 = some m.cls := findClass_of_methodNamed B.named
  have hlocks := B.notSynchronized
  subst hsz
  have hD := hD0.self (sz := s.heap.size)
  generalize hAe : va_A (wM h a b cA cB (th, nI N, f, as)) s.heap.size = A at hD ⊢
  have hA : ∀ q : Nat, s.heap.size ≤ q → A q := fun q h => by rw [← hAe]; exact Or.inr h
  have hS : va_S A s.heap s.heap [] := va_S.rf
  have hD : va_D A [(h, .inr (1, [.int th, .ref a, .int (nI N), .ref b])), (a, .inl (cA, 1000, .inl f)), (b, .inl (cB, 1000, .inl as))] := hD
  have hP : va_P (dC, dI) vwCl [(h, .inr (1, [.int th, .ref a, .int (nI N), .ref b])), (a, .inl (cA, 1000, .inl f)), (b, .inl (cB, 1000, .inl as))] s.heap := hP
  have hl := lv_entry ([.ref h, .int x, .int y, .int z]) (n := 9) (Nat.le_of_ble_eq_true rfl)
  rw [lg_entry_eq]
  generalize (lg_sl ([.ref h, .int x, .int y, .int z]) ++ List.replicate (9 - (lg_sl ([.ref h, .int x, .int y, .int z])).length) Slot.unset).toArray = ls at hl ⊢
  have hl : lv_has ls 9 [(0, .ref h), (1, .int x), (2, .int y), (3, .int z)] := hl
  have hlc : ol_lc N L x y z tt := by
    rcases hsp with ⟨h1, h2, _⟩ | ⟨h2, p, q, o, h1, h3, h4, _⟩
    · rw [h2]; exact ol_lc_no h1
    · rw [h2]; exact ol_lc_at h1 h3 h4
  refine lv_aload_n hx hb dX1_carry_0 rfl (lv_at hl 0 rfl) ?_
  refine lv_iload_n hx hb dX1_carry_1 rfl (lv_at hl 1 rfl) ?_
  refine lv_iload_n hx hb dX1_carry_2 rfl (lv_at hl 2 rfl) ?_
  refine lv_iload_n hx hb dX1_carry_3 rfl (lv_at hl 3 rfl) ?_
  refine ow_calli (wr := []) (va_runV (As := [.int x, .int y, .int z]) (rest := []) ⟨hx, hb, hml, hown, hts⟩ (c_M_lacks l dC dI h a b cA cB th N L f as x y z tt _ ok hf hlc) (cwV 3 hts gX1_carry_X1_lacks rfl rfl rfl (by decide +kernel) ⟨Nat.le_of_ble_eq_true rfl, Nat.le_of_ble_eq_true rfl⟩) (ow_PreV hK hP hD (ci := 1) (q0 := 0) rfl rfl) rfl rfl hl.1 rfl (lv_room (Nat.le_of_ble_eq_true rfl)) dX1_carry_4 ⟨Nat.le_of_ble_eq_true rfl, Nat.le_of_ble_eq_true rfl⟩) hP hD hS hA [0, 1, 2] [] rfl rfl (by decide) (by decide) (fun r0 u H locs hw hP hD hS => ?_)
  obtain ⟨er, eu⟩ := hw
  subst eu
  refine ow_top (z := tt) er ?_
  have hP : va_P (dC, dI) vwCl [(h, .inr (1, [.int tt, .ref a, .int (nI N), .ref b])), (a, .inl (cA, 1000, .inl f)), (b, .inl (cB, 1000, .inl as))] H := hP
  have hD : va_D A [(h, .inr (1, [.int tt, .ref a, .int (nI N), .ref b])), (a, .inl (cA, 1000, .inl f)), (b, .inl (cB, 1000, .inl as))] := hD
  refine lv_if_eq (tgt := 12) hx hb dX1_carry_7 (by decide) (fun c_7 => ?_) (fun c_7 => ?_)
  · have hs : ∃ p q o, ol_at N L x p ∧ ol_at N L y q ∧ ol_at N L z o ∧ sp_cr N L p q o r N' L' := by
      rcases hsp with ⟨_, e9, _⟩ | ⟨_, h9⟩
      · exact absurd (e9.symm.trans c_7) (by decide)
      · exact h9
    obtain ⟨p, q, o, hp, hq, ho, hN0, hs2⟩ := hs
    have hpN : p < N := hp.1
    have hqN : q < N := hq.1
    have hoN : o < N := ho.1
    have hN : N ≤ 1000 := ok.2.1
    refine lv_aload_n hx hb dX1_carry_12 rfl (lv_at hl 0 rfl) ?_
    refine lv_iload_n hx hb dX1_carry_13 rfl (lv_at hl 1 rfl) ?_
    refine ow_callR (r := nI p) (W.runV (As := [.int x]) (rest := []) ⟨hx, hb, hml, hown, hts⟩ (c_M_find l dC dI h a b cA cB tt N L f as x (nI p) ok.2.1 hf (ol_fd_at ok hp)) (cwV 1 hts gX1_carry_X1_find rfl rfl rfl (by decide +kernel) ⟨Nat.le_of_ble_eq_true rfl, Nat.le_of_ble_eq_true rfl⟩) (ow_PreR hK hP (ci := 1) (q0 := 0) rfl rfl) rfl rfl hl.1 rfl (lv_room (Nat.le_of_ble_eq_true rfl)) dX1_carry_14 ⟨Nat.le_of_ble_eq_true rfl, Nat.le_of_ble_eq_true rfl⟩) ?_
    refine lv_istore (lv' := [(4, .int (nI p)), (0, .ref h), (1, .int x), (2, .int y), (3, .int z)]) hx hb dX1_carry_17 hl (by decide) rfl (fun ls hl => ?_)
    refine lv_aload_n hx hb dX1_carry_19 rfl (lv_at hl 1 rfl) ?_
    refine lv_iload_n hx hb dX1_carry_20 rfl (lv_at hl 3 rfl) ?_
    refine ow_callR (r := nI q) (W.runV (As := [.int y]) (rest := []) ⟨hx, hb, hml, hown, hts⟩ (c_M_find l dC dI h a b cA cB tt N L f as y (nI q) ok.2.1 hf (ol_fd_at ok hq)) (cwV 1 hts gX1_carry_X1_find rfl rfl rfl (by decide +kernel) ⟨Nat.le_of_ble_eq_true rfl, Nat.le_of_ble_eq_true rfl⟩) (ow_PreR hK hP (ci := 1) (q0 := 0) rfl rfl) rfl rfl hl.1 rfl (lv_room (Nat.le_of_ble_eq_true rfl)) dX1_carry_21 ⟨Nat.le_of_ble_eq_true rfl, Nat.le_of_ble_eq_true rfl⟩) ?_
    refine lv_istore (lv' := [(5, .int (nI q)), (4, .int (nI p)), (0, .ref h), (1, .int x), (2, .int y), (3, .int z)]) hx hb dX1_carry_24 hl (by decide) rfl (fun ls hl => ?_)
    refine lv_aload_n hx hb dX1_carry_26 rfl (lv_at hl 2 rfl) ?_
    refine lv_iload_n hx hb dX1_carry_27 rfl (lv_at hl 5 rfl) ?_
    refine ow_callR (r := nI o) (W.runV (As := [.int z]) (rest := []) ⟨hx, hb, hml, hown, hts⟩ (c_M_find l dC dI h a b cA cB tt N L f as z (nI o) ok.2.1 hf (ol_fd_at ok ho)) (cwV 1 hts gX1_carry_X1_find rfl rfl rfl (by decide +kernel) ⟨Nat.le_of_ble_eq_true rfl, Nat.le_of_ble_eq_true rfl⟩) (ow_PreR hK hP (ci := 1) (q0 := 0) rfl rfl) rfl rfl hl.1 rfl (lv_room (Nat.le_of_ble_eq_true rfl)) dX1_carry_28 ⟨Nat.le_of_ble_eq_true rfl, Nat.le_of_ble_eq_true rfl⟩) ?_
    refine lv_istore (lv' := [(6, .int (nI o)), (5, .int (nI q)), (4, .int (nI p)), (0, .ref h), (1, .int x), (2, .int y), (3, .int z)]) hx hb dX1_carry_31 hl (by decide) rfl (fun ls hl => ?_)
    refine lv_iload hx hb dX1_carry_33 (lv_at hl 2 rfl) ?_
    refine lv_iload hx hb dX1_carry_35 (lv_at hl 1 rfl) ?_
    refine lv_icmp_ge (tgt := 54) hx hb dX1_carry_37 (by decide) (fun c_37 => ?_) (fun c_37 => ?_)
    · have hpq := ol_le (by omega) (by omega) c_37
      obtain ⟨hr0, hL0⟩ : r = -1 ∧ L' = L := by
        rcases hs2 with ⟨_, h2⟩ | ⟨h1, h2, _⟩ | ⟨h1, h2, _⟩
        · exact h2
        · exact absurd h1 (by omega)
        · exact absurd h1 (by omega)
      refine lv_iconst (v := (-1)) hx hb dX1_carry_54 (by decide +kernel) ?_
      exact W.iret (v := ((-1))) hx hb hr (fun t ht hW => ⟨⟨((-1)), (tt, nI N, f, as), rfl, ⟨hr0.symm, rfl, by rw [hN0], by rw [hN0, hL0]; exact hf⟩, by rw [ht]; exact hP, hD⟩, hS.F ht⟩) hS.2.2 dX1_carry_55
    · have hpq := ol_nle (by omega) (by omega) c_37
      refine lv_iload hx hb dX1_carry_40 (lv_at hl 0 rfl) ?_
      refine lv_iload hx hb dX1_carry_42 (lv_at hl 2 rfl) ?_
      refine lv_icmp_le (tgt := 56) hx hb dX1_carry_44 (by decide) (fun c_44 => ?_) (fun c_44 => ?_)
      · have hop := ol_le (by omega) (by omega) c_44
        have hYY : o ≤ p ∨ q ≤ o := Or.inl hop
        refine lv_iload hx hb dX1_carry_56 (lv_at hl 1 rfl) ?_
        refine lv_iload hx hb dX1_carry_58 (lv_at hl 2 rfl) ?_
        have hpq2 : p < q := hpq
        obtain ⟨w, hw⟩ : ∃ w, w = q - p - 1 := ⟨_, rfl⟩
        obtain ⟨c', hcz, hcN, hr0, hL0⟩ : ∃ c', ol_at (N - w) (ol_rem L (p + 1) w) z c' ∧ c' + 1 ≤ N - w ∧ r = nI w ∧ L' = ol_blk (ol_rem L (p + 1) w) (fun j => L (p + 1 + j)) (c' + 1) w := by
          rcases hYY with h9 | h9
          · refine ⟨o, ⟨by omega, by rw [ol_rem_lo (by omega)]; exact ho.2⟩, by omega, ?_⟩
            rcases hs2 with ⟨h1, _⟩ | ⟨_, _, h2, h3⟩ | ⟨_, h1, _⟩
            · exact absurd h1 (by omega)
            · subst hw; exact ⟨h2, by rw [h3, ol_carry_lo L h9 hpq]⟩
            · exact absurd h1 (by omega)
          · refine ⟨o - w, ⟨by omega, by rw [ol_rem_hi (by omega), show o - w + w = o by omega]; exact ho.2⟩, by omega, ?_⟩
            rcases hs2 with ⟨h1, _⟩ | ⟨_, h1, _⟩ | ⟨_, _, h2, h3⟩
            · exact absurd h1 (by omega)
            · exact absurd h1 (by omega)
            · subst hw; exact ⟨h2, by rw [h3, ol_carry_hi L h9 hpq]⟩
        refine lv_isub hx hb dX1_carry_60 ?_
        refine ow_top (z := nI (q - p)) (pk_sub (by omega)) ?_
        refine lv_iconst (v := 1) hx hb dX1_carry_61 (by decide +kernel) ?_
        refine lv_isub hx hb dX1_carry_62 ?_
        refine ow_top (z := nI w) (by rw [hw]; exact nI_m1 (by omega)) ?_
        refine lv_istore (lv' := [(7, .int (nI w)), (6, .int (nI o)), (5, .int (nI q)), (4, .int (nI p)), (0, .ref h), (1, .int x), (2, .int y), (3, .int z)]) hx hb dX1_carry_63 hl (by decide) rfl (fun ls hl => ?_)
        refine lv_iconst (v := nI 0) hx hb dX1_carry_65 (by decide +kernel) ?_
        refine lv_istore (lv' := [(8, .int (nI 0)), (7, .int (nI w)), (6, .int (nI o)), (5, .int (nI q)), (4, .int (nI p)), (0, .ref h), (1, .int x), (2, .int y), (3, .int z)]) hx hb dX1_carry_66 hl (by decide) rfl (fun ls hl => ?_)
        have loop1 : ∀ (k : Nat) (i : Nat) (f1 as1 : Nat → Int32), w < i + k → i ≤ w → ol_f (N - i) (ol_rem L (p + 1) i) f1 → (∀ j, j < i → as1 j = nI (L (p + 1 + j))) → ∀ (H : Heap) (locs : List Loc), va_P (dC, dI) vwCl [(h, .inr (1, [.int tt, .ref a, .int (nI (N - i)), .ref b])), (a, .inl (cA, 1000, .inl f1)), (b, .inl (cB, 1000, .inl as1))] H → va_D A [(h, .inr (1, [.int tt, .ref a, .int (nI (N - i)), .ref b])), (a, .inl (cA, 1000, .inl f1)), (b, .inl (cB, 1000, .inl as1))] → va_S A s.heap H locs → ∀ ls : Array Slot, lv_has ls 9 [(0, .ref h), (1, .int x), (2, .int y), (3, .int z), (4, .int (nI p)), (5, .int (nI q)), (6, .int (nI o)), (7, .int (nI w)), (8, .int (nI i))] → W pg l ev (headSpec wsX1_carry ({ frames := 2, cells := 0, slots := 0, locals := 45 })).room s m ([.ref h, .int x, .int y, .int z] : List Value).toArray below meth cd H locs 0 0 (MQ below (va_Qi (fun (r' : Int32) (u : Int32 × Int32 × (Nat → Int32) × (Nat → Int32)) => r' = r ∧ u.1 = tt ∧ u.2.1 = nI N' ∧ ol_f N' L' u.2.2.1) (ow_B (dC, dI) vwCl (wM h a b cA cB) A) A) ([.ref h, .int x, .int y, .int z] : List Value).toArray s 0 0 A) (F0 m 68 ls []) := by
          intro k
          induction k with
          | zero =>
            intro i f1 as1 h1 h2 h3
            exact absurd h1 (by omega)
          | succ k ih =>
            intro i f1 as1 hk hi hf1 has H locs hP hD hS ls hl
            refine lv_iload hx hb dX1_carry_68 (lv_at hl 8 rfl) ?_
            refine lv_iload hx hb dX1_carry_70 (lv_at hl 7 rfl) ?_
            refine lv_icmp_ge (tgt := 105) hx hb dX1_carry_72 (by decide) (fun c_72 => ?_) (fun c_72 => ?_)
            · have hi3 := ol_le (by omega) (by omega) c_72
              obtain rfl : w = i := by omega
              refine lv_iconst (v := nI 0) hx hb dX1_carry_105 (by decide +kernel) ?_
              refine lv_istore (lv' := [(8, .int (nI 0)), (0, .ref h), (1, .int x), (2, .int y), (3, .int z), (4, .int (nI p)), (5, .int (nI q)), (6, .int (nI o)), (7, .int (nI w))]) hx hb dX1_carry_106 hl (by decide) rfl (fun ls hl => ?_)
              have loop2 : ∀ (k : Nat) (j : Nat) (f2 : Nat → Int32), w < j + k → j ≤ w → ol_f (N - w + j) (ol_blk (ol_rem L (p + 1) w) (fun j => L (p + 1 + j)) (c' + 1) j) f2 → ∀ (H : Heap) (locs : List Loc), va_P (dC, dI) vwCl [(h, .inr (1, [.int tt, .ref a, .int (nI (N - w + j)), .ref b])), (a, .inl (cA, 1000, .inl f2)), (b, .inl (cB, 1000, .inl as1))] H → va_D A [(h, .inr (1, [.int tt, .ref a, .int (nI (N - w + j)), .ref b])), (a, .inl (cA, 1000, .inl f2)), (b, .inl (cB, 1000, .inl as1))] → va_S A s.heap H locs → ∀ ls : Array Slot, lv_has ls 9 [(0, .ref h), (1, .int x), (2, .int y), (3, .int z), (4, .int (nI p)), (5, .int (nI q)), (6, .int (nI o)), (7, .int (nI w)), (8, .int (nI j))] → W pg l ev (headSpec wsX1_carry ({ frames := 2, cells := 0, slots := 0, locals := 45 })).room s m ([.ref h, .int x, .int y, .int z] : List Value).toArray below meth cd H locs 0 0 (MQ below (va_Qi (fun (r' : Int32) (u : Int32 × Int32 × (Nat → Int32) × (Nat → Int32)) => r' = r ∧ u.1 = tt ∧ u.2.1 = nI N' ∧ ol_f N' L' u.2.2.1) (ow_B (dC, dI) vwCl (wM h a b cA cB) A) A) ([.ref h, .int x, .int y, .int z] : List Value).toArray s 0 0 A) (F0 m 108 ls []) := by
                intro k
                induction k with
                | zero =>
                  intro j f2 h1 h2 h3
                  exact absurd h1 (by omega)
                | succ k ih =>
                  intro j f2 hk2 hj hf2 H locs hP hD hS ls hl
                  refine lv_iload hx hb dX1_carry_108 (lv_at hl 8 rfl) ?_
                  refine lv_iload hx hb dX1_carry_110 (lv_at hl 7 rfl) ?_
                  refine lv_icmp_ge (tgt := 142) hx hb dX1_carry_112 (by decide) (fun c_112 => ?_) (fun c_112 => ?_)
                  · have hj3 := ol_le (by omega) (by omega) c_112
                    obtain rfl : w = j := by omega
                    have eNw : N - w + w = N := by omega
                    refine lv_iload hx hb dX1_carry_142 (lv_at hl 7 rfl) ?_
                    exact W.iret (v := (nI w)) hx hb hr (fun t ht hW => ⟨⟨(nI w), (tt, nI (N - w + w), f2, as1), rfl, ⟨hr0.symm, rfl, by rw [hN0, eNw], by rw [hN0, hL0, ← eNw]; exact hf2⟩, by rw [ht]; exact hP, hD⟩, hS.F ht⟩) hS.2.2 dX1_carry_144
                  · have hj3 := ol_nle (by omega) (by omega) c_112
                    have ok2 : ol_ok (N - w + j) (ol_blk (ol_rem L (p + 1) w) (fun j => L (p + 1 + j)) (c' + 1) j) := ol_ok_carry ok (by omega) (by omega) j (by omega)
                    have hcz2 : ol_at (N - w + j) (ol_blk (ol_rem L (p + 1) w) (fun j => L (p + 1 + j)) (c' + 1) j) z c' := ⟨by omega, by rw [ol_blk_lo (by omega)]; exact hcz.2⟩
                    refine lv_aload_n hx hb dX1_carry_115 rfl (lv_at hl 0 rfl) ?_
                    refine lv_aload_n hx hb dX1_carry_116 rfl (lv_at hl 0 rfl) ?_
                    refine va_get (D := (dC, dI)) (ci := 1) (v := .ref b) (C := RX1) (T := TX1) (N := 4) hx hb hts (by decide +kernel) hown hK hP 0 rfl rfl 3 (by decide) (hts (.fieldLink RX1 17 "OrderLineModel" "aside" "[I") (by decide +kernel)) (fun _ h9 => h9) rfl dX1_carry_117 ?_
                    refine lv_iload hx hb dX1_carry_120 (lv_at hl 8 rfl) ?_
                    refine ow_iald (k := j) (v := nI (L (p + 1 + j))) hx hb hK hP 2 1 rfl rfl (by omega) (by decide) (has j (by omega)) dX1_carry_122 ?_
                    refine lv_aload_n hx hb dX1_carry_123 rfl (lv_at hl 0 rfl) ?_
                    refine lv_iload_n hx hb dX1_carry_124 rfl (lv_at hl 3 rfl) ?_
                    refine ow_callR (r := nI c') (W.runV (As := [.int z]) (rest := [.int (nI (L (p + 1 + j))), .ref h]) ⟨hx, hb, hml, hown, hts⟩ (c_M_find l dC dI h a b cA cB tt (N - w + j) (ol_blk (ol_rem L (p + 1) w) (fun j => L (p + 1 + j)) (c' + 1) j) f2 as1 z (nI c') (by omega) hf2 (ol_fd_at ok2 hcz2)) (cwV 1 hts gX1_carry_X1_find rfl rfl rfl (by decide +kernel) ⟨Nat.le_of_ble_eq_true rfl, Nat.le_of_ble_eq_true rfl⟩) (ow_PreR hK hP (ci := 1) (q0 := 0) rfl rfl) rfl rfl hl.1 rfl (lv_room (Nat.le_of_ble_eq_true rfl)) dX1_carry_125 ⟨Nat.le_of_ble_eq_true rfl, Nat.le_of_ble_eq_true rfl⟩) ?_
                    refine lv_iconst (v := 1) hx hb dX1_carry_128 (by decide +kernel) ?_
                    refine lv_iadd hx hb dX1_carry_129 ?_
                    refine ow_top (z := nI (c' + 1)) (nI_1 c') ?_
                    refine lv_iload hx hb dX1_carry_130 (lv_at hl 8 rfl) ?_
                    refine lv_iadd hx hb dX1_carry_132 ?_
                    refine ow_top (z := nI (c' + 1 + j)) (nI_add (c' + 1) j) ?_
                    refine ow_callv (wr := []) (va_runV (As := [.int (nI (L (p + 1 + j))), .int (nI (c' + 1 + j))]) (rest := []) ⟨hx, hb, hml, hown, hts⟩ (c_M_put l dC dI h a b cA cB tt (N - w + j) (ol_blk (ol_rem L (p + 1) w) (fun j => L (p + 1 + j)) (c' + 1) j) f2 as1 (L (p + 1 + j)) (c' + 1 + j) _ hf2 (by omega) (by omega)) (cwV 2 hts gX1_carry_X1_put rfl rfl rfl (by decide +kernel) ⟨Nat.le_of_ble_eq_true rfl, Nat.le_of_ble_eq_true rfl⟩) (ow_PreV hK hP hD (ci := 1) (q0 := 0) rfl rfl) rfl rfl hl.1 rfl (lv_room (Nat.le_of_ble_eq_true rfl)) dX1_carry_133 ⟨Nat.le_of_ble_eq_true rfl, Nat.le_of_ble_eq_true rfl⟩) hP hD hS hA [0, 1, 2] [] rfl rfl (by decide) (by decide) (fun u H locs hw hP hD hS => ?_)
                    obtain ⟨u1, u2, u3, u4⟩ := u
                    obtain ⟨e1, e2, hf3, e4⟩ := hw
                    obtain rfl : tt = u1 := e1.symm
                    obtain rfl : nI (N - w + j + 1) = u2 := e2.symm
                    obtain rfl : as1 = u4 := e4.symm
                    have e9 := ol_blk_1 (ol_rem L (p + 1) w) (fun j => L (p + 1 + j)) (c' + 1) j
                    rw [e9] at hf3
                    have hP : va_P (dC, dI) vwCl [(h, .inr (1, [.int tt, .ref a, .int (nI (N - w + (j + 1))), .ref b])), (a, .inl (cA, 1000, .inl u3)), (b, .inl (cB, 1000, .inl as1))] H := hP
                    have hD : va_D A [(h, .inr (1, [.int tt, .ref a, .int (nI (N - w + (j + 1))), .ref b])), (a, .inl (cA, 1000, .inl u3)), (b, .inl (cB, 1000, .inl as1))] := hD
                    refine lv_iinc (v := nI (j + 1)) (lv' := [(8, .int (nI (j + 1))), (0, .ref h), (1, .int x), (2, .int y), (3, .int z), (4, .int (nI p)), (5, .int (nI q)), (6, .int (nI o)), (7, .int (nI w))]) hx hb dX1_carry_136 hl (k := 8) rfl (nI_1 j) (by decide) rfl (fun ls hl => ?_)
                    refine lv_goto (tgt := 108) hx hb dX1_carry_139 (by decide) ?_
                    exact ih (j + 1) u3 (by omega) (by omega) hf3 H locs hP hD hS ls (lv_sub hl [1, 2, 3, 4, 5, 6, 7, 8, 0] rfl)
              exact loop2 (w + 1) 0 f1 (by omega) (by omega) (by rw [ol_blk_0]; exact hf1) _ _ hP hD hS ls (lv_sub hl [1, 2, 3, 4, 5, 6, 7, 8, 0] rfl)
            · have hi3 := ol_nle (by omega) (by omega) c_72
              refine lv_aload_n hx hb dX1_carry_75 rfl (lv_at hl 0 rfl) ?_
              refine va_get (D := (dC, dI)) (ci := 1) (v := .ref b) (C := RX1) (T := TX1) (N := 4) hx hb hts (by decide +kernel) hown hK hP 0 rfl rfl 3 (by decide) (hts (.fieldLink RX1 17 "OrderLineModel" "aside" "[I") (by decide +kernel)) (fun _ h9 => h9) rfl dX1_carry_76 ?_
              refine lv_iload hx hb dX1_carry_79 (lv_at hl 8 rfl) ?_
              refine lv_aload_n hx hb dX1_carry_81 rfl (lv_at hl 0 rfl) ?_
              refine va_get (D := (dC, dI)) (ci := 1) (v := .ref a) (C := RX1) (T := TX1) (N := 4) hx hb hts (by decide +kernel) hown hK hP 0 rfl rfl 1 (by decide) (hts (.fieldLink RX1 7 "OrderLineModel" "line" "[I") (by decide +kernel)) (fun _ h9 => h9) rfl dX1_carry_82 ?_
              refine lv_iload hx hb dX1_carry_85 (lv_at hl 4 rfl) ?_
              refine lv_iconst (v := 1) hx hb dX1_carry_87 (by decide +kernel) ?_
              refine lv_iadd hx hb dX1_carry_88 ?_
              refine ow_top (z := nI (p + 1)) (nI_1 p) ?_
              refine ow_iald (k := p + 1) (v := nI (L (p + 1 + i))) hx hb hK hP 1 0 rfl rfl (by omega) (by decide) (by rw [hf1 (p + 1) (by omega), ol_rem_hi (by omega)]) dX1_carry_89 ?_
              refine ow_iast (k := i) hx hb hK hP hD hS 2 1 rfl rfl (by omega) (by decide) dX1_carry_90 (fun H locs hP hD hS => ?_)
              have hP : va_P (dC, dI) vwCl [(h, .inr (1, [.int tt, .ref a, .int (nI (N - i)), .ref b])), (a, .inl (cA, 1000, .inl f1)), (b, .inl (cB, 1000, .inl (upd as1 i ((nI (L (p + 1 + i)))))))] H := hP
              have hD : va_D A [(h, .inr (1, [.int tt, .ref a, .int (nI (N - i)), .ref b])), (a, .inl (cA, 1000, .inl f1)), (b, .inl (cB, 1000, .inl (upd as1 i ((nI (L (p + 1 + i)))))))] := hD
              refine lv_aload_n hx hb dX1_carry_91 rfl (lv_at hl 0 rfl) ?_
              refine lv_iload hx hb dX1_carry_92 (lv_at hl 4 rfl) ?_
              refine lv_iconst (v := 1) hx hb dX1_carry_94 (by decide +kernel) ?_
              refine lv_iadd hx hb dX1_carry_95 ?_
              refine ow_top (z := nI (p + 1)) (nI_1 p) ?_
              refine ow_callv (wr := []) (va_runV (As := [.int (nI (p + 1))]) (rest := []) ⟨hx, hb, hml, hown, hts⟩ (c_M_drop l dC dI h a b cA cB tt (N - i) (ol_rem L (p + 1) i) f1 (upd as1 i (nI (L (p + 1 + i)))) (p + 1) _ hf1 (by omega) (by omega)) (cwV 1 hts gX1_carry_X1_drop rfl rfl rfl (by decide +kernel) ⟨Nat.le_of_ble_eq_true rfl, Nat.le_of_ble_eq_true rfl⟩) (ow_PreV hK hP hD (ci := 1) (q0 := 0) rfl rfl) rfl rfl hl.1 rfl (lv_room (Nat.le_of_ble_eq_true rfl)) dX1_carry_96 ⟨Nat.le_of_ble_eq_true rfl, Nat.le_of_ble_eq_true rfl⟩) hP hD hS hA [0, 1, 2] [] rfl rfl (by decide) (by decide) (fun u H locs hw hP hD hS => ?_)
              obtain ⟨u1, u2, u3, u4⟩ := u
              obtain ⟨e1, e2, hf2, e4⟩ := hw
              obtain rfl : tt = u1 := e1.symm
              obtain rfl : nI (N - i - 1) = u2 := e2.symm
              obtain rfl : upd as1 i (nI (L (p + 1 + i))) = u4 := e4.symm
              rw [ol_rem_1] at hf2
              have eN : N - i - 1 = N - (i + 1) := by omega
              rw [eN] at hf2 hP hD
              have hP : va_P (dC, dI) vwCl [(h, .inr (1, [.int tt, .ref a, .int (nI (N - (i + 1))), .ref b])), (a, .inl (cA, 1000, .inl u3)), (b, .inl (cB, 1000, .inl (upd as1 i (nI (L (p + 1 + i))))))] H := hP
              have hD : va_D A [(h, .inr (1, [.int tt, .ref a, .int (nI (N - (i + 1))), .ref b])), (a, .inl (cA, 1000, .inl u3)), (b, .inl (cB, 1000, .inl (upd as1 i (nI (L (p + 1 + i))))))] := hD
              refine lv_iinc (v := nI (i + 1)) (lv' := [(8, .int (nI (i + 1))), (0, .ref h), (1, .int x), (2, .int y), (3, .int z), (4, .int (nI p)), (5, .int (nI q)), (6, .int (nI o)), (7, .int (nI w))]) hx hb dX1_carry_99 hl (k := 8) rfl (nI_1 i) (by decide) rfl (fun ls hl => ?_)
              refine lv_goto (tgt := 68) hx hb dX1_carry_102 (by decide) ?_
              exact ih (i + 1) u3 (upd as1 i (nI (L (p + 1 + i)))) (by omega) (by omega) hf2 (fun j hj => (Decidable.em (j = i)).elim (fun e9 => by subst e9; exact pk_us) (fun e9 => (pk_un e9).trans (has j (by omega)))) H locs hP hD hS ls (lv_sub hl [1, 2, 3, 4, 5, 6, 7, 8, 0] rfl)
        exact loop1 (w + 1) 0 f as (by omega) (by omega) (by rw [ol_rem_0]; exact hf) (fun j hj => absurd hj (Nat.not_lt_zero j)) _ _ hP hD hS ls (lv_sub hl [5, 6, 7, 8, 4, 3, 2, 1, 0] rfl)
      · have hop := ol_nle (by omega) (by omega) c_44
        refine lv_iload hx hb dX1_carry_47 (lv_at hl 0 rfl) ?_
        refine lv_iload hx hb dX1_carry_49 (lv_at hl 1 rfl) ?_
        refine lv_icmp_ge (tgt := 56) hx hb dX1_carry_51 (by decide) (fun c_51 => ?_) (fun c_51 => ?_)
        · have hoq := ol_le (by omega) (by omega) c_51
          have hYY : o ≤ p ∨ q ≤ o := Or.inr hoq
          refine lv_iload hx hb dX1_carry_56 (lv_at hl 1 rfl) ?_
          refine lv_iload hx hb dX1_carry_58 (lv_at hl 2 rfl) ?_
          have hpq2 : p < q := hpq
          obtain ⟨w, hw⟩ : ∃ w, w = q - p - 1 := ⟨_, rfl⟩
          obtain ⟨c', hcz, hcN, hr0, hL0⟩ : ∃ c', ol_at (N - w) (ol_rem L (p + 1) w) z c' ∧ c' + 1 ≤ N - w ∧ r = nI w ∧ L' = ol_blk (ol_rem L (p + 1) w) (fun j => L (p + 1 + j)) (c' + 1) w := by
            rcases hYY with h9 | h9
            · refine ⟨o, ⟨by omega, by rw [ol_rem_lo (by omega)]; exact ho.2⟩, by omega, ?_⟩
              rcases hs2 with ⟨h1, _⟩ | ⟨_, _, h2, h3⟩ | ⟨_, h1, _⟩
              · exact absurd h1 (by omega)
              · subst hw; exact ⟨h2, by rw [h3, ol_carry_lo L h9 hpq]⟩
              · exact absurd h1 (by omega)
            · refine ⟨o - w, ⟨by omega, by rw [ol_rem_hi (by omega), show o - w + w = o by omega]; exact ho.2⟩, by omega, ?_⟩
              rcases hs2 with ⟨h1, _⟩ | ⟨_, h1, _⟩ | ⟨_, _, h2, h3⟩
              · exact absurd h1 (by omega)
              · exact absurd h1 (by omega)
              · subst hw; exact ⟨h2, by rw [h3, ol_carry_hi L h9 hpq]⟩
          refine lv_isub hx hb dX1_carry_60 ?_
          refine ow_top (z := nI (q - p)) (pk_sub (by omega)) ?_
          refine lv_iconst (v := 1) hx hb dX1_carry_61 (by decide +kernel) ?_
          refine lv_isub hx hb dX1_carry_62 ?_
          refine ow_top (z := nI w) (by rw [hw]; exact nI_m1 (by omega)) ?_
          refine lv_istore (lv' := [(7, .int (nI w)), (6, .int (nI o)), (5, .int (nI q)), (4, .int (nI p)), (0, .ref h), (1, .int x), (2, .int y), (3, .int z)]) hx hb dX1_carry_63 hl (by decide) rfl (fun ls hl => ?_)
          refine lv_iconst (v := nI 0) hx hb dX1_carry_65 (by decide +kernel) ?_
          refine lv_istore (lv' := [(8, .int (nI 0)), (7, .int (nI w)), (6, .int (nI o)), (5, .int (nI q)), (4, .int (nI p)), (0, .ref h), (1, .int x), (2, .int y), (3, .int z)]) hx hb dX1_carry_66 hl (by decide) rfl (fun ls hl => ?_)
          have loop1 : ∀ (k : Nat) (i : Nat) (f1 as1 : Nat → Int32), w < i + k → i ≤ w → ol_f (N - i) (ol_rem L (p + 1) i) f1 → (∀ j, j < i → as1 j = nI (L (p + 1 + j))) → ∀ (H : Heap) (locs : List Loc), va_P (dC, dI) vwCl [(h, .inr (1, [.int tt, .ref a, .int (nI (N - i)), .ref b])), (a, .inl (cA, 1000, .inl f1)), (b, .inl (cB, 1000, .inl as1))] H → va_D A [(h, .inr (1, [.int tt, .ref a, .int (nI (N - i)), .ref b])), (a, .inl (cA, 1000, .inl f1)), (b, .inl (cB, 1000, .inl as1))] → va_S A s.heap H locs → ∀ ls : Array Slot, lv_has ls 9 [(0, .ref h), (1, .int x), (2, .int y), (3, .int z), (4, .int (nI p)), (5, .int (nI q)), (6, .int (nI o)), (7, .int (nI w)), (8, .int (nI i))] → W pg l ev (headSpec wsX1_carry ({ frames := 2, cells := 0, slots := 0, locals := 45 })).room s m ([.ref h, .int x, .int y, .int z] : List Value).toArray below meth cd H locs 0 0 (MQ below (va_Qi (fun (r' : Int32) (u : Int32 × Int32 × (Nat → Int32) × (Nat → Int32)) => r' = r ∧ u.1 = tt ∧ u.2.1 = nI N' ∧ ol_f N' L' u.2.2.1) (ow_B (dC, dI) vwCl (wM h a b cA cB) A) A) ([.ref h, .int x, .int y, .int z] : List Value).toArray s 0 0 A) (F0 m 68 ls []) := by
            intro k
            induction k with
            | zero =>
              intro i f1 as1 h1 h2 h3
              exact absurd h1 (by omega)
            | succ k ih =>
              intro i f1 as1 hk hi hf1 has H locs hP hD hS ls hl
              refine lv_iload hx hb dX1_carry_68 (lv_at hl 8 rfl) ?_
              refine lv_iload hx hb dX1_carry_70 (lv_at hl 7 rfl) ?_
              refine lv_icmp_ge (tgt := 105) hx hb dX1_carry_72 (by decide) (fun c_72 => ?_) (fun c_72 => ?_)
              · have hi3 := ol_le (by omega) (by omega) c_72
                obtain rfl : w = i := by omega
                refine lv_iconst (v := nI 0) hx hb dX1_carry_105 (by decide +kernel) ?_
                refine lv_istore (lv' := [(8, .int (nI 0)), (0, .ref h), (1, .int x), (2, .int y), (3, .int z), (4, .int (nI p)), (5, .int (nI q)), (6, .int (nI o)), (7, .int (nI w))]) hx hb dX1_carry_106 hl (by decide) rfl (fun ls hl => ?_)
                have loop2 : ∀ (k : Nat) (j : Nat) (f2 : Nat → Int32), w < j + k → j ≤ w → ol_f (N - w + j) (ol_blk (ol_rem L (p + 1) w) (fun j => L (p + 1 + j)) (c' + 1) j) f2 → ∀ (H : Heap) (locs : List Loc), va_P (dC, dI) vwCl [(h, .inr (1, [.int tt, .ref a, .int (nI (N - w + j)), .ref b])), (a, .inl (cA, 1000, .inl f2)), (b, .inl (cB, 1000, .inl as1))] H → va_D A [(h, .inr (1, [.int tt, .ref a, .int (nI (N - w + j)), .ref b])), (a, .inl (cA, 1000, .inl f2)), (b, .inl (cB, 1000, .inl as1))] → va_S A s.heap H locs → ∀ ls : Array Slot, lv_has ls 9 [(0, .ref h), (1, .int x), (2, .int y), (3, .int z), (4, .int (nI p)), (5, .int (nI q)), (6, .int (nI o)), (7, .int (nI w)), (8, .int (nI j))] → W pg l ev (headSpec wsX1_carry ({ frames := 2, cells := 0, slots := 0, locals := 45 })).room s m ([.ref h, .int x, .int y, .int z] : List Value).toArray below meth cd H locs 0 0 (MQ below (va_Qi (fun (r' : Int32) (u : Int32 × Int32 × (Nat → Int32) × (Nat → Int32)) => r' = r ∧ u.1 = tt ∧ u.2.1 = nI N' ∧ ol_f N' L' u.2.2.1) (ow_B (dC, dI) vwCl (wM h a b cA cB) A) A) ([.ref h, .int x, .int y, .int z] : List Value).toArray s 0 0 A) (F0 m 108 ls []) := by
                  intro k
                  induction k with
                  | zero =>
                    intro j f2 h1 h2 h3
                    exact absurd h1 (by omega)
                  | succ k ih =>
                    intro j f2 hk2 hj hf2 H locs hP hD hS ls hl
                    refine lv_iload hx hb dX1_carry_108 (lv_at hl 8 rfl) ?_
                    refine lv_iload hx hb dX1_carry_110 (lv_at hl 7 rfl) ?_
                    refine lv_icmp_ge (tgt := 142) hx hb dX1_carry_112 (by decide) (fun c_112 => ?_) (fun c_112 => ?_)
                    · have hj3 := ol_le (by omega) (by omega) c_112
                      obtain rfl : w = j := by omega
                      have eNw : N - w + w = N := by omega
                      refine lv_iload hx hb dX1_carry_142 (lv_at hl 7 rfl) ?_
                      exact W.iret (v := (nI w)) hx hb hr (fun t ht hW => ⟨⟨(nI w), (tt, nI (N - w + w), f2, as1), rfl, ⟨hr0.symm, rfl, by rw [hN0, eNw], by rw [hN0, hL0, ← eNw]; exact hf2⟩, by rw [ht]; exact hP, hD⟩, hS.F ht⟩) hS.2.2 dX1_carry_144
                    · have hj3 := ol_nle (by omega) (by omega) c_112
                      have ok2 : ol_ok (N - w + j) (ol_blk (ol_rem L (p + 1) w) (fun j => L (p + 1 + j)) (c' + 1) j) := ol_ok_carry ok (by omega) (by omega) j (by omega)
                      have hcz2 : ol_at (N - w + j) (ol_blk (ol_rem L (p + 1) w) (fun j => L (p + 1 + j)) (c' + 1) j) z c' := ⟨by omega, by rw [ol_blk_lo (by omega)]; exact hcz.2⟩
                      refine lv_aload_n hx hb dX1_carry_115 rfl (lv_at hl 0 rfl) ?_
                      refine lv_aload_n hx hb dX1_carry_116 rfl (lv_at hl 0 rfl) ?_
                      refine va_get (D := (dC, dI)) (ci := 1) (v := .ref b) (C := RX1) (T := TX1) (N := 4) hx hb hts (by decide +kernel) hown hK hP 0 rfl rfl 3 (by decide) (hts (.fieldLink RX1 17 "OrderLineModel" "aside" "[I") (by decide +kernel)) (fun _ h9 => h9) rfl dX1_carry_117 ?_
                      refine lv_iload hx hb dX1_carry_120 (lv_at hl 8 rfl) ?_
                      refine ow_iald (k := j) (v := nI (L (p + 1 + j))) hx hb hK hP 2 1 rfl rfl (by omega) (by decide) (has j (by omega)) dX1_carry_122 ?_
                      refine lv_aload_n hx hb dX1_carry_123 rfl (lv_at hl 0 rfl) ?_
                      refine lv_iload_n hx hb dX1_carry_124 rfl (lv_at hl 3 rfl) ?_
                      refine ow_callR (r := nI c') (W.runV (As := [.int z]) (rest := [.int (nI (L (p + 1 + j))), .ref h]) ⟨hx, hb, hml, hown, hts⟩ (c_M_find l dC dI h a b cA cB tt (N - w + j) (ol_blk (ol_rem L (p + 1) w) (fun j => L (p + 1 + j)) (c' + 1) j) f2 as1 z (nI c') (by omega) hf2 (ol_fd_at ok2 hcz2)) (cwV 1 hts gX1_carry_X1_find rfl rfl rfl (by decide +kernel) ⟨Nat.le_of_ble_eq_true rfl, Nat.le_of_ble_eq_true rfl⟩) (ow_PreR hK hP (ci := 1) (q0 := 0) rfl rfl) rfl rfl hl.1 rfl (lv_room (Nat.le_of_ble_eq_true rfl)) dX1_carry_125 ⟨Nat.le_of_ble_eq_true rfl, Nat.le_of_ble_eq_true rfl⟩) ?_
                      refine lv_iconst (v := 1) hx hb dX1_carry_128 (by decide +kernel) ?_
                      refine lv_iadd hx hb dX1_carry_129 ?_
                      refine ow_top (z := nI (c' + 1)) (nI_1 c') ?_
                      refine lv_iload hx hb dX1_carry_130 (lv_at hl 8 rfl) ?_
                      refine lv_iadd hx hb dX1_carry_132 ?_
                      refine ow_top (z := nI (c' + 1 + j)) (nI_add (c' + 1) j) ?_
                      refine ow_callv (wr := []) (va_runV (As := [.int (nI (L (p + 1 + j))), .int (nI (c' + 1 + j))]) (rest := []) ⟨hx, hb, hml, hown, hts⟩ (c_M_put l dC dI h a b cA cB tt (N - w + j) (ol_blk (ol_rem L (p + 1) w) (fun j => L (p + 1 + j)) (c' + 1) j) f2 as1 (L (p + 1 + j)) (c' + 1 + j) _ hf2 (by omega) (by omega)) (cwV 2 hts gX1_carry_X1_put rfl rfl rfl (by decide +kernel) ⟨Nat.le_of_ble_eq_true rfl, Nat.le_of_ble_eq_true rfl⟩) (ow_PreV hK hP hD (ci := 1) (q0 := 0) rfl rfl) rfl rfl hl.1 rfl (lv_room (Nat.le_of_ble_eq_true rfl)) dX1_carry_133 ⟨Nat.le_of_ble_eq_true rfl, Nat.le_of_ble_eq_true rfl⟩) hP hD hS hA [0, 1, 2] [] rfl rfl (by decide) (by decide) (fun u H locs hw hP hD hS => ?_)
                      obtain ⟨u1, u2, u3, u4⟩ := u
                      obtain ⟨e1, e2, hf3, e4⟩ := hw
                      obtain rfl : tt = u1 := e1.symm
                      obtain rfl : nI (N - w + j + 1) = u2 := e2.symm
                      obtain rfl : as1 = u4 := e4.symm
                      have e9 := ol_blk_1 (ol_rem L (p + 1) w) (fun j => L (p + 1 + j)) (c' + 1) j
                      rw [e9] at hf3
                      have hP : va_P (dC, dI) vwCl [(h, .inr (1, [.int tt, .ref a, .int (nI (N - w + (j + 1))), .ref b])), (a, .inl (cA, 1000, .inl u3)), (b, .inl (cB, 1000, .inl as1))] H := hP
                      have hD : va_D A [(h, .inr (1, [.int tt, .ref a, .int (nI (N - w + (j + 1))), .ref b])), (a, .inl (cA, 1000, .inl u3)), (b, .inl (cB, 1000, .inl as1))] := hD
                      refine lv_iinc (v := nI (j + 1)) (lv' := [(8, .int (nI (j + 1))), (0, .ref h), (1, .int x), (2, .int y), (3, .int z), (4, .int (nI p)), (5, .int (nI q)), (6, .int (nI o)), (7, .int (nI w))]) hx hb dX1_carry_136 hl (k := 8) rfl (nI_1 j) (by decide) rfl (fun ls hl => ?_)
                      refine lv_goto (tgt := 108) hx hb dX1_carry_139 (by decide) ?_
                      exact ih (j + 1) u3 (by omega) (by omega) hf3 H locs hP hD hS ls (lv_sub hl [1, 2, 3, 4, 5, 6, 7, 8, 0] rfl)
                exact loop2 (w + 1) 0 f1 (by omega) (by omega) (by rw [ol_blk_0]; exact hf1) _ _ hP hD hS ls (lv_sub hl [1, 2, 3, 4, 5, 6, 7, 8, 0] rfl)
              · have hi3 := ol_nle (by omega) (by omega) c_72
                refine lv_aload_n hx hb dX1_carry_75 rfl (lv_at hl 0 rfl) ?_
                refine va_get (D := (dC, dI)) (ci := 1) (v := .ref b) (C := RX1) (T := TX1) (N := 4) hx hb hts (by decide +kernel) hown hK hP 0 rfl rfl 3 (by decide) (hts (.fieldLink RX1 17 "OrderLineModel" "aside" "[I") (by decide +kernel)) (fun _ h9 => h9) rfl dX1_carry_76 ?_
                refine lv_iload hx hb dX1_carry_79 (lv_at hl 8 rfl) ?_
                refine lv_aload_n hx hb dX1_carry_81 rfl (lv_at hl 0 rfl) ?_
                refine va_get (D := (dC, dI)) (ci := 1) (v := .ref a) (C := RX1) (T := TX1) (N := 4) hx hb hts (by decide +kernel) hown hK hP 0 rfl rfl 1 (by decide) (hts (.fieldLink RX1 7 "OrderLineModel" "line" "[I") (by decide +kernel)) (fun _ h9 => h9) rfl dX1_carry_82 ?_
                refine lv_iload hx hb dX1_carry_85 (lv_at hl 4 rfl) ?_
                refine lv_iconst (v := 1) hx hb dX1_carry_87 (by decide +kernel) ?_
                refine lv_iadd hx hb dX1_carry_88 ?_
                refine ow_top (z := nI (p + 1)) (nI_1 p) ?_
                refine ow_iald (k := p + 1) (v := nI (L (p + 1 + i))) hx hb hK hP 1 0 rfl rfl (by omega) (by decide) (by rw [hf1 (p + 1) (by omega), ol_rem_hi (by omega)]) dX1_carry_89 ?_
                refine ow_iast (k := i) hx hb hK hP hD hS 2 1 rfl rfl (by omega) (by decide) dX1_carry_90 (fun H locs hP hD hS => ?_)
                have hP : va_P (dC, dI) vwCl [(h, .inr (1, [.int tt, .ref a, .int (nI (N - i)), .ref b])), (a, .inl (cA, 1000, .inl f1)), (b, .inl (cB, 1000, .inl (upd as1 i ((nI (L (p + 1 + i)))))))] H := hP
                have hD : va_D A [(h, .inr (1, [.int tt, .ref a, .int (nI (N - i)), .ref b])), (a, .inl (cA, 1000, .inl f1)), (b, .inl (cB, 1000, .inl (upd as1 i ((nI (L (p + 1 + i)))))))] := hD
                refine lv_aload_n hx hb dX1_carry_91 rfl (lv_at hl 0 rfl) ?_
                refine lv_iload hx hb dX1_carry_92 (lv_at hl 4 rfl) ?_
                refine lv_iconst (v := 1) hx hb dX1_carry_94 (by decide +kernel) ?_
                refine lv_iadd hx hb dX1_carry_95 ?_
                refine ow_top (z := nI (p + 1)) (nI_1 p) ?_
                refine ow_callv (wr := []) (va_runV (As := [.int (nI (p + 1))]) (rest := []) ⟨hx, hb, hml, hown, hts⟩ (c_M_drop l dC dI h a b cA cB tt (N - i) (ol_rem L (p + 1) i) f1 (upd as1 i (nI (L (p + 1 + i)))) (p + 1) _ hf1 (by omega) (by omega)) (cwV 1 hts gX1_carry_X1_drop rfl rfl rfl (by decide +kernel) ⟨Nat.le_of_ble_eq_true rfl, Nat.le_of_ble_eq_true rfl⟩) (ow_PreV hK hP hD (ci := 1) (q0 := 0) rfl rfl) rfl rfl hl.1 rfl (lv_room (Nat.le_of_ble_eq_true rfl)) dX1_carry_96 ⟨Nat.le_of_ble_eq_true rfl, Nat.le_of_ble_eq_true rfl⟩) hP hD hS hA [0, 1, 2] [] rfl rfl (by decide) (by decide) (fun u H locs hw hP hD hS => ?_)
                obtain ⟨u1, u2, u3, u4⟩ := u
                obtain ⟨e1, e2, hf2, e4⟩ := hw
                obtain rfl : tt = u1 := e1.symm
                obtain rfl : nI (N - i - 1) = u2 := e2.symm
                obtain rfl : upd as1 i (nI (L (p + 1 + i))) = u4 := e4.symm
                rw [ol_rem_1] at hf2
                have eN : N - i - 1 = N - (i + 1) := by omega
                rw [eN] at hf2 hP hD
                have hP : va_P (dC, dI) vwCl [(h, .inr (1, [.int tt, .ref a, .int (nI (N - (i + 1))), .ref b])), (a, .inl (cA, 1000, .inl u3)), (b, .inl (cB, 1000, .inl (upd as1 i (nI (L (p + 1 + i))))))] H := hP
                have hD : va_D A [(h, .inr (1, [.int tt, .ref a, .int (nI (N - (i + 1))), .ref b])), (a, .inl (cA, 1000, .inl u3)), (b, .inl (cB, 1000, .inl (upd as1 i (nI (L (p + 1 + i))))))] := hD
                refine lv_iinc (v := nI (i + 1)) (lv' := [(8, .int (nI (i + 1))), (0, .ref h), (1, .int x), (2, .int y), (3, .int z), (4, .int (nI p)), (5, .int (nI q)), (6, .int (nI o)), (7, .int (nI w))]) hx hb dX1_carry_99 hl (k := 8) rfl (nI_1 i) (by decide) rfl (fun ls hl => ?_)
                refine lv_goto (tgt := 68) hx hb dX1_carry_102 (by decide) ?_
                exact ih (i + 1) u3 (upd as1 i (nI (L (p + 1 + i)))) (by omega) (by omega) hf2 (fun j hj => (Decidable.em (j = i)).elim (fun e9 => by subst e9; exact pk_us) (fun e9 => (pk_un e9).trans (has j (by omega)))) H locs hP hD hS ls (lv_sub hl [1, 2, 3, 4, 5, 6, 7, 8, 0] rfl)
          exact loop1 (w + 1) 0 f as (by omega) (by omega) (by rw [ol_rem_0]; exact hf) (fun j hj => absurd hj (Nat.not_lt_zero j)) _ _ hP hD hS ls (lv_sub hl [5, 6, 7, 8, 4, 3, 2, 1, 0] rfl)
        · have hoq := ol_nle (by omega) (by omega) c_51
          obtain ⟨hr0, hL0⟩ : r = -1 ∧ L' = L := by
            rcases hs2 with ⟨_, h2⟩ | ⟨h1, h2, _⟩ | ⟨h1, h2, _⟩
            · exact h2
            · exact absurd h1 (by omega)
            · exact absurd h1 (by omega)
          refine lv_iconst (v := (-1)) hx hb dX1_carry_54 (by decide +kernel) ?_
          exact W.iret (v := ((-1))) hx hb hr (fun t ht hW => ⟨⟨((-1)), (tt, nI N, f, as), rfl, ⟨hr0.symm, rfl, by rw [hN0], by rw [hN0, hL0]; exact hf⟩, by rw [ht]; exact hP, hD⟩, hS.F ht⟩) hS.2.2 dX1_carry_55
  · obtain ⟨hr0, hN0, hL0⟩ : r = 0 ∧ N' = N ∧ L' = L := by
      rcases hsp with ⟨_, _, e9⟩ | ⟨e9, _⟩
      · exact e9
      · exact absurd e9 c_7
    refine lv_iconst (v := 0) hx hb dX1_carry_10 (by decide +kernel) ?_
    exact W.iret (v := 0) hx hb hr (fun t ht hW => ⟨⟨0, (tt, nI N, f, as), rfl, ⟨hr0.symm, rfl, by rw [hN0], by rw [hN0, hL0]; exact hf⟩, by rw [ht]; exact hP, hD⟩, hS.F ht⟩) hS.2.2 dX1_carry_11
end
section
set_option maxHeartbeats 4000000 in
set_option maxRecDepth 100000 in
/-- put(v, q): both rows say that v is at q -/
theorem c_X_put (l : Launch) (dC : Nat → ClassId) (dI : Nat → Nat → Nat) (h a b : Nat) (cA cB : ClassId) (n : Int32) (f g : Nat → Int32) (v q sz : Nat) (hv : v < 1000) (hq : q < 1000) : Met l yX0_put wsX0_put ({ frames := 0, cells := 0, slots := 0, locals := 0 }) (ow_Pc (dC, dI) vwCl [(cA, .int), (cB, .int)] (wX h a b cA cB (n, f, g)) sz [.ref h, .int (nI v), .int (nI q)]) (va_Qv (fun u : Int32 × (Nat → Int32) × (Nat → Int32) => u = (n, upd f q (nI v), upd g v (nI q))) (ow_B (dC, dI) vwCl (wX h a b cA cB) (va_A (wX h a b cA cB (n, f, g)) sz)) (va_A (wX h a b cA cB (n, f, g)) sz)) 0 0 (va_A (wX h a b cA cB (n, f, g)) sz) := by
  refine Met.ofW (cc := cX0_put) (maxL := 3) (ret := none) (by decide) rfl ?_
  intro pg ev s m args below meth cd s₁ B hml hv
  obtain ⟨rfl, hsz, hP, hK, hD0⟩ := hv
  have hx := B.exec
  have hb := B.bytes
  have hr := B.returns
  have hts := atoms_spec (ws := wsX0_put) B.pre
  have hown : s.vm.findClass RX0 = some m.cls := findClass_of_methodNamed B.named
  have hlocks := B.notSynchronized
  subst hsz
  have hD := hD0.self (sz := s.heap.size)
  generalize hAe : va_A (wX h a b cA cB (n, f, g)) s.heap.size = A at hD ⊢
  have hA : ∀ q : Nat, s.heap.size ≤ q → A q := fun q h => by rw [← hAe]; exact Or.inr h
  have hS : va_S A s.heap s.heap [] := va_S.rf
  have hD : va_D A [(h, .inr (0, [.ref a, .ref b, .int n])), (a, .inl (cA, 1000, .inl f)), (b, .inl (cB, 1000, .inl g))] := hD
  have hP : va_P (dC, dI) vwCl [(h, .inr (0, [.ref a, .ref b, .int n])), (a, .inl (cA, 1000, .inl f)), (b, .inl (cB, 1000, .inl g))] s.heap := hP
  have hl := lv_entry ([.ref h, .int (nI v), .int (nI q)]) (n := 3) (Nat.le_of_ble_eq_true rfl)
  rw [lg_entry_eq]
  generalize (lg_sl ([.ref h, .int (nI v), .int (nI q)]) ++ List.replicate (3 - (lg_sl ([.ref h, .int (nI v), .int (nI q)])).length) Slot.unset).toArray = ls at hl ⊢
  have hl : lv_has ls 3 [(0, .ref h), (1, .int (nI v)), (2, .int (nI q))] := hl
  refine lv_aload_n hx hb dX0_put_0 rfl (lv_at hl 0 rfl) ?_
  refine va_get (D := (dC, dI)) (ci := 0) (v := .ref a) (C := RX0) (T := TX0) (N := 3) hx hb hts (by decide +kernel) hown hK hP 0 rfl rfl 0 (by decide) (hts (.fieldLink RX0 9 "OrderLine" "line" "[I") (by decide +kernel)) (fun _ h9 => h9) rfl dX0_put_1 ?_
  refine lv_iload_n hx hb dX0_put_4 rfl (lv_at hl 2 rfl) ?_
  refine lv_iload_n hx hb dX0_put_5 rfl (lv_at hl 1 rfl) ?_
  refine ow_iast (k := q) hx hb hK hP hD hS 1 0 rfl rfl hq (by decide) dX0_put_6 (fun H locs hP hD hS => ?_)
  have hP : va_P (dC, dI) vwCl [(h, .inr (0, [.ref a, .ref b, .int n])), (a, .inl (cA, 1000, .inl (upd f q ((nI v))))), (b, .inl (cB, 1000, .inl g))] H := hP
  have hD : va_D A [(h, .inr (0, [.ref a, .ref b, .int n])), (a, .inl (cA, 1000, .inl (upd f q ((nI v))))), (b, .inl (cB, 1000, .inl g))] := hD
  refine lv_aload_n hx hb dX0_put_7 rfl (lv_at hl 0 rfl) ?_
  refine va_get (D := (dC, dI)) (ci := 0) (v := .ref b) (C := RX0) (T := TX0) (N := 3) hx hb hts (by decide +kernel) hown hK hP 0 rfl rfl 1 (by decide) (hts (.fieldLink RX0 13 "OrderLine" "places" "[I") (by decide +kernel)) (fun _ h9 => h9) rfl dX0_put_8 ?_
  refine lv_iload_n hx hb dX0_put_11 rfl (lv_at hl 1 rfl) ?_
  refine lv_iload_n hx hb dX0_put_12 rfl (lv_at hl 2 rfl) ?_
  refine ow_iast (k := v) hx hb hK hP hD hS 2 1 rfl rfl hv (by decide) dX0_put_13 (fun H locs hP hD hS => ?_)
  have hP : va_P (dC, dI) vwCl [(h, .inr (0, [.ref a, .ref b, .int n])), (a, .inl (cA, 1000, .inl (upd f q ((nI v))))), (b, .inl (cB, 1000, .inl (upd g v ((nI q)))))] H := hP
  have hD : va_D A [(h, .inr (0, [.ref a, .ref b, .int n])), (a, .inl (cA, 1000, .inl (upd f q ((nI v))))), (b, .inl (cB, 1000, .inl (upd g v ((nI q)))))] := hD
  exact W.vret hx hb hr (fun t ht hW => ⟨⟨(n, upd f q (nI v), upd g v (nI q)), rfl, rfl, by rw [ht]; exact hP, hD⟩, hS.F ht⟩) hS.2.2 dX0_put_14
set_option maxHeartbeats 4000000 in
set_option maxRecDepth 100000 in
/-- has(x) -/
theorem c_X_has (l : Launch) (dC : Nat → ClassId) (dI : Nat → Nat → Nat) (h a b : Nat) (cA cB : ClassId) (N : Nat) (L : Nat → Nat) (f g : Nat → Int32) (x r : Int32) (ok : ol_ok N L) (hg : ol_g N L g) (hh : ol_hs N L x r) : Met l yX0_has wsX0_has ({ frames := 0, cells := 0, slots := 0, locals := 0 }) (ow_Rc (dC, dI) vwCl [(cA, .int), (cB, .int)] (wX h a b cA cB (nI N, f, g)) [.ref h, .int x]) (QcRead r) 0 0 (fun _ => False) := by
  refine Met.ofW (cc := cX0_has) (maxL := 2) (ret := (some .boolean)) (by decide) rfl ?_
  intro pg ev s m args below meth cd s₁ B hml hv
  obtain ⟨rfl, hP, hK⟩ := hv
  have hx := B.exec
  have hb := B.bytes
  have hr := B.returns
  have hts := atoms_spec (ws := wsX0_has) B.pre
  have hown : s.vm.findClass RX0 = some m.cls := findClass_of_methodNamed B.named
  have hlocks := B.notSynchronized
  have hP : va_P (dC, dI) vwCl [(h, .inr (0, [.ref a, .ref b, .int (nI N)])), (a, .inl (cA, 1000, .inl f)), (b, .inl (cB, 1000, .inl g))] s.heap := hP
  have hl := lv_entry ([.ref h, .int x]) (n := 2) (Nat.le_of_ble_eq_true rfl)
  rw [lg_entry_eq]
  generalize (lg_sl ([.ref h, .int x]) ++ List.replicate (2 - (lg_sl ([.ref h, .int x])).length) Slot.unset).toArray = ls at hl ⊢
  have hl : lv_has ls 2 [(0, .ref h), (1, .int x)] := hl
  have hN := ok.2.1
  refine lv_iload_n hx hb dX0_has_0 rfl (lv_at hl 1 rfl) ?_
  refine lv_if_lt (tgt := 25) hx hb dX0_has_1 (by decide) (fun c_1 => ?_) (fun c_1 => ?_)
  · have hr0 : r = 0 := hh.2 (fun p hp e => nI_pos (by have := ok.2.2.2.1 p hp; omega) (e ▸ c_1))
    refine lv_iconst (v := 0) hx hb dX0_has_25 (by decide +kernel) ?_
    exact W.zret (v := 0) hx hb hr rfl (fun t ht hW => ⟨by rw [hr0], ht⟩) (fun q h => by cases h) dX0_has_26
  · obtain ⟨j, hj, ej⟩ := nI_of c_1
    refine lv_iload_n hx hb dX0_has_4 rfl (lv_at hl 1 rfl) ?_
    refine lv_sipush (v := nI 1000) hx hb dX0_has_5 (by decide +kernel) ?_
    refine lv_icmp_ge (tgt := 25) hx hb dX0_has_8 (by decide) (fun c_8 => ?_) (fun c_8 => ?_)
    · have hr0 : r = 0 := hh.2 (fun p hp e => by have h9 := ol_le (by omega) (by have := ok.2.2.2.1 p hp; omega) (e ▸ c_8); have := ok.2.2.2.1 p hp; omega)
      refine lv_iconst (v := 0) hx hb dX0_has_25 (by decide +kernel) ?_
      exact W.zret (v := 0) hx hb hr rfl (fun t ht hW => ⟨by rw [hr0], ht⟩) (fun q h => by cases h) dX0_has_26
    · have hc := ol_nle (by omega) hj (ej ▸ c_8)
      refine lv_aload_n hx hb dX0_has_11 rfl (lv_at hl 0 rfl) ?_
      refine va_get (D := (dC, dI)) (ci := 0) (v := .ref b) (C := RX0) (T := TX0) (N := 3) hx hb hts (by decide +kernel) hown hK hP 0 rfl rfl 1 (by decide) (hts (.fieldLink RX0 13 "OrderLine" "places" "[I") (by decide +kernel)) (fun _ h9 => h9) rfl dX0_has_12 ?_
      refine lv_iload_n hx hb dX0_has_15 rfl (lv_at hl 1 rfl) ?_
      refine ow_top (z := nI j) ej ?_
      refine ow_iald (k := j) (v := g j) hx hb hK hP 2 1 rfl rfl hc (by decide) rfl dX0_has_16 ?_
      refine lv_iconst (v := (-1)) hx hb dX0_has_17 (by decide +kernel) ?_
      refine lv_icmp_eq (tgt := 25) hx hb dX0_has_18 (by decide) (fun c_18 => ?_) (fun c_18 => ?_)
      · have hr0 : r = 0 := hh.2 (fun p hp e => by
          have h8 := ok.2.2.2.1 p hp
          have h9 := ol_eq hj (by omega) (ej.symm.trans e)
          rw [h9, hg.1 p hp] at c_18
          exact ol_m1 (by omega) c_18)
        refine lv_iconst (v := 0) hx hb dX0_has_25 (by decide +kernel) ?_
        exact W.zret (v := 0) hx hb hr rfl (fun t ht hW => ⟨by rw [hr0], ht⟩) (fun q h => by cases h) dX0_has_26
      · have hr0 : r = 1 := hh.1 (by
          by_cases h9 : ∃ p, p < N ∧ L p = j
          · obtain ⟨p, hp, e⟩ := h9
            exact ⟨p, hp, by rw [e]; exact ej⟩
          · exact absurd (hg.2 j hc (fun p hp e => h9 ⟨p, hp, e⟩)) c_18)
        refine lv_iconst (v := 1) hx hb dX0_has_21 (by decide +kernel) ?_
        refine lv_goto (tgt := 26) hx hb dX0_has_22 (by decide) ?_
        exact W.zret (v := 1) hx hb hr rfl (fun t ht hW => ⟨by rw [hr0], ht⟩) (fun q h => by cases h) dX0_has_26
set_option maxHeartbeats 4000000 in
set_option maxRecDepth 100000 in
/-- at(x) -/
theorem c_X_at (l : Launch) (dC : Nat → ClassId) (dI : Nat → Nat → Nat) (h a b : Nat) (cA cB : ClassId) (N : Nat) (L : Nat → Nat) (f g : Nat → Int32) (x r : Int32) (ok : ol_ok N L) (hf : ol_f N L f) (hh : ol_ps N L x r) : Met l yX0_at wsX0_at ({ frames := 0, cells := 0, slots := 0, locals := 0 }) (ow_Rc (dC, dI) vwCl [(cA, .int), (cB, .int)] (wX h a b cA cB (nI N, f, g)) [.ref h, .int x]) (QcRead r) 0 0 (fun _ => False) := by
  refine Met.ofW (cc := cX0_at) (maxL := 2) (ret := (some .int)) (by decide) rfl ?_
  intro pg ev s m args below meth cd s₁ B hml hv
  obtain ⟨rfl, hP, hK⟩ := hv
  have hx := B.exec
  have hb := B.bytes
  have hr := B.returns
  have hts := atoms_spec (ws := wsX0_at) B.pre
  have hown : s.vm.findClass RX0 = some m.cls := findClass_of_methodNamed B.named
  have hlocks := B.notSynchronized
  have hP : va_P (dC, dI) vwCl [(h, .inr (0, [.ref a, .ref b, .int (nI N)])), (a, .inl (cA, 1000, .inl f)), (b, .inl (cB, 1000, .inl g))] s.heap := hP
  have hl := lv_entry ([.ref h, .int x]) (n := 2) (Nat.le_of_ble_eq_true rfl)
  rw [lg_entry_eq]
  generalize (lg_sl ([.ref h, .int x]) ++ List.replicate (2 - (lg_sl ([.ref h, .int x])).length) Slot.unset).toArray = ls at hl ⊢
  have hl : lv_has ls 2 [(0, .ref h), (1, .int x)] := hl
  have hN := ok.2.1
  refine lv_iload_n hx hb dX0_at_0 rfl (lv_at hl 1 rfl) ?_
  refine lv_if_lt (tgt := 21) hx hb dX0_at_1 (by decide) (fun c_1 => ?_) (fun c_1 => ?_)
  · have hr0 : r = -1 := hh.2 (fun q hq e => nI_pos (by omega) (e ▸ c_1))
    refine lv_iconst (v := (-1)) hx hb dX0_at_21 (by decide +kernel) ?_
    exact W.iret (v := ((-1))) hx hb hr (fun t ht hW => ⟨by rw [hr0], ht⟩) (fun q h => by cases h) dX0_at_22
  · obtain ⟨j, hj, ej⟩ := nI_of c_1
    refine lv_iload_n hx hb dX0_at_4 rfl (lv_at hl 1 rfl) ?_
    refine lv_aload_n hx hb dX0_at_5 rfl (lv_at hl 0 rfl) ?_
    refine va_get (D := (dC, dI)) (ci := 0) (v := .int (nI N)) (C := RX0) (T := TX0) (N := 3) hx hb hts (by decide +kernel) hown hK hP 0 rfl rfl 2 (by decide) (hts (.fieldLink RX0 16 "OrderLine" "count" "I") (by decide +kernel)) (fun _ h9 => h9) rfl dX0_at_6 ?_
    refine lv_icmp_ge (tgt := 21) hx hb dX0_at_9 (by decide) (fun c_9 => ?_) (fun c_9 => ?_)
    · have hc := ol_le (by omega) hj (ej ▸ c_9)
      have hr0 : r = -1 := hh.2 (fun q hq e => by have := ol_eq hj (by omega) (ej.symm.trans e); omega)
      refine lv_iconst (v := (-1)) hx hb dX0_at_21 (by decide +kernel) ?_
      exact W.iret (v := ((-1))) hx hb hr (fun t ht hW => ⟨by rw [hr0], ht⟩) (fun q h => by cases h) dX0_at_22
    · have hc := ol_nle (by omega) hj (ej ▸ c_9)
      have hr0 : r = nI (L j) := hh.1 j hc ej
      refine lv_aload_n hx hb dX0_at_12 rfl (lv_at hl 0 rfl) ?_
      refine va_get (D := (dC, dI)) (ci := 0) (v := .ref a) (C := RX0) (T := TX0) (N := 3) hx hb hts (by decide +kernel) hown hK hP 0 rfl rfl 0 (by decide) (hts (.fieldLink RX0 9 "OrderLine" "line" "[I") (by decide +kernel)) (fun _ h9 => h9) rfl dX0_at_13 ?_
      refine lv_iload_n hx hb dX0_at_16 rfl (lv_at hl 1 rfl) ?_
      refine ow_top (z := nI j) ej ?_
      refine ow_iald (k := j) (v := nI (L j)) hx hb hK hP 1 0 rfl rfl (by omega) (by decide) (hf j hc) dX0_at_17 ?_
      refine lv_goto (tgt := 22) hx hb dX0_at_18 (by decide) ?_
      exact W.iret (v := (nI (L j))) hx hb hr (fun t ht hW => ⟨by rw [hr0], ht⟩) (fun q h => by cases h) dX0_at_22
set_option maxHeartbeats 4000000 in
set_option maxRecDepth 100000 in
/-- leastFree(): the least number that none has, or -1 -/
theorem c_X_leastFree (l : Launch) (dC : Nat → ClassId) (dI : Nat → Nat → Nat) (h a b : Nat) (cA cB : ClassId) (N : Nat) (L : Nat → Nat) (f g : Nat → Int32) (ok : ol_ok N L) (hg : ol_g N L g) : Met l yX0_leastFree wsX0_leastFree ({ frames := 0, cells := 0, slots := 0, locals := 0 }) (ow_Rc (dC, dI) vwCl [(cA, .int), (cB, .int)] (wX h a b cA cB (nI N, f, g)) [.ref h]) (QcRead (ol_fi N L)) 0 0 (fun _ => False) := by
  refine Met.ofW (cc := cX0_leastFree) (maxL := 2) (ret := (some .int)) (by decide) rfl ?_
  intro pg ev s m args below meth cd s₁ B hml hv
  obtain ⟨rfl, hP, hK⟩ := hv
  have hx := B.exec
  have hb := B.bytes
  have hr := B.returns
  have hts := atoms_spec (ws := wsX0_leastFree) B.pre
  have hown : s.vm.findClass RX0 = some m.cls := findClass_of_methodNamed B.named
  have hlocks := B.notSynchronized
  have hP : va_P (dC, dI) vwCl [(h, .inr (0, [.ref a, .ref b, .int (nI N)])), (a, .inl (cA, 1000, .inl f)), (b, .inl (cB, 1000, .inl g))] s.heap := hP
  have hl := lv_entry ([.ref h]) (n := 2) (Nat.le_of_ble_eq_true rfl)
  rw [lg_entry_eq]
  generalize (lg_sl ([.ref h]) ++ List.replicate (2 - (lg_sl ([.ref h])).length) Slot.unset).toArray = ls at hl ⊢
  have hl : lv_has ls 2 [(0, .ref h)] := hl
  have hN := ok.2.1
  refine lv_iconst (v := nI 0) hx hb dX0_leastFree_0 (by decide +kernel) ?_
  refine lv_istore_n (lv' := [(1, .int (nI 0)), (0, .ref h)]) hx hb dX0_leastFree_1 rfl hl (by decide) rfl (fun ls hl => ?_)
  have loop : ∀ (k : Nat) (v : Nat), 1000 < v + k → v ≤ 1000 → (∀ u, u < v → ∃ p, p < N ∧ L p = u) → ∀ ls : Array Slot, lv_has ls 2 [(0, .ref h), (1, .int (nI v))] → W pg l ev (headSpec wsX0_leastFree ({ frames := 0, cells := 0, slots := 0, locals := 0 })).room s m ([.ref h] : List Value).toArray below meth cd s.heap [] 0 0 (MQ below (QcRead (ol_fi N L)) ([.ref h] : List Value).toArray s 0 0 (fun _ => False)) (F0 m 2 ls []) := by
    intro k
    induction k with
    | zero =>
      intro v h1 h2 h3
      exact absurd h1 (by omega)
    | succ k ih =>
      intro v hk hv hus ls hl
      refine lv_iload_n hx hb dX0_leastFree_2 rfl (lv_at hl 1 rfl) ?_
      refine lv_sipush (v := nI 1000) hx hb dX0_leastFree_3 (by decide +kernel) ?_
      refine lv_icmp_ge (tgt := 27) hx hb dX0_leastFree_6 (by decide) (fun c_6 => ?_) (fun c_6 => ?_)
      · have hv2 := ol_le (by omega) (by omega) c_6
        have hfi : ol_fi N L = -1 := ol_fi_ge (by rw [ol_fr_of (k := 1000) ⟨by omega, fun u hu => hus u (by omega), fun h9 => absurd h9 (by omega)⟩]; omega)
        refine lv_iconst (v := (-1)) hx hb dX0_leastFree_27 (by decide +kernel) ?_
        exact W.iret (v := ((-1))) hx hb hr (fun t ht hW => ⟨by rw [hfi], ht⟩) (fun q h => by cases h) dX0_leastFree_28
      · have hlt := ol_nle (by omega) (by omega) c_6
        refine lv_aload_n hx hb dX0_leastFree_9 rfl (lv_at hl 0 rfl) ?_
        refine va_get (D := (dC, dI)) (ci := 0) (v := .ref b) (C := RX0) (T := TX0) (N := 3) hx hb hts (by decide +kernel) hown hK hP 0 rfl rfl 1 (by decide) (hts (.fieldLink RX0 13 "OrderLine" "places" "[I") (by decide +kernel)) (fun _ h9 => h9) rfl dX0_leastFree_10 ?_
        refine lv_iload_n hx hb dX0_leastFree_13 rfl (lv_at hl 1 rfl) ?_
        refine ow_iald (k := v) (v := g v) hx hb hK hP 2 1 rfl rfl (by omega) (by decide) rfl dX0_leastFree_14 ?_
        refine lv_iconst (v := (-1)) hx hb dX0_leastFree_15 (by decide +kernel) ?_
        refine lv_icmp_ne (tgt := 21) hx hb dX0_leastFree_16 (by decide) (fun c_16 => ?_) (fun c_16 => ?_)
        · have hus1 : ∃ p, p < N ∧ L p = v := by
            by_cases h9 : ∃ p, p < N ∧ L p = v
            · exact h9
            · exact absurd (hg.2 v hlt (fun p hp e => h9 ⟨p, hp, e⟩)) c_16
          refine lv_iinc (v := nI (v + 1)) (lv' := [(1, .int (nI (v + 1))), (0, .ref h)]) hx hb dX0_leastFree_21 hl (k := 1) rfl (nI_1 v) (by decide) rfl (fun ls hl => ?_)
          refine lv_goto (tgt := 2) hx hb dX0_leastFree_24 (by decide) ?_
          exact ih (v + 1) (by omega) (by omega) (fun u hu => (Nat.lt_or_ge u v).elim (fun h9 => hus u h9) (fun h9 => by rw [show u = v by omega]; exact hus1)) ls (lv_sub hl [1, 0] rfl)
        · have hfr : ol_fr N L = v := ol_fr_of ⟨by omega, hus, fun _ p hp e => by
            have h9 := hg.1 p hp
            rw [e, c_16] at h9
            exact ol_m1 (by omega) h9.symm⟩
          have hfi : ol_fi N L = nI v := by rw [ol_fi_lt (by omega), hfr]
          refine lv_iload_n hx hb dX0_leastFree_19 rfl (lv_at hl 1 rfl) ?_
          exact W.iret (v := (nI v)) hx hb hr (fun t ht hW => ⟨by rw [hfi], ht⟩) (fun q h => by cases h) dX0_leastFree_20
  exact loop 1001 0 (by omega) (by omega) (fun u hu => absurd hu (Nat.not_lt_zero u)) ls (lv_sub hl [1, 0] rfl)
set_option maxHeartbeats 4000000 in
set_option maxRecDepth 100000 in
/-- openGap(s0, w): what stands from place s0 on has moved by w -/
theorem c_X_openGap (l : Launch) (dC : Nat → ClassId) (dI : Nat → Nat → Nat) (h a b : Nat) (cA cB : ClassId) (N : Nat) (L : Nat → Nat) (f g : Nat → Int32) (s0 w sz : Nat) (ok : ol_ok N L) (hf : ol_f N L f) (hg : ol_g N L g) (h1s : 1 ≤ s0) (hs : s0 ≤ N) (hw : N + w ≤ 1000) : Met l yX0_openGap wsX0_openGap ({ frames := 1, cells := 0, slots := 0, locals := 22 }) (ow_Pc (dC, dI) vwCl [(cA, .int), (cB, .int)] (wX h a b cA cB (nI N, f, g)) sz [.ref h, .int (nI s0), .int (nI w)]) (va_Qv (fun u : Int32 × (Nat → Int32) × (Nat → Int32) => u.1 = nI (N + w) ∧ ol_o N L w s0 u.2.1 u.2.2) (ow_B (dC, dI) vwCl (wX h a b cA cB) (va_A (wX h a b cA cB (nI N, f, g)) sz)) (va_A (wX h a b cA cB (nI N, f, g)) sz)) 0 0 (va_A (wX h a b cA cB (nI N, f, g)) sz) := by
  refine Met.ofW (cc := cX0_openGap) (maxL := 4) (ret := none) (by decide) rfl ?_
  intro pg ev s m args below meth cd s₁ B hml hv
  obtain ⟨rfl, hsz, hP, hK, hD0⟩ := hv
  have hx := B.exec
  have hb := B.bytes
  have hr := B.returns
  have hts := atoms_spec (ws := wsX0_openGap) B.pre
  have hown : s.vm.findClass RX0 = some m.cls := findClass_of_methodNamed B.named
  have hlocks := B.notSynchronized
  subst hsz
  have hD := hD0.self (sz := s.heap.size)
  generalize hAe : va_A (wX h a b cA cB (nI N, f, g)) s.heap.size = A at hD ⊢
  have hA : ∀ q : Nat, s.heap.size ≤ q → A q := fun q h => by rw [← hAe]; exact Or.inr h
  have hS : va_S A s.heap s.heap [] := va_S.rf
  have hD : va_D A [(h, .inr (0, [.ref a, .ref b, .int (nI N)])), (a, .inl (cA, 1000, .inl f)), (b, .inl (cB, 1000, .inl g))] := hD
  have hP : va_P (dC, dI) vwCl [(h, .inr (0, [.ref a, .ref b, .int (nI N)])), (a, .inl (cA, 1000, .inl f)), (b, .inl (cB, 1000, .inl g))] s.heap := hP
  have hl := lv_entry ([.ref h, .int (nI s0), .int (nI w)]) (n := 4) (Nat.le_of_ble_eq_true rfl)
  rw [lg_entry_eq]
  generalize (lg_sl ([.ref h, .int (nI s0), .int (nI w)]) ++ List.replicate (4 - (lg_sl ([.ref h, .int (nI s0), .int (nI w)])).length) Slot.unset).toArray = ls at hl ⊢
  have hl : lv_has ls 4 [(0, .ref h), (1, .int (nI s0)), (2, .int (nI w))] := hl
  have h1N := ok.1
  refine lv_aload_n hx hb dX0_openGap_0 rfl (lv_at hl 0 rfl) ?_
  refine va_get (D := (dC, dI)) (ci := 0) (v := .int (nI N)) (C := RX0) (T := TX0) (N := 3) hx hb hts (by decide +kernel) hown hK hP 0 rfl rfl 2 (by decide) (hts (.fieldLink RX0 16 "OrderLine" "count" "I") (by decide +kernel)) (fun _ h9 => h9) rfl dX0_openGap_1 ?_
  refine lv_iconst (v := 1) hx hb dX0_openGap_4 (by decide +kernel) ?_
  refine lv_isub hx hb dX0_openGap_5 ?_
  refine ow_top (z := nI (N - 1)) (nI_m1 (by omega)) ?_
  refine lv_istore_n (lv' := [(3, .int (nI (N - 1))), (0, .ref h), (1, .int (nI s0)), (2, .int (nI w))]) hx hb dX0_openGap_6 rfl hl (by decide) rfl (fun ls hl => ?_)
  have loop : ∀ (k : Nat) (i : Nat) (f1 g1 : Nat → Int32), i + 1 < s0 + k → s0 ≤ i + 1 → i < N → ol_o N L w (i + 1) f1 g1 → ∀ (H : Heap) (locs : List Loc), va_P (dC, dI) vwCl [(h, .inr (0, [.ref a, .ref b, .int (nI N)])), (a, .inl (cA, 1000, .inl f1)), (b, .inl (cB, 1000, .inl g1))] H → va_D A [(h, .inr (0, [.ref a, .ref b, .int (nI N)])), (a, .inl (cA, 1000, .inl f1)), (b, .inl (cB, 1000, .inl g1))] → va_S A s.heap H locs → ∀ ls : Array Slot, lv_has ls 4 [(0, .ref h), (1, .int (nI s0)), (2, .int (nI w)), (3, .int (nI i))] → W pg l ev (headSpec wsX0_openGap ({ frames := 1, cells := 0, slots := 0, locals := 22 })).room s m ([.ref h, .int (nI s0), .int (nI w)] : List Value).toArray below meth cd H locs 0 0 (MQ below (va_Qv (fun u : Int32 × (Nat → Int32) × (Nat → Int32) => u.1 = nI (N + w) ∧ ol_o N L w s0 u.2.1 u.2.2) (ow_B (dC, dI) vwCl (wX h a b cA cB) A) A) ([.ref h, .int (nI s0), .int (nI w)] : List Value).toArray s 0 0 A) (F0 m 7 ls []) := by
    intro k
    induction k with
    | zero =>
      intro i f1 g1 h1 h2 h3
      exact absurd h1 (by omega)
    | succ k ih =>
      intro i f1 g1 hk hi hiN ho H locs hP hD hS ls hl
      refine lv_iload_n hx hb dX0_openGap_7 rfl (lv_at hl 3 rfl) ?_
      refine lv_iload_n hx hb dX0_openGap_8 rfl (lv_at hl 1 rfl) ?_
      refine lv_icmp_lt (tgt := 31) hx hb dX0_openGap_9 (by decide) (fun c_9 => ?_) (fun c_9 => ?_)
      · have hc := ol_lt (by omega) (by omega) c_9
        have ho2 : ol_o N L w s0 f1 g1 := by rw [show s0 = i + 1 by omega]; exact ho
        refine lv_aload_n hx hb dX0_openGap_31 rfl (lv_at hl 0 rfl) ?_
        refine lv_dup hx hb dX0_openGap_32 rfl ?_
        refine va_get (D := (dC, dI)) (ci := 0) (v := .int (nI N)) (C := RX0) (T := TX0) (N := 3) hx hb hts (by decide +kernel) hown hK hP 0 rfl rfl 2 (by decide) (hts (.fieldLink RX0 16 "OrderLine" "count" "I") (by decide +kernel)) (fun _ h9 => h9) rfl dX0_openGap_33 ?_
        refine lv_iload_n hx hb dX0_openGap_36 rfl (lv_at hl 2 rfl) ?_
        refine lv_iadd hx hb dX0_openGap_37 ?_
        refine ow_top (z := nI (N + w)) (nI_add N w) ?_
        refine va_put (D := (dC, dI)) (ci := 0) (v := .int (nI (N + w))) (ty := (.int)) (C := RX0) (T := TX0) (N := 3) hx hb hts (by decide +kernel) tyX0 tyX0_ok nmX0 hown hK hP hD hS 0 rfl rfl 2 (by decide) (hts (.fieldLink RX0 16 "OrderLine" "count" "I") (by decide +kernel)) (fun _ h9 => h9) rfl (by decide +kernel) rfl rfl (Nat.le_of_ble_eq_true rfl) dX0_openGap_38 (fun H locs hP hD hS => ?_)
        have hP : va_P (dC, dI) vwCl [(h, .inr (0, [.ref a, .ref b, .int (nI (N + w))])), (a, .inl (cA, 1000, .inl f1)), (b, .inl (cB, 1000, .inl g1))] H := hP
        have hD : va_D A [(h, .inr (0, [.ref a, .ref b, .int (nI (N + w))])), (a, .inl (cA, 1000, .inl f1)), (b, .inl (cB, 1000, .inl g1))] := hD
        exact W.vret hx hb hr (fun t ht hW => ⟨⟨(nI (N + w), f1, g1), rfl, ⟨rfl, ho2⟩, by rw [ht]; exact hP, hD⟩, hS.F ht⟩) hS.2.2 dX0_openGap_41
      · have hc := ol_nlt (by omega) (by omega) c_9
        refine lv_aload_n hx hb dX0_openGap_12 rfl (lv_at hl 0 rfl) ?_
        refine lv_aload_n hx hb dX0_openGap_13 rfl (lv_at hl 0 rfl) ?_
        refine va_get (D := (dC, dI)) (ci := 0) (v := .ref a) (C := RX0) (T := TX0) (N := 3) hx hb hts (by decide +kernel) hown hK hP 0 rfl rfl 0 (by decide) (hts (.fieldLink RX0 9 "OrderLine" "line" "[I") (by decide +kernel)) (fun _ h9 => h9) rfl dX0_openGap_14 ?_
        refine lv_iload_n hx hb dX0_openGap_17 rfl (lv_at hl 3 rfl) ?_
        refine ow_iald (k := i) (v := nI (L i)) hx hb hK hP 1 0 rfl rfl (by omega) (by decide) ((ho.1 i (by omega)).1) dX0_openGap_18 ?_
        refine lv_iload_n hx hb dX0_openGap_19 rfl (lv_at hl 3 rfl) ?_
        refine lv_iload_n hx hb dX0_openGap_20 rfl (lv_at hl 2 rfl) ?_
        refine lv_iadd hx hb dX0_openGap_21 ?_
        refine ow_top (z := nI (i + w)) (nI_add i w) ?_
        refine ow_callv (wr := []) (va_runV (As := [.int (nI (L i)), .int (nI (i + w))]) (rest := []) ⟨hx, hb, hml, hown, hts⟩ (c_X_put l dC dI h a b cA cB (nI N) f1 g1 (L i) (i + w) _ (ok.2.2.2.1 i (by omega)) (by omega)) (cwV 2 hts gX0_openGap_X0_put rfl rfl rfl (by decide +kernel) ⟨Nat.le_of_ble_eq_true rfl, Nat.le_of_ble_eq_true rfl⟩) (ow_PreV hK hP hD (ci := 0) (q0 := 0) rfl rfl) rfl rfl hl.1 rfl (lv_room (Nat.le_of_ble_eq_true rfl)) dX0_openGap_22 ⟨Nat.le_of_ble_eq_true rfl, Nat.le_of_ble_eq_true rfl⟩) hP hD hS hA [0, 1, 2] [] rfl rfl (by decide) (by decide) (fun u H locs hw hP hD hS => ?_)
        subst hw
        have hP : va_P (dC, dI) vwCl [(h, .inr (0, [.ref a, .ref b, .int (nI N)])), (a, .inl (cA, 1000, .inl (upd f1 (i + w) (nI (L i))))), (b, .inl (cB, 1000, .inl (upd g1 (L i) (nI (i + w)))))] H := hP
        have hD : va_D A [(h, .inr (0, [.ref a, .ref b, .int (nI N)])), (a, .inl (cA, 1000, .inl (upd f1 (i + w) (nI (L i))))), (b, .inl (cB, 1000, .inl (upd g1 (L i) (nI (i + w)))))] := hD
        refine lv_iinc (v := nI (i - 1)) (lv' := [(3, .int (nI (i - 1))), (0, .ref h), (1, .int (nI s0)), (2, .int (nI w))]) hx hb dX0_openGap_25 hl (k := 3) rfl (sb_m1 (by omega)) (by decide) rfl (fun ls hl => ?_)
        refine lv_goto (tgt := 7) hx hb dX0_openGap_28 (by decide) ?_
        exact ih (i - 1) _ _ (by omega) (by omega) (by omega) (by rw [show i - 1 + 1 = i by omega]; exact ol_o_s ok ho hiN) H locs hP hD hS ls (lv_sub hl [1, 2, 3, 0] rfl)
  exact loop (N + 1) (N - 1) f g (by omega) (by omega) (by omega) (by rw [show N - 1 + 1 = N by omega]; exact ol_o_0 hf hg) _ _ hP hD hS ls (lv_sub hl [1, 2, 3, 0] rfl)
set_option maxHeartbeats 4000000 in
set_option maxRecDepth 100000 in
/-- fillGap(s0, s0 + w): the least numbers that none has come there -/
theorem c_X_fillGap (l : Launch) (dC : Nat → ClassId) (dI : Nat → Nat → Nat) (h a b : Nat) (cA cB : ClassId) (n : Int32) (N : Nat) (L : Nat → Nat) (f g : Nat → Int32) (s0 w sz : Nat) (ok : ol_ok N L) (ho : ol_o N L w s0 f g) (h1s : 1 ≤ s0) (hs : s0 ≤ N) (hw : N + w ≤ 1000) : Met l yX0_fillGap wsX0_fillGap ({ frames := 1, cells := 0, slots := 0, locals := 22 }) (ow_Pc (dC, dI) vwCl [(cA, .int), (cB, .int)] (wX h a b cA cB (n, f, g)) sz [.ref h, .int (nI s0), .int (nI (s0 + w))]) (va_Qv (fun u : Int32 × (Nat → Int32) × (Nat → Int32) => u.1 = n ∧ ol_f (N + w) (ol_many N L s0 w) u.2.1 ∧ ol_g (N + w) (ol_many N L s0 w) u.2.2) (ow_B (dC, dI) vwCl (wX h a b cA cB) (va_A (wX h a b cA cB (n, f, g)) sz)) (va_A (wX h a b cA cB (n, f, g)) sz)) 0 0 (va_A (wX h a b cA cB (n, f, g)) sz) := by
  refine Met.ofW (cc := cX0_fillGap) (maxL := 5) (ret := none) (by decide) rfl ?_
  intro pg ev s m args below meth cd s₁ B hml hv
  obtain ⟨rfl, hsz, hP, hK, hD0⟩ := hv
  have hx := B.exec
  have hb := B.bytes
  have hr := B.returns
  have hts := atoms_spec (ws := wsX0_fillGap) B.pre
  have hown : s.vm.findClass RX0 = some m.cls := findClass_of_methodNamed B.named
  have hlocks := B.notSynchronized
  subst hsz
  have hD := hD0.self (sz := s.heap.size)
  generalize hAe : va_A (wX h a b cA cB (n, f, g)) s.heap.size = A at hD ⊢
  have hA : ∀ q : Nat, s.heap.size ≤ q → A q := fun q h => by rw [← hAe]; exact Or.inr h
  have hS : va_S A s.heap s.heap [] := va_S.rf
  have hD : va_D A [(h, .inr (0, [.ref a, .ref b, .int n])), (a, .inl (cA, 1000, .inl f)), (b, .inl (cB, 1000, .inl g))] := hD
  have hP : va_P (dC, dI) vwCl [(h, .inr (0, [.ref a, .ref b, .int n])), (a, .inl (cA, 1000, .inl f)), (b, .inl (cB, 1000, .inl g))] s.heap := hP
  have hl := lv_entry ([.ref h, .int (nI s0), .int (nI (s0 + w))]) (n := 5) (Nat.le_of_ble_eq_true rfl)
  rw [lg_entry_eq]
  generalize (lg_sl ([.ref h, .int (nI s0), .int (nI (s0 + w))]) ++ List.replicate (5 - (lg_sl ([.ref h, .int (nI s0), .int (nI (s0 + w))])).length) Slot.unset).toArray = ls at hl ⊢
  have hl : lv_has ls 5 [(0, .ref h), (1, .int (nI s0)), (2, .int (nI (s0 + w)))] := hl
  refine lv_iload_n hx hb dX0_fillGap_0 rfl (lv_at hl 1 rfl) ?_
  refine lv_istore_n (lv' := [(3, .int (nI s0)), (0, .ref h), (1, .int (nI s0)), (2, .int (nI (s0 + w)))]) hx hb dX0_fillGap_1 rfl hl (by decide) rfl (fun ls hl => ?_)
  refine lv_iconst (v := nI 0) hx hb dX0_fillGap_2 (by decide +kernel) ?_
  refine lv_istore (lv' := [(4, .int (nI 0)), (3, .int (nI s0)), (0, .ref h), (1, .int (nI s0)), (2, .int (nI (s0 + w)))]) hx hb dX0_fillGap_3 hl (by decide) rfl (fun ls hl => ?_)
  have loop : ∀ (k : Nat) (v j : Nat) (f1 g1 : Nat → Int32), 1000 < v + k → v ≤ 1000 → j ≤ w → ol_w N L s0 w j v f1 g1 → ∀ (H : Heap) (locs : List Loc), va_P (dC, dI) vwCl [(h, .inr (0, [.ref a, .ref b, .int n])), (a, .inl (cA, 1000, .inl f1)), (b, .inl (cB, 1000, .inl g1))] H → va_D A [(h, .inr (0, [.ref a, .ref b, .int n])), (a, .inl (cA, 1000, .inl f1)), (b, .inl (cB, 1000, .inl g1))] → va_S A s.heap H locs → ∀ ls : Array Slot, lv_has ls 5 [(0, .ref h), (1, .int (nI s0)), (2, .int (nI (s0 + w))), (3, .int (nI (s0 + j))), (4, .int (nI v))] → W pg l ev (headSpec wsX0_fillGap ({ frames := 1, cells := 0, slots := 0, locals := 22 })).room s m ([.ref h, .int (nI s0), .int (nI (s0 + w))] : List Value).toArray below meth cd H locs 0 0 (MQ below (va_Qv (fun u : Int32 × (Nat → Int32) × (Nat → Int32) => u.1 = n ∧ ol_f (N + w) (ol_many N L s0 w) u.2.1 ∧ ol_g (N + w) (ol_many N L s0 w) u.2.2) (ow_B (dC, dI) vwCl (wX h a b cA cB) A) A) ([.ref h, .int (nI s0), .int (nI (s0 + w))] : List Value).toArray s 0 0 A) (F0 m 5 ls []) := by
    intro k
    induction k with
    | zero =>
      intro v j f1 g1 h1 h2 h3
      exact absurd h1 (by omega)
    | succ k ih =>
      intro v j f1 g1 hk hv hj hi H locs hP hD hS ls hl
      refine lv_iload hx hb dX0_fillGap_5 (lv_at hl 4 rfl) ?_
      refine lv_sipush (v := nI 1000) hx hb dX0_fillGap_7 (by decide +kernel) ?_
      refine lv_icmp_ge (tgt := 45) hx hb dX0_fillGap_10 (by decide) (fun c_10 => ?_) (fun c_10 => ?_)
      · have hv2 := ol_le (by omega) (by omega) c_10
        obtain rfl : 1000 = v := by omega
        have hjw : j = w := by
          rcases Nat.lt_or_ge j w with h9 | h9
          · exact (ol_w_all ok h1s hi hs hw h9).elim
          · omega
        obtain rfl : j = w := hjw
        obtain ⟨hf9, hg9⟩ := ol_w_e hi hs
        exact W.vret hx hb hr (fun t ht hW => ⟨⟨(n, f1, g1), rfl, ⟨rfl, hf9, hg9⟩, by rw [ht]; exact hP, hD⟩, hS.F ht⟩) hS.2.2 dX0_fillGap_45
      · have hv2 := ol_nle (by omega) (by omega) c_10
        refine lv_iload_n hx hb dX0_fillGap_13 rfl (lv_at hl 3 rfl) ?_
        refine lv_iload_n hx hb dX0_fillGap_14 rfl (lv_at hl 2 rfl) ?_
        refine lv_icmp_ge (tgt := 45) hx hb dX0_fillGap_15 (by decide) (fun c_15 => ?_) (fun c_15 => ?_)
        · have hj2 := ol_le (by omega) (by omega) c_15
          obtain rfl : j = w := by omega
          obtain ⟨hf9, hg9⟩ := ol_w_e hi hs
          exact W.vret hx hb hr (fun t ht hW => ⟨⟨(n, f1, g1), rfl, ⟨rfl, hf9, hg9⟩, by rw [ht]; exact hP, hD⟩, hS.F ht⟩) hS.2.2 dX0_fillGap_45
        · have hj2 := ol_nle (by omega) (by omega) c_15
          refine lv_aload_n hx hb dX0_fillGap_18 rfl (lv_at hl 0 rfl) ?_
          refine va_get (D := (dC, dI)) (ci := 0) (v := .ref b) (C := RX0) (T := TX0) (N := 3) hx hb hts (by decide +kernel) hown hK hP 0 rfl rfl 1 (by decide) (hts (.fieldLink RX0 13 "OrderLine" "places" "[I") (by decide +kernel)) (fun _ h9 => h9) rfl dX0_fillGap_19 ?_
          refine lv_iload hx hb dX0_fillGap_22 (lv_at hl 4 rfl) ?_
          refine ow_iald (k := v) (v := g1 v) hx hb hK hP 2 1 rfl rfl hv2 (by decide) rfl dX0_fillGap_24 ?_
          refine lv_iconst (v := (-1)) hx hb dX0_fillGap_25 (by decide +kernel) ?_
          refine lv_icmp_ne (tgt := 39) hx hb dX0_fillGap_26 (by decide) (fun c_26 => ?_) (fun c_26 => ?_)
          · have hi2 := ol_w_skip hi hv2 c_26
            refine lv_iinc (v := nI (v + 1)) (lv' := [(4, .int (nI (v + 1))), (0, .ref h), (1, .int (nI s0)), (2, .int (nI (s0 + w))), (3, .int (nI (s0 + j)))]) hx hb dX0_fillGap_39 hl (k := 4) rfl (nI_1 v) (by decide) rfl (fun ls hl => ?_)
            refine lv_goto (tgt := 5) hx hb dX0_fillGap_42 (by decide) ?_
            exact ih (v + 1) _ _ _ (by omega) (by omega) (by omega) hi2 H locs hP hD hS ls (lv_sub hl [1, 2, 3, 4, 0] rfl)
          · have hi2 := ol_w_put ok h1s hi hs (by omega) hw hv2 c_26
            refine lv_aload_n hx hb dX0_fillGap_29 rfl (lv_at hl 0 rfl) ?_
            refine lv_iload hx hb dX0_fillGap_30 (lv_at hl 4 rfl) ?_
            refine lv_iload_n hx hb dX0_fillGap_32 rfl (lv_at hl 3 rfl) ?_
            refine ow_callv (wr := []) (va_runV (As := [.int (nI v), .int (nI (s0 + j))]) (rest := []) ⟨hx, hb, hml, hown, hts⟩ (c_X_put l dC dI h a b cA cB (n) f1 g1 v (s0 + j) _ (hv2) (by omega)) (cwV 2 hts gX0_fillGap_X0_put rfl rfl rfl (by decide +kernel) ⟨Nat.le_of_ble_eq_true rfl, Nat.le_of_ble_eq_true rfl⟩) (ow_PreV hK hP hD (ci := 0) (q0 := 0) rfl rfl) rfl rfl hl.1 rfl (lv_room (Nat.le_of_ble_eq_true rfl)) dX0_fillGap_33 ⟨Nat.le_of_ble_eq_true rfl, Nat.le_of_ble_eq_true rfl⟩) hP hD hS hA [0, 1, 2] [] rfl rfl (by decide) (by decide) (fun u H locs hw hP hD hS => ?_)
            subst hw
            have hP : va_P (dC, dI) vwCl [(h, .inr (0, [.ref a, .ref b, .int n])), (a, .inl (cA, 1000, .inl (upd f1 (s0 + j) (nI v)))), (b, .inl (cB, 1000, .inl (upd g1 v (nI (s0 + j)))))] H := hP
            have hD : va_D A [(h, .inr (0, [.ref a, .ref b, .int n])), (a, .inl (cA, 1000, .inl (upd f1 (s0 + j) (nI v)))), (b, .inl (cB, 1000, .inl (upd g1 v (nI (s0 + j)))))] := hD
            refine lv_iinc (v := nI (s0 + (j + 1))) (lv' := [(3, .int (nI (s0 + (j + 1)))), (0, .ref h), (1, .int (nI s0)), (2, .int (nI (s0 + w))), (4, .int (nI v))]) hx hb dX0_fillGap_36 hl (k := 3) rfl (nI_1 (s0 + j)) (by decide) rfl (fun ls hl => ?_)
            refine lv_iinc (v := nI (v + 1)) (lv' := [(4, .int (nI (v + 1))), (3, .int (nI (s0 + (j + 1)))), (0, .ref h), (1, .int (nI s0)), (2, .int (nI (s0 + w)))]) hx hb dX0_fillGap_39 hl (k := 4) rfl (nI_1 v) (by decide) rfl (fun ls hl => ?_)
            refine lv_goto (tgt := 5) hx hb dX0_fillGap_42 (by decide) ?_
            exact ih (v + 1) _ _ _ (by omega) (by omega) (by omega) hi2 H locs hP hD hS ls (lv_sub hl [2, 3, 4, 1, 0] rfl)
  exact loop 1001 0 0 f g (by omega) (by omega) (by omega) (ol_w_0 ho) _ _ hP hD hS ls (lv_sub hl [2, 3, 4, 1, 0] rfl)
set_option maxHeartbeats 4000000 in
set_option maxRecDepth 100000 in
/-- addBehind(x, w): w more behind x -/
theorem c_X_addBehind (l : Launch) (dC : Nat → ClassId) (dI : Nat → Nat → Nat) (h a b : Nat) (cA cB : ClassId) (N : Nat) (L : Nat → Nat) (f g : Nat → Int32) (x : Int32) (p w sz : Nat) (ok : ol_ok N L) (hf : ol_f N L f) (hg : ol_g N L g) (hp : ol_at N L x p) (h1w : 1 ≤ w) (hwN : N + w ≤ 1000) : Met l yX0_addBehind wsX0_addBehind ({ frames := 2, cells := 0, slots := 0, locals := 46 }) (ow_Pc (dC, dI) vwCl [(cA, .int), (cB, .int)] (wX h a b cA cB (nI N, f, g)) sz [.ref h, .int x, .int (nI w)]) (va_Qi (fun (r : Int32) (u : Int32 × (Nat → Int32) × (Nat → Int32)) => r = nI (ol_fr N L) ∧ u.1 = nI (N + w) ∧ ol_f (N + w) (ol_many N L (p + 1) w) u.2.1 ∧ ol_g (N + w) (ol_many N L (p + 1) w) u.2.2) (ow_B (dC, dI) vwCl (wX h a b cA cB) (va_A (wX h a b cA cB (nI N, f, g)) sz)) (va_A (wX h a b cA cB (nI N, f, g)) sz)) 0 0 (va_A (wX h a b cA cB (nI N, f, g)) sz) := by
  refine Met.ofW (cc := cX0_addBehind) (maxL := 4) (ret := (some .int)) (by decide) rfl ?_
  intro pg ev s m args below meth cd s₁ B hml hv
  obtain ⟨rfl, hsz, hP, hK, hD0⟩ := hv
  have hx := B.exec
  have hb := B.bytes
  have hr := B.returns
  have hts := atoms_spec (ws := wsX0_addBehind) B.pre
  have hown : s.vm.findClass RX0 = some m.cls := findClass_of_methodNamed B.named
  have hlocks := B.notSynchronized
  subst hsz
  have hD := hD0.self (sz := s.heap.size)
  generalize hAe : va_A (wX h a b cA cB (nI N, f, g)) s.heap.size = A at hD ⊢
  have hA : ∀ q : Nat, s.heap.size ≤ q → A q := fun q h => by rw [← hAe]; exact Or.inr h
  have hS : va_S A s.heap s.heap [] := va_S.rf
  have hD : va_D A [(h, .inr (0, [.ref a, .ref b, .int (nI N)])), (a, .inl (cA, 1000, .inl f)), (b, .inl (cB, 1000, .inl g))] := hD
  have hP : va_P (dC, dI) vwCl [(h, .inr (0, [.ref a, .ref b, .int (nI N)])), (a, .inl (cA, 1000, .inl f)), (b, .inl (cB, 1000, .inl g))] s.heap := hP
  have hl := lv_entry ([.ref h, .int x, .int (nI w)]) (n := 4) (Nat.le_of_ble_eq_true rfl)
  rw [lg_entry_eq]
  generalize (lg_sl ([.ref h, .int x, .int (nI w)]) ++ List.replicate (4 - (lg_sl ([.ref h, .int x, .int (nI w)])).length) Slot.unset).toArray = ls at hl ⊢
  have hl : lv_has ls 4 [(0, .ref h), (1, .int x), (2, .int (nI w))] := hl
  have hpN : p < N := hp.1
  refine lv_aload_n hx hb dX0_addBehind_0 rfl (lv_at hl 0 rfl) ?_
  refine va_get (D := (dC, dI)) (ci := 0) (v := .ref b) (C := RX0) (T := TX0) (N := 3) hx hb hts (by decide +kernel) hown hK hP 0 rfl rfl 1 (by decide) (hts (.fieldLink RX0 13 "OrderLine" "places" "[I") (by decide +kernel)) (fun _ h9 => h9) rfl dX0_addBehind_1 ?_
  refine lv_iload_n hx hb dX0_addBehind_4 rfl (lv_at hl 1 rfl) ?_
  refine ow_top (z := nI (L p)) hp.2 ?_
  refine ow_iald (k := L p) (v := nI p) hx hb hK hP 2 1 rfl rfl (ok.2.2.2.1 p hp.1) (by decide) (hg.1 p hp.1) dX0_addBehind_5 ?_
  refine lv_iconst (v := 1) hx hb dX0_addBehind_6 (by decide +kernel) ?_
  refine lv_iadd hx hb dX0_addBehind_7 ?_
  refine ow_top (z := nI (p + 1)) (nI_1 p) ?_
  refine lv_istore_n (lv' := [(3, .int (nI (p + 1))), (0, .ref h), (1, .int x), (2, .int (nI w))]) hx hb dX0_addBehind_8 rfl hl (by decide) rfl (fun ls hl => ?_)
  refine lv_aload_n hx hb dX0_addBehind_9 rfl (lv_at hl 1 rfl) ?_
  refine lv_iload_n hx hb dX0_addBehind_10 rfl (lv_at hl 0 rfl) ?_
  refine lv_iload_n hx hb dX0_addBehind_11 rfl (lv_at hl 3 rfl) ?_
  refine ow_callv (wr := []) (va_runV (As := [.int (nI (p + 1)), .int (nI w)]) (rest := []) ⟨hx, hb, hml, hown, hts⟩ (c_X_openGap l dC dI h a b cA cB N L f g (p + 1) w _ ok hf hg (by omega) (by omega) hwN) (cwV 2 hts gX0_addBehind_X0_openGap rfl rfl rfl (by decide +kernel) ⟨Nat.le_of_ble_eq_true rfl, Nat.le_of_ble_eq_true rfl⟩) (ow_PreV hK hP hD (ci := 0) (q0 := 0) rfl rfl) rfl rfl hl.1 rfl (lv_room (Nat.le_of_ble_eq_true rfl)) dX0_addBehind_12 ⟨Nat.le_of_ble_eq_true rfl, Nat.le_of_ble_eq_true rfl⟩) hP hD hS hA [0, 1, 2] [] rfl rfl (by decide) (by decide) (fun u H locs hw hP hD hS => ?_)
  obtain ⟨u1, u2, u3⟩ := u
  obtain ⟨e1, ho⟩ := hw
  obtain rfl : nI (N + w) = u1 := e1.symm
  have hP : va_P (dC, dI) vwCl [(h, .inr (0, [.ref a, .ref b, .int (nI (N + w))])), (a, .inl (cA, 1000, .inl u2)), (b, .inl (cB, 1000, .inl u3))] H := hP
  have hD : va_D A [(h, .inr (0, [.ref a, .ref b, .int (nI (N + w))])), (a, .inl (cA, 1000, .inl u2)), (b, .inl (cB, 1000, .inl u3))] := hD
  refine lv_aload_n hx hb dX0_addBehind_15 rfl (lv_at hl 1 rfl) ?_
  refine lv_iload_n hx hb dX0_addBehind_16 rfl (lv_at hl 0 rfl) ?_
  refine lv_iload_n hx hb dX0_addBehind_17 rfl (lv_at hl 0 rfl) ?_
  refine lv_iload_n hx hb dX0_addBehind_18 rfl (lv_at hl 3 rfl) ?_
  refine lv_iadd hx hb dX0_addBehind_19 ?_
  refine ow_top (z := nI (p + 1 + w)) (nI_add (p + 1) w) ?_
  refine ow_callv (wr := []) (va_runV (As := [.int (nI (p + 1)), .int (nI (p + 1 + w))]) (rest := []) ⟨hx, hb, hml, hown, hts⟩ (c_X_fillGap l dC dI h a b cA cB (nI (N + w)) N L u2 u3 (p + 1) w _ ok ho (by omega) (by omega) hwN) (cwV 2 hts gX0_addBehind_X0_fillGap rfl rfl rfl (by decide +kernel) ⟨Nat.le_of_ble_eq_true rfl, Nat.le_of_ble_eq_true rfl⟩) (ow_PreV hK hP hD (ci := 0) (q0 := 0) rfl rfl) rfl rfl hl.1 rfl (lv_room (Nat.le_of_ble_eq_true rfl)) dX0_addBehind_20 ⟨Nat.le_of_ble_eq_true rfl, Nat.le_of_ble_eq_true rfl⟩) hP hD hS hA [0, 1, 2] [] rfl rfl (by decide) (by decide) (fun u H locs hw hP hD hS => ?_)
  obtain ⟨v1, v2, v3⟩ := u
  obtain ⟨e1, hf9, hg9⟩ := hw
  obtain rfl : nI (N + w) = v1 := e1.symm
  have hP : va_P (dC, dI) vwCl [(h, .inr (0, [.ref a, .ref b, .int (nI (N + w))])), (a, .inl (cA, 1000, .inl v2)), (b, .inl (cB, 1000, .inl v3))] H := hP
  have hD : va_D A [(h, .inr (0, [.ref a, .ref b, .int (nI (N + w))])), (a, .inl (cA, 1000, .inl v2)), (b, .inl (cB, 1000, .inl v3))] := hD
  refine lv_aload_n hx hb dX0_addBehind_23 rfl (lv_at hl 1 rfl) ?_
  refine va_get (D := (dC, dI)) (ci := 0) (v := .ref a) (C := RX0) (T := TX0) (N := 3) hx hb hts (by decide +kernel) hown hK hP 0 rfl rfl 0 (by decide) (hts (.fieldLink RX0 9 "OrderLine" "line" "[I") (by decide +kernel)) (fun _ h9 => h9) rfl dX0_addBehind_24 ?_
  refine lv_iload_n hx hb dX0_addBehind_27 rfl (lv_at hl 0 rfl) ?_
  refine ow_iald (k := p + 1) (v := nI (ol_fr N L)) hx hb hK hP 1 0 rfl rfl (by omega) (by decide) ((hf9 (p + 1) (by omega)).trans (congrArg nI (ol_many_keep (i := 0) w (by omega)))) dX0_addBehind_28 ?_
  exact W.iret (v := (nI (ol_fr N L))) hx hb hr (fun t ht hW => ⟨⟨(nI (ol_fr N L)), (nI (N + w), v2, v3), rfl, ⟨rfl, rfl, hf9, hg9⟩, by rw [ht]; exact hP, hD⟩, hS.F ht⟩) hS.2.2 dX0_addBehind_29
set_option maxHeartbeats 4000000 in
set_option maxRecDepth 100000 in
/-- takeOut(s0, s0 + w): these go -/
theorem c_X_takeOut (l : Launch) (dC : Nat → ClassId) (dI : Nat → Nat → Nat) (h a b : Nat) (cA cB : ClassId) (N : Nat) (L : Nat → Nat) (f g : Nat → Int32) (s0 w sz : Nat) (ok : ol_ok N L) (hf : ol_f N L f) (hg : ol_g N L g) (h1s : 1 ≤ s0) (hs : s0 + w ≤ N) : Met l yX0_takeOut wsX0_takeOut ({ frames := 1, cells := 0, slots := 0, locals := 22 }) (ow_Pc (dC, dI) vwCl [(cA, .int), (cB, .int)] (wX h a b cA cB (nI N, f, g)) sz [.ref h, .int (nI s0), .int (nI (s0 + w))]) (va_Qv (fun u : Int32 × (Nat → Int32) × (Nat → Int32) => u.1 = nI (N - w) ∧ ol_f (N - w) (ol_rem L s0 w) u.2.1 ∧ ol_g (N - w) (ol_rem L s0 w) u.2.2) (ow_B (dC, dI) vwCl (wX h a b cA cB) (va_A (wX h a b cA cB (nI N, f, g)) sz)) (va_A (wX h a b cA cB (nI N, f, g)) sz)) 0 0 (va_A (wX h a b cA cB (nI N, f, g)) sz) := by
  refine Met.ofW (cc := cX0_takeOut) (maxL := 5) (ret := none) (by decide) rfl ?_
  intro pg ev s m args below meth cd s₁ B hml hv
  obtain ⟨rfl, hsz, hP, hK, hD0⟩ := hv
  have hx := B.exec
  have hb := B.bytes
  have hr := B.returns
  have hts := atoms_spec (ws := wsX0_takeOut) B.pre
  have hown : s.vm.findClass RX0 = some m.cls := findClass_of_methodNamed B.named
  have hlocks := B.notSynchronized
  subst hsz
  have hD := hD0.self (sz := s.heap.size)
  generalize hAe : va_A (wX h a b cA cB (nI N, f, g)) s.heap.size = A at hD ⊢
  have hA : ∀ q : Nat, s.heap.size ≤ q → A q := fun q h => by rw [← hAe]; exact Or.inr h
  have hS : va_S A s.heap s.heap [] := va_S.rf
  have hD : va_D A [(h, .inr (0, [.ref a, .ref b, .int (nI N)])), (a, .inl (cA, 1000, .inl f)), (b, .inl (cB, 1000, .inl g))] := hD
  have hP : va_P (dC, dI) vwCl [(h, .inr (0, [.ref a, .ref b, .int (nI N)])), (a, .inl (cA, 1000, .inl f)), (b, .inl (cB, 1000, .inl g))] s.heap := hP
  have hl := lv_entry ([.ref h, .int (nI s0), .int (nI (s0 + w))]) (n := 5) (Nat.le_of_ble_eq_true rfl)
  rw [lg_entry_eq]
  generalize (lg_sl ([.ref h, .int (nI s0), .int (nI (s0 + w))]) ++ List.replicate (5 - (lg_sl ([.ref h, .int (nI s0), .int (nI (s0 + w))])).length) Slot.unset).toArray = ls at hl ⊢
  have hl : lv_has ls 5 [(0, .ref h), (1, .int (nI s0)), (2, .int (nI (s0 + w)))] := hl
  have hN := ok.2.1
  refine lv_iload_n hx hb dX0_takeOut_0 rfl (lv_at hl 1 rfl) ?_
  refine lv_istore_n (lv' := [(3, .int (nI s0)), (0, .ref h), (1, .int (nI s0)), (2, .int (nI (s0 + w)))]) hx hb dX0_takeOut_1 rfl hl (by decide) rfl (fun ls hl => ?_)
  have loop1 : ∀ (k : Nat) (i : Nat) (g1 : Nat → Int32), w < i + k → i ≤ w → ol_t1 N L s0 i g1 → ∀ (H : Heap) (locs : List Loc), va_P (dC, dI) vwCl [(h, .inr (0, [.ref a, .ref b, .int (nI N)])), (a, .inl (cA, 1000, .inl f)), (b, .inl (cB, 1000, .inl g1))] H → va_D A [(h, .inr (0, [.ref a, .ref b, .int (nI N)])), (a, .inl (cA, 1000, .inl f)), (b, .inl (cB, 1000, .inl g1))] → va_S A s.heap H locs → ∀ ls : Array Slot, lv_has ls 5 [(0, .ref h), (1, .int (nI s0)), (2, .int (nI (s0 + w))), (3, .int (nI (s0 + i)))] → W pg l ev (headSpec wsX0_takeOut ({ frames := 1, cells := 0, slots := 0, locals := 22 })).room s m ([.ref h, .int (nI s0), .int (nI (s0 + w))] : List Value).toArray below meth cd H locs 0 0 (MQ below (va_Qv (fun u : Int32 × (Nat → Int32) × (Nat → Int32) => u.1 = nI (N - w) ∧ ol_f (N - w) (ol_rem L s0 w) u.2.1 ∧ ol_g (N - w) (ol_rem L s0 w) u.2.2) (ow_B (dC, dI) vwCl (wX h a b cA cB) A) A) ([.ref h, .int (nI s0), .int (nI (s0 + w))] : List Value).toArray s 0 0 A) (F0 m 2 ls []) := by
    intro k
    induction k with
    | zero =>
      intro i g1 h1 h2 h3
      exact absurd h1 (by omega)
    | succ k ih =>
      intro i g1 hk hi h1 H locs hP hD hS ls hl
      refine lv_iload_n hx hb dX0_takeOut_2 rfl (lv_at hl 3 rfl) ?_
      refine lv_iload_n hx hb dX0_takeOut_3 rfl (lv_at hl 2 rfl) ?_
      refine lv_icmp_ge (tgt := 25) hx hb dX0_takeOut_4 (by decide) (fun c_4 => ?_) (fun c_4 => ?_)
      · have hc := ol_le (by omega) (by omega) c_4
        obtain rfl : w = i := by omega
        refine lv_iload_n hx hb dX0_takeOut_25 rfl (lv_at hl 2 rfl) ?_
        refine lv_iload_n hx hb dX0_takeOut_26 rfl (lv_at hl 1 rfl) ?_
        refine lv_isub hx hb dX0_takeOut_27 ?_
        refine ow_top (z := nI w) (by rw [pk_sub (by omega), show s0 + w - s0 = w by omega]) ?_
        refine lv_istore_n (lv' := [(3, .int (nI w)), (0, .ref h), (1, .int (nI s0)), (2, .int (nI (s0 + w)))]) hx hb dX0_takeOut_28 rfl hl (by decide) rfl (fun ls hl => ?_)
        refine lv_iload_n hx hb dX0_takeOut_29 rfl (lv_at hl 3 rfl) ?_
        refine lv_istore (lv' := [(4, .int (nI (s0 + w))), (3, .int (nI w)), (0, .ref h), (1, .int (nI s0)), (2, .int (nI (s0 + w)))]) hx hb dX0_takeOut_30 hl (by decide) rfl (fun ls hl => ?_)
        have loop2 : ∀ (k : Nat) (j : Nat) (f2 g2 : Nat → Int32), N < s0 + w + j + k → s0 + w + j ≤ N → ol_t2 N L s0 w j f2 g2 → ∀ (H : Heap) (locs : List Loc), va_P (dC, dI) vwCl [(h, .inr (0, [.ref a, .ref b, .int (nI N)])), (a, .inl (cA, 1000, .inl f2)), (b, .inl (cB, 1000, .inl g2))] H → va_D A [(h, .inr (0, [.ref a, .ref b, .int (nI N)])), (a, .inl (cA, 1000, .inl f2)), (b, .inl (cB, 1000, .inl g2))] → va_S A s.heap H locs → ∀ ls : Array Slot, lv_has ls 5 [(0, .ref h), (1, .int (nI s0)), (2, .int (nI (s0 + w))), (3, .int (nI w)), (4, .int (nI (s0 + w + j)))] → W pg l ev (headSpec wsX0_takeOut ({ frames := 1, cells := 0, slots := 0, locals := 22 })).room s m ([.ref h, .int (nI s0), .int (nI (s0 + w))] : List Value).toArray below meth cd H locs 0 0 (MQ below (va_Qv (fun u : Int32 × (Nat → Int32) × (Nat → Int32) => u.1 = nI (N - w) ∧ ol_f (N - w) (ol_rem L s0 w) u.2.1 ∧ ol_g (N - w) (ol_rem L s0 w) u.2.2) (ow_B (dC, dI) vwCl (wX h a b cA cB) A) A) ([.ref h, .int (nI s0), .int (nI (s0 + w))] : List Value).toArray s 0 0 A) (F0 m 32 ls []) := by
          intro k
          induction k with
          | zero =>
            intro j f2 g2 h1 h2 h3
            exact absurd h1 (by omega)
          | succ k ih =>
            intro j f2 g2 hk2 hj h2 H locs hP hD hS ls hl
            refine lv_iload hx hb dX0_takeOut_32 (lv_at hl 4 rfl) ?_
            refine lv_aload_n hx hb dX0_takeOut_34 rfl (lv_at hl 0 rfl) ?_
            refine va_get (D := (dC, dI)) (ci := 0) (v := .int (nI N)) (C := RX0) (T := TX0) (N := 3) hx hb hts (by decide +kernel) hown hK hP 0 rfl rfl 2 (by decide) (hts (.fieldLink RX0 16 "OrderLine" "count" "I") (by decide +kernel)) (fun _ h9 => h9) rfl dX0_takeOut_35 ?_
            refine lv_icmp_ge (tgt := 62) hx hb dX0_takeOut_38 (by decide) (fun c_38 => ?_) (fun c_38 => ?_)
            · have hc2 := ol_le (by omega) (by omega) c_38
              obtain ⟨hf9, hg9⟩ := ol_t2_e (show ol_t2 N L s0 w (N - (s0 + w)) f2 g2 by rw [show N - (s0 + w) = j by omega]; exact h2) hs
              refine lv_aload_n hx hb dX0_takeOut_62 rfl (lv_at hl 0 rfl) ?_
              refine lv_dup hx hb dX0_takeOut_63 rfl ?_
              refine va_get (D := (dC, dI)) (ci := 0) (v := .int (nI N)) (C := RX0) (T := TX0) (N := 3) hx hb hts (by decide +kernel) hown hK hP 0 rfl rfl 2 (by decide) (hts (.fieldLink RX0 16 "OrderLine" "count" "I") (by decide +kernel)) (fun _ h9 => h9) rfl dX0_takeOut_64 ?_
              refine lv_iload_n hx hb dX0_takeOut_67 rfl (lv_at hl 3 rfl) ?_
              refine lv_isub hx hb dX0_takeOut_68 ?_
              refine ow_top (z := nI (N - w)) (pk_sub (by omega)) ?_
              refine va_put (D := (dC, dI)) (ci := 0) (v := .int (nI (N - w))) (ty := (.int)) (C := RX0) (T := TX0) (N := 3) hx hb hts (by decide +kernel) tyX0 tyX0_ok nmX0 hown hK hP hD hS 0 rfl rfl 2 (by decide) (hts (.fieldLink RX0 16 "OrderLine" "count" "I") (by decide +kernel)) (fun _ h9 => h9) rfl (by decide +kernel) rfl rfl (Nat.le_of_ble_eq_true rfl) dX0_takeOut_69 (fun H locs hP hD hS => ?_)
              have hP : va_P (dC, dI) vwCl [(h, .inr (0, [.ref a, .ref b, .int (nI (N - w))])), (a, .inl (cA, 1000, .inl f2)), (b, .inl (cB, 1000, .inl g2))] H := hP
              have hD : va_D A [(h, .inr (0, [.ref a, .ref b, .int (nI (N - w))])), (a, .inl (cA, 1000, .inl f2)), (b, .inl (cB, 1000, .inl g2))] := hD
              exact W.vret hx hb hr (fun t ht hW => ⟨⟨(nI (N - w), f2, g2), rfl, ⟨rfl, hf9, hg9⟩, by rw [ht]; exact hP, hD⟩, hS.F ht⟩) hS.2.2 dX0_takeOut_72
            · have hc2 := ol_nle (by omega) (by omega) c_38
              refine lv_aload_n hx hb dX0_takeOut_41 rfl (lv_at hl 0 rfl) ?_
              refine lv_aload_n hx hb dX0_takeOut_42 rfl (lv_at hl 0 rfl) ?_
              refine va_get (D := (dC, dI)) (ci := 0) (v := .ref a) (C := RX0) (T := TX0) (N := 3) hx hb hts (by decide +kernel) hown hK hP 0 rfl rfl 0 (by decide) (hts (.fieldLink RX0 9 "OrderLine" "line" "[I") (by decide +kernel)) (fun _ h9 => h9) rfl dX0_takeOut_43 ?_
              refine lv_iload hx hb dX0_takeOut_46 (lv_at hl 4 rfl) ?_
              refine ow_iald (k := s0 + w + j) (v := nI (L (s0 + w + j))) hx hb hK hP 1 0 rfl rfl (by omega) (by decide) (h2.2.2.1 (s0 + w + j) (by omega) (by omega)) dX0_takeOut_48 ?_
              refine lv_iload hx hb dX0_takeOut_49 (lv_at hl 4 rfl) ?_
              refine lv_iload_n hx hb dX0_takeOut_51 rfl (lv_at hl 3 rfl) ?_
              refine lv_isub hx hb dX0_takeOut_52 ?_
              refine ow_top (z := nI (s0 + j)) (by rw [pk_sub (by omega), show s0 + w + j - w = s0 + j by omega]) ?_
              refine ow_callv (wr := []) (va_runV (As := [.int (nI (L (s0 + w + j))), .int (nI (s0 + j))]) (rest := []) ⟨hx, hb, hml, hown, hts⟩ (c_X_put l dC dI h a b cA cB (nI N) f2 g2 (L (s0 + w + j)) (s0 + j) _ (ok.2.2.2.1 _ (by omega)) (by omega)) (cwV 2 hts gX0_takeOut_X0_put rfl rfl rfl (by decide +kernel) ⟨Nat.le_of_ble_eq_true rfl, Nat.le_of_ble_eq_true rfl⟩) (ow_PreV hK hP hD (ci := 0) (q0 := 0) rfl rfl) rfl rfl hl.1 rfl (lv_room (Nat.le_of_ble_eq_true rfl)) dX0_takeOut_53 ⟨Nat.le_of_ble_eq_true rfl, Nat.le_of_ble_eq_true rfl⟩) hP hD hS hA [0, 1, 2] [] rfl rfl (by decide) (by decide) (fun u H locs hw hP hD hS => ?_)
              subst hw
              have hP : va_P (dC, dI) vwCl [(h, .inr (0, [.ref a, .ref b, .int (nI N)])), (a, .inl (cA, 1000, .inl (upd f2 (s0 + j) (nI (L (s0 + w + j)))))), (b, .inl (cB, 1000, .inl (upd g2 (L (s0 + w + j)) (nI (s0 + j)))))] H := hP
              have hD : va_D A [(h, .inr (0, [.ref a, .ref b, .int (nI N)])), (a, .inl (cA, 1000, .inl (upd f2 (s0 + j) (nI (L (s0 + w + j)))))), (b, .inl (cB, 1000, .inl (upd g2 (L (s0 + w + j)) (nI (s0 + j)))))] := hD
              refine lv_iinc (v := nI (s0 + w + (j + 1))) (lv' := [(4, .int (nI (s0 + w + (j + 1)))), (0, .ref h), (1, .int (nI s0)), (2, .int (nI (s0 + w))), (3, .int (nI w))]) hx hb dX0_takeOut_56 hl (k := 4) rfl (nI_1 (s0 + w + j)) (by decide) rfl (fun ls hl => ?_)
              refine lv_goto (tgt := 32) hx hb dX0_takeOut_59 (by decide) ?_
              exact ih (j + 1) _ _ (by omega) (by omega) (ol_t2_s ok h2 (by omega)) H locs hP hD hS ls (lv_sub hl [1, 2, 3, 4, 0] rfl)
        exact loop2 (N + 1) 0 f g1 (by omega) (by omega) (ol_t2_0 hf h1 hs) _ _ hP hD hS ls (lv_sub hl [2, 3, 4, 1, 0] rfl)
      · have hc := ol_nle (by omega) (by omega) c_4
        refine lv_aload_n hx hb dX0_takeOut_7 rfl (lv_at hl 0 rfl) ?_
        refine va_get (D := (dC, dI)) (ci := 0) (v := .ref b) (C := RX0) (T := TX0) (N := 3) hx hb hts (by decide +kernel) hown hK hP 0 rfl rfl 1 (by decide) (hts (.fieldLink RX0 13 "OrderLine" "places" "[I") (by decide +kernel)) (fun _ h9 => h9) rfl dX0_takeOut_8 ?_
        refine lv_aload_n hx hb dX0_takeOut_11 rfl (lv_at hl 0 rfl) ?_
        refine va_get (D := (dC, dI)) (ci := 0) (v := .ref a) (C := RX0) (T := TX0) (N := 3) hx hb hts (by decide +kernel) hown hK hP 0 rfl rfl 0 (by decide) (hts (.fieldLink RX0 9 "OrderLine" "line" "[I") (by decide +kernel)) (fun _ h9 => h9) rfl dX0_takeOut_12 ?_
        refine lv_iload_n hx hb dX0_takeOut_15 rfl (lv_at hl 3 rfl) ?_
        refine ow_iald (k := s0 + i) (v := nI (L (s0 + i))) hx hb hK hP 1 0 rfl rfl (by omega) (by decide) (hf (s0 + i) (by omega)) dX0_takeOut_16 ?_
        refine lv_iconst (v := (-1)) hx hb dX0_takeOut_17 (by decide +kernel) ?_
        refine ow_iast (k := L (s0 + i)) hx hb hK hP hD hS 2 1 rfl rfl (ok.2.2.2.1 (s0 + i) (by omega)) (by decide) dX0_takeOut_18 (fun H locs hP hD hS => ?_)
        have hP : va_P (dC, dI) vwCl [(h, .inr (0, [.ref a, .ref b, .int (nI N)])), (a, .inl (cA, 1000, .inl f)), (b, .inl (cB, 1000, .inl (upd g1 (L (s0 + i)) (((-1))))))] H := hP
        have hD : va_D A [(h, .inr (0, [.ref a, .ref b, .int (nI N)])), (a, .inl (cA, 1000, .inl f)), (b, .inl (cB, 1000, .inl (upd g1 (L (s0 + i)) (((-1))))))] := hD
        refine lv_iinc (v := nI (s0 + (i + 1))) (lv' := [(3, .int (nI (s0 + (i + 1)))), (0, .ref h), (1, .int (nI s0)), (2, .int (nI (s0 + w)))]) hx hb dX0_takeOut_19 hl (k := 3) rfl (nI_1 (s0 + i)) (by decide) rfl (fun ls hl => ?_)
        refine lv_goto (tgt := 2) hx hb dX0_takeOut_22 (by decide) ?_
        exact ih (i + 1) _ (by omega) (by omega) (ol_t1_s ok h1 (by omega)) H locs hP hD hS ls (lv_sub hl [1, 2, 3, 0] rfl)
  exact loop1 (w + 1) 0 g (by omega) (by omega) (ol_t1_0 hg) _ _ hP hD hS ls (lv_sub hl [1, 2, 3, 0] rfl)
set_option maxHeartbeats 4000000 in
set_option maxRecDepth 100000 in
/-- turn(s0, e0): the other way round -/
theorem c_X_turn (l : Launch) (dC : Nat → ClassId) (dI : Nat → Nat → Nat) (h a b : Nat) (cA cB : ClassId) (N : Nat) (L : Nat → Nat) (f g : Nat → Int32) (s0 e0 sz : Nat) (ok : ol_ok N L) (hf : ol_f N L f) (hg : ol_g N L g) (h1s : 1 ≤ s0) (hse : s0 ≤ e0) (he : e0 ≤ N) : Met l yX0_turn wsX0_turn ({ frames := 1, cells := 0, slots := 0, locals := 22 }) (ow_Pc (dC, dI) vwCl [(cA, .int), (cB, .int)] (wX h a b cA cB (nI N, f, g)) sz [.ref h, .int (nI s0), .int (nI e0)]) (va_Qv (fun u : Int32 × (Nat → Int32) × (Nat → Int32) => u.1 = nI N ∧ ol_f N (ol_rev L s0 e0) u.2.1 ∧ ol_g N (ol_rev L s0 e0) u.2.2) (ow_B (dC, dI) vwCl (wX h a b cA cB) (va_A (wX h a b cA cB (nI N, f, g)) sz)) (va_A (wX h a b cA cB (nI N, f, g)) sz)) 0 0 (va_A (wX h a b cA cB (nI N, f, g)) sz) := by
  refine Met.ofW (cc := cX0_turn) (maxL := 6) (ret := none) (by decide) rfl ?_
  intro pg ev s m args below meth cd s₁ B hml hv
  obtain ⟨rfl, hsz, hP, hK, hD0⟩ := hv
  have hx := B.exec
  have hb := B.bytes
  have hr := B.returns
  have hts := atoms_spec (ws := wsX0_turn) B.pre
  have hown : s.vm.findClass RX0 = some m.cls := findClass_of_methodNamed B.named
  have hlocks := B.notSynchronized
  subst hsz
  have hD := hD0.self (sz := s.heap.size)
  generalize hAe : va_A (wX h a b cA cB (nI N, f, g)) s.heap.size = A at hD ⊢
  have hA : ∀ q : Nat, s.heap.size ≤ q → A q := fun q h => by rw [← hAe]; exact Or.inr h
  have hS : va_S A s.heap s.heap [] := va_S.rf
  have hD : va_D A [(h, .inr (0, [.ref a, .ref b, .int (nI N)])), (a, .inl (cA, 1000, .inl f)), (b, .inl (cB, 1000, .inl g))] := hD
  have hP : va_P (dC, dI) vwCl [(h, .inr (0, [.ref a, .ref b, .int (nI N)])), (a, .inl (cA, 1000, .inl f)), (b, .inl (cB, 1000, .inl g))] s.heap := hP
  have hl := lv_entry ([.ref h, .int (nI s0), .int (nI e0)]) (n := 6) (Nat.le_of_ble_eq_true rfl)
  rw [lg_entry_eq]
  generalize (lg_sl ([.ref h, .int (nI s0), .int (nI e0)]) ++ List.replicate (6 - (lg_sl ([.ref h, .int (nI s0), .int (nI e0)])).length) Slot.unset).toArray = ls at hl ⊢
  have hl : lv_has ls 6 [(0, .ref h), (1, .int (nI s0)), (2, .int (nI e0))] := hl
  have hN := ok.2.1
  refine lv_iload_n hx hb dX0_turn_0 rfl (lv_at hl 2 rfl) ?_
  refine lv_iconst (v := 1) hx hb dX0_turn_1 (by decide +kernel) ?_
  refine lv_isub hx hb dX0_turn_2 ?_
  refine ow_top (z := nI (e0 - 1)) (nI_m1 (by omega)) ?_
  refine lv_istore_n (lv' := [(3, .int (nI (e0 - 1))), (0, .ref h), (1, .int (nI s0)), (2, .int (nI e0))]) hx hb dX0_turn_3 rfl hl (by decide) rfl (fun ls hl => ?_)
  refine lv_iload_n hx hb dX0_turn_4 rfl (lv_at hl 2 rfl) ?_
  refine lv_istore (lv' := [(4, .int (nI s0)), (3, .int (nI (e0 - 1))), (0, .ref h), (1, .int (nI s0)), (2, .int (nI e0))]) hx hb dX0_turn_5 hl (by decide) rfl (fun ls hl => ?_)
  have loop : ∀ (k : Nat) (i : Nat) (f1 g1 : Nat → Int32), e0 < i + k → (i = 0 ∨ s0 + i + i ≤ e0) → ol_ok N (ol_rv L s0 e0 i) → ol_f N (ol_rv L s0 e0 i) f1 → ol_g N (ol_rv L s0 e0 i) g1 → ∀ (H : Heap) (locs : List Loc), va_P (dC, dI) vwCl [(h, .inr (0, [.ref a, .ref b, .int (nI N)])), (a, .inl (cA, 1000, .inl f1)), (b, .inl (cB, 1000, .inl g1))] H → va_D A [(h, .inr (0, [.ref a, .ref b, .int (nI N)])), (a, .inl (cA, 1000, .inl f1)), (b, .inl (cB, 1000, .inl g1))] → va_S A s.heap H locs → ∀ ls : Array Slot, lv_has ls 6 [(0, .ref h), (1, .int (nI s0)), (2, .int (nI e0)), (3, .int (nI (e0 - 1 - i))), (4, .int (nI (s0 + i)))] → W pg l ev (headSpec wsX0_turn ({ frames := 1, cells := 0, slots := 0, locals := 22 })).room s m ([.ref h, .int (nI s0), .int (nI e0)] : List Value).toArray below meth cd H locs 0 0 (MQ below (va_Qv (fun u : Int32 × (Nat → Int32) × (Nat → Int32) => u.1 = nI N ∧ ol_f N (ol_rev L s0 e0) u.2.1 ∧ ol_g N (ol_rev L s0 e0) u.2.2) (ow_B (dC, dI) vwCl (wX h a b cA cB) A) A) ([.ref h, .int (nI s0), .int (nI e0)] : List Value).toArray s 0 0 A) (F0 m 7 ls []) := by
    intro k
    induction k with
    | zero =>
      intro i f1 g1 h1 h2 h3
      exact absurd h1 (by omega)
    | succ k ih =>
      intro i f1 g1 hk hi ok1 hf1 hg1 H locs hP hD hS ls hl
      refine lv_iload hx hb dX0_turn_7 (lv_at hl 4 rfl) ?_
      refine lv_iload_n hx hb dX0_turn_9 rfl (lv_at hl 3 rfl) ?_
      refine lv_icmp_ge (tgt := 50) hx hb dX0_turn_10 (by decide) (fun c_10 => ?_) (fun c_10 => ?_)
      · have hc := ol_le (by omega) (by omega) c_10
        have erv : ol_rv L s0 e0 i = ol_rev L s0 e0 := ol_rv_e L (by omega) (by omega)
        exact W.vret hx hb hr (fun t ht hW => ⟨⟨(nI N, f1, g1), rfl, ⟨rfl, erv ▸ hf1, erv ▸ hg1⟩, by rw [ht]; exact hP, hD⟩, hS.F ht⟩) hS.2.2 dX0_turn_50
      · have hc := ol_nle (by omega) (by omega) c_10
        obtain ⟨hf2, hg2⟩ := ol_sw_rep ok1 hf1 hg1 (a := s0 + i) (b := e0 - 1 - i) (by omega) (by omega) (by omega)
        rw [ol_rv_s L (by omega)] at hf2 hg2
        have ok2 := ol_ok_sw ok1 (a := s0 + i) (b := e0 - 1 - i) (by omega) (by omega) (by omega) (by omega)
        rw [ol_rv_s L (by omega)] at ok2
        refine lv_aload_n hx hb dX0_turn_13 rfl (lv_at hl 0 rfl) ?_
        refine va_get (D := (dC, dI)) (ci := 0) (v := .ref a) (C := RX0) (T := TX0) (N := 3) hx hb hts (by decide +kernel) hown hK hP 0 rfl rfl 0 (by decide) (hts (.fieldLink RX0 9 "OrderLine" "line" "[I") (by decide +kernel)) (fun _ h9 => h9) rfl dX0_turn_14 ?_
        refine lv_iload hx hb dX0_turn_17 (lv_at hl 4 rfl) ?_
        refine ow_iald (k := s0 + i) (v := nI ((ol_rv L s0 e0 i) (s0 + i))) hx hb hK hP 1 0 rfl rfl (by omega) (by decide) (hf1 (s0 + i) (by omega)) dX0_turn_19 ?_
        refine lv_istore (lv' := [(5, .int (nI ((ol_rv L s0 e0 i) (s0 + i)))), (0, .ref h), (1, .int (nI s0)), (2, .int (nI e0)), (3, .int (nI (e0 - 1 - i))), (4, .int (nI (s0 + i)))]) hx hb dX0_turn_20 hl (by decide) rfl (fun ls hl => ?_)
        refine lv_aload_n hx hb dX0_turn_22 rfl (lv_at hl 1 rfl) ?_
        refine lv_aload_n hx hb dX0_turn_23 rfl (lv_at hl 1 rfl) ?_
        refine va_get (D := (dC, dI)) (ci := 0) (v := .ref a) (C := RX0) (T := TX0) (N := 3) hx hb hts (by decide +kernel) hown hK hP 0 rfl rfl 0 (by decide) (hts (.fieldLink RX0 9 "OrderLine" "line" "[I") (by decide +kernel)) (fun _ h9 => h9) rfl dX0_turn_24 ?_
        refine lv_iload_n hx hb dX0_turn_27 rfl (lv_at hl 4 rfl) ?_
        refine ow_iald (k := e0 - 1 - i) (v := nI ((ol_rv L s0 e0 i) (e0 - 1 - i))) hx hb hK hP 1 0 rfl rfl (by omega) (by decide) (hf1 (e0 - 1 - i) (by omega)) dX0_turn_28 ?_
        refine lv_iload hx hb dX0_turn_29 (lv_at hl 5 rfl) ?_
        refine ow_callv (wr := []) (va_runV (As := [.int (nI ((ol_rv L s0 e0 i) (e0 - 1 - i))), .int (nI (s0 + i))]) (rest := []) ⟨hx, hb, hml, hown, hts⟩ (c_X_put l dC dI h a b cA cB (nI N) f1 g1 ((ol_rv L s0 e0 i) (e0 - 1 - i)) (s0 + i) _ (ok1.2.2.2.1 _ (by omega)) (by omega)) (cwV 2 hts gX0_turn_X0_put rfl rfl rfl (by decide +kernel) ⟨Nat.le_of_ble_eq_true rfl, Nat.le_of_ble_eq_true rfl⟩) (ow_PreV hK hP hD (ci := 0) (q0 := 0) rfl rfl) rfl rfl hl.1 rfl (lv_room (Nat.le_of_ble_eq_true rfl)) dX0_turn_31 ⟨Nat.le_of_ble_eq_true rfl, Nat.le_of_ble_eq_true rfl⟩) hP hD hS hA [0, 1, 2] [] rfl rfl (by decide) (by decide) (fun u H locs hw hP hD hS => ?_)
        subst hw
        have hP : va_P (dC, dI) vwCl [(h, .inr (0, [.ref a, .ref b, .int (nI N)])), (a, .inl (cA, 1000, .inl (upd f1 (s0 + i) (nI ((ol_rv L s0 e0 i) (e0 - 1 - i)))))), (b, .inl (cB, 1000, .inl (upd g1 ((ol_rv L s0 e0 i) (e0 - 1 - i)) (nI (s0 + i)))))] H := hP
        have hD : va_D A [(h, .inr (0, [.ref a, .ref b, .int (nI N)])), (a, .inl (cA, 1000, .inl (upd f1 (s0 + i) (nI ((ol_rv L s0 e0 i) (e0 - 1 - i)))))), (b, .inl (cB, 1000, .inl (upd g1 ((ol_rv L s0 e0 i) (e0 - 1 - i)) (nI (s0 + i)))))] := hD
        refine lv_aload_n hx hb dX0_turn_34 rfl (lv_at hl 1 rfl) ?_
        refine lv_iload hx hb dX0_turn_35 (lv_at hl 0 rfl) ?_
        refine lv_iload_n hx hb dX0_turn_37 rfl (lv_at hl 4 rfl) ?_
        refine ow_callv (wr := []) (va_runV (As := [.int (nI ((ol_rv L s0 e0 i) (s0 + i))), .int (nI (e0 - 1 - i))]) (rest := []) ⟨hx, hb, hml, hown, hts⟩ (c_X_put l dC dI h a b cA cB (nI N) (upd f1 (s0 + i) (nI ((ol_rv L s0 e0 i) (e0 - 1 - i)))) (upd g1 ((ol_rv L s0 e0 i) (e0 - 1 - i)) (nI (s0 + i))) ((ol_rv L s0 e0 i) (s0 + i)) (e0 - 1 - i) _ (ok1.2.2.2.1 _ (by omega)) (by omega)) (cwV 2 hts gX0_turn_X0_put rfl rfl rfl (by decide +kernel) ⟨Nat.le_of_ble_eq_true rfl, Nat.le_of_ble_eq_true rfl⟩) (ow_PreV hK hP hD (ci := 0) (q0 := 0) rfl rfl) rfl rfl hl.1 rfl (lv_room (Nat.le_of_ble_eq_true rfl)) dX0_turn_38 ⟨Nat.le_of_ble_eq_true rfl, Nat.le_of_ble_eq_true rfl⟩) hP hD hS hA [0, 1, 2] [] rfl rfl (by decide) (by decide) (fun u H locs hw hP hD hS => ?_)
        subst hw
        have hP : va_P (dC, dI) vwCl [(h, .inr (0, [.ref a, .ref b, .int (nI N)])), (a, .inl (cA, 1000, .inl (upd (upd f1 (s0 + i) (nI ((ol_rv L s0 e0 i) (e0 - 1 - i)))) (e0 - 1 - i) (nI ((ol_rv L s0 e0 i) (s0 + i)))))), (b, .inl (cB, 1000, .inl (upd (upd g1 ((ol_rv L s0 e0 i) (e0 - 1 - i)) (nI (s0 + i))) ((ol_rv L s0 e0 i) (s0 + i)) (nI (e0 - 1 - i)))))] H := hP
        have hD : va_D A [(h, .inr (0, [.ref a, .ref b, .int (nI N)])), (a, .inl (cA, 1000, .inl (upd (upd f1 (s0 + i) (nI ((ol_rv L s0 e0 i) (e0 - 1 - i)))) (e0 - 1 - i) (nI ((ol_rv L s0 e0 i) (s0 + i)))))), (b, .inl (cB, 1000, .inl (upd (upd g1 ((ol_rv L s0 e0 i) (e0 - 1 - i)) (nI (s0 + i))) ((ol_rv L s0 e0 i) (s0 + i)) (nI (e0 - 1 - i)))))] := hD
        refine lv_iinc (v := nI (e0 - 1 - (i + 1))) (lv' := [(3, .int (nI (e0 - 1 - (i + 1)))), (5, .int (nI ((ol_rv L s0 e0 i) (s0 + i)))), (0, .ref h), (1, .int (nI s0)), (2, .int (nI e0)), (4, .int (nI (s0 + i)))]) hx hb dX0_turn_41 hl (k := 4) rfl (by rw [show e0 - 1 - (i + 1) = e0 - 1 - i - 1 by omega]; exact sb_m1 (by omega)) (by decide) rfl (fun ls hl => ?_)
        refine lv_iinc (v := nI (s0 + (i + 1))) (lv' := [(4, .int (nI (s0 + (i + 1)))), (3, .int (nI (e0 - 1 - (i + 1)))), (5, .int (nI ((ol_rv L s0 e0 i) (s0 + i)))), (0, .ref h), (1, .int (nI s0)), (2, .int (nI e0))]) hx hb dX0_turn_44 hl (k := 5) rfl (nI_1 (s0 + i)) (by decide) rfl (fun ls hl => ?_)
        refine lv_goto (tgt := 7) hx hb dX0_turn_47 (by decide) ?_
        exact ih (i + 1) _ _ (by omega) (by omega) ok2 hf2 hg2 H locs hP hD hS ls (lv_sub hl [3, 4, 5, 1, 0] rfl)
  exact loop (e0 + 1) 0 f g (by omega) (by omega) (by rw [ol_rv_0]; exact ok) (by rw [ol_rv_0]; exact hf) (by rw [ol_rv_0]; exact hg) _ _ hP hD hS ls (lv_sub hl [2, 3, 4, 1, 0] rfl)
set_option maxHeartbeats 4000000 in
set_option maxRecDepth 100000 in
/-- swapBlocks(s0, m0, e0): two runs change sides -/
theorem c_X_swapBlocks (l : Launch) (dC : Nat → ClassId) (dI : Nat → Nat → Nat) (h a b : Nat) (cA cB : ClassId) (N : Nat) (L : Nat → Nat) (f g : Nat → Int32) (s0 m0 e0 sz : Nat) (ok : ol_ok N L) (hf : ol_f N L f) (hg : ol_g N L g) (h1s : 1 ≤ s0) (hsm : s0 ≤ m0) (hme : m0 ≤ e0) (he : e0 ≤ N) : Met l yX0_swapBlocks wsX0_swapBlocks ({ frames := 2, cells := 0, slots := 0, locals := 47 }) (ow_Pc (dC, dI) vwCl [(cA, .int), (cB, .int)] (wX h a b cA cB (nI N, f, g)) sz [.ref h, .int (nI s0), .int (nI m0), .int (nI e0)]) (va_Qv (fun u : Int32 × (Nat → Int32) × (Nat → Int32) => u.1 = nI N ∧ ol_f N (ol_swp L s0 m0 e0) u.2.1 ∧ ol_g N (ol_swp L s0 m0 e0) u.2.2) (ow_B (dC, dI) vwCl (wX h a b cA cB) (va_A (wX h a b cA cB (nI N, f, g)) sz)) (va_A (wX h a b cA cB (nI N, f, g)) sz)) 0 0 (va_A (wX h a b cA cB (nI N, f, g)) sz) := by
  refine Met.ofW (cc := cX0_swapBlocks) (maxL := 4) (ret := none) (by decide) rfl ?_
  intro pg ev s m args below meth cd s₁ B hml hv
  obtain ⟨rfl, hsz, hP, hK, hD0⟩ := hv
  have hx := B.exec
  have hb := B.bytes
  have hr := B.returns
  have hts := atoms_spec (ws := wsX0_swapBlocks) B.pre
  have hown : s.vm.findClass RX0 = some m.cls := findClass_of_methodNamed B.named
  have hlocks := B.notSynchronized
  subst hsz
  have hD := hD0.self (sz := s.heap.size)
  generalize hAe : va_A (wX h a b cA cB (nI N, f, g)) s.heap.size = A at hD ⊢
  have hA : ∀ q : Nat, s.heap.size ≤ q → A q := fun q h => by rw [← hAe]; exact Or.inr h
  have hS : va_S A s.heap s.heap [] := va_S.rf
  have hD : va_D A [(h, .inr (0, [.ref a, .ref b, .int (nI N)])), (a, .inl (cA, 1000, .inl f)), (b, .inl (cB, 1000, .inl g))] := hD
  have hP : va_P (dC, dI) vwCl [(h, .inr (0, [.ref a, .ref b, .int (nI N)])), (a, .inl (cA, 1000, .inl f)), (b, .inl (cB, 1000, .inl g))] s.heap := hP
  have hl := lv_entry ([.ref h, .int (nI s0), .int (nI m0), .int (nI e0)]) (n := 4) (Nat.le_of_ble_eq_true rfl)
  rw [lg_entry_eq]
  generalize (lg_sl ([.ref h, .int (nI s0), .int (nI m0), .int (nI e0)]) ++ List.replicate (4 - (lg_sl ([.ref h, .int (nI s0), .int (nI m0), .int (nI e0)])).length) Slot.unset).toArray = ls at hl ⊢
  have hl : lv_has ls 4 [(0, .ref h), (1, .int (nI s0)), (2, .int (nI m0)), (3, .int (nI e0))] := hl
  have ok1 : ol_ok N (ol_rev L s0 m0) := ol_ok_rev ok h1s (by omega)
  have ok2 : ol_ok N (ol_rev (ol_rev L s0 m0) m0 e0) := ol_ok_rev ok1 (by omega) he
  refine lv_aload_n hx hb dX0_swapBlocks_0 rfl (lv_at hl 0 rfl) ?_
  refine lv_iload_n hx hb dX0_swapBlocks_1 rfl (lv_at hl 1 rfl) ?_
  refine lv_iload_n hx hb dX0_swapBlocks_2 rfl (lv_at hl 2 rfl) ?_
  refine ow_callv (wr := []) (va_runV (As := [.int (nI s0), .int (nI m0)]) (rest := []) ⟨hx, hb, hml, hown, hts⟩ (c_X_turn l dC dI h a b cA cB N L f g s0 m0 _ ok hf hg h1s hsm (by omega)) (cwV 2 hts gX0_swapBlocks_X0_turn rfl rfl rfl (by decide +kernel) ⟨Nat.le_of_ble_eq_true rfl, Nat.le_of_ble_eq_true rfl⟩) (ow_PreV hK hP hD (ci := 0) (q0 := 0) rfl rfl) rfl rfl hl.1 rfl (lv_room (Nat.le_of_ble_eq_true rfl)) dX0_swapBlocks_3 ⟨Nat.le_of_ble_eq_true rfl, Nat.le_of_ble_eq_true rfl⟩) hP hD hS hA [0, 1, 2] [] rfl rfl (by decide) (by decide) (fun u H locs hw hP hD hS => ?_)
  obtain ⟨a1, f1, g1⟩ := u
  obtain ⟨e1, hf1, hg1⟩ := hw
  obtain rfl : nI N = a1 := e1.symm
  have hP : va_P (dC, dI) vwCl [(h, .inr (0, [.ref a, .ref b, .int (nI N)])), (a, .inl (cA, 1000, .inl f1)), (b, .inl (cB, 1000, .inl g1))] H := hP
  have hD : va_D A [(h, .inr (0, [.ref a, .ref b, .int (nI N)])), (a, .inl (cA, 1000, .inl f1)), (b, .inl (cB, 1000, .inl g1))] := hD
  refine lv_aload_n hx hb dX0_swapBlocks_6 rfl (lv_at hl 0 rfl) ?_
  refine lv_iload_n hx hb dX0_swapBlocks_7 rfl (lv_at hl 2 rfl) ?_
  refine lv_iload_n hx hb dX0_swapBlocks_8 rfl (lv_at hl 3 rfl) ?_
  refine ow_callv (wr := []) (va_runV (As := [.int (nI m0), .int (nI e0)]) (rest := []) ⟨hx, hb, hml, hown, hts⟩ (c_X_turn l dC dI h a b cA cB N (ol_rev L s0 m0) f1 g1 m0 e0 _ ok1 hf1 hg1 (by omega) hme he) (cwV 2 hts gX0_swapBlocks_X0_turn rfl rfl rfl (by decide +kernel) ⟨Nat.le_of_ble_eq_true rfl, Nat.le_of_ble_eq_true rfl⟩) (ow_PreV hK hP hD (ci := 0) (q0 := 0) rfl rfl) rfl rfl hl.1 rfl (lv_room (Nat.le_of_ble_eq_true rfl)) dX0_swapBlocks_9 ⟨Nat.le_of_ble_eq_true rfl, Nat.le_of_ble_eq_true rfl⟩) hP hD hS hA [0, 1, 2] [] rfl rfl (by decide) (by decide) (fun u H locs hw hP hD hS => ?_)
  obtain ⟨a2, f2, g2⟩ := u
  obtain ⟨e1, hf2, hg2⟩ := hw
  obtain rfl : nI N = a2 := e1.symm
  have hP : va_P (dC, dI) vwCl [(h, .inr (0, [.ref a, .ref b, .int (nI N)])), (a, .inl (cA, 1000, .inl f2)), (b, .inl (cB, 1000, .inl g2))] H := hP
  have hD : va_D A [(h, .inr (0, [.ref a, .ref b, .int (nI N)])), (a, .inl (cA, 1000, .inl f2)), (b, .inl (cB, 1000, .inl g2))] := hD
  refine lv_aload_n hx hb dX0_swapBlocks_12 rfl (lv_at hl 0 rfl) ?_
  refine lv_iload_n hx hb dX0_swapBlocks_13 rfl (lv_at hl 1 rfl) ?_
  refine lv_iload_n hx hb dX0_swapBlocks_14 rfl (lv_at hl 3 rfl) ?_
  refine ow_callv (wr := []) (va_runV (As := [.int (nI s0), .int (nI e0)]) (rest := []) ⟨hx, hb, hml, hown, hts⟩ (c_X_turn l dC dI h a b cA cB N (ol_rev (ol_rev L s0 m0) m0 e0) f2 g2 s0 e0 _ ok2 hf2 hg2 h1s (by omega) he) (cwV 2 hts gX0_swapBlocks_X0_turn rfl rfl rfl (by decide +kernel) ⟨Nat.le_of_ble_eq_true rfl, Nat.le_of_ble_eq_true rfl⟩) (ow_PreV hK hP hD (ci := 0) (q0 := 0) rfl rfl) rfl rfl hl.1 rfl (lv_room (Nat.le_of_ble_eq_true rfl)) dX0_swapBlocks_15 ⟨Nat.le_of_ble_eq_true rfl, Nat.le_of_ble_eq_true rfl⟩) hP hD hS hA [0, 1, 2] [] rfl rfl (by decide) (by decide) (fun u H locs hw hP hD hS => ?_)
  obtain ⟨a3, f3, g3⟩ := u
  obtain ⟨e1, hf3, hg3⟩ := hw
  obtain rfl : nI N = a3 := e1.symm
  have hP : va_P (dC, dI) vwCl [(h, .inr (0, [.ref a, .ref b, .int (nI N)])), (a, .inl (cA, 1000, .inl f3)), (b, .inl (cB, 1000, .inl g3))] H := hP
  have hD : va_D A [(h, .inr (0, [.ref a, .ref b, .int (nI N)])), (a, .inl (cA, 1000, .inl f3)), (b, .inl (cB, 1000, .inl g3))] := hD
  exact W.vret hx hb hr (fun t ht hW => ⟨⟨(nI N, f3, g3), rfl, ⟨rfl, ol_rev3 L hsm hme ▸ hf3, ol_rev3 L hsm hme ▸ hg3⟩, by rw [ht]; exact hP, hD⟩, hS.F ht⟩) hS.2.2 dX0_swapBlocks_18
set_option maxHeartbeats 4000000 in
set_option maxRecDepth 100000 in
/-- wipe(): all but the first go -/
theorem c_X_wipe (l : Launch) (dC : Nat → ClassId) (dI : Nat → Nat → Nat) (h a b : Nat) (cA cB : ClassId) (N : Nat) (L : Nat → Nat) (f g : Nat → Int32) (sz : Nat) (ok : ol_ok N L) (hf : ol_f N L f) (hg : ol_g N L g) : Met l yX0_wipe wsX0_wipe ({ frames := 2, cells := 0, slots := 0, locals := 46 }) (ow_Pc (dC, dI) vwCl [(cA, .int), (cB, .int)] (wX h a b cA cB (nI N, f, g)) sz [.ref h]) (va_Qv (fun u : Int32 × (Nat → Int32) × (Nat → Int32) => u.1 = nI 1 ∧ ol_f 1 L u.2.1 ∧ ol_g 1 L u.2.2) (ow_B (dC, dI) vwCl (wX h a b cA cB) (va_A (wX h a b cA cB (nI N, f, g)) sz)) (va_A (wX h a b cA cB (nI N, f, g)) sz)) 0 0 (va_A (wX h a b cA cB (nI N, f, g)) sz) := by
  refine Met.ofW (cc := cX0_wipe) (maxL := 1) (ret := none) (by decide) rfl ?_
  intro pg ev s m args below meth cd s₁ B hml hv
  obtain ⟨rfl, hsz, hP, hK, hD0⟩ := hv
  have hx := B.exec
  have hb := B.bytes
  have hr := B.returns
  have hts := atoms_spec (ws := wsX0_wipe) B.pre
  have hown : s.vm.findClass RX0 = some m.cls := findClass_of_methodNamed B.named
  have hlocks := B.notSynchronized
  subst hsz
  have hD := hD0.self (sz := s.heap.size)
  generalize hAe : va_A (wX h a b cA cB (nI N, f, g)) s.heap.size = A at hD ⊢
  have hA : ∀ q : Nat, s.heap.size ≤ q → A q := fun q h => by rw [← hAe]; exact Or.inr h
  have hS : va_S A s.heap s.heap [] := va_S.rf
  have hD : va_D A [(h, .inr (0, [.ref a, .ref b, .int (nI N)])), (a, .inl (cA, 1000, .inl f)), (b, .inl (cB, 1000, .inl g))] := hD
  have hP : va_P (dC, dI) vwCl [(h, .inr (0, [.ref a, .ref b, .int (nI N)])), (a, .inl (cA, 1000, .inl f)), (b, .inl (cB, 1000, .inl g))] s.heap := hP
  have hl := lv_entry ([.ref h]) (n := 1) (Nat.le_of_ble_eq_true rfl)
  rw [lg_entry_eq]
  generalize (lg_sl ([.ref h]) ++ List.replicate (1 - (lg_sl ([.ref h])).length) Slot.unset).toArray = ls at hl ⊢
  have hl : lv_has ls 1 [(0, .ref h)] := hl
  have h1N := ok.1
  have eN : N = 1 + (N - 1) := by omega
  refine lv_aload_n hx hb dX0_wipe_0 rfl (lv_at hl 0 rfl) ?_
  refine lv_iconst (v := nI 1) hx hb dX0_wipe_1 (by decide +kernel) ?_
  refine lv_aload_n hx hb dX0_wipe_2 rfl (lv_at hl 0 rfl) ?_
  refine va_get (D := (dC, dI)) (ci := 0) (v := .int (nI N)) (C := RX0) (T := TX0) (N := 3) hx hb hts (by decide +kernel) hown hK hP 0 rfl rfl 2 (by decide) (hts (.fieldLink RX0 16 "OrderLine" "count" "I") (by decide +kernel)) (fun _ h9 => h9) rfl dX0_wipe_3 ?_
  refine ow_top (z := nI (1 + (N - 1))) (by rw [← eN]) ?_
  refine ow_callv (wr := []) (va_runV (As := [.int (nI 1), .int (nI (1 + (N - 1)))]) (rest := []) ⟨hx, hb, hml, hown, hts⟩ (c_X_takeOut l dC dI h a b cA cB N L f g 1 (N - 1) _ ok hf hg (by omega) (by omega)) (cwV 2 hts gX0_wipe_X0_takeOut rfl rfl rfl (by decide +kernel) ⟨Nat.le_of_ble_eq_true rfl, Nat.le_of_ble_eq_true rfl⟩) (ow_PreV hK hP hD (ci := 0) (q0 := 0) rfl rfl) rfl rfl hl.1 rfl (lv_room (Nat.le_of_ble_eq_true rfl)) dX0_wipe_6 ⟨Nat.le_of_ble_eq_true rfl, Nat.le_of_ble_eq_true rfl⟩) hP hD hS hA [0, 1, 2] [] rfl rfl (by decide) (by decide) (fun u H locs hw hP hD hS => ?_)
  obtain ⟨a1, f1, g1⟩ := u
  obtain ⟨e1, hf1, hg1⟩ := hw
  obtain rfl : nI (N - (N - 1)) = a1 := e1.symm
  have hP : va_P (dC, dI) vwCl [(h, .inr (0, [.ref a, .ref b, .int (nI (N - (N - 1)))])), (a, .inl (cA, 1000, .inl f1)), (b, .inl (cB, 1000, .inl g1))] H := hP
  have hD : va_D A [(h, .inr (0, [.ref a, .ref b, .int (nI (N - (N - 1)))])), (a, .inl (cA, 1000, .inl f1)), (b, .inl (cB, 1000, .inl g1))] := hD
  have e9 : N - (N - 1) = 1 := by omega
  rw [e9] at hf1 hg1
  have hf9 : ol_f 1 L f1 := fun p hp => (hf1 p hp).trans (by rw [ol_rem_lo hp])
  have hg9 : ol_g 1 L g1 := ⟨fun p hp => by have h9 := hg1.1 p hp; rwa [ol_rem_lo hp] at h9, fun v hv hn => hg1.2 v hv (fun p hp => by rw [ol_rem_lo hp]; exact hn p hp)⟩
  exact W.vret hx hb hr (fun t ht hW => ⟨⟨(nI (N - (N - 1)), f1, g1), rfl, ⟨by rw [e9], hf9, hg9⟩, by rw [ht]; exact hP, hD⟩, hS.F ht⟩) hS.2.2 dX0_wipe_9
set_option maxHeartbeats 4000000 in
set_option maxRecDepth 100000 in
/-- look(x) -/
theorem c_X_look (l : Launch) (dC : Nat → ClassId) (dI : Nat → Nat → Nat) (h a b : Nat) (cA cB : ClassId) (N : Nat) (L : Nat → Nat) (f g : Nat → Int32) (x : Int32) (ok : ol_ok N L) (hf : ol_f N L f) (hg : ol_g N L g) : Met l yX0_look wsX0_look ({ frames := 1, cells := 0, slots := 0, locals := 21 }) (ow_Rc (dC, dI) vwCl [(cA, .int), (cB, .int)] (wX h a b cA cB (nI N, f, g)) [.ref h, .int x]) (QcRead (ol_lk N L x)) 0 0 (fun _ => False) := by
  refine Met.ofW (cc := cX0_look) (maxL := 2) (ret := (some .int)) (by decide) rfl ?_
  intro pg ev s m args below meth cd s₁ B hml hv
  obtain ⟨rfl, hP, hK⟩ := hv
  have hx := B.exec
  have hb := B.bytes
  have hr := B.returns
  have hts := atoms_spec (ws := wsX0_look) B.pre
  have hown : s.vm.findClass RX0 = some m.cls := findClass_of_methodNamed B.named
  have hlocks := B.notSynchronized
  have hP : va_P (dC, dI) vwCl [(h, .inr (0, [.ref a, .ref b, .int (nI N)])), (a, .inl (cA, 1000, .inl f)), (b, .inl (cB, 1000, .inl g))] s.heap := hP
  have hl := lv_entry ([.ref h, .int x]) (n := 2) (Nat.le_of_ble_eq_true rfl)
  rw [lg_entry_eq]
  generalize (lg_sl ([.ref h, .int x]) ++ List.replicate (2 - (lg_sl ([.ref h, .int x])).length) Slot.unset).toArray = ls at hl ⊢
  have hl : lv_has ls 2 [(0, .ref h), (1, .int x)] := hl
  have h1N := ok.1
  have hN := ok.2.1
  refine lv_iload_n hx hb dX0_look_0 rfl (lv_at hl 1 rfl) ?_
  by_cases hx0 : x = 0
  · refine lv_tableIn (off := 27) (tgt := 28) hx hb dX0_look_1 (by rw [hx0]; decide) (by rw [hx0]; decide) (by rw [hx0]; rfl) (by decide) ?_
    have hr0 : ol_lk N L x = nI N := by unfold ol_lk; rw [if_pos hx0]
    refine lv_aload_n hx hb dX0_look_28 rfl (lv_at hl 0 rfl) ?_
    refine va_get (D := (dC, dI)) (ci := 0) (v := .int (nI N)) (C := RX0) (T := TX0) (N := 3) hx hb hts (by decide +kernel) hown hK hP 0 rfl rfl 2 (by decide) (hts (.fieldLink RX0 16 "OrderLine" "count" "I") (by decide +kernel)) (fun _ h9 => h9) rfl dX0_look_29 ?_
    exact W.iret (v := (nI N)) hx hb hr (fun t ht hW => ⟨by rw [hr0], ht⟩) (fun q h => by cases h) dX0_look_32
  · by_cases hx1 : x = 1
    · refine lv_tableIn (off := 32) (tgt := 33) hx hb dX0_look_1 (by rw [hx1]; decide) (by rw [hx1]; decide) (by rw [hx1]; rfl) (by decide) ?_
      have hr0 : ol_lk N L x = nI (L (N - 1)) := by unfold ol_lk; rw [if_neg hx0, if_pos hx1]
      refine lv_aload_n hx hb dX0_look_33 rfl (lv_at hl 0 rfl) ?_
      refine lv_aload_n hx hb dX0_look_34 rfl (lv_at hl 0 rfl) ?_
      refine va_get (D := (dC, dI)) (ci := 0) (v := .int (nI N)) (C := RX0) (T := TX0) (N := 3) hx hb hts (by decide +kernel) hown hK hP 0 rfl rfl 2 (by decide) (hts (.fieldLink RX0 16 "OrderLine" "count" "I") (by decide +kernel)) (fun _ h9 => h9) rfl dX0_look_35 ?_
      refine lv_iconst (v := 1) hx hb dX0_look_38 (by decide +kernel) ?_
      refine lv_isub hx hb dX0_look_39 ?_
      refine ow_top (z := nI (N - 1)) (nI_m1 h1N) ?_
      refine ow_callR (r := nI (L (N - 1))) (W.runV (As := [.int (nI (N - 1))]) (rest := []) ⟨hx, hb, hml, hown, hts⟩ (c_X_at l dC dI h a b cA cB N L f g (nI (N - 1)) (nI (L (N - 1))) ok hf (ol_ps_at hN (by omega))) (cwV 1 hts gX0_look_X0_at rfl rfl rfl (by decide +kernel) ⟨Nat.le_of_ble_eq_true rfl, Nat.le_of_ble_eq_true rfl⟩) (ow_PreR hK hP (ci := 0) (q0 := 0) rfl rfl) rfl rfl hl.1 rfl (lv_room (Nat.le_of_ble_eq_true rfl)) dX0_look_40 ⟨Nat.le_of_ble_eq_true rfl, Nat.le_of_ble_eq_true rfl⟩) ?_
      exact W.iret (v := (nI (L (N - 1)))) hx hb hr (fun t ht hW => ⟨by rw [hr0], ht⟩) (fun q h => by cases h) dX0_look_43
    · by_cases hx2 : x = 2
      · refine lv_tableIn (off := 43) (tgt := 44) hx hb dX0_look_1 (by rw [hx2]; decide) (by rw [hx2]; decide) (by rw [hx2]; rfl) (by decide) ?_
        have hr0 : ol_lk N L x = ol_fi N L := by unfold ol_lk; rw [if_neg hx0, if_neg hx1, if_pos hx2]
        refine lv_aload_n hx hb dX0_look_44 rfl (lv_at hl 0 rfl) ?_
        refine ow_callR (r := ol_fi N L) (W.runV (As := []) (rest := []) ⟨hx, hb, hml, hown, hts⟩ (c_X_leastFree l dC dI h a b cA cB N L f g ok hg) (cwV 0 hts gX0_look_X0_leastFree rfl rfl rfl (by decide +kernel) ⟨Nat.le_of_ble_eq_true rfl, Nat.le_of_ble_eq_true rfl⟩) (ow_PreR hK hP (ci := 0) (q0 := 0) rfl rfl) rfl rfl hl.1 rfl (lv_room (Nat.le_of_ble_eq_true rfl)) dX0_look_45 ⟨Nat.le_of_ble_eq_true rfl, Nat.le_of_ble_eq_true rfl⟩) ?_
        exact W.iret (v := (ol_fi N L)) hx hb hr (fun t ht hW => ⟨by rw [hr0], ht⟩) (fun q h => by cases h) dX0_look_48
      · refine lv_tableOut (tgt := 49) hx hb dX0_look_1 (ol_sw3 hx0 hx1 hx2) (by decide) ?_
        have hr0 : ol_lk N L x = -1 := by unfold ol_lk; rw [if_neg hx0, if_neg hx1, if_neg hx2]
        refine lv_iconst (v := (-1)) hx hb dX0_look_49 (by decide +kernel) ?_
        exact W.iret (v := ((-1))) hx hb hr (fun t ht hW => ⟨by rw [hr0], ht⟩) (fun q h => by cases h) dX0_look_50
set_option maxHeartbeats 4000000 in
set_option maxRecDepth 100000 in
/-- remove(x) -/
theorem c_X_remove (l : Launch) (dC : Nat → ClassId) (dI : Nat → Nat → Nat) (h a b : Nat) (cA cB : ClassId) (N : Nat) (L : Nat → Nat) (f g : Nat → Int32) (x r : Int32) (N' : Nat) (L' : Nat → Nat) (sz : Nat) (ok : ol_ok N L) (hf : ol_f N L f) (hg : ol_g N L g) (hsp : sp_rm N L x r N' L') : Met l yX0_remove wsX0_remove ({ frames := 2, cells := 0, slots := 0, locals := 46 }) (ow_Pc (dC, dI) vwCl [(cA, .int), (cB, .int)] (wX h a b cA cB (nI N, f, g)) sz [.ref h, .int x]) (va_Qi (fun (r' : Int32) (u : Int32 × (Nat → Int32) × (Nat → Int32)) => r' = r ∧ u.1 = nI N' ∧ ol_f N' L' u.2.1 ∧ ol_g N' L' u.2.2) (ow_B (dC, dI) vwCl (wX h a b cA cB) (va_A (wX h a b cA cB (nI N, f, g)) sz)) (va_A (wX h a b cA cB (nI N, f, g)) sz)) 0 0 (va_A (wX h a b cA cB (nI N, f, g)) sz) := by
  refine Met.ofW (cc := cX0_remove) (maxL := 3) (ret := (some .boolean)) (by decide) rfl ?_
  intro pg ev s m args below meth cd s₁ B hml hv
  obtain ⟨rfl, hsz, hP, hK, hD0⟩ := hv
  have hx := B.exec
  have hb := B.bytes
  have hr := B.returns
  have hts := atoms_spec (ws := wsX0_remove) B.pre
  have hown : s.vm.findClass RX0 = some m.cls := findClass_of_methodNamed B.named
  have hlocks := B.notSynchronized
  subst hsz
  have hD := hD0.self (sz := s.heap.size)
  generalize hAe : va_A (wX h a b cA cB (nI N, f, g)) s.heap.size = A at hD ⊢
  have hA : ∀ q : Nat, s.heap.size ≤ q → A q := fun q h => by rw [← hAe]; exact Or.inr h
  have hS : va_S A s.heap s.heap [] := va_S.rf
  have hD : va_D A [(h, .inr (0, [.ref a, .ref b, .int (nI N)])), (a, .inl (cA, 1000, .inl f)), (b, .inl (cB, 1000, .inl g))] := hD
  have hP : va_P (dC, dI) vwCl [(h, .inr (0, [.ref a, .ref b, .int (nI N)])), (a, .inl (cA, 1000, .inl f)), (b, .inl (cB, 1000, .inl g))] s.heap := hP
  have hl := lv_entry ([.ref h, .int x]) (n := 3) (Nat.le_of_ble_eq_true rfl)
  rw [lg_entry_eq]
  generalize (lg_sl ([.ref h, .int x]) ++ List.replicate (3 - (lg_sl ([.ref h, .int x])).length) Slot.unset).toArray = ls at hl ⊢
  have hl : lv_has ls 3 [(0, .ref h), (1, .int x)] := hl
  have hN := ok.2.1
  refine lv_iload_n hx hb dX0_remove_0 rfl (lv_at hl 1 rfl) ?_
  refine lv_if_eq (tgt := 12) hx hb dX0_remove_1 (by decide) (fun c_1 => ?_) (fun c_1 => ?_)
  · obtain ⟨hr0, hN0, hL0⟩ : r = 0 ∧ N' = N ∧ L' = L := by
      rcases hsp with ⟨q, hq, h1, _⟩ | ⟨_, h2⟩
      · have := ol_at_un ok hq (c_1 ▸ ol_at0 ok); omega
      · exact h2
    refine lv_iconst (v := 0) hx hb dX0_remove_12 (by decide +kernel) ?_
    exact W.zret (v := 0) hx hb hr narrow_b0 (fun t ht hW => ⟨⟨0, (nI N, f, g), rfl, ⟨hr0.symm, by rw [hN0], by rw [hN0, hL0]; exact hf, by rw [hN0, hL0]; exact hg⟩, by rw [ht]; exact hP, hD⟩, hS.F ht⟩) hS.2.2 dX0_remove_13
  · refine lv_aload_n hx hb dX0_remove_4 rfl (lv_at hl 0 rfl) ?_
    refine lv_iload_n hx hb dX0_remove_5 rfl (lv_at hl 1 rfl) ?_
    obtain ⟨r1, hh1, hc1⟩ := ol_hs_ex N L x
    refine ow_callR (r := r1) (W.runV (As := [.int x]) (rest := []) ⟨hx, hb, hml, hown, hts⟩ (c_X_has l dC dI h a b cA cB N L f g x r1 ok hg hh1) (cwV 1 hts gX0_remove_X0_has rfl rfl rfl (by decide +kernel) ⟨Nat.le_of_ble_eq_true rfl, Nat.le_of_ble_eq_true rfl⟩) (ow_PreR hK hP (ci := 0) (q0 := 0) rfl rfl) rfl rfl hl.1 rfl (lv_room (Nat.le_of_ble_eq_true rfl)) dX0_remove_6 ⟨Nat.le_of_ble_eq_true rfl, Nat.le_of_ble_eq_true rfl⟩) ?_
    refine lv_if_ne (tgt := 14) hx hb dX0_remove_9 (by decide) (fun c_9 => ?_) (fun c_9 => ?_)
    · obtain ⟨p, hp, hp1, hr0, hN0, hL0⟩ : ∃ p, ol_at N L x p ∧ 1 ≤ p ∧ r = 1 ∧ N' = N - 1 ∧ L' = ol_rem L p 1 := by
        rcases hsp with h1 | ⟨h1 | h1, _⟩
        · exact h1
        · exact absurd (hh1.2 h1) c_9
        · exact absurd (h1.2.trans (by rw [ok.2.2.1]; exact nI_0)) c_1
      have hpN := hp.1
      refine lv_aload_n hx hb dX0_remove_14 rfl (lv_at hl 0 rfl) ?_
      refine va_get (D := (dC, dI)) (ci := 0) (v := .ref b) (C := RX0) (T := TX0) (N := 3) hx hb hts (by decide +kernel) hown hK hP 0 rfl rfl 1 (by decide) (hts (.fieldLink RX0 13 "OrderLine" "places" "[I") (by decide +kernel)) (fun _ h9 => h9) rfl dX0_remove_15 ?_
      refine lv_iload_n hx hb dX0_remove_18 rfl (lv_at hl 1 rfl) ?_
      refine ow_top (z := nI (L p)) hp.2 ?_
      refine ow_iald (k := L p) (v := nI p) hx hb hK hP 2 1 rfl rfl (ok.2.2.2.1 p hp.1) (by decide) (hg.1 p hp.1) dX0_remove_19 ?_
      refine lv_istore_n (lv' := [(2, .int (nI p)), (0, .ref h), (1, .int x)]) hx hb dX0_remove_20 rfl hl (by decide) rfl (fun ls hl => ?_)
      refine lv_aload_n hx hb dX0_remove_21 rfl (lv_at hl 1 rfl) ?_
      refine lv_iload_n hx hb dX0_remove_22 rfl (lv_at hl 0 rfl) ?_
      refine lv_iload_n hx hb dX0_remove_23 rfl (lv_at hl 0 rfl) ?_
      refine lv_iconst (v := 1) hx hb dX0_remove_24 (by decide +kernel) ?_
      refine lv_iadd hx hb dX0_remove_25 ?_
      refine ow_top (z := nI (p + 1)) (nI_1 p) ?_
      refine ow_callv (wr := []) (va_runV (As := [.int (nI p), .int (nI (p + 1))]) (rest := []) ⟨hx, hb, hml, hown, hts⟩ (c_X_takeOut l dC dI h a b cA cB N L f g p 1 _ ok hf hg hp1 (by omega)) (cwV 2 hts gX0_remove_X0_takeOut rfl rfl rfl (by decide +kernel) ⟨Nat.le_of_ble_eq_true rfl, Nat.le_of_ble_eq_true rfl⟩) (ow_PreV hK hP hD (ci := 0) (q0 := 0) rfl rfl) rfl rfl hl.1 rfl (lv_room (Nat.le_of_ble_eq_true rfl)) dX0_remove_26 ⟨Nat.le_of_ble_eq_true rfl, Nat.le_of_ble_eq_true rfl⟩) hP hD hS hA [0, 1, 2] [] rfl rfl (by decide) (by decide) (fun u H locs hw hP hD hS => ?_)
      obtain ⟨a1, f1, g1⟩ := u
      obtain ⟨e1, hf1, hg1⟩ := hw
      obtain rfl : nI (N - 1) = a1 := e1.symm
      have hP : va_P (dC, dI) vwCl [(h, .inr (0, [.ref a, .ref b, .int (nI (N - 1))])), (a, .inl (cA, 1000, .inl f1)), (b, .inl (cB, 1000, .inl g1))] H := hP
      have hD : va_D A [(h, .inr (0, [.ref a, .ref b, .int (nI (N - 1))])), (a, .inl (cA, 1000, .inl f1)), (b, .inl (cB, 1000, .inl g1))] := hD
      refine lv_iconst (v := 1) hx hb dX0_remove_29 (by decide +kernel) ?_
      exact W.zret (v := 1) hx hb hr narrow_b1 (fun t ht hW => ⟨⟨1, (nI (N - 1), f1, g1), rfl, ⟨hr0.symm, by rw [hN0], by rw [hN0, hL0]; exact hf1, by rw [hN0, hL0]; exact hg1⟩, by rw [ht]; exact hP, hD⟩, hS.F ht⟩) hS.2.2 dX0_remove_30
    · obtain ⟨hr0, hN0, hL0⟩ : r = 0 ∧ N' = N ∧ L' = L := by
        rcases hsp with ⟨q, hq, h1, _⟩ | ⟨_, h2⟩
        · exact absurd ((hh1.1 ⟨q, hq⟩).symm.trans c_9) (by decide)
        · exact h2
      refine lv_iconst (v := 0) hx hb dX0_remove_12 (by decide +kernel) ?_
      exact W.zret (v := 0) hx hb hr narrow_b0 (fun t ht hW => ⟨⟨0, (nI N, f, g), rfl, ⟨hr0.symm, by rw [hN0], by rw [hN0, hL0]; exact hf, by rw [hN0, hL0]; exact hg⟩, by rw [ht]; exact hP, hD⟩, hS.F ht⟩) hS.2.2 dX0_remove_13
end
section
set_option maxHeartbeats 4000000 in
set_option maxRecDepth 100000 in
/-- demand(x): it is there, or a throw -/
theorem c_X_demand (l : Launch) (dC : Nat → ClassId) (dI : Nat → Nat → Nat) (hfl : l.flags = flags0) (h a b : Nat) (cA cB : ClassId) (N : Nat) (L : Nat → Nat) (f g : Nat → Int32) (x : Int32) (ok : ol_ok N L) (hg : ol_g N L g) : ow_Met l yX0_demand wsX0_demand ({ frames := 6, cells := 1, slots := 6, locals := 82 }) (ow_Rx (dC, dI) vwCl [(cA, .int), (cB, .int)] (wX h a b cA cB (nI N, f, g)) [.ref h, .int x]) (ow_Q "java/lang/IllegalArgumentException" (ol_no N L x) (fun _ st oc t => oc = .returned none ∧ t.heap = st.heap ∧ ∃ p, ol_at N L x p)) 1 6 (fun _ => False) := by
  refine ow_ofW (cc := cX0_demand) (maxL := 2) (ret := none) (by decide) rfl ?_
  intro pg ev s m args below meth cd s₁ B hml hv
  obtain ⟨rfl, hP, hK, hZ⟩ := hv
  have hx := B.exec
  have hb := B.bytes
  have hr := B.returns
  have hts := atoms_spec (ws := wsX0_demand) B.pre
  have hown : s.vm.findClass RX0 = some m.cls := findClass_of_methodNamed B.named
  have hlocks := B.notSynchronized
  have hemp := B.noHandlers (hts _ List.mem_cons_self)
  have hP : va_P (dC, dI) vwCl [(h, .inr (0, [.ref a, .ref b, .int (nI N)])), (a, .inl (cA, 1000, .inl f)), (b, .inl (cB, 1000, .inl g))] s.heap := hP
  have hl := lv_entry ([.ref h, .int x]) (n := 2) (Nat.le_of_ble_eq_true rfl)
  rw [lg_entry_eq]
  generalize (lg_sl ([.ref h, .int x]) ++ List.replicate (2 - (lg_sl ([.ref h, .int x])).length) Slot.unset).toArray = ls at hl ⊢
  have hl : lv_has ls 2 [(0, .ref h), (1, .int x)] := hl
  refine lv_aload_n hx hb dX0_demand_0 rfl (lv_at hl 0 rfl) ?_
  refine lv_iload_n hx hb dX0_demand_1 rfl (lv_at hl 1 rfl) ?_
  obtain ⟨r1, hh1, hc1⟩ := ol_hs_ex N L x
  refine ow_callR (r := r1) (W.runV (As := [.int x]) (rest := []) ⟨hx, hb, hml, hown, hts⟩ (c_X_has l dC dI h a b cA cB N L f g x r1 ok hg hh1) (cwV 1 hts gX0_demand_X0_has rfl rfl rfl (by decide +kernel) ⟨Nat.le_of_ble_eq_true rfl, Nat.le_of_ble_eq_true rfl⟩) (ow_PreR hK hP (ci := 0) (q0 := 0) rfl rfl) rfl rfl hl.1 rfl (lv_room (Nat.le_of_ble_eq_true rfl)) dX0_demand_2 ⟨Nat.le_of_ble_eq_true rfl, Nat.le_of_ble_eq_true rfl⟩) ?_
  refine lv_if_ne (tgt := 18) hx hb dX0_demand_5 (by decide) (fun c_5 => ?_) (fun c_5 => ?_)
  · have hat : ∃ p, ol_at N L x p := by
      rcases hc1 with ⟨_, h9⟩ | ⟨h9, _⟩
      · exact h9
      · exact absurd h9 c_5
    exact ow_ret (W.vret hx hb hr (fun t ht hW => Or.inl ⟨⟨_, rfl⟩, (fun h9 => hat.elim (fun p9 hp9 => ol_at_no hp9 h9)), rfl, ht, hat⟩) (fun q h => by cases h) dX0_demand_18)
  · have hno : ol_no N L x := by
      rcases hc1 with ⟨h9, _⟩ | ⟨_, h9⟩
      · exact absurd (h9.symm.trans c_5) (by decide)
      · exact h9
    exact ow_throw hx hb hfl hown (hts _ (List.mem_cons_of_mem _ (List.mem_append_left _ (List.mem_append_left _ (List.mem_of_getElem? (i := 0) rfl))))) (hts _ (List.mem_cons_of_mem _ (List.mem_append_left _ (List.mem_append_left _ (List.mem_of_getElem? (i := 1) rfl))))) (fun w9 h9 => hts w9 (List.mem_cons_of_mem _ (List.mem_append_right _ h9))) hZ (hl.1.trans hml.symm) dX0_demand_8 dX0_demand_11 dX0_demand_12 dX0_demand_14 dX0_demand_17 hemp hlocks (Nat.le_of_ble_eq_true rfl) (Nat.le_of_ble_eq_true rfl) (Nat.le_of_ble_eq_true rfl) (Nat.le_of_ble_eq_true rfl) hno
set_option maxHeartbeats 4000000 in
set_option maxRecDepth 100000 in
/-- place(x) -/
theorem c_X_place (l : Launch) (dC : Nat → ClassId) (dI : Nat → Nat → Nat) (hfl : l.flags = flags0) (h a b : Nat) (cA cB : ClassId) (N : Nat) (L : Nat → Nat) (f g : Nat → Int32) (x r : Int32) (ok : ol_ok N L) (hf : ol_f N L f) (hg : ol_g N L g) (hsp : ∀ p, ol_at N L x p → r = nI p) : ow_Met l yX0_place wsX0_place ({ frames := 7, cells := 1, slots := 6, locals := 103 }) (ow_Rx (dC, dI) vwCl [(cA, .int), (cB, .int)] (wX h a b cA cB (nI N, f, g)) [.ref h, .int x]) (ow_Q "java/lang/IllegalArgumentException" (ol_no N L x) (QcRead r)) 1 6 (fun _ => False) := by
  refine ow_ofW (cc := cX0_place) (maxL := 2) (ret := (some .int)) (by decide) rfl ?_
  intro pg ev s m args below meth cd s₁ B hml hv
  obtain ⟨rfl, hP, hK, hZ⟩ := hv
  have hx := B.exec
  have hb := B.bytes
  have hr := B.returns
  have hts := atoms_spec (ws := wsX0_place) B.pre
  have hown : s.vm.findClass RX0 = some m.cls := findClass_of_methodNamed B.named
  have hlocks := B.notSynchronized
  have hemp := B.noHandlers (hts _ List.mem_cons_self)
  have hP : va_P (dC, dI) vwCl [(h, .inr (0, [.ref a, .ref b, .int (nI N)])), (a, .inl (cA, 1000, .inl f)), (b, .inl (cB, 1000, .inl g))] s.heap := hP
  have hl := lv_entry ([.ref h, .int x]) (n := 2) (Nat.le_of_ble_eq_true rfl)
  rw [lg_entry_eq]
  generalize (lg_sl ([.ref h, .int x]) ++ List.replicate (2 - (lg_sl ([.ref h, .int x])).length) Slot.unset).toArray = ls at hl ⊢
  have hl : lv_has ls 2 [(0, .ref h), (1, .int x)] := hl
  refine lv_aload_n hx hb dX0_place_0 rfl (lv_at hl 0 rfl) ?_
  refine lv_iload_n hx hb dX0_place_1 rfl (lv_at hl 1 rfl) ?_
  refine ow_callD (okP := ∃ p, ol_at N L x p) (ow_runV (As := [.int x]) (rest := []) ⟨hx, hb, hml, hown, hts⟩ (c_X_demand l dC dI hfl h a b cA cB N L f g x ok hg) (cwV 1 hts gX0_place_X0_demand rfl rfl rfl (by decide +kernel) ⟨Nat.le_of_ble_eq_true rfl, Nat.le_of_ble_eq_true rfl⟩) (ow_PreRx hK hP hZ (ci := 0) (q0 := 0) rfl rfl) rfl rfl hl.1 rfl (lv_room (Nat.le_of_ble_eq_true rfl)) dX0_place_2 ⟨Nat.le_of_ble_eq_true rfl, Nat.le_of_ble_eq_true rfl⟩) (fun q h => by cases h) hemp hlocks (by decide) (by decide) (fun h9 => h9) (fun hok => ?_)
  obtain ⟨p, hp⟩ := hok
  refine lv_aload_n hx hb dX0_place_5 rfl (lv_at hl 0 rfl) ?_
  refine va_get (D := (dC, dI)) (ci := 0) (v := .ref b) (C := RX0) (T := TX0) (N := 3) hx hb hts (by decide +kernel) hown hK hP 0 rfl rfl 1 (by decide) (hts (.fieldLink RX0 13 "OrderLine" "places" "[I") (by decide +kernel)) (fun _ h9 => h9) rfl dX0_place_6 ?_
  refine lv_iload_n hx hb dX0_place_9 rfl (lv_at hl 1 rfl) ?_
  refine ow_top (z := nI (L p)) hp.2 ?_
  refine ow_iald (k := L p) (v := nI p) hx hb hK hP 2 1 rfl rfl (ok.2.2.2.1 p hp.1) (by decide) (hg.1 p hp.1) dX0_place_10 ?_
  exact ow_ret (W.iret (v := (nI p)) hx hb hr (fun t ht hW => Or.inl ⟨⟨_, rfl⟩, (fun h9 => ol_at_no hp h9), by rw [hsp p hp], ht⟩) (fun q h => by cases h) dX0_place_11)
set_option maxHeartbeats 4000000 in
set_option maxRecDepth 100000 in
/-- compare(x, y) -/
theorem c_X_compare (l : Launch) (dC : Nat → ClassId) (dI : Nat → Nat → Nat) (hfl : l.flags = flags0) (h a b : Nat) (cA cB : ClassId) (N : Nat) (L : Nat → Nat) (f g : Nat → Int32) (x y r : Int32) (ok : ol_ok N L) (hf : ol_f N L f) (hg : ol_g N L g) (hsp : ∀ p q, ol_at N L x p → ol_at N L y q → r = ol_cmp p q) : ow_Met l yX0_compare wsX0_compare ({ frames := 7, cells := 1, slots := 6, locals := 103 }) (ow_Rx (dC, dI) vwCl [(cA, .int), (cB, .int)] (wX h a b cA cB (nI N, f, g)) [.ref h, .int x, .int y]) (ow_Q "java/lang/IllegalArgumentException" (ol_no N L x ∨ ol_no N L y) (QcRead r)) 1 6 (fun _ => False) := by
  refine ow_ofW (cc := cX0_compare) (maxL := 3) (ret := (some .int)) (by decide) rfl ?_
  intro pg ev s m args below meth cd s₁ B hml hv
  obtain ⟨rfl, hP, hK, hZ⟩ := hv
  have hx := B.exec
  have hb := B.bytes
  have hr := B.returns
  have hts := atoms_spec (ws := wsX0_compare) B.pre
  have hown : s.vm.findClass RX0 = some m.cls := findClass_of_methodNamed B.named
  have hlocks := B.notSynchronized
  have hemp := B.noHandlers (hts _ List.mem_cons_self)
  have hP : va_P (dC, dI) vwCl [(h, .inr (0, [.ref a, .ref b, .int (nI N)])), (a, .inl (cA, 1000, .inl f)), (b, .inl (cB, 1000, .inl g))] s.heap := hP
  have hl := lv_entry ([.ref h, .int x, .int y]) (n := 3) (Nat.le_of_ble_eq_true rfl)
  rw [lg_entry_eq]
  generalize (lg_sl ([.ref h, .int x, .int y]) ++ List.replicate (3 - (lg_sl ([.ref h, .int x, .int y])).length) Slot.unset).toArray = ls at hl ⊢
  have hl : lv_has ls 3 [(0, .ref h), (1, .int x), (2, .int y)] := hl
  refine lv_aload_n hx hb dX0_compare_0 rfl (lv_at hl 0 rfl) ?_
  refine lv_iload_n hx hb dX0_compare_1 rfl (lv_at hl 1 rfl) ?_
  refine ow_callD (okP := ∃ p, ol_at N L x p) (ow_runV (As := [.int x]) (rest := []) ⟨hx, hb, hml, hown, hts⟩ (c_X_demand l dC dI hfl h a b cA cB N L f g x ok hg) (cwV 1 hts gX0_compare_X0_demand rfl rfl rfl (by decide +kernel) ⟨Nat.le_of_ble_eq_true rfl, Nat.le_of_ble_eq_true rfl⟩) (ow_PreRx hK hP hZ (ci := 0) (q0 := 0) rfl rfl) rfl rfl hl.1 rfl (lv_room (Nat.le_of_ble_eq_true rfl)) dX0_compare_2 ⟨Nat.le_of_ble_eq_true rfl, Nat.le_of_ble_eq_true rfl⟩) (fun q h => by cases h) hemp hlocks (by decide) (by decide) Or.inl (fun hok => ?_)
  obtain ⟨p, hp⟩ := hok
  refine lv_aload_n hx hb dX0_compare_5 rfl (lv_at hl 0 rfl) ?_
  refine lv_iload_n hx hb dX0_compare_6 rfl (lv_at hl 2 rfl) ?_
  refine ow_callD (okP := ∃ p, ol_at N L y p) (ow_runV (As := [.int y]) (rest := []) ⟨hx, hb, hml, hown, hts⟩ (c_X_demand l dC dI hfl h a b cA cB N L f g y ok hg) (cwV 1 hts gX0_compare_X0_demand rfl rfl rfl (by decide +kernel) ⟨Nat.le_of_ble_eq_true rfl, Nat.le_of_ble_eq_true rfl⟩) (ow_PreRx hK hP hZ (ci := 0) (q0 := 0) rfl rfl) rfl rfl hl.1 rfl (lv_room (Nat.le_of_ble_eq_true rfl)) dX0_compare_7 ⟨Nat.le_of_ble_eq_true rfl, Nat.le_of_ble_eq_true rfl⟩) (fun q h => by cases h) hemp hlocks (by decide) (by decide) Or.inr (fun hok => ?_)
  obtain ⟨q, hq⟩ := hok
  refine lv_iload_n hx hb dX0_compare_10 rfl (lv_at hl 1 rfl) ?_
  refine lv_iload_n hx hb dX0_compare_11 rfl (lv_at hl 2 rfl) ?_
  refine lv_icmp_ne (tgt := 17) hx hb dX0_compare_12 (by decide) (fun c_12 => ?_) (fun c_12 => ?_)
  · have hpq : p ≠ q := fun e9 => c_12 (by rw [hp.2, hq.2, e9])
    refine lv_aload_n hx hb dX0_compare_17 rfl (lv_at hl 0 rfl) ?_
    refine va_get (D := (dC, dI)) (ci := 0) (v := .ref b) (C := RX0) (T := TX0) (N := 3) hx hb hts (by decide +kernel) hown hK hP 0 rfl rfl 1 (by decide) (hts (.fieldLink RX0 13 "OrderLine" "places" "[I") (by decide +kernel)) (fun _ h9 => h9) rfl dX0_compare_18 ?_
    refine lv_iload_n hx hb dX0_compare_21 rfl (lv_at hl 1 rfl) ?_
    refine ow_top (z := nI (L p)) hp.2 ?_
    refine ow_iald (k := L p) (v := nI p) hx hb hK hP 2 1 rfl rfl (ok.2.2.2.1 p hp.1) (by decide) (hg.1 p hp.1) dX0_compare_22 ?_
    refine lv_aload_n hx hb dX0_compare_23 rfl (lv_at hl 0 rfl) ?_
    refine va_get (D := (dC, dI)) (ci := 0) (v := .ref b) (C := RX0) (T := TX0) (N := 3) hx hb hts (by decide +kernel) hown hK hP 0 rfl rfl 1 (by decide) (hts (.fieldLink RX0 13 "OrderLine" "places" "[I") (by decide +kernel)) (fun _ h9 => h9) rfl dX0_compare_24 ?_
    refine lv_iload_n hx hb dX0_compare_27 rfl (lv_at hl 2 rfl) ?_
    refine ow_top (z := nI (L q)) hq.2 ?_
    refine ow_iald (k := L q) (v := nI q) hx hb hK hP 2 1 rfl rfl (ok.2.2.2.1 q hq.1) (by decide) (hg.1 q hq.1) dX0_compare_28 ?_
    refine lv_icmp_ge (tgt := 36) hx hb dX0_compare_29 (by decide) (fun c_29 => ?_) (fun c_29 => ?_)
    · have hc := ol_le (by have := hq.1; have := ok.2.1; omega) (by have := hp.1; have := ok.2.1; omega) c_29
      have hr0 : r = 1 := by rw [hsp p q hp hq, ol_cmp_gt (by omega)]
      refine lv_iconst (v := 1) hx hb dX0_compare_36 (by decide +kernel) ?_
      exact ow_ret (W.iret (v := 1) hx hb hr (fun t ht hW => Or.inl ⟨⟨_, rfl⟩, (fun h9 => h9.elim (ol_at_no hp) (ol_at_no hq)), by rw [hr0], ht⟩) (fun q h => by cases h) dX0_compare_37)
    · have hc := ol_nle (by have := hq.1; have := ok.2.1; omega) (by have := hp.1; have := ok.2.1; omega) c_29
      have hr0 : r = -1 := by rw [hsp p q hp hq, ol_cmp_lt hc]
      refine lv_iconst (v := (-1)) hx hb dX0_compare_32 (by decide +kernel) ?_
      refine lv_goto (tgt := 37) hx hb dX0_compare_33 (by decide) ?_
      exact ow_ret (W.iret (v := ((-1))) hx hb hr (fun t ht hW => Or.inl ⟨⟨_, rfl⟩, (fun h9 => h9.elim (ol_at_no hp) (ol_at_no hq)), by rw [hr0], ht⟩) (fun q h => by cases h) dX0_compare_37)
  · have hr0 : r = 0 := by rw [hsp p q hp hq, ol_at_un ok hp (c_12 ▸ hq), ol_cmp_eq]
    refine lv_iconst (v := 0) hx hb dX0_compare_15 (by decide +kernel) ?_
    exact ow_ret (W.iret (v := 0) hx hb hr (fun t ht hW => Or.inl ⟨⟨_, rfl⟩, (fun h9 => h9.elim (ol_at_no hp) (ol_at_no hq)), by rw [hr0], ht⟩) (fun q h => by cases h) dX0_compare_16)
set_option maxHeartbeats 4000000 in
set_option maxRecDepth 100000 in
/-- next(x, z) -/
theorem c_X_next (l : Launch) (dC : Nat → ClassId) (dI : Nat → Nat → Nat) (hfl : l.flags = flags0) (h a b : Nat) (cA cB : ClassId) (N : Nat) (L : Nat → Nat) (f g : Nat → Int32) (x z r : Int32) (ok : ol_ok N L) (hf : ol_f N L f) (hg : ol_g N L g) (hsp : ∀ p, ol_at N L x p → ol_ps N L (if z = 0 then nI p - 1 else nI p + 1) r) : ow_Met l yX0_next wsX0_next ({ frames := 7, cells := 1, slots := 6, locals := 103 }) (ow_Rx (dC, dI) vwCl [(cA, .int), (cB, .int)] (wX h a b cA cB (nI N, f, g)) [.ref h, .int x, .int z]) (ow_Q "java/lang/IllegalArgumentException" (ol_no N L x) (QcRead r)) 1 6 (fun _ => False) := by
  refine ow_ofW (cc := cX0_next) (maxL := 3) (ret := (some .int)) (by decide) rfl ?_
  intro pg ev s m args below meth cd s₁ B hml hv
  obtain ⟨rfl, hP, hK, hZ⟩ := hv
  have hx := B.exec
  have hb := B.bytes
  have hr := B.returns
  have hts := atoms_spec (ws := wsX0_next) B.pre
  have hown : s.vm.findClass RX0 = some m.cls := findClass_of_methodNamed B.named
  have hlocks := B.notSynchronized
  have hemp := B.noHandlers (hts _ List.mem_cons_self)
  have hP : va_P (dC, dI) vwCl [(h, .inr (0, [.ref a, .ref b, .int (nI N)])), (a, .inl (cA, 1000, .inl f)), (b, .inl (cB, 1000, .inl g))] s.heap := hP
  have hl := lv_entry ([.ref h, .int x, .int z]) (n := 3) (Nat.le_of_ble_eq_true rfl)
  rw [lg_entry_eq]
  generalize (lg_sl ([.ref h, .int x, .int z]) ++ List.replicate (3 - (lg_sl ([.ref h, .int x, .int z])).length) Slot.unset).toArray = ls at hl ⊢
  have hl : lv_has ls 3 [(0, .ref h), (1, .int x), (2, .int z)] := hl
  refine lv_aload_n hx hb dX0_next_0 rfl (lv_at hl 0 rfl) ?_
  refine lv_iload_n hx hb dX0_next_1 rfl (lv_at hl 1 rfl) ?_
  refine ow_callD (okP := ∃ p, ol_at N L x p) (ow_runV (As := [.int x]) (rest := []) ⟨hx, hb, hml, hown, hts⟩ (c_X_demand l dC dI hfl h a b cA cB N L f g x ok hg) (cwV 1 hts gX0_next_X0_demand rfl rfl rfl (by decide +kernel) ⟨Nat.le_of_ble_eq_true rfl, Nat.le_of_ble_eq_true rfl⟩) (ow_PreRx hK hP hZ (ci := 0) (q0 := 0) rfl rfl) rfl rfl hl.1 rfl (lv_room (Nat.le_of_ble_eq_true rfl)) dX0_next_2 ⟨Nat.le_of_ble_eq_true rfl, Nat.le_of_ble_eq_true rfl⟩) (fun q h => by cases h) hemp hlocks (by decide) (by decide) (fun h9 => h9) (fun hok => ?_)
  obtain ⟨p, hp⟩ := hok
  refine lv_aload_n hx hb dX0_next_5 rfl (lv_at hl 0 rfl) ?_
  refine lv_iload_n hx hb dX0_next_6 rfl (lv_at hl 2 rfl) ?_
  refine lv_if_eq (tgt := 21) hx hb dX0_next_7 (by decide) (fun c_7 => ?_) (fun c_7 => ?_)
  · have hps := hsp p hp
    rw [if_pos c_7] at hps
    refine lv_aload_n hx hb dX0_next_21 rfl (lv_at hl 0 rfl) ?_
    refine va_get (D := (dC, dI)) (ci := 0) (v := .ref b) (C := RX0) (T := TX0) (N := 3) hx hb hts (by decide +kernel) hown hK hP 0 rfl rfl 1 (by decide) (hts (.fieldLink RX0 13 "OrderLine" "places" "[I") (by decide +kernel)) (fun _ h9 => h9) rfl dX0_next_22 ?_
    refine lv_iload_n hx hb dX0_next_25 rfl (lv_at hl 1 rfl) ?_
    refine ow_top (z := nI (L p)) hp.2 ?_
    refine ow_iald (k := L p) (v := nI p) hx hb hK hP 2 1 rfl rfl (ok.2.2.2.1 p hp.1) (by decide) (hg.1 p hp.1) dX0_next_26 ?_
    refine lv_iconst (v := 1) hx hb dX0_next_27 (by decide +kernel) ?_
    refine lv_isub hx hb dX0_next_28 ?_
    refine ow_callR (r := r) (W.runV (As := [.int ((nI p) - 1)]) (rest := []) ⟨hx, hb, hml, hown, hts⟩ (c_X_at l dC dI h a b cA cB N L f g ((nI p) - 1) r ok hf hps) (cwV 1 hts gX0_next_X0_at rfl rfl rfl (by decide +kernel) ⟨Nat.le_of_ble_eq_true rfl, Nat.le_of_ble_eq_true rfl⟩) (ow_PreR hK hP (ci := 0) (q0 := 0) rfl rfl) rfl rfl hl.1 rfl (lv_room (Nat.le_of_ble_eq_true rfl)) dX0_next_29 ⟨Nat.le_of_ble_eq_true rfl, Nat.le_of_ble_eq_true rfl⟩) ?_
    exact ow_ret (W.iret (v := r) hx hb hr (fun t ht hW => Or.inl ⟨⟨_, rfl⟩, (fun h9 => ol_at_no hp h9), by rw [show r = r from rfl], ht⟩) (fun q h => by cases h) dX0_next_32)
  · have hps := hsp p hp
    rw [if_neg c_7] at hps
    refine lv_aload_n hx hb dX0_next_10 rfl (lv_at hl 0 rfl) ?_
    refine va_get (D := (dC, dI)) (ci := 0) (v := .ref b) (C := RX0) (T := TX0) (N := 3) hx hb hts (by decide +kernel) hown hK hP 0 rfl rfl 1 (by decide) (hts (.fieldLink RX0 13 "OrderLine" "places" "[I") (by decide +kernel)) (fun _ h9 => h9) rfl dX0_next_11 ?_
    refine lv_iload_n hx hb dX0_next_14 rfl (lv_at hl 1 rfl) ?_
    refine ow_top (z := nI (L p)) hp.2 ?_
    refine ow_iald (k := L p) (v := nI p) hx hb hK hP 2 1 rfl rfl (ok.2.2.2.1 p hp.1) (by decide) (hg.1 p hp.1) dX0_next_15 ?_
    refine lv_iconst (v := 1) hx hb dX0_next_16 (by decide +kernel) ?_
    refine lv_iadd hx hb dX0_next_17 ?_
    refine lv_goto (tgt := 29) hx hb dX0_next_18 (by decide) ?_
    refine ow_callR (r := r) (W.runV (As := [.int ((nI p) + 1)]) (rest := []) ⟨hx, hb, hml, hown, hts⟩ (c_X_at l dC dI h a b cA cB N L f g ((nI p) + 1) r ok hf hps) (cwV 1 hts gX0_next_X0_at rfl rfl rfl (by decide +kernel) ⟨Nat.le_of_ble_eq_true rfl, Nat.le_of_ble_eq_true rfl⟩) (ow_PreR hK hP (ci := 0) (q0 := 0) rfl rfl) rfl rfl hl.1 rfl (lv_room (Nat.le_of_ble_eq_true rfl)) dX0_next_29 ⟨Nat.le_of_ble_eq_true rfl, Nat.le_of_ble_eq_true rfl⟩) ?_
    exact ow_ret (W.iret (v := r) hx hb hr (fun t ht hW => Or.inl ⟨⟨_, rfl⟩, (fun h9 => ol_at_no hp h9), by rw [show r = r from rfl], ht⟩) (fun q h => by cases h) dX0_next_32)
set_option maxHeartbeats 4000000 in
set_option maxRecDepth 100000 in
/-- greatest(x, y) -/
theorem c_X_greatest (l : Launch) (dC : Nat → ClassId) (dI : Nat → Nat → Nat) (hfl : l.flags = flags0) (h a b : Nat) (cA cB : ClassId) (N : Nat) (L : Nat → Nat) (f g : Nat → Int32) (x y r : Int32) (ok : ol_ok N L) (hf : ol_f N L f) (hg : ol_g N L g) (hsp : ∀ p q, ol_at N L x p → ol_at N L y q → r = ol_top L p (q + 1 - p)) : ow_Met l yX0_greatest wsX0_greatest ({ frames := 7, cells := 1, slots := 6, locals := 103 }) (ow_Rx (dC, dI) vwCl [(cA, .int), (cB, .int)] (wX h a b cA cB (nI N, f, g)) [.ref h, .int x, .int y]) (ow_Q "java/lang/IllegalArgumentException" (ol_no N L x ∨ ol_no N L y) (QcRead r)) 1 6 (fun _ => False) := by
  refine ow_ofW (cc := cX0_greatest) (maxL := 6) (ret := (some .int)) (by decide) rfl ?_
  intro pg ev s m args below meth cd s₁ B hml hv
  obtain ⟨rfl, hP, hK, hZ⟩ := hv
  have hx := B.exec
  have hb := B.bytes
  have hr := B.returns
  have hts := atoms_spec (ws := wsX0_greatest) B.pre
  have hown : s.vm.findClass RX0 = some m.cls := findClass_of_methodNamed B.named
  have hlocks := B.notSynchronized
  have hemp := B.noHandlers (hts _ List.mem_cons_self)
  have hP : va_P (dC, dI) vwCl [(h, .inr (0, [.ref a, .ref b, .int (nI N)])), (a, .inl (cA, 1000, .inl f)), (b, .inl (cB, 1000, .inl g))] s.heap := hP
  have hl := lv_entry ([.ref h, .int x, .int y]) (n := 6) (Nat.le_of_ble_eq_true rfl)
  rw [lg_entry_eq]
  generalize (lg_sl ([.ref h, .int x, .int y]) ++ List.replicate (6 - (lg_sl ([.ref h, .int x, .int y])).length) Slot.unset).toArray = ls at hl ⊢
  have hl : lv_has ls 6 [(0, .ref h), (1, .int x), (2, .int y)] := hl
  have hN := ok.2.1
  refine lv_aload_n hx hb dX0_greatest_0 rfl (lv_at hl 0 rfl) ?_
  refine lv_iload_n hx hb dX0_greatest_1 rfl (lv_at hl 1 rfl) ?_
  refine ow_callD (okP := ∃ p, ol_at N L x p) (ow_runV (As := [.int x]) (rest := []) ⟨hx, hb, hml, hown, hts⟩ (c_X_demand l dC dI hfl h a b cA cB N L f g x ok hg) (cwV 1 hts gX0_greatest_X0_demand rfl rfl rfl (by decide +kernel) ⟨Nat.le_of_ble_eq_true rfl, Nat.le_of_ble_eq_true rfl⟩) (ow_PreRx hK hP hZ (ci := 0) (q0 := 0) rfl rfl) rfl rfl hl.1 rfl (lv_room (Nat.le_of_ble_eq_true rfl)) dX0_greatest_2 ⟨Nat.le_of_ble_eq_true rfl, Nat.le_of_ble_eq_true rfl⟩) (fun q h => by cases h) hemp hlocks (by decide) (by decide) Or.inl (fun hok => ?_)
  obtain ⟨p, hp⟩ := hok
  refine lv_aload_n hx hb dX0_greatest_5 rfl (lv_at hl 0 rfl) ?_
  refine lv_iload_n hx hb dX0_greatest_6 rfl (lv_at hl 2 rfl) ?_
  refine ow_callD (okP := ∃ p, ol_at N L y p) (ow_runV (As := [.int y]) (rest := []) ⟨hx, hb, hml, hown, hts⟩ (c_X_demand l dC dI hfl h a b cA cB N L f g y ok hg) (cwV 1 hts gX0_greatest_X0_demand rfl rfl rfl (by decide +kernel) ⟨Nat.le_of_ble_eq_true rfl, Nat.le_of_ble_eq_true rfl⟩) (ow_PreRx hK hP hZ (ci := 0) (q0 := 0) rfl rfl) rfl rfl hl.1 rfl (lv_room (Nat.le_of_ble_eq_true rfl)) dX0_greatest_7 ⟨Nat.le_of_ble_eq_true rfl, Nat.le_of_ble_eq_true rfl⟩) (fun q h => by cases h) hemp hlocks (by decide) (by decide) Or.inr (fun hok => ?_)
  obtain ⟨q, hq⟩ := hok
  refine lv_aload_n hx hb dX0_greatest_10 rfl (lv_at hl 0 rfl) ?_
  refine va_get (D := (dC, dI)) (ci := 0) (v := .ref b) (C := RX0) (T := TX0) (N := 3) hx hb hts (by decide +kernel) hown hK hP 0 rfl rfl 1 (by decide) (hts (.fieldLink RX0 13 "OrderLine" "places" "[I") (by decide +kernel)) (fun _ h9 => h9) rfl dX0_greatest_11 ?_
  refine lv_iload_n hx hb dX0_greatest_14 rfl (lv_at hl 2 rfl) ?_
  refine ow_top (z := nI (L q)) hq.2 ?_
  refine ow_iald (k := L q) (v := nI q) hx hb hK hP 2 1 rfl rfl (ok.2.2.2.1 q hq.1) (by decide) (hg.1 q hq.1) dX0_greatest_15 ?_
  refine lv_istore_n (lv' := [(3, .int (nI q)), (0, .ref h), (1, .int x), (2, .int y)]) hx hb dX0_greatest_16 rfl hl (by decide) rfl (fun ls hl => ?_)
  refine lv_iconst (v := (-1)) hx hb dX0_greatest_17 (by decide +kernel) ?_
  refine lv_istore (lv' := [(4, .int ((-1))), (3, .int (nI q)), (0, .ref h), (1, .int x), (2, .int y)]) hx hb dX0_greatest_18 hl (by decide) rfl (fun ls hl => ?_)
  refine lv_aload_n hx hb dX0_greatest_20 rfl (lv_at hl 2 rfl) ?_
  refine va_get (D := (dC, dI)) (ci := 0) (v := .ref b) (C := RX0) (T := TX0) (N := 3) hx hb hts (by decide +kernel) hown hK hP 0 rfl rfl 1 (by decide) (hts (.fieldLink RX0 13 "OrderLine" "places" "[I") (by decide +kernel)) (fun _ h9 => h9) rfl dX0_greatest_21 ?_
  refine lv_iload_n hx hb dX0_greatest_24 rfl (lv_at hl 3 rfl) ?_
  refine ow_top (z := nI (L p)) hp.2 ?_
  refine ow_iald (k := L p) (v := nI p) hx hb hK hP 2 1 rfl rfl (ok.2.2.2.1 p hp.1) (by decide) (hg.1 p hp.1) dX0_greatest_25 ?_
  have hpN : p < N := hp.1
  have hqN : q < N := hq.1
  refine lv_istore (lv' := [(5, .int (nI p)), (4, .int ((-1))), (3, .int (nI q)), (0, .ref h), (1, .int x), (2, .int y)]) hx hb dX0_greatest_26 hl (by decide) rfl (fun ls hl => ?_)
  have loop : ∀ (k : Nat) (i : Nat), N < p + i + k → p + i ≤ N → i ≤ q + 1 - p → ∀ ls : Array Slot, lv_has ls 6 [(0, .ref h), (1, .int x), (2, .int y), (3, .int (nI q)), (4, .int (ol_top L p i)), (5, .int (nI (p + i)))] → W pg l ev (headSpec wsX0_greatest ({ frames := 7, cells := 1, slots := 6, locals := 103 })).room s m ([.ref h, .int x, .int y] : List Value).toArray below meth cd s.heap [] 0 0 (ow_MQ below (ow_Q "java/lang/IllegalArgumentException" (ol_no N L x ∨ ol_no N L y) (QcRead r)) ([.ref h, .int x, .int y] : List Value).toArray s 1 6 (fun _ => False)) (F0 m 28 ls []) := by
    intro k
    induction k with
    | zero =>
      intro i h1 h2 h3
      exact absurd h1 (by omega)
    | succ k ih =>
      intro i hk hi hi2 ls hl
      refine lv_iload hx hb dX0_greatest_28 (lv_at hl 5 rfl) ?_
      refine lv_iload_n hx hb dX0_greatest_30 rfl (lv_at hl 3 rfl) ?_
      refine lv_icmp_gt (tgt := 54) hx hb dX0_greatest_31 (by decide) (fun c_31 => ?_) (fun c_31 => ?_)
      · have hc := ol_lt (by omega) (by omega) c_31
        have hr0 : r = ol_top L p i := by rw [hsp p q hp hq, show q + 1 - p = i by omega]
        refine lv_iload hx hb dX0_greatest_54 (lv_at hl 4 rfl) ?_
        exact ow_ret (W.iret (v := (ol_top L p i)) hx hb hr (fun t ht hW => Or.inl ⟨⟨_, rfl⟩, (fun h9 => h9.elim (ol_at_no hp) (ol_at_no hq)), by rw [hr0], ht⟩) (fun q h => by cases h) dX0_greatest_56)
      · have hc := ol_nlt (by omega) (by omega) c_31
        refine lv_iload hx hb dX0_greatest_34 (lv_at hl 4 rfl) ?_
        refine lv_aload_n hx hb dX0_greatest_36 rfl (lv_at hl 0 rfl) ?_
        refine va_get (D := (dC, dI)) (ci := 0) (v := .ref a) (C := RX0) (T := TX0) (N := 3) hx hb hts (by decide +kernel) hown hK hP 0 rfl rfl 0 (by decide) (hts (.fieldLink RX0 9 "OrderLine" "line" "[I") (by decide +kernel)) (fun _ h9 => h9) rfl dX0_greatest_37 ?_
        refine lv_iload hx hb dX0_greatest_40 (lv_at hl 5 rfl) ?_
        refine ow_iald (k := p + i) (v := nI (L (p + i))) hx hb hK hP 1 0 rfl rfl (by omega) (by decide) (hf (p + i) (by omega)) dX0_greatest_42 ?_
        refine va_mmax hx hb (hml.trans hl.1.symm) hown (hts (.methodLink RX0 44 Lib.Math.max.name) (by decide +kernel)) (hts (.static Lib.Math.max.name) (by decide +kernel)) (hts (.initialized "java/lang/Math") (by decide +kernel)) (hts (.code Lib.Math.max.name Lib.Math.max.code 2 (some .int)) (by decide +kernel)) (Nat.le_of_ble_eq_true rfl) (Nat.le_of_ble_eq_true rfl) (Nat.le_of_ble_eq_true rfl) (Nat.le_of_ble_eq_true rfl) dX0_greatest_43 ?_
        refine ow_top (z := ol_top L p (i + 1)) rfl ?_
        refine lv_istore (lv' := [(4, .int (ol_top L p (i + 1))), (0, .ref h), (1, .int x), (2, .int y), (3, .int (nI q)), (5, .int (nI (p + i)))]) hx hb dX0_greatest_46 hl (by decide) rfl (fun ls hl => ?_)
        refine lv_iinc (v := nI (p + (i + 1))) (lv' := [(5, .int (nI (p + (i + 1)))), (4, .int (ol_top L p (i + 1))), (0, .ref h), (1, .int x), (2, .int y), (3, .int (nI q))]) hx hb dX0_greatest_48 hl (k := 5) rfl (nI_1 (p + i)) (by decide) rfl (fun ls hl => ?_)
        refine lv_goto (tgt := 28) hx hb dX0_greatest_51 (by decide) ?_
        exact ih (i + 1) (by omega) (by omega) (by omega) ls (lv_sub hl [2, 3, 4, 5, 1, 0] rfl)
  exact loop (N + 2) 0 (by omega) (by omega) (by omega) ls (lv_sub hl [3, 4, 5, 2, 1, 0] rfl)
set_option maxHeartbeats 4000000 in
set_option maxRecDepth 100000 in
/-- behind(x) -/
theorem c_X_behind (l : Launch) (dC : Nat → ClassId) (dI : Nat → Nat → Nat) (hfl : l.flags = flags0) (h a b : Nat) (cA cB : ClassId) (N : Nat) (L : Nat → Nat) (f g : Nat → Int32) (r : Int32) (N' : Nat) (L' : Nat → Nat) (sz : Nat) (ok : ol_ok N L) (hf : ol_f N L f) (hg : ol_g N L g) (x : Int32) (hsp : ∀ p, ol_at N L x p → sp_bh N L p r N' L') : ow_Met l yX0_behind wsX0_behind ({ frames := 7, cells := 1, slots := 6, locals := 103 }) (ow_Px (dC, dI) vwCl [(cA, .int), (cB, .int)] (wX h a b cA cB (nI N, f, g)) sz [.ref h, .int x]) (ow_Q "java/lang/IllegalArgumentException" (ol_no N L x) (va_Qi (fun (r' : Int32) (u : Int32 × (Nat → Int32) × (Nat → Int32)) => r' = r ∧ u.1 = nI N' ∧ ol_f N' L' u.2.1 ∧ ol_g N' L' u.2.2) (ow_B (dC, dI) vwCl (wX h a b cA cB) (va_A (wX h a b cA cB (nI N, f, g)) sz)) (va_A (wX h a b cA cB (nI N, f, g)) sz))) 1 6 (va_A (wX h a b cA cB (nI N, f, g)) sz) := by
  refine ow_ofW (cc := cX0_behind) (maxL := 2) (ret := (some .int)) (by decide) rfl ?_
  intro pg ev s m args below meth cd s₁ B hml hv
  obtain ⟨rfl, hsz, hP, hK, hD0, hZ⟩ := hv
  have hx := B.exec
  have hb := B.bytes
  have hr := B.returns
  have hts := atoms_spec (ws := wsX0_behind) B.pre
  have hown : s.vm.findClass RX0 = some m.cls := findClass_of_methodNamed B.named
  have hlocks := B.notSynchronized
  have hemp := B.noHandlers (hts _ List.mem_cons_self)
  subst hsz
  have hD := hD0.self (sz := s.heap.size)
  generalize hAe : va_A (wX h a b cA cB (nI N, f, g)) s.heap.size = A at hD ⊢
  have hA : ∀ q : Nat, s.heap.size ≤ q → A q := fun q h => by rw [← hAe]; exact Or.inr h
  have hS : va_S A s.heap s.heap [] := va_S.rf
  have hD : va_D A [(h, .inr (0, [.ref a, .ref b, .int (nI N)])), (a, .inl (cA, 1000, .inl f)), (b, .inl (cB, 1000, .inl g))] := hD
  have hP : va_P (dC, dI) vwCl [(h, .inr (0, [.ref a, .ref b, .int (nI N)])), (a, .inl (cA, 1000, .inl f)), (b, .inl (cB, 1000, .inl g))] s.heap := hP
  have hl := lv_entry ([.ref h, .int x]) (n := 2) (Nat.le_of_ble_eq_true rfl)
  rw [lg_entry_eq]
  generalize (lg_sl ([.ref h, .int x]) ++ List.replicate (2 - (lg_sl ([.ref h, .int x])).length) Slot.unset).toArray = ls at hl ⊢
  have hl : lv_has ls 2 [(0, .ref h), (1, .int x)] := hl
  have hN := ok.2.1
  refine lv_aload_n hx hb dX0_behind_0 rfl (lv_at hl 0 rfl) ?_
  refine lv_iload_n hx hb dX0_behind_1 rfl (lv_at hl 1 rfl) ?_
  refine ow_callD (okP := ∃ p, ol_at N L x p) (ow_runV (As := [.int x]) (rest := []) ⟨hx, hb, hml, hown, hts⟩ (c_X_demand l dC dI hfl h a b cA cB N L f g x ok hg) (cwV 1 hts gX0_behind_X0_demand rfl rfl rfl (by decide +kernel) ⟨Nat.le_of_ble_eq_true rfl, Nat.le_of_ble_eq_true rfl⟩) (ow_PreRx hK hP hZ (ci := 0) (q0 := 0) rfl rfl) rfl rfl hl.1 rfl (lv_room (Nat.le_of_ble_eq_true rfl)) dX0_behind_2 ⟨Nat.le_of_ble_eq_true rfl, Nat.le_of_ble_eq_true rfl⟩) (fun q h => by cases h) hemp hlocks (by decide) (by decide) (fun h9 => h9) (fun hok => ?_)
  obtain ⟨p, hp⟩ := hok
  refine lv_aload_n hx hb dX0_behind_5 rfl (lv_at hl 0 rfl) ?_
  refine va_get (D := (dC, dI)) (ci := 0) (v := .int (nI N)) (C := RX0) (T := TX0) (N := 3) hx hb hts (by decide +kernel) hown hK hP 0 rfl rfl 2 (by decide) (hts (.fieldLink RX0 16 "OrderLine" "count" "I") (by decide +kernel)) (fun _ h9 => h9) rfl dX0_behind_6 ?_
  refine lv_sipush (v := nI 1000) hx hb dX0_behind_9 (by decide +kernel) ?_
  refine lv_icmp_lt (tgt := 17) hx hb dX0_behind_12 (by decide) (fun c_12 => ?_) (fun c_12 => ?_)
  · have hc := ol_lt (by omega) (by omega) c_12
    obtain ⟨hr0, hN0, hL0⟩ : r = nI (ol_fr N L) ∧ N' = N + 1 ∧ L' = ol_many N L (p + 1) 1 := by
      rcases hsp p hp with ⟨_, h9⟩ | ⟨h9, _⟩
      · exact h9
      · omega
    refine lv_aload_n hx hb dX0_behind_17 rfl (lv_at hl 0 rfl) ?_
    refine lv_iload_n hx hb dX0_behind_18 rfl (lv_at hl 1 rfl) ?_
    refine lv_iconst (v := nI 1) hx hb dX0_behind_19 (by decide +kernel) ?_
    refine ow_calli (wr := []) (va_runV (As := [.int x, .int (nI 1)]) (rest := []) ⟨hx, hb, hml, hown, hts⟩ (c_X_addBehind l dC dI h a b cA cB N L f g x p 1 _ ok hf hg hp (by omega) (by omega)) (cwV 2 hts gX0_behind_X0_addBehind rfl rfl rfl (by decide +kernel) ⟨Nat.le_of_ble_eq_true rfl, Nat.le_of_ble_eq_true rfl⟩) (ow_PreV hK hP hD (ci := 0) (q0 := 0) rfl rfl) rfl rfl hl.1 rfl (lv_room (Nat.le_of_ble_eq_true rfl)) dX0_behind_20 ⟨Nat.le_of_ble_eq_true rfl, Nat.le_of_ble_eq_true rfl⟩) hP hD hS hA [0, 1, 2] [] rfl rfl (by decide) (by decide) (fun r0 u H locs hw hP hD hS => ?_)
    obtain ⟨a1, f1, g1⟩ := u
    obtain ⟨er, e1, hf1, hg1⟩ := hw
    obtain rfl : nI (N + 1) = a1 := e1.symm
    refine ow_top (z := nI (ol_fr N L)) er ?_
    have hP : va_P (dC, dI) vwCl [(h, .inr (0, [.ref a, .ref b, .int (nI (N + 1))])), (a, .inl (cA, 1000, .inl f1)), (b, .inl (cB, 1000, .inl g1))] H := hP
    have hD : va_D A [(h, .inr (0, [.ref a, .ref b, .int (nI (N + 1))])), (a, .inl (cA, 1000, .inl f1)), (b, .inl (cB, 1000, .inl g1))] := hD
    exact ow_ret (W.iret (v := (nI (ol_fr N L))) hx hb hr (fun t ht hW => Or.inl ⟨⟨_, rfl⟩, (fun h9 => ol_at_no hp h9), ⟨(nI (ol_fr N L)), (nI (N + 1), f1, g1), rfl, ⟨hr0.symm, by rw [hN0], by rw [hN0, hL0]; exact hf1, by rw [hN0, hL0]; exact hg1⟩, by rw [ht]; exact hP, hD⟩, hS.F ht⟩) hS.2.2 dX0_behind_23)
  · have hc := ol_nlt (by omega) (by omega) c_12
    obtain ⟨hr0, hN0, hL0⟩ : r = -1 ∧ N' = N ∧ L' = L := by
      rcases hsp p hp with ⟨h9, _⟩ | ⟨_, h9⟩
      · omega
      · exact h9
    refine lv_iconst (v := (-1)) hx hb dX0_behind_15 (by decide +kernel) ?_
    exact ow_ret (W.iret (v := ((-1))) hx hb hr (fun t ht hW => Or.inl ⟨⟨_, rfl⟩, (fun h9 => ol_at_no hp h9), ⟨((-1)), (nI N, f, g), rfl, ⟨hr0.symm, by rw [hN0], by rw [hN0, hL0]; exact hf, by rw [hN0, hL0]; exact hg⟩, by rw [ht]; exact hP, hD⟩, hS.F ht⟩) hS.2.2 dX0_behind_16)
set_option maxHeartbeats 4000000 in
set_option maxRecDepth 100000 in
/-- several(x, z) -/
theorem c_X_several (l : Launch) (dC : Nat → ClassId) (dI : Nat → Nat → Nat) (hfl : l.flags = flags0) (h a b : Nat) (cA cB : ClassId) (N : Nat) (L : Nat → Nat) (f g : Nat → Int32) (r : Int32) (N' : Nat) (L' : Nat → Nat) (sz : Nat) (ok : ol_ok N L) (hf : ol_f N L f) (hg : ol_g N L g) (x z : Int32) (hsp : ∀ p, ol_at N L x p → sp_sv N L p z r N' L') : ow_Met l yX0_several wsX0_several ({ frames := 7, cells := 1, slots := 6, locals := 103 }) (ow_Px (dC, dI) vwCl [(cA, .int), (cB, .int)] (wX h a b cA cB (nI N, f, g)) sz [.ref h, .int x, .int z]) (ow_Q "java/lang/IllegalArgumentException" (ol_no N L x) (va_Qi (fun (r' : Int32) (u : Int32 × (Nat → Int32) × (Nat → Int32)) => r' = r ∧ u.1 = nI N' ∧ ol_f N' L' u.2.1 ∧ ol_g N' L' u.2.2) (ow_B (dC, dI) vwCl (wX h a b cA cB) (va_A (wX h a b cA cB (nI N, f, g)) sz)) (va_A (wX h a b cA cB (nI N, f, g)) sz))) 1 6 (va_A (wX h a b cA cB (nI N, f, g)) sz) := by
  refine ow_ofW (cc := cX0_several) (maxL := 3) (ret := (some .int)) (by decide) rfl ?_
  intro pg ev s m args below meth cd s₁ B hml hv
  obtain ⟨rfl, hsz, hP, hK, hD0, hZ⟩ := hv
  have hx := B.exec
  have hb := B.bytes
  have hr := B.returns
  have hts := atoms_spec (ws := wsX0_several) B.pre
  have hown : s.vm.findClass RX0 = some m.cls := findClass_of_methodNamed B.named
  have hlocks := B.notSynchronized
  have hemp := B.noHandlers (hts _ List.mem_cons_self)
  subst hsz
  have hD := hD0.self (sz := s.heap.size)
  generalize hAe : va_A (wX h a b cA cB (nI N, f, g)) s.heap.size = A at hD ⊢
  have hA : ∀ q : Nat, s.heap.size ≤ q → A q := fun q h => by rw [← hAe]; exact Or.inr h
  have hS : va_S A s.heap s.heap [] := va_S.rf
  have hD : va_D A [(h, .inr (0, [.ref a, .ref b, .int (nI N)])), (a, .inl (cA, 1000, .inl f)), (b, .inl (cB, 1000, .inl g))] := hD
  have hP : va_P (dC, dI) vwCl [(h, .inr (0, [.ref a, .ref b, .int (nI N)])), (a, .inl (cA, 1000, .inl f)), (b, .inl (cB, 1000, .inl g))] s.heap := hP
  have hl := lv_entry ([.ref h, .int x, .int z]) (n := 3) (Nat.le_of_ble_eq_true rfl)
  rw [lg_entry_eq]
  generalize (lg_sl ([.ref h, .int x, .int z]) ++ List.replicate (3 - (lg_sl ([.ref h, .int x, .int z])).length) Slot.unset).toArray = ls at hl ⊢
  have hl : lv_has ls 3 [(0, .ref h), (1, .int x), (2, .int z)] := hl
  have hN := ok.2.1
  refine lv_aload_n hx hb dX0_several_0 rfl (lv_at hl 0 rfl) ?_
  refine lv_iload_n hx hb dX0_several_1 rfl (lv_at hl 1 rfl) ?_
  refine ow_callD (okP := ∃ p, ol_at N L x p) (ow_runV (As := [.int x]) (rest := []) ⟨hx, hb, hml, hown, hts⟩ (c_X_demand l dC dI hfl h a b cA cB N L f g x ok hg) (cwV 1 hts gX0_several_X0_demand rfl rfl rfl (by decide +kernel) ⟨Nat.le_of_ble_eq_true rfl, Nat.le_of_ble_eq_true rfl⟩) (ow_PreRx hK hP hZ (ci := 0) (q0 := 0) rfl rfl) rfl rfl hl.1 rfl (lv_room (Nat.le_of_ble_eq_true rfl)) dX0_several_2 ⟨Nat.le_of_ble_eq_true rfl, Nat.le_of_ble_eq_true rfl⟩) (fun q h => by cases h) hemp hlocks (by decide) (by decide) (fun h9 => h9) (fun hok => ?_)
  obtain ⟨p, hp⟩ := hok
  refine lv_iload_n hx hb dX0_several_5 rfl (lv_at hl 2 rfl) ?_
  refine lv_iconst (v := nI 2) hx hb dX0_several_6 (by decide +kernel) ?_
  refine lv_icmp_lt (tgt := 28) hx hb dX0_several_7 (by decide) (fun c_7 => ?_) (fun c_7 => ?_)
  · obtain ⟨hr0, hN0, hL0⟩ : r = -1 ∧ N' = N ∧ L' = L := by
      rcases hsp p hp with ⟨w9, a1, a2, a3, a4, _⟩ | ⟨_, h2⟩
      · exact absurd (a3 ▸ c_7) (nI_nlt a1 (by omega))
      · exact h2
    refine lv_iconst (v := (-1)) hx hb dX0_several_28 (by decide +kernel) ?_
    exact ow_ret (W.iret (v := ((-1))) hx hb hr (fun t ht hW => Or.inl ⟨⟨_, rfl⟩, (fun h9 => ol_at_no hp h9), ⟨((-1)), (nI N, f, g), rfl, ⟨hr0.symm, by rw [hN0], by rw [hN0, hL0]; exact hf, by rw [hN0, hL0]; exact hg⟩, by rw [ht]; exact hP, hD⟩, hS.F ht⟩) hS.2.2 dX0_several_29)
  · refine lv_iload_n hx hb dX0_several_10 rfl (lv_at hl 2 rfl) ?_
    refine lv_bipush (v := nI 64) hx hb dX0_several_11 (by decide +kernel) ?_
    refine lv_icmp_gt (tgt := 28) hx hb dX0_several_13 (by decide) (fun c_13 => ?_) (fun c_13 => ?_)
    · obtain ⟨hr0, hN0, hL0⟩ : r = -1 ∧ N' = N ∧ L' = L := by
        rcases hsp p hp with ⟨w9, a1, a2, a3, a4, _⟩ | ⟨_, h2⟩
        · exact absurd (a3 ▸ c_13) (nI_nlt a2 (by omega))
        · exact h2
      refine lv_iconst (v := (-1)) hx hb dX0_several_28 (by decide +kernel) ?_
      exact ow_ret (W.iret (v := ((-1))) hx hb hr (fun t ht hW => Or.inl ⟨⟨_, rfl⟩, (fun h9 => ol_at_no hp h9), ⟨((-1)), (nI N, f, g), rfl, ⟨hr0.symm, by rw [hN0], by rw [hN0, hL0]; exact hf, by rw [hN0, hL0]; exact hg⟩, by rw [ht]; exact hP, hD⟩, hS.F ht⟩) hS.2.2 dX0_several_29)
    · obtain ⟨w, hw1, hw2, hz⟩ := ol_two64 c_7 c_13
      refine lv_iload_n hx hb dX0_several_16 rfl (lv_at hl 2 rfl) ?_
      refine lv_sipush (v := nI 1000) hx hb dX0_several_17 (by decide +kernel) ?_
      refine lv_aload_n hx hb dX0_several_20 rfl (lv_at hl 0 rfl) ?_
      refine va_get (D := (dC, dI)) (ci := 0) (v := .int (nI N)) (C := RX0) (T := TX0) (N := 3) hx hb hts (by decide +kernel) hown hK hP 0 rfl rfl 2 (by decide) (hts (.fieldLink RX0 16 "OrderLine" "count" "I") (by decide +kernel)) (fun _ h9 => h9) rfl dX0_several_21 ?_
      refine lv_isub hx hb dX0_several_24 ?_
      refine ow_top (z := nI (1000 - N)) (pk_sub hN) ?_
      refine lv_icmp_le (tgt := 30) hx hb dX0_several_25 (by decide) (fun c_25 => ?_) (fun c_25 => ?_)
      · have hc := ol_le (by omega) (by omega) (hz ▸ c_25)
        obtain ⟨hr0, hN0, hL0⟩ : r = nI (ol_fr N L) ∧ N' = N + w ∧ L' = ol_many N L (p + 1) w := by
          rcases hsp p hp with ⟨w9, a1, a2, a3, a4, a5⟩ | ⟨h9, _⟩
          · rw [ol_eq (by omega) (by omega) (hz.symm.trans a3)]; exact a5
          · exact absurd hz (h9 w hw1 hw2 (by omega))
        refine lv_aload_n hx hb dX0_several_30 rfl (lv_at hl 0 rfl) ?_
        refine lv_iload_n hx hb dX0_several_31 rfl (lv_at hl 1 rfl) ?_
        refine lv_iload_n hx hb dX0_several_32 rfl (lv_at hl 2 rfl) ?_
        refine ow_top (z := nI w) hz ?_
        refine ow_calli (wr := []) (va_runV (As := [.int x, .int (nI w)]) (rest := []) ⟨hx, hb, hml, hown, hts⟩ (c_X_addBehind l dC dI h a b cA cB N L f g x p w _ ok hf hg hp (by omega) (by omega)) (cwV 2 hts gX0_several_X0_addBehind rfl rfl rfl (by decide +kernel) ⟨Nat.le_of_ble_eq_true rfl, Nat.le_of_ble_eq_true rfl⟩) (ow_PreV hK hP hD (ci := 0) (q0 := 0) rfl rfl) rfl rfl hl.1 rfl (lv_room (Nat.le_of_ble_eq_true rfl)) dX0_several_33 ⟨Nat.le_of_ble_eq_true rfl, Nat.le_of_ble_eq_true rfl⟩) hP hD hS hA [0, 1, 2] [] rfl rfl (by decide) (by decide) (fun r0 u H locs hw hP hD hS => ?_)
        obtain ⟨a1, f1, g1⟩ := u
        obtain ⟨er, e1, hf1, hg1⟩ := hw
        obtain rfl : nI (N + w) = a1 := e1.symm
        refine ow_top (z := nI (ol_fr N L)) er ?_
        have hP : va_P (dC, dI) vwCl [(h, .inr (0, [.ref a, .ref b, .int (nI (N + w))])), (a, .inl (cA, 1000, .inl f1)), (b, .inl (cB, 1000, .inl g1))] H := hP
        have hD : va_D A [(h, .inr (0, [.ref a, .ref b, .int (nI (N + w))])), (a, .inl (cA, 1000, .inl f1)), (b, .inl (cB, 1000, .inl g1))] := hD
        exact ow_ret (W.iret (v := (nI (ol_fr N L))) hx hb hr (fun t ht hW => Or.inl ⟨⟨_, rfl⟩, (fun h9 => ol_at_no hp h9), ⟨(nI (ol_fr N L)), (nI (N + w), f1, g1), rfl, ⟨hr0.symm, by rw [hN0], by rw [hN0, hL0]; exact hf1, by rw [hN0, hL0]; exact hg1⟩, by rw [ht]; exact hP, hD⟩, hS.F ht⟩) hS.2.2 dX0_several_36)
      · have hc := ol_nle (by omega) (by omega) (hz ▸ c_25)
        obtain ⟨hr0, hN0, hL0⟩ : r = -1 ∧ N' = N ∧ L' = L := by
          rcases hsp p hp with ⟨w9, a1, a2, a3, a4, _⟩ | ⟨_, h2⟩
          · have := ol_eq (by omega) (by omega) (hz.symm.trans a3); omega
          · exact h2
        refine lv_iconst (v := (-1)) hx hb dX0_several_28 (by decide +kernel) ?_
        exact ow_ret (W.iret (v := ((-1))) hx hb hr (fun t ht hW => Or.inl ⟨⟨_, rfl⟩, (fun h9 => ol_at_no hp h9), ⟨((-1)), (nI N, f, g), rfl, ⟨hr0.symm, by rw [hN0], by rw [hN0, hL0]; exact hf, by rw [hN0, hL0]; exact hg⟩, by rw [ht]; exact hP, hD⟩, hS.F ht⟩) hS.2.2 dX0_several_29)
set_option maxHeartbeats 4000000 in
set_option maxRecDepth 100000 in
/-- clear(x, y) -/
theorem c_X_clear (l : Launch) (dC : Nat → ClassId) (dI : Nat → Nat → Nat) (hfl : l.flags = flags0) (h a b : Nat) (cA cB : ClassId) (N : Nat) (L : Nat → Nat) (f g : Nat → Int32) (r : Int32) (N' : Nat) (L' : Nat → Nat) (sz : Nat) (ok : ol_ok N L) (hf : ol_f N L f) (hg : ol_g N L g) (x y : Int32) (hsp : ∀ p q, ol_at N L x p → ol_at N L y q → sp_cl N L p q r N' L') : ow_Met l yX0_clear wsX0_clear ({ frames := 7, cells := 1, slots := 6, locals := 103 }) (ow_Px (dC, dI) vwCl [(cA, .int), (cB, .int)] (wX h a b cA cB (nI N, f, g)) sz [.ref h, .int x, .int y]) (ow_Q "java/lang/IllegalArgumentException" (ol_no N L x ∨ ol_no N L y) (va_Qi (fun (r' : Int32) (u : Int32 × (Nat → Int32) × (Nat → Int32)) => r' = r ∧ u.1 = nI N' ∧ ol_f N' L' u.2.1 ∧ ol_g N' L' u.2.2) (ow_B (dC, dI) vwCl (wX h a b cA cB) (va_A (wX h a b cA cB (nI N, f, g)) sz)) (va_A (wX h a b cA cB (nI N, f, g)) sz))) 1 6 (va_A (wX h a b cA cB (nI N, f, g)) sz) := by
  refine ow_ofW (cc := cX0_clear) (maxL := 5) (ret := (some .int)) (by decide) rfl ?_
  intro pg ev s m args below meth cd s₁ B hml hv
  obtain ⟨rfl, hsz, hP, hK, hD0, hZ⟩ := hv
  have hx := B.exec
  have hb := B.bytes
  have hr := B.returns
  have hts := atoms_spec (ws := wsX0_clear) B.pre
  have hown : s.vm.findClass RX0 = some m.cls := findClass_of_methodNamed B.named
  have hlocks := B.notSynchronized
  have hemp := B.noHandlers (hts _ List.mem_cons_self)
  subst hsz
  have hD := hD0.self (sz := s.heap.size)
  generalize hAe : va_A (wX h a b cA cB (nI N, f, g)) s.heap.size = A at hD ⊢
  have hA : ∀ q : Nat, s.heap.size ≤ q → A q := fun q h => by rw [← hAe]; exact Or.inr h
  have hS : va_S A s.heap s.heap [] := va_S.rf
  have hD : va_D A [(h, .inr (0, [.ref a, .ref b, .int (nI N)])), (a, .inl (cA, 1000, .inl f)), (b, .inl (cB, 1000, .inl g))] := hD
  have hP : va_P (dC, dI) vwCl [(h, .inr (0, [.ref a, .ref b, .int (nI N)])), (a, .inl (cA, 1000, .inl f)), (b, .inl (cB, 1000, .inl g))] s.heap := hP
  have hl := lv_entry ([.ref h, .int x, .int y]) (n := 5) (Nat.le_of_ble_eq_true rfl)
  rw [lg_entry_eq]
  generalize (lg_sl ([.ref h, .int x, .int y]) ++ List.replicate (5 - (lg_sl ([.ref h, .int x, .int y])).length) Slot.unset).toArray = ls at hl ⊢
  have hl : lv_has ls 5 [(0, .ref h), (1, .int x), (2, .int y)] := hl
  have hN := ok.2.1
  refine lv_aload_n hx hb dX0_clear_0 rfl (lv_at hl 0 rfl) ?_
  refine lv_iload_n hx hb dX0_clear_1 rfl (lv_at hl 1 rfl) ?_
  refine ow_callD (okP := ∃ p, ol_at N L x p) (ow_runV (As := [.int x]) (rest := []) ⟨hx, hb, hml, hown, hts⟩ (c_X_demand l dC dI hfl h a b cA cB N L f g x ok hg) (cwV 1 hts gX0_clear_X0_demand rfl rfl rfl (by decide +kernel) ⟨Nat.le_of_ble_eq_true rfl, Nat.le_of_ble_eq_true rfl⟩) (ow_PreRx hK hP hZ (ci := 0) (q0 := 0) rfl rfl) rfl rfl hl.1 rfl (lv_room (Nat.le_of_ble_eq_true rfl)) dX0_clear_2 ⟨Nat.le_of_ble_eq_true rfl, Nat.le_of_ble_eq_true rfl⟩) (fun q h => by cases h) hemp hlocks (by decide) (by decide) Or.inl (fun hok => ?_)
  obtain ⟨p, hp⟩ := hok
  refine lv_aload_n hx hb dX0_clear_5 rfl (lv_at hl 0 rfl) ?_
  refine lv_iload_n hx hb dX0_clear_6 rfl (lv_at hl 2 rfl) ?_
  refine ow_callD (okP := ∃ p, ol_at N L y p) (ow_runV (As := [.int y]) (rest := []) ⟨hx, hb, hml, hown, hts⟩ (c_X_demand l dC dI hfl h a b cA cB N L f g y ok hg) (cwV 1 hts gX0_clear_X0_demand rfl rfl rfl (by decide +kernel) ⟨Nat.le_of_ble_eq_true rfl, Nat.le_of_ble_eq_true rfl⟩) (ow_PreRx hK hP hZ (ci := 0) (q0 := 0) rfl rfl) rfl rfl hl.1 rfl (lv_room (Nat.le_of_ble_eq_true rfl)) dX0_clear_7 ⟨Nat.le_of_ble_eq_true rfl, Nat.le_of_ble_eq_true rfl⟩) (fun q h => by cases h) hemp hlocks (by decide) (by decide) Or.inr (fun hok => ?_)
  obtain ⟨q, hq⟩ := hok
  have hpN : p < N := hp.1
  have hqN : q < N := hq.1
  obtain ⟨hr0, hN0, hL0⟩ := hsp p q hp hq
  refine lv_aload_n hx hb dX0_clear_10 rfl (lv_at hl 0 rfl) ?_
  refine va_get (D := (dC, dI)) (ci := 0) (v := .ref b) (C := RX0) (T := TX0) (N := 3) hx hb hts (by decide +kernel) hown hK hP 0 rfl rfl 1 (by decide) (hts (.fieldLink RX0 13 "OrderLine" "places" "[I") (by decide +kernel)) (fun _ h9 => h9) rfl dX0_clear_11 ?_
  refine lv_iload_n hx hb dX0_clear_14 rfl (lv_at hl 1 rfl) ?_
  refine ow_top (z := nI (L p)) hp.2 ?_
  refine ow_iald (k := L p) (v := nI p) hx hb hK hP 2 1 rfl rfl (ok.2.2.2.1 p hp.1) (by decide) (hg.1 p hp.1) dX0_clear_15 ?_
  refine lv_iconst (v := 1) hx hb dX0_clear_16 (by decide +kernel) ?_
  refine lv_iadd hx hb dX0_clear_17 ?_
  refine ow_top (z := nI (p + 1)) (nI_1 p) ?_
  refine lv_istore_n (lv' := [(3, .int (nI (p + 1))), (0, .ref h), (1, .int x), (2, .int y)]) hx hb dX0_clear_18 rfl hl (by decide) rfl (fun ls hl => ?_)
  refine lv_aload_n hx hb dX0_clear_19 rfl (lv_at hl 1 rfl) ?_
  refine va_get (D := (dC, dI)) (ci := 0) (v := .ref b) (C := RX0) (T := TX0) (N := 3) hx hb hts (by decide +kernel) hown hK hP 0 rfl rfl 1 (by decide) (hts (.fieldLink RX0 13 "OrderLine" "places" "[I") (by decide +kernel)) (fun _ h9 => h9) rfl dX0_clear_20 ?_
  refine lv_iload_n hx hb dX0_clear_23 rfl (lv_at hl 3 rfl) ?_
  refine ow_top (z := nI (L q)) hq.2 ?_
  refine ow_iald (k := L q) (v := nI q) hx hb hK hP 2 1 rfl rfl (ok.2.2.2.1 q hq.1) (by decide) (hg.1 q hq.1) dX0_clear_24 ?_
  refine lv_istore (lv' := [(4, .int (nI q)), (3, .int (nI (p + 1))), (0, .ref h), (1, .int x), (2, .int y)]) hx hb dX0_clear_25 hl (by decide) rfl (fun ls hl => ?_)
  refine lv_iload_n hx hb dX0_clear_27 rfl (lv_at hl 1 rfl) ?_
  refine lv_iload hx hb dX0_clear_28 (lv_at hl 0 rfl) ?_
  refine lv_icmp_lt (tgt := 35) hx hb dX0_clear_30 (by decide) (fun c_30 => ?_) (fun c_30 => ?_)
  · have hc := ol_lt (by omega) (by omega) c_30
    obtain ⟨w, hw⟩ : ∃ w, q = p + 1 + w := ⟨q - (p + 1), by omega⟩
    have hwq : q - (p + 1) = w := by omega
    rw [hwq] at hr0 hN0 hL0
    refine lv_aload_n hx hb dX0_clear_35 rfl (lv_at hl 2 rfl) ?_
    refine lv_iload_n hx hb dX0_clear_36 rfl (lv_at hl 1 rfl) ?_
    refine lv_iload hx hb dX0_clear_37 (lv_at hl 0 rfl) ?_
    refine ow_top (z := nI (p + 1 + w)) (by rw [hw]) ?_
    refine ow_callv (wr := []) (va_runV (As := [.int (nI (p + 1)), .int (nI (p + 1 + w))]) (rest := []) ⟨hx, hb, hml, hown, hts⟩ (c_X_takeOut l dC dI h a b cA cB N L f g (p + 1) w _ ok hf hg (by omega) (by omega)) (cwV 2 hts gX0_clear_X0_takeOut rfl rfl rfl (by decide +kernel) ⟨Nat.le_of_ble_eq_true rfl, Nat.le_of_ble_eq_true rfl⟩) (ow_PreV hK hP hD (ci := 0) (q0 := 0) rfl rfl) rfl rfl hl.1 rfl (lv_room (Nat.le_of_ble_eq_true rfl)) dX0_clear_39 ⟨Nat.le_of_ble_eq_true rfl, Nat.le_of_ble_eq_true rfl⟩) hP hD hS hA [0, 1, 2] [] rfl rfl (by decide) (by decide) (fun u H locs hw hP hD hS => ?_)
    obtain ⟨a1, f1, g1⟩ := u
    obtain ⟨e1, hf1, hg1⟩ := hw
    obtain rfl : nI (N - w) = a1 := e1.symm
    have hP : va_P (dC, dI) vwCl [(h, .inr (0, [.ref a, .ref b, .int (nI (N - w))])), (a, .inl (cA, 1000, .inl f1)), (b, .inl (cB, 1000, .inl g1))] H := hP
    have hD : va_D A [(h, .inr (0, [.ref a, .ref b, .int (nI (N - w))])), (a, .inl (cA, 1000, .inl f1)), (b, .inl (cB, 1000, .inl g1))] := hD
    refine lv_iload hx hb dX0_clear_42 (lv_at hl 0 rfl) ?_
    refine lv_iload_n hx hb dX0_clear_44 rfl (lv_at hl 1 rfl) ?_
    refine lv_isub hx hb dX0_clear_45 ?_
    refine ow_top (z := nI w) (by rw [pk_sub (by omega), hwq]) ?_
    exact ow_ret (W.iret (v := (nI w)) hx hb hr (fun t ht hW => Or.inl ⟨⟨_, rfl⟩, (fun h9 => h9.elim (ol_at_no hp) (ol_at_no hq)), ⟨(nI w), (nI (N - w), f1, g1), rfl, ⟨hr0.symm, by rw [hN0], by rw [hN0, hL0]; exact hf1, by rw [hN0, hL0]; exact hg1⟩, by rw [ht]; exact hP, hD⟩, hS.F ht⟩) hS.2.2 dX0_clear_46)
  · have hc := ol_nlt (by omega) (by omega) c_30
    have hwq : q - (p + 1) = 0 := by omega
    rw [hwq] at hr0 hN0 hL0
    rw [ol_rem_0] at hL0
    rw [Nat.sub_zero] at hN0
    rw [nI_0] at hr0
    refine lv_iconst (v := 0) hx hb dX0_clear_33 (by decide +kernel) ?_
    exact ow_ret (W.iret (v := 0) hx hb hr (fun t ht hW => Or.inl ⟨⟨_, rfl⟩, (fun h9 => h9.elim (ol_at_no hp) (ol_at_no hq)), ⟨0, (nI N, f, g), rfl, ⟨hr0.symm, by rw [hN0], by rw [hN0, hL0]; exact hf, by rw [hN0, hL0]; exact hg⟩, by rw [ht]; exact hP, hD⟩, hS.F ht⟩) hS.2.2 dX0_clear_34)
set_option maxHeartbeats 4000000 in
set_option maxRecDepth 100000 in
/-- carry(x, y, z) -/
theorem c_X_carry (l : Launch) (dC : Nat → ClassId) (dI : Nat → Nat → Nat) (hfl : l.flags = flags0) (h a b : Nat) (cA cB : ClassId) (N : Nat) (L : Nat → Nat) (f g : Nat → Int32) (r : Int32) (N' : Nat) (L' : Nat → Nat) (sz : Nat) (ok : ol_ok N L) (hf : ol_f N L f) (hg : ol_g N L g) (x y z : Int32) (hsp : ∀ p q o, ol_at N L x p → ol_at N L y q → ol_at N L z o → sp_cr N L p q o r N' L') : ow_Met l yX0_carry wsX0_carry ({ frames := 7, cells := 1, slots := 6, locals := 103 }) (ow_Px (dC, dI) vwCl [(cA, .int), (cB, .int)] (wX h a b cA cB (nI N, f, g)) sz [.ref h, .int x, .int y, .int z]) (ow_Q "java/lang/IllegalArgumentException" (ol_no N L x ∨ ol_no N L y ∨ ol_no N L z) (va_Qi (fun (r' : Int32) (u : Int32 × (Nat → Int32) × (Nat → Int32)) => r' = r ∧ u.1 = nI N' ∧ ol_f N' L' u.2.1 ∧ ol_g N' L' u.2.2) (ow_B (dC, dI) vwCl (wX h a b cA cB) (va_A (wX h a b cA cB (nI N, f, g)) sz)) (va_A (wX h a b cA cB (nI N, f, g)) sz))) 1 6 (va_A (wX h a b cA cB (nI N, f, g)) sz) := by
  refine ow_ofW (cc := cX0_carry) (maxL := 7) (ret := (some .int)) (by decide) rfl ?_
  intro pg ev s m args below meth cd s₁ B hml hv
  obtain ⟨rfl, hsz, hP, hK, hD0, hZ⟩ := hv
  have hx := B.exec
  have hb := B.bytes
  have hr := B.returns
  have hts := atoms_spec (ws := wsX0_carry) B.pre
  have hown : s.vm.findClass RX0 = some m.cls := findClass_of_methodNamed B.named
  have hlocks := B.notSynchronized
  have hemp := B.noHandlers (hts _ List.mem_cons_self)
  subst hsz
  have hD := hD0.self (sz := s.heap.size)
  generalize hAe : va_A (wX h a b cA cB (nI N, f, g)) s.heap.size = A at hD ⊢
  have hA : ∀ q : Nat, s.heap.size ≤ q → A q := fun q h => by rw [← hAe]; exact Or.inr h
  have hS : va_S A s.heap s.heap [] := va_S.rf
  have hD : va_D A [(h, .inr (0, [.ref a, .ref b, .int (nI N)])), (a, .inl (cA, 1000, .inl f)), (b, .inl (cB, 1000, .inl g))] := hD
  have hP : va_P (dC, dI) vwCl [(h, .inr (0, [.ref a, .ref b, .int (nI N)])), (a, .inl (cA, 1000, .inl f)), (b, .inl (cB, 1000, .inl g))] s.heap := hP
  have hl := lv_entry ([.ref h, .int x, .int y, .int z]) (n := 7) (Nat.le_of_ble_eq_true rfl)
  rw [lg_entry_eq]
  generalize (lg_sl ([.ref h, .int x, .int y, .int z]) ++ List.replicate (7 - (lg_sl ([.ref h, .int x, .int y, .int z])).length) Slot.unset).toArray = ls at hl ⊢
  have hl : lv_has ls 7 [(0, .ref h), (1, .int x), (2, .int y), (3, .int z)] := hl
  have hN := ok.2.1
  refine lv_aload_n hx hb dX0_carry_0 rfl (lv_at hl 0 rfl) ?_
  refine lv_iload_n hx hb dX0_carry_1 rfl (lv_at hl 1 rfl) ?_
  refine ow_callD (okP := ∃ p, ol_at N L x p) (ow_runV (As := [.int x]) (rest := []) ⟨hx, hb, hml, hown, hts⟩ (c_X_demand l dC dI hfl h a b cA cB N L f g x ok hg) (cwV 1 hts gX0_carry_X0_demand rfl rfl rfl (by decide +kernel) ⟨Nat.le_of_ble_eq_true rfl, Nat.le_of_ble_eq_true rfl⟩) (ow_PreRx hK hP hZ (ci := 0) (q0 := 0) rfl rfl) rfl rfl hl.1 rfl (lv_room (Nat.le_of_ble_eq_true rfl)) dX0_carry_2 ⟨Nat.le_of_ble_eq_true rfl, Nat.le_of_ble_eq_true rfl⟩) (fun q h => by cases h) hemp hlocks (by decide) (by decide) Or.inl (fun hok => ?_)
  obtain ⟨p, hp⟩ := hok
  refine lv_aload_n hx hb dX0_carry_5 rfl (lv_at hl 0 rfl) ?_
  refine lv_iload_n hx hb dX0_carry_6 rfl (lv_at hl 2 rfl) ?_
  refine ow_callD (okP := ∃ p, ol_at N L y p) (ow_runV (As := [.int y]) (rest := []) ⟨hx, hb, hml, hown, hts⟩ (c_X_demand l dC dI hfl h a b cA cB N L f g y ok hg) (cwV 1 hts gX0_carry_X0_demand rfl rfl rfl (by decide +kernel) ⟨Nat.le_of_ble_eq_true rfl, Nat.le_of_ble_eq_true rfl⟩) (ow_PreRx hK hP hZ (ci := 0) (q0 := 0) rfl rfl) rfl rfl hl.1 rfl (lv_room (Nat.le_of_ble_eq_true rfl)) dX0_carry_7 ⟨Nat.le_of_ble_eq_true rfl, Nat.le_of_ble_eq_true rfl⟩) (fun q h => by cases h) hemp hlocks (by decide) (by decide) (fun h9 => Or.inr (Or.inl h9)) (fun hok => ?_)
  obtain ⟨q, hq⟩ := hok
  refine lv_aload_n hx hb dX0_carry_10 rfl (lv_at hl 0 rfl) ?_
  refine lv_iload_n hx hb dX0_carry_11 rfl (lv_at hl 3 rfl) ?_
  refine ow_callD (okP := ∃ p, ol_at N L z p) (ow_runV (As := [.int z]) (rest := []) ⟨hx, hb, hml, hown, hts⟩ (c_X_demand l dC dI hfl h a b cA cB N L f g z ok hg) (cwV 1 hts gX0_carry_X0_demand rfl rfl rfl (by decide +kernel) ⟨Nat.le_of_ble_eq_true rfl, Nat.le_of_ble_eq_true rfl⟩) (ow_PreRx hK hP hZ (ci := 0) (q0 := 0) rfl rfl) rfl rfl hl.1 rfl (lv_room (Nat.le_of_ble_eq_true rfl)) dX0_carry_12 ⟨Nat.le_of_ble_eq_true rfl, Nat.le_of_ble_eq_true rfl⟩) (fun q h => by cases h) hemp hlocks (by decide) (by decide) (fun h9 => Or.inr (Or.inr h9)) (fun hok => ?_)
  obtain ⟨o, ho⟩ := hok
  have hpN : p < N := hp.1
  have hqN : q < N := hq.1
  have hoN : o < N := ho.1
  obtain ⟨hN0, hs2⟩ := hsp p q o hp hq ho
  refine lv_aload_n hx hb dX0_carry_15 rfl (lv_at hl 0 rfl) ?_
  refine va_get (D := (dC, dI)) (ci := 0) (v := .ref b) (C := RX0) (T := TX0) (N := 3) hx hb hts (by decide +kernel) hown hK hP 0 rfl rfl 1 (by decide) (hts (.fieldLink RX0 13 "OrderLine" "places" "[I") (by decide +kernel)) (fun _ h9 => h9) rfl dX0_carry_16 ?_
  refine lv_iload_n hx hb dX0_carry_19 rfl (lv_at hl 1 rfl) ?_
  refine ow_top (z := nI (L p)) hp.2 ?_
  refine ow_iald (k := L p) (v := nI p) hx hb hK hP 2 1 rfl rfl (ok.2.2.2.1 p hp.1) (by decide) (hg.1 p hp.1) dX0_carry_20 ?_
  refine lv_iconst (v := 1) hx hb dX0_carry_21 (by decide +kernel) ?_
  refine lv_iadd hx hb dX0_carry_22 ?_
  refine ow_top (z := nI (p + 1)) (nI_1 p) ?_
  refine lv_istore (lv' := [(4, .int (nI (p + 1))), (0, .ref h), (1, .int x), (2, .int y), (3, .int z)]) hx hb dX0_carry_23 hl (by decide) rfl (fun ls hl => ?_)
  refine lv_aload_n hx hb dX0_carry_25 rfl (lv_at hl 1 rfl) ?_
  refine va_get (D := (dC, dI)) (ci := 0) (v := .ref b) (C := RX0) (T := TX0) (N := 3) hx hb hts (by decide +kernel) hown hK hP 0 rfl rfl 1 (by decide) (hts (.fieldLink RX0 13 "OrderLine" "places" "[I") (by decide +kernel)) (fun _ h9 => h9) rfl dX0_carry_26 ?_
  refine lv_iload_n hx hb dX0_carry_29 rfl (lv_at hl 3 rfl) ?_
  refine ow_top (z := nI (L q)) hq.2 ?_
  refine ow_iald (k := L q) (v := nI q) hx hb hK hP 2 1 rfl rfl (ok.2.2.2.1 q hq.1) (by decide) (hg.1 q hq.1) dX0_carry_30 ?_
  refine lv_istore (lv' := [(5, .int (nI q)), (4, .int (nI (p + 1))), (0, .ref h), (1, .int x), (2, .int y), (3, .int z)]) hx hb dX0_carry_31 hl (by decide) rfl (fun ls hl => ?_)
  refine lv_aload_n hx hb dX0_carry_33 rfl (lv_at hl 2 rfl) ?_
  refine va_get (D := (dC, dI)) (ci := 0) (v := .ref b) (C := RX0) (T := TX0) (N := 3) hx hb hts (by decide +kernel) hown hK hP 0 rfl rfl 1 (by decide) (hts (.fieldLink RX0 13 "OrderLine" "places" "[I") (by decide +kernel)) (fun _ h9 => h9) rfl dX0_carry_34 ?_
  refine lv_iload_n hx hb dX0_carry_37 rfl (lv_at hl 5 rfl) ?_
  refine ow_top (z := nI (L o)) ho.2 ?_
  refine ow_iald (k := L o) (v := nI o) hx hb hK hP 2 1 rfl rfl (ok.2.2.2.1 o ho.1) (by decide) (hg.1 o ho.1) dX0_carry_38 ?_
  refine lv_istore (lv' := [(6, .int (nI o)), (5, .int (nI q)), (4, .int (nI (p + 1))), (0, .ref h), (1, .int x), (2, .int y), (3, .int z)]) hx hb dX0_carry_39 hl (by decide) rfl (fun ls hl => ?_)
  refine lv_iload hx hb dX0_carry_41 (lv_at hl 2 rfl) ?_
  refine lv_iload hx hb dX0_carry_43 (lv_at hl 1 rfl) ?_
  refine lv_icmp_gt (tgt := 62) hx hb dX0_carry_45 (by decide) (fun c_45 => ?_) (fun c_45 => ?_)
  · have hpq := ol_lt (by omega) (by omega) c_45
    obtain ⟨hr0, hL0⟩ : r = -1 ∧ L' = L := by
      rcases hs2 with ⟨_, h2⟩ | ⟨h1, h2, _⟩ | ⟨h1, h2, _⟩
      · exact h2
      · exact absurd h1 (by omega)
      · exact absurd h1 (by omega)
    refine lv_iconst (v := (-1)) hx hb dX0_carry_62 (by decide +kernel) ?_
    exact ow_ret (W.iret (v := ((-1))) hx hb hr (fun t ht hW => Or.inl ⟨⟨_, rfl⟩, (fun h9 => h9.elim (ol_at_no hp) (fun h8 => h8.elim (ol_at_no hq) (ol_at_no ho))), ⟨((-1)), (nI N, f, g), rfl, ⟨hr0.symm, by rw [hN0], by rw [hN0, hL0]; exact hf, by rw [hN0, hL0]; exact hg⟩, by rw [ht]; exact hP, hD⟩, hS.F ht⟩) hS.2.2 dX0_carry_63)
  · have hpq := ol_nlt (by omega) (by omega) c_45
    refine lv_iload hx hb dX0_carry_48 (lv_at hl 2 rfl) ?_
    refine lv_iload hx hb dX0_carry_50 (lv_at hl 0 rfl) ?_
    refine lv_icmp_gt (tgt := 64) hx hb dX0_carry_52 (by decide) (fun c_52 => ?_) (fun c_52 => ?_)
    · have hop := ol_lt (by omega) (by omega) c_52
      refine lv_iload hx hb dX0_carry_64 (lv_at hl 0 rfl) ?_
      refine lv_iload hx hb dX0_carry_66 (lv_at hl 2 rfl) ?_
      refine lv_icmp_ge (tgt := 86) hx hb dX0_carry_68 (by decide) (fun c_68 => ?_) (fun c_68 => ?_)
      · have hcz := ol_le (by omega) (by omega) c_68
        obtain ⟨hr0, hL0⟩ : r = nI (q - p - 1) ∧ L' = ol_swp L (p + 1) q (o + 1) := by
          rcases hs2 with ⟨h1, _⟩ | ⟨_, h1, _⟩ | ⟨_, _, h2⟩
          · exact absurd h1 (by omega)
          · exact absurd h1 (by omega)
          · exact h2
        refine lv_aload_n hx hb dX0_carry_86 rfl (lv_at hl 3 rfl) ?_
        refine lv_iload hx hb dX0_carry_87 (lv_at hl 2 rfl) ?_
        refine lv_iload hx hb dX0_carry_89 (lv_at hl 1 rfl) ?_
        refine lv_iload hx hb dX0_carry_91 (lv_at hl 0 rfl) ?_
        refine lv_iconst (v := 1) hx hb dX0_carry_93 (by decide +kernel) ?_
        refine lv_iadd hx hb dX0_carry_94 ?_
        refine ow_top (z := nI (o + 1)) (nI_1 o) ?_
        refine ow_callv (wr := []) (va_runV (As := [.int (nI (p + 1)), .int (nI q), .int (nI (o + 1))]) (rest := []) ⟨hx, hb, hml, hown, hts⟩ (c_X_swapBlocks l dC dI h a b cA cB N L f g (p + 1) q (o + 1) _ ok hf hg (by omega) (by omega) (by omega) (by omega)) (cwV 3 hts gX0_carry_X0_swapBlocks rfl rfl rfl (by decide +kernel) ⟨Nat.le_of_ble_eq_true rfl, Nat.le_of_ble_eq_true rfl⟩) (ow_PreV hK hP hD (ci := 0) (q0 := 0) rfl rfl) rfl rfl hl.1 rfl (lv_room (Nat.le_of_ble_eq_true rfl)) dX0_carry_95 ⟨Nat.le_of_ble_eq_true rfl, Nat.le_of_ble_eq_true rfl⟩) hP hD hS hA [0, 1, 2] [] rfl rfl (by decide) (by decide) (fun u H locs hw hP hD hS => ?_)
        obtain ⟨a1, f1, g1⟩ := u
        obtain ⟨e1, hf1, hg1⟩ := hw
        obtain rfl : nI N = a1 := e1.symm
        rw [← hL0] at hf1 hg1
        have hP : va_P (dC, dI) vwCl [(h, .inr (0, [.ref a, .ref b, .int (nI N)])), (a, .inl (cA, 1000, .inl f1)), (b, .inl (cB, 1000, .inl g1))] H := hP
        have hD : va_D A [(h, .inr (0, [.ref a, .ref b, .int (nI N)])), (a, .inl (cA, 1000, .inl f1)), (b, .inl (cB, 1000, .inl g1))] := hD
        refine lv_iload hx hb dX0_carry_98 (lv_at hl 1 rfl) ?_
        refine lv_iload hx hb dX0_carry_100 (lv_at hl 2 rfl) ?_
        refine lv_isub hx hb dX0_carry_102 ?_
        refine ow_top (z := nI (q - p - 1)) (by rw [pk_sub (by omega), show q - (p + 1) = q - p - 1 by omega]) ?_
        exact ow_ret (W.iret (v := (nI (q - p - 1))) hx hb hr (fun t ht hW => Or.inl ⟨⟨_, rfl⟩, (fun h9 => h9.elim (ol_at_no hp) (fun h8 => h8.elim (ol_at_no hq) (ol_at_no ho))), ⟨(nI (q - p - 1)), (nI N, f1, g1), rfl, ⟨hr0.symm, by rw [hN0], by rw [hN0]; exact hf1, by rw [hN0]; exact hg1⟩, by rw [ht]; exact hP, hD⟩, hS.F ht⟩) hS.2.2 dX0_carry_103)
      · have hcz := ol_nle (by omega) (by omega) c_68
        obtain ⟨hr0, hL0⟩ : r = nI (q - p - 1) ∧ L' = ol_swp L (o + 1) (p + 1) q := by
          rcases hs2 with ⟨h1, _⟩ | ⟨_, _, h2⟩ | ⟨_, h1, _⟩
          · exact absurd h1 (by omega)
          · exact h2
          · exact absurd h1 (by omega)
        refine lv_aload_n hx hb dX0_carry_71 rfl (lv_at hl 3 rfl) ?_
        refine lv_iload hx hb dX0_carry_72 (lv_at hl 0 rfl) ?_
        refine lv_iconst (v := 1) hx hb dX0_carry_74 (by decide +kernel) ?_
        refine lv_iadd hx hb dX0_carry_75 ?_
        refine ow_top (z := nI (o + 1)) (nI_1 o) ?_
        refine lv_iload hx hb dX0_carry_76 (lv_at hl 2 rfl) ?_
        refine lv_iload hx hb dX0_carry_78 (lv_at hl 1 rfl) ?_
        refine ow_callv (wr := []) (va_runV (As := [.int (nI (o + 1)), .int (nI (p + 1)), .int (nI q)]) (rest := []) ⟨hx, hb, hml, hown, hts⟩ (c_X_swapBlocks l dC dI h a b cA cB N L f g (o + 1) (p + 1) q _ ok hf hg (by omega) (by omega) (by omega) (by omega)) (cwV 3 hts gX0_carry_X0_swapBlocks rfl rfl rfl (by decide +kernel) ⟨Nat.le_of_ble_eq_true rfl, Nat.le_of_ble_eq_true rfl⟩) (ow_PreV hK hP hD (ci := 0) (q0 := 0) rfl rfl) rfl rfl hl.1 rfl (lv_room (Nat.le_of_ble_eq_true rfl)) dX0_carry_80 ⟨Nat.le_of_ble_eq_true rfl, Nat.le_of_ble_eq_true rfl⟩) hP hD hS hA [0, 1, 2] [] rfl rfl (by decide) (by decide) (fun u H locs hw hP hD hS => ?_)
        obtain ⟨a1, f1, g1⟩ := u
        obtain ⟨e1, hf1, hg1⟩ := hw
        obtain rfl : nI N = a1 := e1.symm
        rw [← hL0] at hf1 hg1
        have hP : va_P (dC, dI) vwCl [(h, .inr (0, [.ref a, .ref b, .int (nI N)])), (a, .inl (cA, 1000, .inl f1)), (b, .inl (cB, 1000, .inl g1))] H := hP
        have hD : va_D A [(h, .inr (0, [.ref a, .ref b, .int (nI N)])), (a, .inl (cA, 1000, .inl f1)), (b, .inl (cB, 1000, .inl g1))] := hD
        refine lv_goto (tgt := 98) hx hb dX0_carry_83 (by decide) ?_
        refine lv_iload hx hb dX0_carry_98 (lv_at hl 1 rfl) ?_
        refine lv_iload hx hb dX0_carry_100 (lv_at hl 2 rfl) ?_
        refine lv_isub hx hb dX0_carry_102 ?_
        refine ow_top (z := nI (q - p - 1)) (by rw [pk_sub (by omega), show q - (p + 1) = q - p - 1 by omega]) ?_
        exact ow_ret (W.iret (v := (nI (q - p - 1))) hx hb hr (fun t ht hW => Or.inl ⟨⟨_, rfl⟩, (fun h9 => h9.elim (ol_at_no hp) (fun h8 => h8.elim (ol_at_no hq) (ol_at_no ho))), ⟨(nI (q - p - 1)), (nI N, f1, g1), rfl, ⟨hr0.symm, by rw [hN0], by rw [hN0]; exact hf1, by rw [hN0]; exact hg1⟩, by rw [ht]; exact hP, hD⟩, hS.F ht⟩) hS.2.2 dX0_carry_103)
    · have hop := ol_nlt (by omega) (by omega) c_52
      refine lv_iload hx hb dX0_carry_55 (lv_at hl 0 rfl) ?_
      refine lv_iload hx hb dX0_carry_57 (lv_at hl 1 rfl) ?_
      refine lv_icmp_ge (tgt := 64) hx hb dX0_carry_59 (by decide) (fun c_59 => ?_) (fun c_59 => ?_)
      · have hoq := ol_le (by omega) (by omega) c_59
        refine lv_iload hx hb dX0_carry_64 (lv_at hl 0 rfl) ?_
        refine lv_iload hx hb dX0_carry_66 (lv_at hl 2 rfl) ?_
        refine lv_icmp_ge (tgt := 86) hx hb dX0_carry_68 (by decide) (fun c_68 => ?_) (fun c_68 => ?_)
        · have hcz := ol_le (by omega) (by omega) c_68
          obtain ⟨hr0, hL0⟩ : r = nI (q - p - 1) ∧ L' = ol_swp L (p + 1) q (o + 1) := by
            rcases hs2 with ⟨h1, _⟩ | ⟨_, h1, _⟩ | ⟨_, _, h2⟩
            · exact absurd h1 (by omega)
            · exact absurd h1 (by omega)
            · exact h2
          refine lv_aload_n hx hb dX0_carry_86 rfl (lv_at hl 3 rfl) ?_
          refine lv_iload hx hb dX0_carry_87 (lv_at hl 2 rfl) ?_
          refine lv_iload hx hb dX0_carry_89 (lv_at hl 1 rfl) ?_
          refine lv_iload hx hb dX0_carry_91 (lv_at hl 0 rfl) ?_
          refine lv_iconst (v := 1) hx hb dX0_carry_93 (by decide +kernel) ?_
          refine lv_iadd hx hb dX0_carry_94 ?_
          refine ow_top (z := nI (o + 1)) (nI_1 o) ?_
          refine ow_callv (wr := []) (va_runV (As := [.int (nI (p + 1)), .int (nI q), .int (nI (o + 1))]) (rest := []) ⟨hx, hb, hml, hown, hts⟩ (c_X_swapBlocks l dC dI h a b cA cB N L f g (p + 1) q (o + 1) _ ok hf hg (by omega) (by omega) (by omega) (by omega)) (cwV 3 hts gX0_carry_X0_swapBlocks rfl rfl rfl (by decide +kernel) ⟨Nat.le_of_ble_eq_true rfl, Nat.le_of_ble_eq_true rfl⟩) (ow_PreV hK hP hD (ci := 0) (q0 := 0) rfl rfl) rfl rfl hl.1 rfl (lv_room (Nat.le_of_ble_eq_true rfl)) dX0_carry_95 ⟨Nat.le_of_ble_eq_true rfl, Nat.le_of_ble_eq_true rfl⟩) hP hD hS hA [0, 1, 2] [] rfl rfl (by decide) (by decide) (fun u H locs hw hP hD hS => ?_)
          obtain ⟨a1, f1, g1⟩ := u
          obtain ⟨e1, hf1, hg1⟩ := hw
          obtain rfl : nI N = a1 := e1.symm
          rw [← hL0] at hf1 hg1
          have hP : va_P (dC, dI) vwCl [(h, .inr (0, [.ref a, .ref b, .int (nI N)])), (a, .inl (cA, 1000, .inl f1)), (b, .inl (cB, 1000, .inl g1))] H := hP
          have hD : va_D A [(h, .inr (0, [.ref a, .ref b, .int (nI N)])), (a, .inl (cA, 1000, .inl f1)), (b, .inl (cB, 1000, .inl g1))] := hD
          refine lv_iload hx hb dX0_carry_98 (lv_at hl 1 rfl) ?_
          refine lv_iload hx hb dX0_carry_100 (lv_at hl 2 rfl) ?_
          refine lv_isub hx hb dX0_carry_102 ?_
          refine ow_top (z := nI (q - p - 1)) (by rw [pk_sub (by omega), show q - (p + 1) = q - p - 1 by omega]) ?_
          exact ow_ret (W.iret (v := (nI (q - p - 1))) hx hb hr (fun t ht hW => Or.inl ⟨⟨_, rfl⟩, (fun h9 => h9.elim (ol_at_no hp) (fun h8 => h8.elim (ol_at_no hq) (ol_at_no ho))), ⟨(nI (q - p - 1)), (nI N, f1, g1), rfl, ⟨hr0.symm, by rw [hN0], by rw [hN0]; exact hf1, by rw [hN0]; exact hg1⟩, by rw [ht]; exact hP, hD⟩, hS.F ht⟩) hS.2.2 dX0_carry_103)
        · have hcz := ol_nle (by omega) (by omega) c_68
          obtain ⟨hr0, hL0⟩ : r = nI (q - p - 1) ∧ L' = ol_swp L (o + 1) (p + 1) q := by
            rcases hs2 with ⟨h1, _⟩ | ⟨_, _, h2⟩ | ⟨_, h1, _⟩
            · exact absurd h1 (by omega)
            · exact h2
            · exact absurd h1 (by omega)
          refine lv_aload_n hx hb dX0_carry_71 rfl (lv_at hl 3 rfl) ?_
          refine lv_iload hx hb dX0_carry_72 (lv_at hl 0 rfl) ?_
          refine lv_iconst (v := 1) hx hb dX0_carry_74 (by decide +kernel) ?_
          refine lv_iadd hx hb dX0_carry_75 ?_
          refine ow_top (z := nI (o + 1)) (nI_1 o) ?_
          refine lv_iload hx hb dX0_carry_76 (lv_at hl 2 rfl) ?_
          refine lv_iload hx hb dX0_carry_78 (lv_at hl 1 rfl) ?_
          refine ow_callv (wr := []) (va_runV (As := [.int (nI (o + 1)), .int (nI (p + 1)), .int (nI q)]) (rest := []) ⟨hx, hb, hml, hown, hts⟩ (c_X_swapBlocks l dC dI h a b cA cB N L f g (o + 1) (p + 1) q _ ok hf hg (by omega) (by omega) (by omega) (by omega)) (cwV 3 hts gX0_carry_X0_swapBlocks rfl rfl rfl (by decide +kernel) ⟨Nat.le_of_ble_eq_true rfl, Nat.le_of_ble_eq_true rfl⟩) (ow_PreV hK hP hD (ci := 0) (q0 := 0) rfl rfl) rfl rfl hl.1 rfl (lv_room (Nat.le_of_ble_eq_true rfl)) dX0_carry_80 ⟨Nat.le_of_ble_eq_true rfl, Nat.le_of_ble_eq_true rfl⟩) hP hD hS hA [0, 1, 2] [] rfl rfl (by decide) (by decide) (fun u H locs hw hP hD hS => ?_)
          obtain ⟨a1, f1, g1⟩ := u
          obtain ⟨e1, hf1, hg1⟩ := hw
          obtain rfl : nI N = a1 := e1.symm
          rw [← hL0] at hf1 hg1
          have hP : va_P (dC, dI) vwCl [(h, .inr (0, [.ref a, .ref b, .int (nI N)])), (a, .inl (cA, 1000, .inl f1)), (b, .inl (cB, 1000, .inl g1))] H := hP
          have hD : va_D A [(h, .inr (0, [.ref a, .ref b, .int (nI N)])), (a, .inl (cA, 1000, .inl f1)), (b, .inl (cB, 1000, .inl g1))] := hD
          refine lv_goto (tgt := 98) hx hb dX0_carry_83 (by decide) ?_
          refine lv_iload hx hb dX0_carry_98 (lv_at hl 1 rfl) ?_
          refine lv_iload hx hb dX0_carry_100 (lv_at hl 2 rfl) ?_
          refine lv_isub hx hb dX0_carry_102 ?_
          refine ow_top (z := nI (q - p - 1)) (by rw [pk_sub (by omega), show q - (p + 1) = q - p - 1 by omega]) ?_
          exact ow_ret (W.iret (v := (nI (q - p - 1))) hx hb hr (fun t ht hW => Or.inl ⟨⟨_, rfl⟩, (fun h9 => h9.elim (ol_at_no hp) (fun h8 => h8.elim (ol_at_no hq) (ol_at_no ho))), ⟨(nI (q - p - 1)), (nI N, f1, g1), rfl, ⟨hr0.symm, by rw [hN0], by rw [hN0]; exact hf1, by rw [hN0]; exact hg1⟩, by rw [ht]; exact hP, hD⟩, hS.F ht⟩) hS.2.2 dX0_carry_103)
      · have hoq := ol_nle (by omega) (by omega) c_59
        obtain ⟨hr0, hL0⟩ : r = -1 ∧ L' = L := by
          rcases hs2 with ⟨_, h2⟩ | ⟨h1, h2, _⟩ | ⟨h1, h2, _⟩
          · exact h2
          · exact absurd h1 (by omega)
          · exact absurd h1 (by omega)
        refine lv_iconst (v := (-1)) hx hb dX0_carry_62 (by decide +kernel) ?_
        exact ow_ret (W.iret (v := ((-1))) hx hb hr (fun t ht hW => Or.inl ⟨⟨_, rfl⟩, (fun h9 => h9.elim (ol_at_no hp) (fun h8 => h8.elim (ol_at_no hq) (ol_at_no ho))), ⟨((-1)), (nI N, f, g), rfl, ⟨hr0.symm, by rw [hN0], by rw [hN0, hL0]; exact hf, by rw [hN0, hL0]; exact hg⟩, by rw [ht]; exact hP, hD⟩, hS.F ht⟩) hS.2.2 dX0_carry_63)
end
section
set_option maxHeartbeats 4000000 in
set_option maxRecDepth 100000 in
/-- a new line: the first stamp alone -/
theorem c_X_init (l : Launch) (dC : Nat → ClassId) (dI : Nat → Nat → Nat) (h sz : Nat) : Met l yX0_init wsX0_init ({ frames := 1, cells := 2, slots := 2000, locals := 12 }) (ow_Pc (dC, dI) vwCl [] [(h, .inr (0, [.null, .null, .int 0]))] sz [.ref h]) (va_Qv (fun u : Nat × Nat × ClassId × ClassId × (Nat → Int32) => ol_g 1 (fun _ => 0) u.2.2.2.2) (fun (u : Nat × Nat × ClassId × ClassId × (Nat → Int32)) (t : State) => va_P (dC, dI) vwCl (wX h u.1 u.2.1 u.2.2.1 u.2.2.2.1 (nI 1, (fun _ => 0), u.2.2.2.2)) t.heap ∧ va_K (dC, dI) vwCl [(u.2.2.1, .int), (u.2.2.2.1, .int)] t ∧ va_D (va_A [(h, .inr (0, [.null, .null, .int 0]))] sz) (wX h u.1 u.2.1 u.2.2.1 u.2.2.2.1 (nI 1, (fun _ => 0), u.2.2.2.2))) (va_A [(h, .inr (0, [.null, .null, .int 0]))] sz)) 2 2000 (va_A [(h, .inr (0, [.null, .null, .int 0]))] sz) := by
  refine Met.ofW (cc := cX0_init) (maxL := 2) (ret := none) (by decide) rfl ?_
  intro pg ev s m args below meth cd s₁ B hml hv
  obtain ⟨rfl, hsz, hP, hK, hD0⟩ := hv
  have hx := B.exec
  have hb := B.bytes
  have hr := B.returns
  have hts := atoms_spec (ws := wsX0_init) B.pre
  have hown : s.vm.findClass RX0 = some m.cls := findClass_of_methodNamed B.named
  have hlocks := B.notSynchronized
  have hin : meth.name = "<init>" := (name_of_methodNamed B.named B.method).1
  subst hsz
  have hD := hD0.self (sz := s.heap.size)
  generalize hAe : va_A [(h, .inr (0, [.null, .null, .int 0]))] s.heap.size = A at hD ⊢
  have hA : ∀ q : Nat, s.heap.size ≤ q → A q := fun q h => by rw [← hAe]; exact Or.inr h
  have hS : va_S A s.heap s.heap [] := va_S.rf
  have hD : va_D A [(h, .inr (0, [.null, .null, .int 0]))] := hD
  have hP : va_P (dC, dI) vwCl [(h, .inr (0, [.null, .null, .int 0]))] s.heap := hP
  have hl := lv_entry ([.ref h]) (n := 2) (Nat.le_of_ble_eq_true rfl)
  rw [lg_entry_eq]
  generalize (lg_sl ([.ref h]) ++ List.replicate (2 - (lg_sl ([.ref h])).length) Slot.unset).toArray = ls at hl ⊢
  have hl : lv_has ls 2 [(0, .ref h)] := hl
  refine lv_aload_n hx hb dX0_init_0 rfl (lv_at hl 0 rfl) ?_
  refine W.objInit hx hb hown (hts (.methodLink RX0 1 objectInit) (by decide +kernel)) (hts (.instanceMethod objectInit) (by decide +kernel)) (hts (.code objectInit ⟨#[0xb1]⟩ 1 none) (by decide +kernel)) rfl (by rw [hml]; exact hl.1) rfl dX0_init_1 (Nat.le_of_ble_eq_true rfl) (Nat.le_of_ble_eq_true rfl) ?_
  refine W.eq (g2 := F0 m 4 ls []) rfl ?_
  refine lv_aload_n hx hb dX0_init_4 rfl (lv_at hl 0 rfl) ?_
  refine lv_sipush (v := nI 1000) hx hb dX0_init_5 (by decide +kernel) ?_
  refine va_newa (atype := .int) (ty := .int) (N' := 1000) (a0 := (1000, .inl (fun _ => 0))) hx hb (hts (.arrayClass .int) (by decide +kernel)) rfl hK hP hD hS hA (fun _ => rfl) (by decide +kernel) (by decide +kernel) (by decide) (Nat.le_of_ble_eq_true rfl) (Nat.le_of_ble_eq_true rfl) dX0_init_8 (fun a cA H hK hP hD hS => ?_)
  have hP : va_P (dC, dI) vwCl [(h, .inr (0, [.null, .null, .int 0])), (a, .inl (cA, 1000, .inl (fun _ => 0)))] H := hP
  have hD : va_D A [(h, .inr (0, [.null, .null, .int 0])), (a, .inl (cA, 1000, .inl (fun _ => 0)))] := hD
  have hK : va_K (dC, dI) vwCl [(cA, .int)] s := hK
  refine W.widen (k := 1) (n := 1000) (by omega) (by omega) ?_
  refine va_putF (D := (dC, dI)) (ci := 0) (v := .ref a) (ty := (.array .int)) (C := RX0) (T := TX0) (N := 3) hx hb hts (by decide +kernel) tyX0 tyX0_ok nmX0 hown hK hP hD hS 0 rfl rfl 0 (by decide) (hts (.fieldLink RX0 9 "OrderLine" "line" "[I") (by decide +kernel)) (fun _ h9 => h9) rfl hin rfl (by decide +kernel) rfl rfl (Nat.le_of_ble_eq_true rfl) dX0_init_10 (fun H locs hP hD hS => ?_)
  have hP : va_P (dC, dI) vwCl [(h, .inr (0, [.ref a, .null, .int 0])), (a, .inl (cA, 1000, .inl (fun _ => 0)))] H := hP
  have hD : va_D A [(h, .inr (0, [.ref a, .null, .int 0])), (a, .inl (cA, 1000, .inl (fun _ => 0)))] := hD
  refine lv_aload_n hx hb dX0_init_13 rfl (lv_at hl 0 rfl) ?_
  refine lv_sipush (v := nI 1000) hx hb dX0_init_14 (by decide +kernel) ?_
  refine va_newa (atype := .int) (ty := .int) (N' := 1000) (a0 := (1000, .inl (fun _ => 0))) hx hb (hts (.arrayClass .int) (by decide +kernel)) rfl hK hP hD hS hA (fun _ => rfl) (by decide +kernel) (by decide +kernel) (by decide) (Nat.le_of_ble_eq_true rfl) (Nat.le_of_ble_eq_true rfl) dX0_init_17 (fun b cB H hK hP hD hS => ?_)
  have hP : va_P (dC, dI) vwCl [(h, .inr (0, [.ref a, .null, .int 0])), (a, .inl (cA, 1000, .inl (fun _ => 0))), (b, .inl (cB, 1000, .inl (fun _ => 0)))] H := hP
  have hD : va_D A [(h, .inr (0, [.ref a, .null, .int 0])), (a, .inl (cA, 1000, .inl (fun _ => 0))), (b, .inl (cB, 1000, .inl (fun _ => 0)))] := hD
  have hK : va_K (dC, dI) vwCl [(cA, .int), (cB, .int)] s := hK
  refine W.widen (k := 2) (n := 2000) (by omega) (by omega) ?_
  refine va_putF (D := (dC, dI)) (ci := 0) (v := .ref b) (ty := (.array .int)) (C := RX0) (T := TX0) (N := 3) hx hb hts (by decide +kernel) tyX0 tyX0_ok nmX0 hown hK hP hD hS 0 rfl rfl 1 (by decide) (hts (.fieldLink RX0 13 "OrderLine" "places" "[I") (by decide +kernel)) (fun _ h9 => h9) rfl hin rfl (by decide +kernel) rfl rfl (Nat.le_of_ble_eq_true rfl) dX0_init_19 (fun H locs hP hD hS => ?_)
  have hP : va_P (dC, dI) vwCl [(h, .inr (0, [.ref a, .ref b, .int 0])), (a, .inl (cA, 1000, .inl (fun _ => 0))), (b, .inl (cB, 1000, .inl (fun _ => 0)))] H := hP
  have hD : va_D A [(h, .inr (0, [.ref a, .ref b, .int 0])), (a, .inl (cA, 1000, .inl (fun _ => 0))), (b, .inl (cB, 1000, .inl (fun _ => 0)))] := hD
  refine lv_iconst (v := nI 1) hx hb dX0_init_22 (by decide +kernel) ?_
  refine lv_istore_n (lv' := [(1, .int (nI 1)), (0, .ref h)]) hx hb dX0_init_23 rfl hl (by decide) rfl (fun ls hl => ?_)
  have loop : ∀ (k : Nat) (i : Nat) (g1 : Nat → Int32), 1000 < i + k → 1 ≤ i → i ≤ 1000 → g1 0 = nI 0 → (∀ v, 1 ≤ v → v < i → g1 v = -1) → ∀ (H : Heap) (locs : List Loc), va_P (dC, dI) vwCl [(h, .inr (0, [.ref a, .ref b, .int 0])), (a, .inl (cA, 1000, .inl (fun _ => 0))), (b, .inl (cB, 1000, .inl g1))] H → va_D A [(h, .inr (0, [.ref a, .ref b, .int 0])), (a, .inl (cA, 1000, .inl (fun _ => 0))), (b, .inl (cB, 1000, .inl g1))] → va_S A s.heap H locs → ∀ ls : Array Slot, lv_has ls 2 [(0, .ref h), (1, .int (nI i))] → W pg l ev (headSpec wsX0_init ({ frames := 1, cells := 2, slots := 2000, locals := 12 })).room s m ([.ref h] : List Value).toArray below meth cd H locs 2 2000 (MQ below (va_Qv (fun u : Nat × Nat × ClassId × ClassId × (Nat → Int32) => ol_g 1 (fun _ => 0) u.2.2.2.2) (fun (u : Nat × Nat × ClassId × ClassId × (Nat → Int32)) (t : State) => va_P (dC, dI) vwCl (wX h u.1 u.2.1 u.2.2.1 u.2.2.2.1 (nI 1, (fun _ => 0), u.2.2.2.2)) t.heap ∧ va_K (dC, dI) vwCl [(u.2.2.1, .int), (u.2.2.2.1, .int)] t ∧ va_D A (wX h u.1 u.2.1 u.2.2.1 u.2.2.2.1 (nI 1, (fun _ => 0), u.2.2.2.2))) A) ([.ref h] : List Value).toArray s 2 2000 A) (F0 m 24 ls []) := by
    intro k
    induction k with
    | zero =>
      intro i g1 h1 h2 h3
      exact absurd h1 (by omega)
    | succ k ih =>
      intro i g1 hk hi hi2 h0 h1 H locs hP hD hS ls hl
      refine lv_iload_n hx hb dX0_init_24 rfl (lv_at hl 1 rfl) ?_
      refine lv_sipush (v := nI 1000) hx hb dX0_init_25 (by decide +kernel) ?_
      refine lv_icmp_ge (tgt := 44) hx hb dX0_init_28 (by decide) (fun c_28 => ?_) (fun c_28 => ?_)
      · have hc := ol_le (by omega) (by omega) c_28
        refine lv_aload_n hx hb dX0_init_44 rfl (lv_at hl 0 rfl) ?_
        refine lv_iconst (v := nI 1) hx hb dX0_init_45 (by decide +kernel) ?_
        refine va_put (D := (dC, dI)) (ci := 0) (v := .int (nI 1)) (ty := (.int)) (C := RX0) (T := TX0) (N := 3) hx hb hts (by decide +kernel) tyX0 tyX0_ok nmX0 hown hK hP hD hS 0 rfl rfl 2 (by decide) (hts (.fieldLink RX0 16 "OrderLine" "count" "I") (by decide +kernel)) (fun _ h9 => h9) rfl (by decide +kernel) rfl rfl (Nat.le_of_ble_eq_true rfl) dX0_init_46 (fun H locs hP hD hS => ?_)
        have hP : va_P (dC, dI) vwCl [(h, .inr (0, [.ref a, .ref b, .int (nI 1)])), (a, .inl (cA, 1000, .inl (fun _ => 0))), (b, .inl (cB, 1000, .inl g1))] H := hP
        have hD : va_D A [(h, .inr (0, [.ref a, .ref b, .int (nI 1)])), (a, .inl (cA, 1000, .inl (fun _ => 0))), (b, .inl (cB, 1000, .inl g1))] := hD
        have hg9 : ol_g 1 (fun _ => 0) g1 := ⟨fun p hp => by rw [show p = 0 by omega]; exact h0, fun v hv hn => h1 v (Nat.one_le_iff_ne_zero.mpr (fun e9 => hn 0 (by omega) e9.symm)) (by omega)⟩
        have hP9 := hP.sub [0, 1, 2] rfl
        have hD9 := hD.sub (ws' := wX h a b cA cB (nI 1, (fun _ => 0), g1)) [0, 1, 2] (by decide) rfl
        exact W.vret hx hb hr (fun t ht hW => ⟨⟨(a, b, cA, cB, g1), rfl, hg9, by rw [ht]; exact hP9, va_K.moved hW.alike hK, hD9⟩, hS.F ht⟩) hS.2.2 dX0_init_49
      · have hc := ol_nle (by omega) (by omega) c_28
        refine lv_aload_n hx hb dX0_init_31 rfl (lv_at hl 0 rfl) ?_
        refine va_get (D := (dC, dI)) (ci := 0) (v := .ref b) (C := RX0) (T := TX0) (N := 3) hx hb hts (by decide +kernel) hown hK hP 0 rfl rfl 1 (by decide) (hts (.fieldLink RX0 13 "OrderLine" "places" "[I") (by decide +kernel)) (fun _ h9 => h9) rfl dX0_init_32 ?_
        refine lv_iload_n hx hb dX0_init_35 rfl (lv_at hl 1 rfl) ?_
        refine lv_iconst (v := (-1)) hx hb dX0_init_36 (by decide +kernel) ?_
        refine ow_iast (k := i) hx hb hK hP hD hS 2 1 rfl rfl (by omega) (by decide) dX0_init_37 (fun H locs hP hD hS => ?_)
        have hP : va_P (dC, dI) vwCl [(h, .inr (0, [.ref a, .ref b, .int 0])), (a, .inl (cA, 1000, .inl (fun _ => 0))), (b, .inl (cB, 1000, .inl (upd g1 i (((-1))))))] H := hP
        have hD : va_D A [(h, .inr (0, [.ref a, .ref b, .int 0])), (a, .inl (cA, 1000, .inl (fun _ => 0))), (b, .inl (cB, 1000, .inl (upd g1 i (((-1))))))] := hD
        refine lv_iinc (v := nI (i + 1)) (lv' := [(1, .int (nI (i + 1))), (0, .ref h)]) hx hb dX0_init_38 hl (k := 1) rfl (nI_1 i) (by decide) rfl (fun ls hl => ?_)
        refine lv_goto (tgt := 24) hx hb dX0_init_41 (by decide) ?_
        exact ih (i + 1) _ (by omega) (by omega) (by omega) ((pk_un (by omega)).trans h0) (fun v c1 c2 => (Decidable.em (v = i)).elim (fun e9 => by subst e9; exact pk_us) (fun e9 => (pk_un e9).trans (h1 v c1 (by omega)))) H locs hP hD hS ls (lv_sub hl [1, 0] rfl)
  exact loop 1001 1 (fun _ => 0) (by omega) (by omega) (by omega) nI_0.symm (fun v c1 c2 => by omega) _ _ hP hD hS ls (lv_sub hl [1, 0] rfl)
set_option maxHeartbeats 4000000 in
set_option maxRecDepth 100000 in
/-- a new reference -/
theorem c_M_init (l : Launch) (dC : Nat → ClassId) (dI : Nat → Nat → Nat) (h sz : Nat) : Met l yX1_init wsX1_init ({ frames := 1, cells := 2, slots := 2000, locals := 12 }) (ow_Pc (dC, dI) vwCl [] [(h, .inr (1, [.int 0, .null, .int 0, .null]))] sz [.ref h]) (va_Qv (fun _ : Nat × Nat × ClassId × ClassId => True) (fun (u : Nat × Nat × ClassId × ClassId) (t : State) => va_P (dC, dI) vwCl (wM h u.1 u.2.1 u.2.2.1 u.2.2.2 (0, nI 1, (fun _ => 0), (fun _ => 0))) t.heap ∧ va_K (dC, dI) vwCl [(u.2.2.1, .int), (u.2.2.2, .int)] t ∧ va_D (va_A [(h, .inr (1, [.int 0, .null, .int 0, .null]))] sz) (wM h u.1 u.2.1 u.2.2.1 u.2.2.2 (0, nI 1, (fun _ => 0), (fun _ => 0)))) (va_A [(h, .inr (1, [.int 0, .null, .int 0, .null]))] sz)) 2 2000 (va_A [(h, .inr (1, [.int 0, .null, .int 0, .null]))] sz) := by
  refine Met.ofW (cc := cX1_init) (maxL := 1) (ret := none) (by decide) rfl ?_
  intro pg ev s m args below meth cd s₁ B hml hv
  obtain ⟨rfl, hsz, hP, hK, hD0⟩ := hv
  have hx := B.exec
  have hb := B.bytes
  have hr := B.returns
  have hts := atoms_spec (ws := wsX1_init) B.pre
  have hown : s.vm.findClass RX1 = some m.cls := findClass_of_methodNamed B.named
  have hlocks := B.notSynchronized
  have hin : meth.name = "<init>" := (name_of_methodNamed B.named B.method).1
  subst hsz
  have hD := hD0.self (sz := s.heap.size)
  generalize hAe : va_A [(h, .inr (1, [.int 0, .null, .int 0, .null]))] s.heap.size = A at hD ⊢
  have hA : ∀ q : Nat, s.heap.size ≤ q → A q := fun q h => by rw [← hAe]; exact Or.inr h
  have hS : va_S A s.heap s.heap [] := va_S.rf
  have hD : va_D A [(h, .inr (1, [.int 0, .null, .int 0, .null]))] := hD
  have hP : va_P (dC, dI) vwCl [(h, .inr (1, [.int 0, .null, .int 0, .null]))] s.heap := hP
  have hl := lv_entry ([.ref h]) (n := 1) (Nat.le_of_ble_eq_true rfl)
  rw [lg_entry_eq]
  generalize (lg_sl ([.ref h]) ++ List.replicate (1 - (lg_sl ([.ref h])).length) Slot.unset).toArray = ls at hl ⊢
  have hl : lv_has ls 1 [(0, .ref h)] := hl
  refine lv_aload_n hx hb dX1_init_0 rfl (lv_at hl 0 rfl) ?_
  refine W.objInit hx hb hown (hts (.methodLink RX1 1 objectInit) (by decide +kernel)) (hts (.instanceMethod objectInit) (by decide +kernel)) (hts (.code objectInit ⟨#[0xb1]⟩ 1 none) (by decide +kernel)) rfl (by rw [hml]; exact hl.1) rfl dX1_init_1 (Nat.le_of_ble_eq_true rfl) (Nat.le_of_ble_eq_true rfl) ?_
  refine W.eq (g2 := F0 m 4 ls []) rfl ?_
  refine lv_aload_n hx hb dX1_init_4 rfl (lv_at hl 0 rfl) ?_
  refine lv_sipush (v := nI 1000) hx hb dX1_init_5 (by decide +kernel) ?_
  refine va_newa (atype := .int) (ty := .int) (N' := 1000) (a0 := (1000, .inl (fun _ => 0))) hx hb (hts (.arrayClass .int) (by decide +kernel)) rfl hK hP hD hS hA (fun _ => rfl) (by decide +kernel) (by decide +kernel) (by decide) (Nat.le_of_ble_eq_true rfl) (Nat.le_of_ble_eq_true rfl) dX1_init_8 (fun a cA H hK hP hD hS => ?_)
  have hP : va_P (dC, dI) vwCl [(h, .inr (1, [.int 0, .null, .int 0, .null])), (a, .inl (cA, 1000, .inl (fun _ => 0)))] H := hP
  have hD : va_D A [(h, .inr (1, [.int 0, .null, .int 0, .null])), (a, .inl (cA, 1000, .inl (fun _ => 0)))] := hD
  have hK : va_K (dC, dI) vwCl [(cA, .int)] s := hK
  refine W.widen (k := 1) (n := 1000) (by omega) (by omega) ?_
  refine va_putF (D := (dC, dI)) (ci := 1) (v := .ref a) (ty := (.array .int)) (C := RX1) (T := TX1) (N := 4) hx hb hts (by decide +kernel) tyX1 tyX1_ok nmX1 hown hK hP hD hS 0 rfl rfl 1 (by decide) (hts (.fieldLink RX1 7 "OrderLineModel" "line" "[I") (by decide +kernel)) (fun _ h9 => h9) rfl hin rfl (by decide +kernel) rfl rfl (Nat.le_of_ble_eq_true rfl) dX1_init_10 (fun H locs hP hD hS => ?_)
  have hP : va_P (dC, dI) vwCl [(h, .inr (1, [.int 0, .ref a, .int 0, .null])), (a, .inl (cA, 1000, .inl (fun _ => 0)))] H := hP
  have hD : va_D A [(h, .inr (1, [.int 0, .ref a, .int 0, .null])), (a, .inl (cA, 1000, .inl (fun _ => 0)))] := hD
  refine lv_aload_n hx hb dX1_init_13 rfl (lv_at hl 0 rfl) ?_
  refine lv_iconst (v := nI 1) hx hb dX1_init_14 (by decide +kernel) ?_
  refine va_put (D := (dC, dI)) (ci := 1) (v := .int (nI 1)) (ty := (.int)) (C := RX1) (T := TX1) (N := 4) hx hb hts (by decide +kernel) tyX1 tyX1_ok nmX1 hown hK hP hD hS 0 rfl rfl 2 (by decide) (hts (.fieldLink RX1 13 "OrderLineModel" "many" "I") (by decide +kernel)) (fun _ h9 => h9) rfl (by decide +kernel) rfl rfl (Nat.le_of_ble_eq_true rfl) dX1_init_15 (fun H locs hP hD hS => ?_)
  have hP : va_P (dC, dI) vwCl [(h, .inr (1, [.int 0, .ref a, .int (nI 1), .null])), (a, .inl (cA, 1000, .inl (fun _ => 0)))] H := hP
  have hD : va_D A [(h, .inr (1, [.int 0, .ref a, .int (nI 1), .null])), (a, .inl (cA, 1000, .inl (fun _ => 0)))] := hD
  refine lv_aload_n hx hb dX1_init_18 rfl (lv_at hl 0 rfl) ?_
  refine lv_sipush (v := nI 1000) hx hb dX1_init_19 (by decide +kernel) ?_
  refine va_newa (atype := .int) (ty := .int) (N' := 1000) (a0 := (1000, .inl (fun _ => 0))) hx hb (hts (.arrayClass .int) (by decide +kernel)) rfl hK hP hD hS hA (fun _ => rfl) (by decide +kernel) (by decide +kernel) (by decide) (Nat.le_of_ble_eq_true rfl) (Nat.le_of_ble_eq_true rfl) dX1_init_22 (fun b cB H hK hP hD hS => ?_)
  have hP : va_P (dC, dI) vwCl [(h, .inr (1, [.int 0, .ref a, .int (nI 1), .null])), (a, .inl (cA, 1000, .inl (fun _ => 0))), (b, .inl (cB, 1000, .inl (fun _ => 0)))] H := hP
  have hD : va_D A [(h, .inr (1, [.int 0, .ref a, .int (nI 1), .null])), (a, .inl (cA, 1000, .inl (fun _ => 0))), (b, .inl (cB, 1000, .inl (fun _ => 0)))] := hD
  have hK : va_K (dC, dI) vwCl [(cA, .int), (cB, .int)] s := hK
  refine W.widen (k := 2) (n := 2000) (by omega) (by omega) ?_
  refine va_putF (D := (dC, dI)) (ci := 1) (v := .ref b) (ty := (.array .int)) (C := RX1) (T := TX1) (N := 4) hx hb hts (by decide +kernel) tyX1 tyX1_ok nmX1 hown hK hP hD hS 0 rfl rfl 3 (by decide) (hts (.fieldLink RX1 17 "OrderLineModel" "aside" "[I") (by decide +kernel)) (fun _ h9 => h9) rfl hin rfl (by decide +kernel) rfl rfl (Nat.le_of_ble_eq_true rfl) dX1_init_24 (fun H locs hP hD hS => ?_)
  have hP : va_P (dC, dI) vwCl [(h, .inr (1, [.int 0, .ref a, .int (nI 1), .ref b])), (a, .inl (cA, 1000, .inl (fun _ => 0))), (b, .inl (cB, 1000, .inl (fun _ => 0)))] H := hP
  have hD : va_D A [(h, .inr (1, [.int 0, .ref a, .int (nI 1), .ref b])), (a, .inl (cA, 1000, .inl (fun _ => 0))), (b, .inl (cB, 1000, .inl (fun _ => 0)))] := hD
  have hP9 := hP.sub [0, 1, 2] rfl
  have hD9 := hD.sub (ws' := wM h a b cA cB (0, nI 1, (fun _ => 0), (fun _ => 0))) [0, 1, 2] (by decide) rfl
  exact W.vret hx hb hr (fun t ht hW => ⟨⟨(a, b, cA, cB), rfl, trivial, by rw [ht]; exact hP9, va_K.moved hW.alike hK, hD9⟩, hS.F ht⟩) hS.2.2 dX1_init_27
end
section
set_option maxHeartbeats 4000000 in
set_option maxRecDepth 100000 in
/-- the law's behind: 1 if it throws, else 0 and the answer is laid aside -/
theorem c_L_behind (l : Launch) (dC : Nat → ClassId) (dI : Nat → Nat → Nat) (hfl : l.flags = flags0) (h a b o : Nat) (cA cB cO : ClassId) (N : Nat) (L : Nat → Nat) (f g : Nat → Int32) (oo : Nat → Int64) (tt r : Int32) (N' : Nat) (L' : Nat → Nat) (sz : Nat) (ok : ol_ok N L) (hf : ol_f N L f) (hg : ol_g N L g) (x : Int32) (hsp : (ol_no N L x ∧ tt = 1 ∧ r = 0 ∧ N' = N ∧ L' = L) ∨ (tt = 0 ∧ ∃ p, ol_at N L x p ∧ sp_bh N L p r N' L')) : Met l yL_behind wsL_behind ({ frames := 8, cells := 1, slots := 6, locals := 124 }) (ow_Px (dC, dI) vwCl [(cA, .int), (cB, .int), (cO, .long)] (wO h a b o cA cB cO ((nI N, f, g), oo)) sz [.ref h, .int x, .ref o]) (va_Qi (fun (k' : Int32) (u : (Int32 × (Nat → Int32) × (Nat → Int32)) × (Nat → Int64)) => k' = tt ∧ (tt = 0 → u.2 0 = r.toInt64) ∧ u.1.1 = nI N' ∧ ol_f N' L' u.1.2.1 ∧ ol_g N' L' u.1.2.2) (ow_B (dC, dI) vwCl (wO h a b o cA cB cO) (va_A (wO h a b o cA cB cO ((nI N, f, g), oo)) sz)) (va_A (wO h a b o cA cB cO ((nI N, f, g), oo)) sz)) 1 6 (va_A (wO h a b o cA cB cO ((nI N, f, g), oo)) sz) := by
  refine ow_ofWH (hs := [(0, 9, 12, 13)]) (cc := cL_behind) (maxL := 4) (ret := (some .int)) (by decide) rfl ?_
  intro pg ev s m args below meth cd s₁ B hml htab hv
  obtain ⟨rfl, hsz, hP, hK, hD0, hZ⟩ := hv
  have hx := B.exec
  have hb := B.bytes
  have hr := B.returns
  have hts := atoms_spec (ws := wsL_behind) B.pre
  have hown : s.vm.findClass RL = some m.cls := findClass_of_methodNamed B.named
  have hlocks := B.notSynchronized
  subst hsz
  have hD := hD0.self (sz := s.heap.size)
  generalize hAe : va_A (wO h a b o cA cB cO ((nI N, f, g), oo)) s.heap.size = A at hD ⊢
  have hA : ∀ q : Nat, s.heap.size ≤ q → A q := fun q h => by rw [← hAe]; exact Or.inr h
  have hS : va_S A s.heap s.heap [] := va_S.rf
  have hD : va_D A [(h, .inr (0, [.ref a, .ref b, .int (nI N)])), (a, .inl (cA, 1000, .inl f)), (b, .inl (cB, 1000, .inl g)), (o, .inl (cO, 1, .inr (.inl oo)))] := hD
  have hP : va_P (dC, dI) vwCl [(h, .inr (0, [.ref a, .ref b, .int (nI N)])), (a, .inl (cA, 1000, .inl f)), (b, .inl (cB, 1000, .inl g)), (o, .inl (cO, 1, .inr (.inl oo)))] s.heap := hP
  have hl := lv_entry ([.ref h, .int x, .ref o]) (n := 4) (Nat.le_of_ble_eq_true rfl)
  rw [lg_entry_eq]
  generalize (lg_sl ([.ref h, .int x, .ref o]) ++ List.replicate (4 - (lg_sl ([.ref h, .int x, .ref o])).length) Slot.unset).toArray = ls at hl ⊢
  have hl : lv_has ls 4 [(0, .ref h), (1, .int x), (2, .ref o)] := hl
  have htab2 : cd.exceptionTable.toList = [⟨0, 9, 12, 13⟩] := htab
  have hsX : ∀ p, ol_at N L x p → sp_bh N L p r N' L' := by
    intro p9 hp9
    rcases hsp with ⟨h1, _⟩ | ⟨_, p, hp, hs⟩
    · exact (ol_at_no hp9 h1).elim
    · obtain rfl := ol_at_un ok hp hp9
      exact hs
  refine lv_aload_n hx hb dL_behind_0 rfl (lv_at hl 2 rfl) ?_
  refine lv_iconst (v := 0) hx hb dL_behind_1 (by decide +kernel) ?_
  refine lv_aload_n hx hb dL_behind_2 rfl (lv_at hl 0 rfl) ?_
  refine lv_iload_n hx hb dL_behind_3 rfl (lv_at hl 1 rfl) ?_
  refine ow_callC (hpc := 12) (wr := [(o, .inl (cO, 1, .inr (.inl oo)))]) (ow_runV (As := [.int x]) (rest := [.int 0, .ref o]) ⟨hx, hb, hml, hown, hts⟩ (c_X_behind l dC dI hfl h a b cA cB N L f g r N' L' _ ok hf hg x hsX) (cwV 1 hts gL_behind_X0_behind rfl rfl rfl (by decide +kernel) ⟨Nat.le_of_ble_eq_true rfl, Nat.le_of_ble_eq_true rfl⟩) (ow_PrePx (hK.sub (tys' := [(cA, .int), (cB, .int)]) [0, 1] rfl) (hP.sub [0, 1, 2] rfl) (hD.sub (ws' := wX h a b cA cB (nI N, f, g)) [0, 1, 2] (by decide) rfl) hZ (ci := 0) (q0 := 0) rfl rfl) rfl rfl hl.1 rfl (lv_room (Nat.le_of_ble_eq_true rfl)) dL_behind_4 ⟨Nat.le_of_ble_eq_true rfl, Nat.le_of_ble_eq_true rfl⟩) hP hD hS hA [0, 1, 2] [3] rfl rfl (by decide) (by decide) hown htab2 (by decide) (by decide) (hts (.classLink RL 13 "java/lang/IllegalArgumentException") (by decide +kernel)) rfl (fun hnt r0 u H locs hw hP hD hS => ?_) (fun hth x9 H locs hP hS => ?_)
  · have htt : tt = 0 := by
      rcases hsp with ⟨h9, _⟩ | ⟨h9, _⟩
      · exact absurd h9 hnt
      · exact h9
    obtain ⟨a1, f1, g1⟩ := u
    obtain ⟨er, e1, hf1, hg1⟩ := hw
    obtain rfl : nI N' = a1 := e1.symm
    refine ow_top (z := r) er ?_
    have hP : va_P (dC, dI) vwCl [(o, .inl (cO, 1, .inr (.inl oo))), (h, .inr (0, [.ref a, .ref b, .int (nI N')])), (a, .inl (cA, 1000, .inl f1)), (b, .inl (cB, 1000, .inl g1))] H := hP
    have hD : va_D A [(o, .inl (cO, 1, .inr (.inl oo))), (h, .inr (0, [.ref a, .ref b, .int (nI N')])), (a, .inl (cA, 1000, .inl f1)), (b, .inl (cB, 1000, .inl g1))] := hD
    refine lv_i2l (v := r.toInt64) hx hb dL_behind_7 rfl ?_
    refine ow_last (k := 0) hx hb hK hP hD hS 0 2 rfl rfl nI_0.symm (by decide) (by decide) dL_behind_8 (fun H locs hP hD hS => ?_)
    have hP : va_P (dC, dI) vwCl [(o, .inl (cO, 1, .inr (.inl (vp_updL oo 0 r.toInt64)))), (h, .inr (0, [.ref a, .ref b, .int (nI N')])), (a, .inl (cA, 1000, .inl f1)), (b, .inl (cB, 1000, .inl g1))] H := hP
    have hD : va_D A [(o, .inl (cO, 1, .inr (.inl (vp_updL oo 0 r.toInt64)))), (h, .inr (0, [.ref a, .ref b, .int (nI N')])), (a, .inl (cA, 1000, .inl f1)), (b, .inl (cB, 1000, .inl g1))] := hD
    refine lv_goto (tgt := 15) hx hb dL_behind_9 (by decide) ?_
    refine lv_iconst (v := 0) hx hb dL_behind_15 (by decide +kernel) ?_
    refine W.widen (k := 1) (n := 6) (by omega) (by omega) ?_
    exact W.iret (v := 0) hx hb hr (fun t ht hW => ⟨⟨0, (((nI N'), f1, g1), vp_updL oo 0 r.toInt64), rfl, ⟨htt.symm, fun _ => pk_uLs (f := oo) (k := 0) (x := r.toInt64), rfl, hf1, hg1⟩, by rw [ht]; exact hP.sub [1, 2, 3, 0] rfl, hD.sub [1, 2, 3, 0] (by decide) rfl⟩, hS.F ht⟩) hS.2.2 dL_behind_16
  · obtain ⟨htt, hN0, hL0⟩ : tt = 1 ∧ N' = N ∧ L' = L := by
      rcases hsp with ⟨_, h9⟩ | ⟨_, h9⟩
      · exact ⟨h9.1, h9.2.2⟩
      · exact (h9.elim (fun _ h8 => ol_at_no h8.1 hth)).elim
    refine lv_astore_n (lv' := [(3, .ref x9), (0, .ref h), (1, .int x), (2, .ref o)]) hx hb dL_behind_12 rfl hl (by decide) rfl (fun ls hl => ?_)
    refine lv_iconst (v := 1) hx hb dL_behind_13 (by decide +kernel) ?_
    refine W.widen (k := 1) (n := 6) (by omega) (by omega) ?_
    exact W.iret (v := 1) hx hb hr (fun t ht hW => ⟨⟨1, ((nI N, f, g), oo), rfl, ⟨htt.symm, fun h9 => absurd (htt.symm.trans h9) (by decide), by rw [hN0], by rw [hN0, hL0]; exact hf, by rw [hN0, hL0]; exact hg⟩, by rw [ht]; exact hP.sub [0, 1, 2, 3] rfl, hD.sub [0, 1, 2, 3] (by decide) rfl⟩, hS.F ht⟩) hS.2.2 dL_behind_14
set_option maxHeartbeats 4000000 in
set_option maxRecDepth 100000 in
/-- the law's several: 1 if it throws, else 0 and the answer is laid aside -/
theorem c_L_several (l : Launch) (dC : Nat → ClassId) (dI : Nat → Nat → Nat) (hfl : l.flags = flags0) (h a b o : Nat) (cA cB cO : ClassId) (N : Nat) (L : Nat → Nat) (f g : Nat → Int32) (oo : Nat → Int64) (tt r : Int32) (N' : Nat) (L' : Nat → Nat) (sz : Nat) (ok : ol_ok N L) (hf : ol_f N L f) (hg : ol_g N L g) (x z : Int32) (hsp : (ol_no N L x ∧ tt = 1 ∧ r = 0 ∧ N' = N ∧ L' = L) ∨ (tt = 0 ∧ ∃ p, ol_at N L x p ∧ sp_sv N L p z r N' L')) : Met l yL_several wsL_several ({ frames := 8, cells := 1, slots := 6, locals := 125 }) (ow_Px (dC, dI) vwCl [(cA, .int), (cB, .int), (cO, .long)] (wO h a b o cA cB cO ((nI N, f, g), oo)) sz [.ref h, .int x, .int z, .ref o]) (va_Qi (fun (k' : Int32) (u : (Int32 × (Nat → Int32) × (Nat → Int32)) × (Nat → Int64)) => k' = tt ∧ (tt = 0 → u.2 0 = r.toInt64) ∧ u.1.1 = nI N' ∧ ol_f N' L' u.1.2.1 ∧ ol_g N' L' u.1.2.2) (ow_B (dC, dI) vwCl (wO h a b o cA cB cO) (va_A (wO h a b o cA cB cO ((nI N, f, g), oo)) sz)) (va_A (wO h a b o cA cB cO ((nI N, f, g), oo)) sz)) 1 6 (va_A (wO h a b o cA cB cO ((nI N, f, g), oo)) sz) := by
  refine ow_ofWH (hs := [(0, 10, 13, 13)]) (cc := cL_several) (maxL := 5) (ret := (some .int)) (by decide) rfl ?_
  intro pg ev s m args below meth cd s₁ B hml htab hv
  obtain ⟨rfl, hsz, hP, hK, hD0, hZ⟩ := hv
  have hx := B.exec
  have hb := B.bytes
  have hr := B.returns
  have hts := atoms_spec (ws := wsL_several) B.pre
  have hown : s.vm.findClass RL = some m.cls := findClass_of_methodNamed B.named
  have hlocks := B.notSynchronized
  subst hsz
  have hD := hD0.self (sz := s.heap.size)
  generalize hAe : va_A (wO h a b o cA cB cO ((nI N, f, g), oo)) s.heap.size = A at hD ⊢
  have hA : ∀ q : Nat, s.heap.size ≤ q → A q := fun q h => by rw [← hAe]; exact Or.inr h
  have hS : va_S A s.heap s.heap [] := va_S.rf
  have hD : va_D A [(h, .inr (0, [.ref a, .ref b, .int (nI N)])), (a, .inl (cA, 1000, .inl f)), (b, .inl (cB, 1000, .inl g)), (o, .inl (cO, 1, .inr (.inl oo)))] := hD
  have hP : va_P (dC, dI) vwCl [(h, .inr (0, [.ref a, .ref b, .int (nI N)])), (a, .inl (cA, 1000, .inl f)), (b, .inl (cB, 1000, .inl g)), (o, .inl (cO, 1, .inr (.inl oo)))] s.heap := hP
  have hl := lv_entry ([.ref h, .int x, .int z, .ref o]) (n := 5) (Nat.le_of_ble_eq_true rfl)
  rw [lg_entry_eq]
  generalize (lg_sl ([.ref h, .int x, .int z, .ref o]) ++ List.replicate (5 - (lg_sl ([.ref h, .int x, .int z, .ref o])).length) Slot.unset).toArray = ls at hl ⊢
  have hl : lv_has ls 5 [(0, .ref h), (1, .int x), (2, .int z), (3, .ref o)] := hl
  have htab2 : cd.exceptionTable.toList = [⟨0, 10, 13, 13⟩] := htab
  have hsX : ∀ p, ol_at N L x p → sp_sv N L p z r N' L' := by
    intro p9 hp9
    rcases hsp with ⟨h1, _⟩ | ⟨_, p, hp, hs⟩
    · exact (ol_at_no hp9 h1).elim
    · obtain rfl := ol_at_un ok hp hp9
      exact hs
  refine lv_aload_n hx hb dL_several_0 rfl (lv_at hl 3 rfl) ?_
  refine lv_iconst (v := 0) hx hb dL_several_1 (by decide +kernel) ?_
  refine lv_aload_n hx hb dL_several_2 rfl (lv_at hl 0 rfl) ?_
  refine lv_iload_n hx hb dL_several_3 rfl (lv_at hl 1 rfl) ?_
  refine lv_iload_n hx hb dL_several_4 rfl (lv_at hl 2 rfl) ?_
  refine ow_callC (hpc := 13) (wr := [(o, .inl (cO, 1, .inr (.inl oo)))]) (ow_runV (As := [.int x, .int z]) (rest := [.int 0, .ref o]) ⟨hx, hb, hml, hown, hts⟩ (c_X_several l dC dI hfl h a b cA cB N L f g r N' L' _ ok hf hg x z hsX) (cwV 2 hts gL_several_X0_several rfl rfl rfl (by decide +kernel) ⟨Nat.le_of_ble_eq_true rfl, Nat.le_of_ble_eq_true rfl⟩) (ow_PrePx (hK.sub (tys' := [(cA, .int), (cB, .int)]) [0, 1] rfl) (hP.sub [0, 1, 2] rfl) (hD.sub (ws' := wX h a b cA cB (nI N, f, g)) [0, 1, 2] (by decide) rfl) hZ (ci := 0) (q0 := 0) rfl rfl) rfl rfl hl.1 rfl (lv_room (Nat.le_of_ble_eq_true rfl)) dL_several_5 ⟨Nat.le_of_ble_eq_true rfl, Nat.le_of_ble_eq_true rfl⟩) hP hD hS hA [0, 1, 2] [3] rfl rfl (by decide) (by decide) hown htab2 (by decide) (by decide) (hts (.classLink RL 13 "java/lang/IllegalArgumentException") (by decide +kernel)) rfl (fun hnt r0 u H locs hw hP hD hS => ?_) (fun hth x9 H locs hP hS => ?_)
  · have htt : tt = 0 := by
      rcases hsp with ⟨h9, _⟩ | ⟨h9, _⟩
      · exact absurd h9 hnt
      · exact h9
    obtain ⟨a1, f1, g1⟩ := u
    obtain ⟨er, e1, hf1, hg1⟩ := hw
    obtain rfl : nI N' = a1 := e1.symm
    refine ow_top (z := r) er ?_
    have hP : va_P (dC, dI) vwCl [(o, .inl (cO, 1, .inr (.inl oo))), (h, .inr (0, [.ref a, .ref b, .int (nI N')])), (a, .inl (cA, 1000, .inl f1)), (b, .inl (cB, 1000, .inl g1))] H := hP
    have hD : va_D A [(o, .inl (cO, 1, .inr (.inl oo))), (h, .inr (0, [.ref a, .ref b, .int (nI N')])), (a, .inl (cA, 1000, .inl f1)), (b, .inl (cB, 1000, .inl g1))] := hD
    refine lv_i2l (v := r.toInt64) hx hb dL_several_8 rfl ?_
    refine ow_last (k := 0) hx hb hK hP hD hS 0 2 rfl rfl nI_0.symm (by decide) (by decide) dL_several_9 (fun H locs hP hD hS => ?_)
    have hP : va_P (dC, dI) vwCl [(o, .inl (cO, 1, .inr (.inl (vp_updL oo 0 r.toInt64)))), (h, .inr (0, [.ref a, .ref b, .int (nI N')])), (a, .inl (cA, 1000, .inl f1)), (b, .inl (cB, 1000, .inl g1))] H := hP
    have hD : va_D A [(o, .inl (cO, 1, .inr (.inl (vp_updL oo 0 r.toInt64)))), (h, .inr (0, [.ref a, .ref b, .int (nI N')])), (a, .inl (cA, 1000, .inl f1)), (b, .inl (cB, 1000, .inl g1))] := hD
    refine lv_goto (tgt := 17) hx hb dL_several_10 (by decide) ?_
    refine lv_iconst (v := 0) hx hb dL_several_17 (by decide +kernel) ?_
    refine W.widen (k := 1) (n := 6) (by omega) (by omega) ?_
    exact W.iret (v := 0) hx hb hr (fun t ht hW => ⟨⟨0, (((nI N'), f1, g1), vp_updL oo 0 r.toInt64), rfl, ⟨htt.symm, fun _ => pk_uLs (f := oo) (k := 0) (x := r.toInt64), rfl, hf1, hg1⟩, by rw [ht]; exact hP.sub [1, 2, 3, 0] rfl, hD.sub [1, 2, 3, 0] (by decide) rfl⟩, hS.F ht⟩) hS.2.2 dL_several_18
  · obtain ⟨htt, hN0, hL0⟩ : tt = 1 ∧ N' = N ∧ L' = L := by
      rcases hsp with ⟨_, h9⟩ | ⟨_, h9⟩
      · exact ⟨h9.1, h9.2.2⟩
      · exact (h9.elim (fun _ h8 => ol_at_no h8.1 hth)).elim
    refine lv_astore (lv' := [(4, .ref x9), (0, .ref h), (1, .int x), (2, .int z), (3, .ref o)]) hx hb dL_several_13 hl (by decide) rfl (fun ls hl => ?_)
    refine lv_iconst (v := 1) hx hb dL_several_15 (by decide +kernel) ?_
    refine W.widen (k := 1) (n := 6) (by omega) (by omega) ?_
    exact W.iret (v := 1) hx hb hr (fun t ht hW => ⟨⟨1, ((nI N, f, g), oo), rfl, ⟨htt.symm, fun h9 => absurd (htt.symm.trans h9) (by decide), by rw [hN0], by rw [hN0, hL0]; exact hf, by rw [hN0, hL0]; exact hg⟩, by rw [ht]; exact hP.sub [0, 1, 2, 3] rfl, hD.sub [0, 1, 2, 3] (by decide) rfl⟩, hS.F ht⟩) hS.2.2 dL_several_16
set_option maxHeartbeats 4000000 in
set_option maxRecDepth 100000 in
/-- the law's clear: 1 if it throws, else 0 and the answer is laid aside -/
theorem c_L_clear (l : Launch) (dC : Nat → ClassId) (dI : Nat → Nat → Nat) (hfl : l.flags = flags0) (h a b o : Nat) (cA cB cO : ClassId) (N : Nat) (L : Nat → Nat) (f g : Nat → Int32) (oo : Nat → Int64) (tt r : Int32) (N' : Nat) (L' : Nat → Nat) (sz : Nat) (ok : ol_ok N L) (hf : ol_f N L f) (hg : ol_g N L g) (x y : Int32) (hsp : ((ol_no N L x ∨ ol_no N L y) ∧ tt = 1 ∧ r = 0 ∧ N' = N ∧ L' = L) ∨ (tt = 0 ∧ ∃ p q, ol_at N L x p ∧ ol_at N L y q ∧ sp_cl N L p q r N' L')) : Met l yL_clear wsL_clear ({ frames := 8, cells := 1, slots := 6, locals := 127 }) (ow_Px (dC, dI) vwCl [(cA, .int), (cB, .int), (cO, .long)] (wO h a b o cA cB cO ((nI N, f, g), oo)) sz [.ref h, .int x, .int y, .ref o]) (va_Qi (fun (k' : Int32) (u : (Int32 × (Nat → Int32) × (Nat → Int32)) × (Nat → Int64)) => k' = tt ∧ (tt = 0 → u.2 0 = r.toInt64) ∧ u.1.1 = nI N' ∧ ol_f N' L' u.1.2.1 ∧ ol_g N' L' u.1.2.2) (ow_B (dC, dI) vwCl (wO h a b o cA cB cO) (va_A (wO h a b o cA cB cO ((nI N, f, g), oo)) sz)) (va_A (wO h a b o cA cB cO ((nI N, f, g), oo)) sz)) 1 6 (va_A (wO h a b o cA cB cO ((nI N, f, g), oo)) sz) := by
  refine ow_ofWH (hs := [(0, 10, 13, 13)]) (cc := cL_clear) (maxL := 5) (ret := (some .int)) (by decide) rfl ?_
  intro pg ev s m args below meth cd s₁ B hml htab hv
  obtain ⟨rfl, hsz, hP, hK, hD0, hZ⟩ := hv
  have hx := B.exec
  have hb := B.bytes
  have hr := B.returns
  have hts := atoms_spec (ws := wsL_clear) B.pre
  have hown : s.vm.findClass RL = some m.cls := findClass_of_methodNamed B.named
  have hlocks := B.notSynchronized
  subst hsz
  have hD := hD0.self (sz := s.heap.size)
  generalize hAe : va_A (wO h a b o cA cB cO ((nI N, f, g), oo)) s.heap.size = A at hD ⊢
  have hA : ∀ q : Nat, s.heap.size ≤ q → A q := fun q h => by rw [← hAe]; exact Or.inr h
  have hS : va_S A s.heap s.heap [] := va_S.rf
  have hD : va_D A [(h, .inr (0, [.ref a, .ref b, .int (nI N)])), (a, .inl (cA, 1000, .inl f)), (b, .inl (cB, 1000, .inl g)), (o, .inl (cO, 1, .inr (.inl oo)))] := hD
  have hP : va_P (dC, dI) vwCl [(h, .inr (0, [.ref a, .ref b, .int (nI N)])), (a, .inl (cA, 1000, .inl f)), (b, .inl (cB, 1000, .inl g)), (o, .inl (cO, 1, .inr (.inl oo)))] s.heap := hP
  have hl := lv_entry ([.ref h, .int x, .int y, .ref o]) (n := 5) (Nat.le_of_ble_eq_true rfl)
  rw [lg_entry_eq]
  generalize (lg_sl ([.ref h, .int x, .int y, .ref o]) ++ List.replicate (5 - (lg_sl ([.ref h, .int x, .int y, .ref o])).length) Slot.unset).toArray = ls at hl ⊢
  have hl : lv_has ls 5 [(0, .ref h), (1, .int x), (2, .int y), (3, .ref o)] := hl
  have htab2 : cd.exceptionTable.toList = [⟨0, 10, 13, 13⟩] := htab
  have hsX : ∀ p q, ol_at N L x p → ol_at N L y q → sp_cl N L p q r N' L' := by
    intro p9 q9 hp9 hq9
    rcases hsp with ⟨h1, _⟩ | ⟨_, p, q, hp, hq, hs⟩
    · exact (h1.elim (ol_at_no hp9) (ol_at_no hq9)).elim
    · obtain rfl := ol_at_un ok hp hp9
      obtain rfl := ol_at_un ok hq hq9
      exact hs
  refine lv_aload_n hx hb dL_clear_0 rfl (lv_at hl 3 rfl) ?_
  refine lv_iconst (v := 0) hx hb dL_clear_1 (by decide +kernel) ?_
  refine lv_aload_n hx hb dL_clear_2 rfl (lv_at hl 0 rfl) ?_
  refine lv_iload_n hx hb dL_clear_3 rfl (lv_at hl 1 rfl) ?_
  refine lv_iload_n hx hb dL_clear_4 rfl (lv_at hl 2 rfl) ?_
  refine ow_callC (hpc := 13) (wr := [(o, .inl (cO, 1, .inr (.inl oo)))]) (ow_runV (As := [.int x, .int y]) (rest := [.int 0, .ref o]) ⟨hx, hb, hml, hown, hts⟩ (c_X_clear l dC dI hfl h a b cA cB N L f g r N' L' _ ok hf hg x y hsX) (cwV 2 hts gL_clear_X0_clear rfl rfl rfl (by decide +kernel) ⟨Nat.le_of_ble_eq_true rfl, Nat.le_of_ble_eq_true rfl⟩) (ow_PrePx (hK.sub (tys' := [(cA, .int), (cB, .int)]) [0, 1] rfl) (hP.sub [0, 1, 2] rfl) (hD.sub (ws' := wX h a b cA cB (nI N, f, g)) [0, 1, 2] (by decide) rfl) hZ (ci := 0) (q0 := 0) rfl rfl) rfl rfl hl.1 rfl (lv_room (Nat.le_of_ble_eq_true rfl)) dL_clear_5 ⟨Nat.le_of_ble_eq_true rfl, Nat.le_of_ble_eq_true rfl⟩) hP hD hS hA [0, 1, 2] [3] rfl rfl (by decide) (by decide) hown htab2 (by decide) (by decide) (hts (.classLink RL 13 "java/lang/IllegalArgumentException") (by decide +kernel)) rfl (fun hnt r0 u H locs hw hP hD hS => ?_) (fun hth x9 H locs hP hS => ?_)
  · have htt : tt = 0 := by
      rcases hsp with ⟨h9, _⟩ | ⟨h9, _⟩
      · exact absurd h9 hnt
      · exact h9
    obtain ⟨a1, f1, g1⟩ := u
    obtain ⟨er, e1, hf1, hg1⟩ := hw
    obtain rfl : nI N' = a1 := e1.symm
    refine ow_top (z := r) er ?_
    have hP : va_P (dC, dI) vwCl [(o, .inl (cO, 1, .inr (.inl oo))), (h, .inr (0, [.ref a, .ref b, .int (nI N')])), (a, .inl (cA, 1000, .inl f1)), (b, .inl (cB, 1000, .inl g1))] H := hP
    have hD : va_D A [(o, .inl (cO, 1, .inr (.inl oo))), (h, .inr (0, [.ref a, .ref b, .int (nI N')])), (a, .inl (cA, 1000, .inl f1)), (b, .inl (cB, 1000, .inl g1))] := hD
    refine lv_i2l (v := r.toInt64) hx hb dL_clear_8 rfl ?_
    refine ow_last (k := 0) hx hb hK hP hD hS 0 2 rfl rfl nI_0.symm (by decide) (by decide) dL_clear_9 (fun H locs hP hD hS => ?_)
    have hP : va_P (dC, dI) vwCl [(o, .inl (cO, 1, .inr (.inl (vp_updL oo 0 r.toInt64)))), (h, .inr (0, [.ref a, .ref b, .int (nI N')])), (a, .inl (cA, 1000, .inl f1)), (b, .inl (cB, 1000, .inl g1))] H := hP
    have hD : va_D A [(o, .inl (cO, 1, .inr (.inl (vp_updL oo 0 r.toInt64)))), (h, .inr (0, [.ref a, .ref b, .int (nI N')])), (a, .inl (cA, 1000, .inl f1)), (b, .inl (cB, 1000, .inl g1))] := hD
    refine lv_goto (tgt := 17) hx hb dL_clear_10 (by decide) ?_
    refine lv_iconst (v := 0) hx hb dL_clear_17 (by decide +kernel) ?_
    refine W.widen (k := 1) (n := 6) (by omega) (by omega) ?_
    exact W.iret (v := 0) hx hb hr (fun t ht hW => ⟨⟨0, (((nI N'), f1, g1), vp_updL oo 0 r.toInt64), rfl, ⟨htt.symm, fun _ => pk_uLs (f := oo) (k := 0) (x := r.toInt64), rfl, hf1, hg1⟩, by rw [ht]; exact hP.sub [1, 2, 3, 0] rfl, hD.sub [1, 2, 3, 0] (by decide) rfl⟩, hS.F ht⟩) hS.2.2 dL_clear_18
  · obtain ⟨htt, hN0, hL0⟩ : tt = 1 ∧ N' = N ∧ L' = L := by
      rcases hsp with ⟨_, h9⟩ | ⟨_, h9⟩
      · exact ⟨h9.1, h9.2.2⟩
      · exact (h9.elim (fun _ h8 => h8.elim (fun _ h7 => hth.elim (ol_at_no h7.1) (ol_at_no h7.2.1)))).elim
    refine lv_astore (lv' := [(4, .ref x9), (0, .ref h), (1, .int x), (2, .int y), (3, .ref o)]) hx hb dL_clear_13 hl (by decide) rfl (fun ls hl => ?_)
    refine lv_iconst (v := 1) hx hb dL_clear_15 (by decide +kernel) ?_
    refine W.widen (k := 1) (n := 6) (by omega) (by omega) ?_
    exact W.iret (v := 1) hx hb hr (fun t ht hW => ⟨⟨1, ((nI N, f, g), oo), rfl, ⟨htt.symm, fun h9 => absurd (htt.symm.trans h9) (by decide), by rw [hN0], by rw [hN0, hL0]; exact hf, by rw [hN0, hL0]; exact hg⟩, by rw [ht]; exact hP.sub [0, 1, 2, 3] rfl, hD.sub [0, 1, 2, 3] (by decide) rfl⟩, hS.F ht⟩) hS.2.2 dL_clear_16
set_option maxHeartbeats 4000000 in
set_option maxRecDepth 100000 in
/-- the law's carry: 1 if it throws, else 0 and the answer is laid aside -/
theorem c_L_carry (l : Launch) (dC : Nat → ClassId) (dI : Nat → Nat → Nat) (hfl : l.flags = flags0) (h a b o : Nat) (cA cB cO : ClassId) (N : Nat) (L : Nat → Nat) (f g : Nat → Int32) (oo : Nat → Int64) (tt r : Int32) (N' : Nat) (L' : Nat → Nat) (sz : Nat) (ok : ol_ok N L) (hf : ol_f N L f) (hg : ol_g N L g) (x y z : Int32) (hsp : ((ol_no N L x ∨ ol_no N L y ∨ ol_no N L z) ∧ tt = 1 ∧ r = 0 ∧ N' = N ∧ L' = L) ∨ (tt = 0 ∧ ∃ p q o', ol_at N L x p ∧ ol_at N L y q ∧ ol_at N L z o' ∧ sp_cr N L p q o' r N' L')) : Met l yL_carry wsL_carry ({ frames := 8, cells := 1, slots := 6, locals := 129 }) (ow_Px (dC, dI) vwCl [(cA, .int), (cB, .int), (cO, .long)] (wO h a b o cA cB cO ((nI N, f, g), oo)) sz [.ref h, .int x, .int y, .int z, .ref o]) (va_Qi (fun (k' : Int32) (u : (Int32 × (Nat → Int32) × (Nat → Int32)) × (Nat → Int64)) => k' = tt ∧ (tt = 0 → u.2 0 = r.toInt64) ∧ u.1.1 = nI N' ∧ ol_f N' L' u.1.2.1 ∧ ol_g N' L' u.1.2.2) (ow_B (dC, dI) vwCl (wO h a b o cA cB cO) (va_A (wO h a b o cA cB cO ((nI N, f, g), oo)) sz)) (va_A (wO h a b o cA cB cO ((nI N, f, g), oo)) sz)) 1 6 (va_A (wO h a b o cA cB cO ((nI N, f, g), oo)) sz) := by
  refine ow_ofWH (hs := [(0, 12, 15, 13)]) (cc := cL_carry) (maxL := 6) (ret := (some .int)) (by decide) rfl ?_
  intro pg ev s m args below meth cd s₁ B hml htab hv
  obtain ⟨rfl, hsz, hP, hK, hD0, hZ⟩ := hv
  have hx := B.exec
  have hb := B.bytes
  have hr := B.returns
  have hts := atoms_spec (ws := wsL_carry) B.pre
  have hown : s.vm.findClass RL = some m.cls := findClass_of_methodNamed B.named
  have hlocks := B.notSynchronized
  subst hsz
  have hD := hD0.self (sz := s.heap.size)
  generalize hAe : va_A (wO h a b o cA cB cO ((nI N, f, g), oo)) s.heap.size = A at hD ⊢
  have hA : ∀ q : Nat, s.heap.size ≤ q → A q := fun q h => by rw [← hAe]; exact Or.inr h
  have hS : va_S A s.heap s.heap [] := va_S.rf
  have hD : va_D A [(h, .inr (0, [.ref a, .ref b, .int (nI N)])), (a, .inl (cA, 1000, .inl f)), (b, .inl (cB, 1000, .inl g)), (o, .inl (cO, 1, .inr (.inl oo)))] := hD
  have hP : va_P (dC, dI) vwCl [(h, .inr (0, [.ref a, .ref b, .int (nI N)])), (a, .inl (cA, 1000, .inl f)), (b, .inl (cB, 1000, .inl g)), (o, .inl (cO, 1, .inr (.inl oo)))] s.heap := hP
  have hl := lv_entry ([.ref h, .int x, .int y, .int z, .ref o]) (n := 6) (Nat.le_of_ble_eq_true rfl)
  rw [lg_entry_eq]
  generalize (lg_sl ([.ref h, .int x, .int y, .int z, .ref o]) ++ List.replicate (6 - (lg_sl ([.ref h, .int x, .int y, .int z, .ref o])).length) Slot.unset).toArray = ls at hl ⊢
  have hl : lv_has ls 6 [(0, .ref h), (1, .int x), (2, .int y), (3, .int z), (4, .ref o)] := hl
  have htab2 : cd.exceptionTable.toList = [⟨0, 12, 15, 13⟩] := htab
  have hsX : ∀ p q o', ol_at N L x p → ol_at N L y q → ol_at N L z o' → sp_cr N L p q o' r N' L' := by
    intro p9 q9 o9 hp9 hq9 ho9
    rcases hsp with ⟨h1, _⟩ | ⟨_, p, q, o', hp, hq, ho, hs⟩
    · exact (h1.elim (ol_at_no hp9) (fun h8 => h8.elim (ol_at_no hq9) (ol_at_no ho9))).elim
    · obtain rfl := ol_at_un ok hp hp9
      obtain rfl := ol_at_un ok hq hq9
      obtain rfl := ol_at_un ok ho ho9
      exact hs
  refine lv_aload hx hb dL_carry_0 (lv_at hl 4 rfl) ?_
  refine lv_iconst (v := 0) hx hb dL_carry_2 (by decide +kernel) ?_
  refine lv_aload_n hx hb dL_carry_3 rfl (lv_at hl 0 rfl) ?_
  refine lv_iload_n hx hb dL_carry_4 rfl (lv_at hl 1 rfl) ?_
  refine lv_iload_n hx hb dL_carry_5 rfl (lv_at hl 2 rfl) ?_
  refine lv_iload_n hx hb dL_carry_6 rfl (lv_at hl 3 rfl) ?_
  refine ow_callC (hpc := 15) (wr := [(o, .inl (cO, 1, .inr (.inl oo)))]) (ow_runV (As := [.int x, .int y, .int z]) (rest := [.int 0, .ref o]) ⟨hx, hb, hml, hown, hts⟩ (c_X_carry l dC dI hfl h a b cA cB N L f g r N' L' _ ok hf hg x y z hsX) (cwV 3 hts gL_carry_X0_carry rfl rfl rfl (by decide +kernel) ⟨Nat.le_of_ble_eq_true rfl, Nat.le_of_ble_eq_true rfl⟩) (ow_PrePx (hK.sub (tys' := [(cA, .int), (cB, .int)]) [0, 1] rfl) (hP.sub [0, 1, 2] rfl) (hD.sub (ws' := wX h a b cA cB (nI N, f, g)) [0, 1, 2] (by decide) rfl) hZ (ci := 0) (q0 := 0) rfl rfl) rfl rfl hl.1 rfl (lv_room (Nat.le_of_ble_eq_true rfl)) dL_carry_7 ⟨Nat.le_of_ble_eq_true rfl, Nat.le_of_ble_eq_true rfl⟩) hP hD hS hA [0, 1, 2] [3] rfl rfl (by decide) (by decide) hown htab2 (by decide) (by decide) (hts (.classLink RL 13 "java/lang/IllegalArgumentException") (by decide +kernel)) rfl (fun hnt r0 u H locs hw hP hD hS => ?_) (fun hth x9 H locs hP hS => ?_)
  · have htt : tt = 0 := by
      rcases hsp with ⟨h9, _⟩ | ⟨h9, _⟩
      · exact absurd h9 hnt
      · exact h9
    obtain ⟨a1, f1, g1⟩ := u
    obtain ⟨er, e1, hf1, hg1⟩ := hw
    obtain rfl : nI N' = a1 := e1.symm
    refine ow_top (z := r) er ?_
    have hP : va_P (dC, dI) vwCl [(o, .inl (cO, 1, .inr (.inl oo))), (h, .inr (0, [.ref a, .ref b, .int (nI N')])), (a, .inl (cA, 1000, .inl f1)), (b, .inl (cB, 1000, .inl g1))] H := hP
    have hD : va_D A [(o, .inl (cO, 1, .inr (.inl oo))), (h, .inr (0, [.ref a, .ref b, .int (nI N')])), (a, .inl (cA, 1000, .inl f1)), (b, .inl (cB, 1000, .inl g1))] := hD
    refine lv_i2l (v := r.toInt64) hx hb dL_carry_10 rfl ?_
    refine ow_last (k := 0) hx hb hK hP hD hS 0 2 rfl rfl nI_0.symm (by decide) (by decide) dL_carry_11 (fun H locs hP hD hS => ?_)
    have hP : va_P (dC, dI) vwCl [(o, .inl (cO, 1, .inr (.inl (vp_updL oo 0 r.toInt64)))), (h, .inr (0, [.ref a, .ref b, .int (nI N')])), (a, .inl (cA, 1000, .inl f1)), (b, .inl (cB, 1000, .inl g1))] H := hP
    have hD : va_D A [(o, .inl (cO, 1, .inr (.inl (vp_updL oo 0 r.toInt64)))), (h, .inr (0, [.ref a, .ref b, .int (nI N')])), (a, .inl (cA, 1000, .inl f1)), (b, .inl (cB, 1000, .inl g1))] := hD
    refine lv_goto (tgt := 19) hx hb dL_carry_12 (by decide) ?_
    refine lv_iconst (v := 0) hx hb dL_carry_19 (by decide +kernel) ?_
    refine W.widen (k := 1) (n := 6) (by omega) (by omega) ?_
    exact W.iret (v := 0) hx hb hr (fun t ht hW => ⟨⟨0, (((nI N'), f1, g1), vp_updL oo 0 r.toInt64), rfl, ⟨htt.symm, fun _ => pk_uLs (f := oo) (k := 0) (x := r.toInt64), rfl, hf1, hg1⟩, by rw [ht]; exact hP.sub [1, 2, 3, 0] rfl, hD.sub [1, 2, 3, 0] (by decide) rfl⟩, hS.F ht⟩) hS.2.2 dL_carry_20
  · obtain ⟨htt, hN0, hL0⟩ : tt = 1 ∧ N' = N ∧ L' = L := by
      rcases hsp with ⟨_, h9⟩ | ⟨_, h9⟩
      · exact ⟨h9.1, h9.2.2⟩
      · exact (h9.elim (fun _ h8 => h8.elim (fun _ h7 => h7.elim (fun _ h6 => hth.elim (ol_at_no h6.1) (fun h5 => h5.elim (ol_at_no h6.2.1) (ol_at_no h6.2.2.1)))))).elim
    refine lv_astore (lv' := [(5, .ref x9), (0, .ref h), (1, .int x), (2, .int y), (3, .int z), (4, .ref o)]) hx hb dL_carry_15 hl (by decide) rfl (fun ls hl => ?_)
    refine lv_iconst (v := 1) hx hb dL_carry_17 (by decide +kernel) ?_
    refine W.widen (k := 1) (n := 6) (by omega) (by omega) ?_
    exact W.iret (v := 1) hx hb hr (fun t ht hW => ⟨⟨1, ((nI N, f, g), oo), rfl, ⟨htt.symm, fun h9 => absurd (htt.symm.trans h9) (by decide), by rw [hN0], by rw [hN0, hL0]; exact hf, by rw [hN0, hL0]; exact hg⟩, by rw [ht]; exact hP.sub [0, 1, 2, 3] rfl, hD.sub [0, 1, 2, 3] (by decide) rfl⟩, hS.F ht⟩) hS.2.2 dL_carry_18
set_option maxHeartbeats 4000000 in
set_option maxRecDepth 100000 in
/-- the law's compare: 1 if it throws, else 0 and the answer is laid aside -/
theorem c_L_compare (l : Launch) (dC : Nat → ClassId) (dI : Nat → Nat → Nat) (hfl : l.flags = flags0) (h a b o : Nat) (cA cB cO : ClassId) (N : Nat) (L : Nat → Nat) (f g : Nat → Int32) (oo : Nat → Int64) (tt r : Int32) (N' : Nat) (L' : Nat → Nat) (sz : Nat) (ok : ol_ok N L) (hf : ol_f N L f) (hg : ol_g N L g) (x y : Int32) (hsp : ((ol_no N L x ∨ ol_no N L y) ∧ tt = 1 ∧ r = 0 ∧ N' = N ∧ L' = L) ∨ (tt = 0 ∧ ∃ p q, ol_at N L x p ∧ ol_at N L y q ∧ r = ol_cmp p q ∧ N' = N ∧ L' = L)) : Met l yL_compare wsL_compare ({ frames := 8, cells := 1, slots := 6, locals := 125 }) (ow_Px (dC, dI) vwCl [(cA, .int), (cB, .int), (cO, .long)] (wO h a b o cA cB cO ((nI N, f, g), oo)) sz [.ref h, .int x, .int y, .ref o]) (va_Qi (fun (k' : Int32) (u : (Int32 × (Nat → Int32) × (Nat → Int32)) × (Nat → Int64)) => k' = tt ∧ (tt = 0 → u.2 0 = r.toInt64) ∧ u.1.1 = nI N' ∧ ol_f N' L' u.1.2.1 ∧ ol_g N' L' u.1.2.2) (ow_B (dC, dI) vwCl (wO h a b o cA cB cO) (va_A (wO h a b o cA cB cO ((nI N, f, g), oo)) sz)) (va_A (wO h a b o cA cB cO ((nI N, f, g), oo)) sz)) 1 6 (va_A (wO h a b o cA cB cO ((nI N, f, g), oo)) sz) := by
  refine ow_ofWH (hs := [(0, 10, 13, 13)]) (cc := cL_compare) (maxL := 5) (ret := (some .int)) (by decide) rfl ?_
  intro pg ev s m args below meth cd s₁ B hml htab hv
  obtain ⟨rfl, hsz, hP, hK, hD0, hZ⟩ := hv
  have hx := B.exec
  have hb := B.bytes
  have hr := B.returns
  have hts := atoms_spec (ws := wsL_compare) B.pre
  have hown : s.vm.findClass RL = some m.cls := findClass_of_methodNamed B.named
  have hlocks := B.notSynchronized
  subst hsz
  have hD := hD0.self (sz := s.heap.size)
  generalize hAe : va_A (wO h a b o cA cB cO ((nI N, f, g), oo)) s.heap.size = A at hD ⊢
  have hA : ∀ q : Nat, s.heap.size ≤ q → A q := fun q h => by rw [← hAe]; exact Or.inr h
  have hS : va_S A s.heap s.heap [] := va_S.rf
  have hD : va_D A [(h, .inr (0, [.ref a, .ref b, .int (nI N)])), (a, .inl (cA, 1000, .inl f)), (b, .inl (cB, 1000, .inl g)), (o, .inl (cO, 1, .inr (.inl oo)))] := hD
  have hP : va_P (dC, dI) vwCl [(h, .inr (0, [.ref a, .ref b, .int (nI N)])), (a, .inl (cA, 1000, .inl f)), (b, .inl (cB, 1000, .inl g)), (o, .inl (cO, 1, .inr (.inl oo)))] s.heap := hP
  have hl := lv_entry ([.ref h, .int x, .int y, .ref o]) (n := 5) (Nat.le_of_ble_eq_true rfl)
  rw [lg_entry_eq]
  generalize (lg_sl ([.ref h, .int x, .int y, .ref o]) ++ List.replicate (5 - (lg_sl ([.ref h, .int x, .int y, .ref o])).length) Slot.unset).toArray = ls at hl ⊢
  have hl : lv_has ls 5 [(0, .ref h), (1, .int x), (2, .int y), (3, .ref o)] := hl
  have htab2 : cd.exceptionTable.toList = [⟨0, 10, 13, 13⟩] := htab
  have hsX : ∀ p q, ol_at N L x p → ol_at N L y q → r = ol_cmp p q := by
    intro p9 q9 hp9 hq9
    rcases hsp with ⟨h1, _⟩ | ⟨_, p, q, hp, hq, hs⟩
    · exact (h1.elim (ol_at_no hp9) (ol_at_no hq9)).elim
    · obtain rfl := ol_at_un ok hp hp9
      obtain rfl := ol_at_un ok hq hq9
      exact hs.1
  refine lv_aload_n hx hb dL_compare_0 rfl (lv_at hl 3 rfl) ?_
  refine lv_iconst (v := 0) hx hb dL_compare_1 (by decide +kernel) ?_
  refine lv_aload_n hx hb dL_compare_2 rfl (lv_at hl 0 rfl) ?_
  refine lv_iload_n hx hb dL_compare_3 rfl (lv_at hl 1 rfl) ?_
  refine lv_iload_n hx hb dL_compare_4 rfl (lv_at hl 2 rfl) ?_
  refine ow_callCR (r := r) (hpc := 13) (ow_runV (As := [.int x, .int y]) (rest := [.int 0, .ref o]) ⟨hx, hb, hml, hown, hts⟩ (c_X_compare l dC dI hfl h a b cA cB N L f g x y r ok hf hg hsX) (cwV 2 hts gL_compare_X0_compare rfl rfl rfl (by decide +kernel) ⟨Nat.le_of_ble_eq_true rfl, Nat.le_of_ble_eq_true rfl⟩) (ow_PreRx (hK.sub (tys' := [(cA, .int), (cB, .int)]) [0, 1] rfl) (hP.sub [0, 1, 2] rfl) hZ (ci := 0) (q0 := 0) rfl rfl) rfl rfl hl.1 rfl (lv_room (Nat.le_of_ble_eq_true rfl)) dL_compare_5 ⟨Nat.le_of_ble_eq_true rfl, Nat.le_of_ble_eq_true rfl⟩) hP hS hown htab2 (by decide) (by decide) (hts (.classLink RL 13 "java/lang/IllegalArgumentException") (by decide +kernel)) rfl (fun hnt => ?_) (fun hth x9 H hP hS => ?_)
  · have htt : tt = 0 := by
      rcases hsp with ⟨h9, _⟩ | ⟨h9, _⟩
      · exact absurd h9 hnt
      · exact h9
    obtain ⟨hN0, hL0⟩ : N' = N ∧ L' = L := by
      rcases hsp with ⟨h9, _⟩ | h9
      · exact absurd h9 hnt
      · exact (h9.2.elim (fun _ h8 => h8.elim (fun _ h7 => h7.2.2.2)))
    refine lv_i2l (v := r.toInt64) hx hb dL_compare_8 rfl ?_
    refine ow_last (k := 0) hx hb hK hP hD hS 3 2 rfl rfl nI_0.symm (by decide) (by decide) dL_compare_9 (fun H locs hP hD hS => ?_)
    have hP : va_P (dC, dI) vwCl [(h, .inr (0, [.ref a, .ref b, .int (nI N)])), (a, .inl (cA, 1000, .inl f)), (b, .inl (cB, 1000, .inl g)), (o, .inl (cO, 1, .inr (.inl (vp_updL oo 0 r.toInt64))))] H := hP
    have hD : va_D A [(h, .inr (0, [.ref a, .ref b, .int (nI N)])), (a, .inl (cA, 1000, .inl f)), (b, .inl (cB, 1000, .inl g)), (o, .inl (cO, 1, .inr (.inl (vp_updL oo 0 r.toInt64))))] := hD
    refine lv_goto (tgt := 17) hx hb dL_compare_10 (by decide) ?_
    refine lv_iconst (v := 0) hx hb dL_compare_17 (by decide +kernel) ?_
    refine W.widen (k := 1) (n := 6) (by omega) (by omega) ?_
    exact W.iret (v := 0) hx hb hr (fun t ht hW => ⟨⟨0, (((nI N), f, g), vp_updL oo 0 r.toInt64), rfl, ⟨htt.symm, fun _ => pk_uLs (f := oo) (k := 0) (x := r.toInt64), by rw [hN0], by rw [hN0, hL0]; exact hf, by rw [hN0, hL0]; exact hg⟩, by rw [ht]; exact hP.sub [0, 1, 2, 3] rfl, hD.sub [0, 1, 2, 3] (by decide) rfl⟩, hS.F ht⟩) hS.2.2 dL_compare_18
  · obtain ⟨htt, hN0, hL0⟩ : tt = 1 ∧ N' = N ∧ L' = L := by
      rcases hsp with ⟨_, h9⟩ | ⟨_, h9⟩
      · exact ⟨h9.1, h9.2.2⟩
      · exact (h9.elim (fun _ h8 => h8.elim (fun _ h7 => hth.elim (ol_at_no h7.1) (ol_at_no h7.2.1)))).elim
    refine lv_astore (lv' := [(4, .ref x9), (0, .ref h), (1, .int x), (2, .int y), (3, .ref o)]) hx hb dL_compare_13 hl (by decide) rfl (fun ls hl => ?_)
    refine lv_iconst (v := 1) hx hb dL_compare_15 (by decide +kernel) ?_
    refine W.widen (k := 1) (n := 6) (by omega) (by omega) ?_
    exact W.iret (v := 1) hx hb hr (fun t ht hW => ⟨⟨1, ((nI N, f, g), oo), rfl, ⟨htt.symm, fun h9 => absurd (htt.symm.trans h9) (by decide), by rw [hN0], by rw [hN0, hL0]; exact hf, by rw [hN0, hL0]; exact hg⟩, by rw [ht]; exact hP.sub [0, 1, 2, 3] rfl, hD.sub [0, 1, 2, 3] (by decide) rfl⟩, hS.F ht⟩) hS.2.2 dL_compare_16
set_option maxHeartbeats 4000000 in
set_option maxRecDepth 100000 in
/-- the law's next: 1 if it throws, else 0 and the answer is laid aside -/
theorem c_L_next (l : Launch) (dC : Nat → ClassId) (dI : Nat → Nat → Nat) (hfl : l.flags = flags0) (h a b o : Nat) (cA cB cO : ClassId) (N : Nat) (L : Nat → Nat) (f g : Nat → Int32) (oo : Nat → Int64) (tt r : Int32) (N' : Nat) (L' : Nat → Nat) (sz : Nat) (ok : ol_ok N L) (hf : ol_f N L f) (hg : ol_g N L g) (x z : Int32) (hsp : (ol_no N L x ∧ tt = 1 ∧ r = 0 ∧ N' = N ∧ L' = L) ∨ (tt = 0 ∧ ∃ p, ol_at N L x p ∧ ol_ps N L (if z = 0 then nI p - 1 else nI p + 1) r ∧ N' = N ∧ L' = L)) : Met l yL_next wsL_next ({ frames := 8, cells := 1, slots := 6, locals := 125 }) (ow_Px (dC, dI) vwCl [(cA, .int), (cB, .int), (cO, .long)] (wO h a b o cA cB cO ((nI N, f, g), oo)) sz [.ref h, .int x, .int z, .ref o]) (va_Qi (fun (k' : Int32) (u : (Int32 × (Nat → Int32) × (Nat → Int32)) × (Nat → Int64)) => k' = tt ∧ (tt = 0 → u.2 0 = r.toInt64) ∧ u.1.1 = nI N' ∧ ol_f N' L' u.1.2.1 ∧ ol_g N' L' u.1.2.2) (ow_B (dC, dI) vwCl (wO h a b o cA cB cO) (va_A (wO h a b o cA cB cO ((nI N, f, g), oo)) sz)) (va_A (wO h a b o cA cB cO ((nI N, f, g), oo)) sz)) 1 6 (va_A (wO h a b o cA cB cO ((nI N, f, g), oo)) sz) := by
  refine ow_ofWH (hs := [(0, 10, 13, 13)]) (cc := cL_next) (maxL := 5) (ret := (some .int)) (by decide) rfl ?_
  intro pg ev s m args below meth cd s₁ B hml htab hv
  obtain ⟨rfl, hsz, hP, hK, hD0, hZ⟩ := hv
  have hx := B.exec
  have hb := B.bytes
  have hr := B.returns
  have hts := atoms_spec (ws := wsL_next) B.pre
  have hown : s.vm.findClass RL = some m.cls := findClass_of_methodNamed B.named
  have hlocks := B.notSynchronized
  subst hsz
  have hD := hD0.self (sz := s.heap.size)
  generalize hAe : va_A (wO h a b o cA cB cO ((nI N, f, g), oo)) s.heap.size = A at hD ⊢
  have hA : ∀ q : Nat, s.heap.size ≤ q → A q := fun q h => by rw [← hAe]; exact Or.inr h
  have hS : va_S A s.heap s.heap [] := va_S.rf
  have hD : va_D A [(h, .inr (0, [.ref a, .ref b, .int (nI N)])), (a, .inl (cA, 1000, .inl f)), (b, .inl (cB, 1000, .inl g)), (o, .inl (cO, 1, .inr (.inl oo)))] := hD
  have hP : va_P (dC, dI) vwCl [(h, .inr (0, [.ref a, .ref b, .int (nI N)])), (a, .inl (cA, 1000, .inl f)), (b, .inl (cB, 1000, .inl g)), (o, .inl (cO, 1, .inr (.inl oo)))] s.heap := hP
  have hl := lv_entry ([.ref h, .int x, .int z, .ref o]) (n := 5) (Nat.le_of_ble_eq_true rfl)
  rw [lg_entry_eq]
  generalize (lg_sl ([.ref h, .int x, .int z, .ref o]) ++ List.replicate (5 - (lg_sl ([.ref h, .int x, .int z, .ref o])).length) Slot.unset).toArray = ls at hl ⊢
  have hl : lv_has ls 5 [(0, .ref h), (1, .int x), (2, .int z), (3, .ref o)] := hl
  have htab2 : cd.exceptionTable.toList = [⟨0, 10, 13, 13⟩] := htab
  have hsX : ∀ p, ol_at N L x p → ol_ps N L (if z = 0 then nI p - 1 else nI p + 1) r := by
    intro p9 hp9
    rcases hsp with ⟨h1, _⟩ | ⟨_, p, hp, hs⟩
    · exact (ol_at_no hp9 h1).elim
    · obtain rfl := ol_at_un ok hp hp9
      exact hs.1
  refine lv_aload_n hx hb dL_next_0 rfl (lv_at hl 3 rfl) ?_
  refine lv_iconst (v := 0) hx hb dL_next_1 (by decide +kernel) ?_
  refine lv_aload_n hx hb dL_next_2 rfl (lv_at hl 0 rfl) ?_
  refine lv_iload_n hx hb dL_next_3 rfl (lv_at hl 1 rfl) ?_
  refine lv_iload_n hx hb dL_next_4 rfl (lv_at hl 2 rfl) ?_
  refine ow_callCR (r := r) (hpc := 13) (ow_runV (As := [.int x, .int z]) (rest := [.int 0, .ref o]) ⟨hx, hb, hml, hown, hts⟩ (c_X_next l dC dI hfl h a b cA cB N L f g x z r ok hf hg hsX) (cwV 2 hts gL_next_X0_next rfl rfl rfl (by decide +kernel) ⟨Nat.le_of_ble_eq_true rfl, Nat.le_of_ble_eq_true rfl⟩) (ow_PreRx (hK.sub (tys' := [(cA, .int), (cB, .int)]) [0, 1] rfl) (hP.sub [0, 1, 2] rfl) hZ (ci := 0) (q0 := 0) rfl rfl) rfl rfl hl.1 rfl (lv_room (Nat.le_of_ble_eq_true rfl)) dL_next_5 ⟨Nat.le_of_ble_eq_true rfl, Nat.le_of_ble_eq_true rfl⟩) hP hS hown htab2 (by decide) (by decide) (hts (.classLink RL 13 "java/lang/IllegalArgumentException") (by decide +kernel)) rfl (fun hnt => ?_) (fun hth x9 H hP hS => ?_)
  · have htt : tt = 0 := by
      rcases hsp with ⟨h9, _⟩ | ⟨h9, _⟩
      · exact absurd h9 hnt
      · exact h9
    obtain ⟨hN0, hL0⟩ : N' = N ∧ L' = L := by
      rcases hsp with ⟨h9, _⟩ | h9
      · exact absurd h9 hnt
      · exact (h9.2.elim (fun _ h8 => h8.2.2))
    refine lv_i2l (v := r.toInt64) hx hb dL_next_8 rfl ?_
    refine ow_last (k := 0) hx hb hK hP hD hS 3 2 rfl rfl nI_0.symm (by decide) (by decide) dL_next_9 (fun H locs hP hD hS => ?_)
    have hP : va_P (dC, dI) vwCl [(h, .inr (0, [.ref a, .ref b, .int (nI N)])), (a, .inl (cA, 1000, .inl f)), (b, .inl (cB, 1000, .inl g)), (o, .inl (cO, 1, .inr (.inl (vp_updL oo 0 r.toInt64))))] H := hP
    have hD : va_D A [(h, .inr (0, [.ref a, .ref b, .int (nI N)])), (a, .inl (cA, 1000, .inl f)), (b, .inl (cB, 1000, .inl g)), (o, .inl (cO, 1, .inr (.inl (vp_updL oo 0 r.toInt64))))] := hD
    refine lv_goto (tgt := 17) hx hb dL_next_10 (by decide) ?_
    refine lv_iconst (v := 0) hx hb dL_next_17 (by decide +kernel) ?_
    refine W.widen (k := 1) (n := 6) (by omega) (by omega) ?_
    exact W.iret (v := 0) hx hb hr (fun t ht hW => ⟨⟨0, (((nI N), f, g), vp_updL oo 0 r.toInt64), rfl, ⟨htt.symm, fun _ => pk_uLs (f := oo) (k := 0) (x := r.toInt64), by rw [hN0], by rw [hN0, hL0]; exact hf, by rw [hN0, hL0]; exact hg⟩, by rw [ht]; exact hP.sub [0, 1, 2, 3] rfl, hD.sub [0, 1, 2, 3] (by decide) rfl⟩, hS.F ht⟩) hS.2.2 dL_next_18
  · obtain ⟨htt, hN0, hL0⟩ : tt = 1 ∧ N' = N ∧ L' = L := by
      rcases hsp with ⟨_, h9⟩ | ⟨_, h9⟩
      · exact ⟨h9.1, h9.2.2⟩
      · exact (h9.elim (fun _ h8 => ol_at_no h8.1 hth)).elim
    refine lv_astore (lv' := [(4, .ref x9), (0, .ref h), (1, .int x), (2, .int z), (3, .ref o)]) hx hb dL_next_13 hl (by decide) rfl (fun ls hl => ?_)
    refine lv_iconst (v := 1) hx hb dL_next_15 (by decide +kernel) ?_
    refine W.widen (k := 1) (n := 6) (by omega) (by omega) ?_
    exact W.iret (v := 1) hx hb hr (fun t ht hW => ⟨⟨1, ((nI N, f, g), oo), rfl, ⟨htt.symm, fun h9 => absurd (htt.symm.trans h9) (by decide), by rw [hN0], by rw [hN0, hL0]; exact hf, by rw [hN0, hL0]; exact hg⟩, by rw [ht]; exact hP.sub [0, 1, 2, 3] rfl, hD.sub [0, 1, 2, 3] (by decide) rfl⟩, hS.F ht⟩) hS.2.2 dL_next_16
set_option maxHeartbeats 4000000 in
set_option maxRecDepth 100000 in
/-- the law's place: 1 if it throws, else 0 and the answer is laid aside -/
theorem c_L_place (l : Launch) (dC : Nat → ClassId) (dI : Nat → Nat → Nat) (hfl : l.flags = flags0) (h a b o : Nat) (cA cB cO : ClassId) (N : Nat) (L : Nat → Nat) (f g : Nat → Int32) (oo : Nat → Int64) (tt r : Int32) (N' : Nat) (L' : Nat → Nat) (sz : Nat) (ok : ol_ok N L) (hf : ol_f N L f) (hg : ol_g N L g) (x : Int32) (hsp : (ol_no N L x ∧ tt = 1 ∧ r = 0 ∧ N' = N ∧ L' = L) ∨ (tt = 0 ∧ ∃ p, ol_at N L x p ∧ r = nI p ∧ N' = N ∧ L' = L)) : Met l yL_place wsL_place ({ frames := 8, cells := 1, slots := 6, locals := 124 }) (ow_Px (dC, dI) vwCl [(cA, .int), (cB, .int), (cO, .long)] (wO h a b o cA cB cO ((nI N, f, g), oo)) sz [.ref h, .int x, .ref o]) (va_Qi (fun (k' : Int32) (u : (Int32 × (Nat → Int32) × (Nat → Int32)) × (Nat → Int64)) => k' = tt ∧ (tt = 0 → u.2 0 = r.toInt64) ∧ u.1.1 = nI N' ∧ ol_f N' L' u.1.2.1 ∧ ol_g N' L' u.1.2.2) (ow_B (dC, dI) vwCl (wO h a b o cA cB cO) (va_A (wO h a b o cA cB cO ((nI N, f, g), oo)) sz)) (va_A (wO h a b o cA cB cO ((nI N, f, g), oo)) sz)) 1 6 (va_A (wO h a b o cA cB cO ((nI N, f, g), oo)) sz) := by
  refine ow_ofWH (hs := [(0, 9, 12, 13)]) (cc := cL_place) (maxL := 4) (ret := (some .int)) (by decide) rfl ?_
  intro pg ev s m args below meth cd s₁ B hml htab hv
  obtain ⟨rfl, hsz, hP, hK, hD0, hZ⟩ := hv
  have hx := B.exec
  have hb := B.bytes
  have hr := B.returns
  have hts := atoms_spec (ws := wsL_place) B.pre
  have hown : s.vm.findClass RL = some m.cls := findClass_of_methodNamed B.named
  have hlocks := B.notSynchronized
  subst hsz
  have hD := hD0.self (sz := s.heap.size)
  generalize hAe : va_A (wO h a b o cA cB cO ((nI N, f, g), oo)) s.heap.size = A at hD ⊢
  have hA : ∀ q : Nat, s.heap.size ≤ q → A q := fun q h => by rw [← hAe]; exact Or.inr h
  have hS : va_S A s.heap s.heap [] := va_S.rf
  have hD : va_D A [(h, .inr (0, [.ref a, .ref b, .int (nI N)])), (a, .inl (cA, 1000, .inl f)), (b, .inl (cB, 1000, .inl g)), (o, .inl (cO, 1, .inr (.inl oo)))] := hD
  have hP : va_P (dC, dI) vwCl [(h, .inr (0, [.ref a, .ref b, .int (nI N)])), (a, .inl (cA, 1000, .inl f)), (b, .inl (cB, 1000, .inl g)), (o, .inl (cO, 1, .inr (.inl oo)))] s.heap := hP
  have hl := lv_entry ([.ref h, .int x, .ref o]) (n := 4) (Nat.le_of_ble_eq_true rfl)
  rw [lg_entry_eq]
  generalize (lg_sl ([.ref h, .int x, .ref o]) ++ List.replicate (4 - (lg_sl ([.ref h, .int x, .ref o])).length) Slot.unset).toArray = ls at hl ⊢
  have hl : lv_has ls 4 [(0, .ref h), (1, .int x), (2, .ref o)] := hl
  have htab2 : cd.exceptionTable.toList = [⟨0, 9, 12, 13⟩] := htab
  have hsX : ∀ p, ol_at N L x p → r = nI p := by
    intro p9 hp9
    rcases hsp with ⟨h1, _⟩ | ⟨_, p, hp, hs⟩
    · exact (ol_at_no hp9 h1).elim
    · obtain rfl := ol_at_un ok hp hp9
      exact hs.1
  refine lv_aload_n hx hb dL_place_0 rfl (lv_at hl 2 rfl) ?_
  refine lv_iconst (v := 0) hx hb dL_place_1 (by decide +kernel) ?_
  refine lv_aload_n hx hb dL_place_2 rfl (lv_at hl 0 rfl) ?_
  refine lv_iload_n hx hb dL_place_3 rfl (lv_at hl 1 rfl) ?_
  refine ow_callCR (r := r) (hpc := 12) (ow_runV (As := [.int x]) (rest := [.int 0, .ref o]) ⟨hx, hb, hml, hown, hts⟩ (c_X_place l dC dI hfl h a b cA cB N L f g x r ok hf hg hsX) (cwV 1 hts gL_place_X0_place rfl rfl rfl (by decide +kernel) ⟨Nat.le_of_ble_eq_true rfl, Nat.le_of_ble_eq_true rfl⟩) (ow_PreRx (hK.sub (tys' := [(cA, .int), (cB, .int)]) [0, 1] rfl) (hP.sub [0, 1, 2] rfl) hZ (ci := 0) (q0 := 0) rfl rfl) rfl rfl hl.1 rfl (lv_room (Nat.le_of_ble_eq_true rfl)) dL_place_4 ⟨Nat.le_of_ble_eq_true rfl, Nat.le_of_ble_eq_true rfl⟩) hP hS hown htab2 (by decide) (by decide) (hts (.classLink RL 13 "java/lang/IllegalArgumentException") (by decide +kernel)) rfl (fun hnt => ?_) (fun hth x9 H hP hS => ?_)
  · have htt : tt = 0 := by
      rcases hsp with ⟨h9, _⟩ | ⟨h9, _⟩
      · exact absurd h9 hnt
      · exact h9
    obtain ⟨hN0, hL0⟩ : N' = N ∧ L' = L := by
      rcases hsp with ⟨h9, _⟩ | h9
      · exact absurd h9 hnt
      · exact (h9.2.elim (fun _ h8 => h8.2.2))
    refine lv_i2l (v := r.toInt64) hx hb dL_place_7 rfl ?_
    refine ow_last (k := 0) hx hb hK hP hD hS 3 2 rfl rfl nI_0.symm (by decide) (by decide) dL_place_8 (fun H locs hP hD hS => ?_)
    have hP : va_P (dC, dI) vwCl [(h, .inr (0, [.ref a, .ref b, .int (nI N)])), (a, .inl (cA, 1000, .inl f)), (b, .inl (cB, 1000, .inl g)), (o, .inl (cO, 1, .inr (.inl (vp_updL oo 0 r.toInt64))))] H := hP
    have hD : va_D A [(h, .inr (0, [.ref a, .ref b, .int (nI N)])), (a, .inl (cA, 1000, .inl f)), (b, .inl (cB, 1000, .inl g)), (o, .inl (cO, 1, .inr (.inl (vp_updL oo 0 r.toInt64))))] := hD
    refine lv_goto (tgt := 15) hx hb dL_place_9 (by decide) ?_
    refine lv_iconst (v := 0) hx hb dL_place_15 (by decide +kernel) ?_
    refine W.widen (k := 1) (n := 6) (by omega) (by omega) ?_
    exact W.iret (v := 0) hx hb hr (fun t ht hW => ⟨⟨0, (((nI N), f, g), vp_updL oo 0 r.toInt64), rfl, ⟨htt.symm, fun _ => pk_uLs (f := oo) (k := 0) (x := r.toInt64), by rw [hN0], by rw [hN0, hL0]; exact hf, by rw [hN0, hL0]; exact hg⟩, by rw [ht]; exact hP.sub [0, 1, 2, 3] rfl, hD.sub [0, 1, 2, 3] (by decide) rfl⟩, hS.F ht⟩) hS.2.2 dL_place_16
  · obtain ⟨htt, hN0, hL0⟩ : tt = 1 ∧ N' = N ∧ L' = L := by
      rcases hsp with ⟨_, h9⟩ | ⟨_, h9⟩
      · exact ⟨h9.1, h9.2.2⟩
      · exact (h9.elim (fun _ h8 => ol_at_no h8.1 hth)).elim
    refine lv_astore_n (lv' := [(3, .ref x9), (0, .ref h), (1, .int x), (2, .ref o)]) hx hb dL_place_12 rfl hl (by decide) rfl (fun ls hl => ?_)
    refine lv_iconst (v := 1) hx hb dL_place_13 (by decide +kernel) ?_
    refine W.widen (k := 1) (n := 6) (by omega) (by omega) ?_
    exact W.iret (v := 1) hx hb hr (fun t ht hW => ⟨⟨1, ((nI N, f, g), oo), rfl, ⟨htt.symm, fun h9 => absurd (htt.symm.trans h9) (by decide), by rw [hN0], by rw [hN0, hL0]; exact hf, by rw [hN0, hL0]; exact hg⟩, by rw [ht]; exact hP.sub [0, 1, 2, 3] rfl, hD.sub [0, 1, 2, 3] (by decide) rfl⟩, hS.F ht⟩) hS.2.2 dL_place_14
set_option maxHeartbeats 4000000 in
set_option maxRecDepth 100000 in
/-- the law's greatest: 1 if it throws, else 0 and the answer is laid aside -/
theorem c_L_greatest (l : Launch) (dC : Nat → ClassId) (dI : Nat → Nat → Nat) (hfl : l.flags = flags0) (h a b o : Nat) (cA cB cO : ClassId) (N : Nat) (L : Nat → Nat) (f g : Nat → Int32) (oo : Nat → Int64) (tt r : Int32) (N' : Nat) (L' : Nat → Nat) (sz : Nat) (ok : ol_ok N L) (hf : ol_f N L f) (hg : ol_g N L g) (x y : Int32) (hsp : ((ol_no N L x ∨ ol_no N L y) ∧ tt = 1 ∧ r = 0 ∧ N' = N ∧ L' = L) ∨ (tt = 0 ∧ ∃ p q, ol_at N L x p ∧ ol_at N L y q ∧ r = ol_top L p (q + 1 - p) ∧ N' = N ∧ L' = L)) : Met l yL_greatest wsL_greatest ({ frames := 8, cells := 1, slots := 6, locals := 128 }) (ow_Px (dC, dI) vwCl [(cA, .int), (cB, .int), (cO, .long)] (wO h a b o cA cB cO ((nI N, f, g), oo)) sz [.ref h, .int x, .int y, .ref o]) (va_Qi (fun (k' : Int32) (u : (Int32 × (Nat → Int32) × (Nat → Int32)) × (Nat → Int64)) => k' = tt ∧ (tt = 0 → u.2 0 = r.toInt64) ∧ u.1.1 = nI N' ∧ ol_f N' L' u.1.2.1 ∧ ol_g N' L' u.1.2.2) (ow_B (dC, dI) vwCl (wO h a b o cA cB cO) (va_A (wO h a b o cA cB cO ((nI N, f, g), oo)) sz)) (va_A (wO h a b o cA cB cO ((nI N, f, g), oo)) sz)) 1 6 (va_A (wO h a b o cA cB cO ((nI N, f, g), oo)) sz) := by
  refine ow_ofWH (hs := [(0, 10, 13, 13)]) (cc := cL_greatest) (maxL := 5) (ret := (some .int)) (by decide) rfl ?_
  intro pg ev s m args below meth cd s₁ B hml htab hv
  obtain ⟨rfl, hsz, hP, hK, hD0, hZ⟩ := hv
  have hx := B.exec
  have hb := B.bytes
  have hr := B.returns
  have hts := atoms_spec (ws := wsL_greatest) B.pre
  have hown : s.vm.findClass RL = some m.cls := findClass_of_methodNamed B.named
  have hlocks := B.notSynchronized
  subst hsz
  have hD := hD0.self (sz := s.heap.size)
  generalize hAe : va_A (wO h a b o cA cB cO ((nI N, f, g), oo)) s.heap.size = A at hD ⊢
  have hA : ∀ q : Nat, s.heap.size ≤ q → A q := fun q h => by rw [← hAe]; exact Or.inr h
  have hS : va_S A s.heap s.heap [] := va_S.rf
  have hD : va_D A [(h, .inr (0, [.ref a, .ref b, .int (nI N)])), (a, .inl (cA, 1000, .inl f)), (b, .inl (cB, 1000, .inl g)), (o, .inl (cO, 1, .inr (.inl oo)))] := hD
  have hP : va_P (dC, dI) vwCl [(h, .inr (0, [.ref a, .ref b, .int (nI N)])), (a, .inl (cA, 1000, .inl f)), (b, .inl (cB, 1000, .inl g)), (o, .inl (cO, 1, .inr (.inl oo)))] s.heap := hP
  have hl := lv_entry ([.ref h, .int x, .int y, .ref o]) (n := 5) (Nat.le_of_ble_eq_true rfl)
  rw [lg_entry_eq]
  generalize (lg_sl ([.ref h, .int x, .int y, .ref o]) ++ List.replicate (5 - (lg_sl ([.ref h, .int x, .int y, .ref o])).length) Slot.unset).toArray = ls at hl ⊢
  have hl : lv_has ls 5 [(0, .ref h), (1, .int x), (2, .int y), (3, .ref o)] := hl
  have htab2 : cd.exceptionTable.toList = [⟨0, 10, 13, 13⟩] := htab
  have hsX : ∀ p q, ol_at N L x p → ol_at N L y q → r = ol_top L p (q + 1 - p) := by
    intro p9 q9 hp9 hq9
    rcases hsp with ⟨h1, _⟩ | ⟨_, p, q, hp, hq, hs⟩
    · exact (h1.elim (ol_at_no hp9) (ol_at_no hq9)).elim
    · obtain rfl := ol_at_un ok hp hp9
      obtain rfl := ol_at_un ok hq hq9
      exact hs.1
  refine lv_aload_n hx hb dL_greatest_0 rfl (lv_at hl 3 rfl) ?_
  refine lv_iconst (v := 0) hx hb dL_greatest_1 (by decide +kernel) ?_
  refine lv_aload_n hx hb dL_greatest_2 rfl (lv_at hl 0 rfl) ?_
  refine lv_iload_n hx hb dL_greatest_3 rfl (lv_at hl 1 rfl) ?_
  refine lv_iload_n hx hb dL_greatest_4 rfl (lv_at hl 2 rfl) ?_
  refine ow_callCR (r := r) (hpc := 13) (ow_runV (As := [.int x, .int y]) (rest := [.int 0, .ref o]) ⟨hx, hb, hml, hown, hts⟩ (c_X_greatest l dC dI hfl h a b cA cB N L f g x y r ok hf hg hsX) (cwV 2 hts gL_greatest_X0_greatest rfl rfl rfl (by decide +kernel) ⟨Nat.le_of_ble_eq_true rfl, Nat.le_of_ble_eq_true rfl⟩) (ow_PreRx (hK.sub (tys' := [(cA, .int), (cB, .int)]) [0, 1] rfl) (hP.sub [0, 1, 2] rfl) hZ (ci := 0) (q0 := 0) rfl rfl) rfl rfl hl.1 rfl (lv_room (Nat.le_of_ble_eq_true rfl)) dL_greatest_5 ⟨Nat.le_of_ble_eq_true rfl, Nat.le_of_ble_eq_true rfl⟩) hP hS hown htab2 (by decide) (by decide) (hts (.classLink RL 13 "java/lang/IllegalArgumentException") (by decide +kernel)) rfl (fun hnt => ?_) (fun hth x9 H hP hS => ?_)
  · have htt : tt = 0 := by
      rcases hsp with ⟨h9, _⟩ | ⟨h9, _⟩
      · exact absurd h9 hnt
      · exact h9
    obtain ⟨hN0, hL0⟩ : N' = N ∧ L' = L := by
      rcases hsp with ⟨h9, _⟩ | h9
      · exact absurd h9 hnt
      · exact (h9.2.elim (fun _ h8 => h8.elim (fun _ h7 => h7.2.2.2)))
    refine lv_i2l (v := r.toInt64) hx hb dL_greatest_8 rfl ?_
    refine ow_last (k := 0) hx hb hK hP hD hS 3 2 rfl rfl nI_0.symm (by decide) (by decide) dL_greatest_9 (fun H locs hP hD hS => ?_)
    have hP : va_P (dC, dI) vwCl [(h, .inr (0, [.ref a, .ref b, .int (nI N)])), (a, .inl (cA, 1000, .inl f)), (b, .inl (cB, 1000, .inl g)), (o, .inl (cO, 1, .inr (.inl (vp_updL oo 0 r.toInt64))))] H := hP
    have hD : va_D A [(h, .inr (0, [.ref a, .ref b, .int (nI N)])), (a, .inl (cA, 1000, .inl f)), (b, .inl (cB, 1000, .inl g)), (o, .inl (cO, 1, .inr (.inl (vp_updL oo 0 r.toInt64))))] := hD
    refine lv_goto (tgt := 17) hx hb dL_greatest_10 (by decide) ?_
    refine lv_iconst (v := 0) hx hb dL_greatest_17 (by decide +kernel) ?_
    refine W.widen (k := 1) (n := 6) (by omega) (by omega) ?_
    exact W.iret (v := 0) hx hb hr (fun t ht hW => ⟨⟨0, (((nI N), f, g), vp_updL oo 0 r.toInt64), rfl, ⟨htt.symm, fun _ => pk_uLs (f := oo) (k := 0) (x := r.toInt64), by rw [hN0], by rw [hN0, hL0]; exact hf, by rw [hN0, hL0]; exact hg⟩, by rw [ht]; exact hP.sub [0, 1, 2, 3] rfl, hD.sub [0, 1, 2, 3] (by decide) rfl⟩, hS.F ht⟩) hS.2.2 dL_greatest_18
  · obtain ⟨htt, hN0, hL0⟩ : tt = 1 ∧ N' = N ∧ L' = L := by
      rcases hsp with ⟨_, h9⟩ | ⟨_, h9⟩
      · exact ⟨h9.1, h9.2.2⟩
      · exact (h9.elim (fun _ h8 => h8.elim (fun _ h7 => hth.elim (ol_at_no h7.1) (ol_at_no h7.2.1)))).elim
    refine lv_astore (lv' := [(4, .ref x9), (0, .ref h), (1, .int x), (2, .int y), (3, .ref o)]) hx hb dL_greatest_13 hl (by decide) rfl (fun ls hl => ?_)
    refine lv_iconst (v := 1) hx hb dL_greatest_15 (by decide +kernel) ?_
    refine W.widen (k := 1) (n := 6) (by omega) (by omega) ?_
    exact W.iret (v := 1) hx hb hr (fun t ht hW => ⟨⟨1, ((nI N, f, g), oo), rfl, ⟨htt.symm, fun h9 => absurd (htt.symm.trans h9) (by decide), by rw [hN0], by rw [hN0, hL0]; exact hf, by rw [hN0, hL0]; exact hg⟩, by rw [ht]; exact hP.sub [0, 1, 2, 3] rfl, hD.sub [0, 1, 2, 3] (by decide) rfl⟩, hS.F ht⟩) hS.2.2 dL_greatest_16
end
section
/-! FOR EVERY CALL there is an answer, and a line behind it -/
theorem ol_ok_1 {N : Nat} {L : Nat → Nat} (ok : ol_ok N L) : ol_ok 1 L := ⟨Nat.le_refl 1, by decide, ok.2.2.1, fun p hp => ok.2.2.2.1 p (by have := ok.1; omega), fun p q hp hq _ => by omega⟩
theorem ol_ok_0 : ol_ok 1 (fun _ => 0) := ⟨Nat.le_refl 1, by decide, rfl, fun _ _ => (by decide : 0 < 1000), fun p q hp hq _ => by omega⟩
theorem ol_f_0 : ol_f 1 (fun _ => 0) (fun _ => 0) := fun _ _ => nI_0.symm
theorem ex_behind {N : Nat} {L : Nat → Nat} (ok : ol_ok N L) (x : Int32) : ∃ (tt r : Int32) (N' : Nat) (L' : Nat → Nat), ((ol_no N L x ∧ tt = 1 ∧ r = 0 ∧ N' = N ∧ L' = L) ∨ (tt = 0 ∧ ∃ p, ol_at N L x p ∧ sp_bh N L p r N' L')) ∧ ol_ok N' L' := by
  rcases ol_dec N L x with ⟨p, hp⟩ | hno
  · have hpN := hp.1
    have hN := ok.2.1
    by_cases h : N < 1000
    · exact ⟨0, nI (ol_fr N L), N + 1, ol_many N L (p + 1) 1, Or.inr ⟨rfl, p, hp, Or.inl ⟨h, rfl, rfl, rfl⟩⟩, ol_ok_many ok (by omega) (by omega) 1 (by omega)⟩
    · exact ⟨0, -1, N, L, Or.inr ⟨rfl, p, hp, Or.inr ⟨by omega, rfl, rfl, rfl⟩⟩, ok⟩
  · exact ⟨1, 0, N, L, Or.inl ⟨hno, rfl, rfl, rfl, rfl⟩, ok⟩
theorem ex_several {N : Nat} {L : Nat → Nat} (ok : ol_ok N L) (x z : Int32) : ∃ (tt r : Int32) (N' : Nat) (L' : Nat → Nat), ((ol_no N L x ∧ tt = 1 ∧ r = 0 ∧ N' = N ∧ L' = L) ∨ (tt = 0 ∧ ∃ p, ol_at N L x p ∧ sp_sv N L p z r N' L')) ∧ ol_ok N' L' := by
  rcases ol_dec N L x with ⟨p, hp⟩ | hno
  · have hpN := hp.1
    by_cases h : ∃ w, 2 ≤ w ∧ w ≤ 64 ∧ z = nI w ∧ N + w ≤ 1000
    · obtain ⟨w, a1, a2, a3, a4⟩ := h
      exact ⟨0, nI (ol_fr N L), N + w, ol_many N L (p + 1) w, Or.inr ⟨rfl, p, hp, Or.inl ⟨w, a1, a2, a3, a4, rfl, rfl, rfl⟩⟩, ol_ok_many ok (by omega) (by omega) w (by omega)⟩
    · exact ⟨0, -1, N, L, Or.inr ⟨rfl, p, hp, Or.inr ⟨fun w a1 a2 a3 e => h ⟨w, a1, a2, e, a3⟩, rfl, rfl, rfl⟩⟩, ok⟩
  · exact ⟨1, 0, N, L, Or.inl ⟨hno, rfl, rfl, rfl, rfl⟩, ok⟩
theorem ol_dec2 (N : Nat) (L : Nat → Nat) (x y : Int32) : (∃ p q, ol_at N L x p ∧ ol_at N L y q) ∨ (ol_no N L x ∨ ol_no N L y) := by
  rcases ol_dec N L x with ⟨p, hp⟩ | hno
  · rcases ol_dec N L y with ⟨q, hq⟩ | hno
    · exact Or.inl ⟨p, q, hp, hq⟩
    · exact Or.inr (Or.inr hno)
  · exact Or.inr (Or.inl hno)
theorem ol_dec3 (N : Nat) (L : Nat → Nat) (x y z : Int32) : (∃ p q o', ol_at N L x p ∧ ol_at N L y q ∧ ol_at N L z o') ∨ (ol_no N L x ∨ ol_no N L y ∨ ol_no N L z) := by
  rcases ol_dec2 N L x y with ⟨p, q, hp, hq⟩ | h
  · rcases ol_dec N L z with ⟨o', ho⟩ | hno
    · exact Or.inl ⟨p, q, o', hp, hq, ho⟩
    · exact Or.inr (Or.inr (Or.inr hno))
  · exact Or.inr (h.elim Or.inl (fun h => Or.inr (Or.inl h)))
theorem ex_clear {N : Nat} {L : Nat → Nat} (ok : ol_ok N L) (x y : Int32) : ∃ (tt r : Int32) (N' : Nat) (L' : Nat → Nat), (((ol_no N L x ∨ ol_no N L y) ∧ tt = 1 ∧ r = 0 ∧ N' = N ∧ L' = L) ∨ (tt = 0 ∧ ∃ p q, ol_at N L x p ∧ ol_at N L y q ∧ sp_cl N L p q r N' L')) ∧ ol_ok N' L' := by
  rcases ol_dec2 N L x y with ⟨p, q, hp, hq⟩ | hno
  · have hpN := hp.1
    have hqN := hq.1
    exact ⟨0, nI (q - (p + 1)), N - (q - (p + 1)), ol_rem L (p + 1) (q - (p + 1)), Or.inr ⟨rfl, p, q, hp, hq, rfl, rfl, rfl⟩, ol_ok_rem ok (by omega) (by omega)⟩
  · exact ⟨1, 0, N, L, Or.inl ⟨hno, rfl, rfl, rfl, rfl⟩, ok⟩
theorem ex_carry {N : Nat} {L : Nat → Nat} (ok : ol_ok N L) (x y z : Int32) : ∃ (tt r : Int32) (N' : Nat) (L' : Nat → Nat), (((ol_no N L x ∨ ol_no N L y ∨ ol_no N L z) ∧ tt = 1 ∧ r = 0 ∧ N' = N ∧ L' = L) ∨ (tt = 0 ∧ ∃ p q o', ol_at N L x p ∧ ol_at N L y q ∧ ol_at N L z o' ∧ sp_cr N L p q o' r N' L')) ∧ ol_ok N' L' := by
  rcases ol_dec3 N L x y z with ⟨p, q, o', hp, hq, ho⟩ | hno
  · have hpN := hp.1
    have hqN := hq.1
    have hoN := ho.1
    by_cases h : q ≤ p ∨ (p < o' ∧ o' < q)
    · exact ⟨0, -1, N, L, Or.inr ⟨rfl, p, q, o', hp, hq, ho, rfl, Or.inl ⟨h, rfl, rfl⟩⟩, ok⟩
    · rcases Nat.lt_or_ge p o' with c | c
      · exact ⟨0, nI (q - p - 1), N, ol_swp L (p + 1) q (o' + 1), Or.inr ⟨rfl, p, q, o', hp, hq, ho, rfl, Or.inr (Or.inr ⟨by omega, by omega, rfl, rfl⟩)⟩, ol_ok_swp ok (by omega) (by omega) (by omega) (by omega)⟩
      · exact ⟨0, nI (q - p - 1), N, ol_swp L (o' + 1) (p + 1) q, Or.inr ⟨rfl, p, q, o', hp, hq, ho, rfl, Or.inr (Or.inl ⟨by omega, by omega, rfl, rfl⟩)⟩, ol_ok_swp ok (by omega) (by omega) (by omega) (by omega)⟩
  · exact ⟨1, 0, N, L, Or.inl ⟨hno, rfl, rfl, rfl, rfl⟩, ok⟩
theorem ex_compare {N : Nat} {L : Nat → Nat} (ok : ol_ok N L) (x y : Int32) : ∃ (tt r : Int32) (N' : Nat) (L' : Nat → Nat), (((ol_no N L x ∨ ol_no N L y) ∧ tt = 1 ∧ r = 0 ∧ N' = N ∧ L' = L) ∨ (tt = 0 ∧ ∃ p q, ol_at N L x p ∧ ol_at N L y q ∧ r = ol_cmp p q ∧ N' = N ∧ L' = L)) ∧ ol_ok N' L' := by
  rcases ol_dec2 N L x y with ⟨p, q, hp, hq⟩ | hno
  · exact ⟨0, _, N, L, Or.inr ⟨rfl, p, q, hp, hq, rfl, rfl, rfl⟩, ok⟩
  · exact ⟨1, 0, N, L, Or.inl ⟨hno, rfl, rfl, rfl, rfl⟩, ok⟩
theorem ex_greatest {N : Nat} {L : Nat → Nat} (ok : ol_ok N L) (x y : Int32) : ∃ (tt r : Int32) (N' : Nat) (L' : Nat → Nat), (((ol_no N L x ∨ ol_no N L y) ∧ tt = 1 ∧ r = 0 ∧ N' = N ∧ L' = L) ∨ (tt = 0 ∧ ∃ p q, ol_at N L x p ∧ ol_at N L y q ∧ r = ol_top L p (q + 1 - p) ∧ N' = N ∧ L' = L)) ∧ ol_ok N' L' := by
  rcases ol_dec2 N L x y with ⟨p, q, hp, hq⟩ | hno
  · exact ⟨0, _, N, L, Or.inr ⟨rfl, p, q, hp, hq, rfl, rfl, rfl⟩, ok⟩
  · exact ⟨1, 0, N, L, Or.inl ⟨hno, rfl, rfl, rfl, rfl⟩, ok⟩
theorem ex_place {N : Nat} {L : Nat → Nat} (ok : ol_ok N L) (x : Int32) : ∃ (tt r : Int32) (N' : Nat) (L' : Nat → Nat), ((ol_no N L x ∧ tt = 1 ∧ r = 0 ∧ N' = N ∧ L' = L) ∨ (tt = 0 ∧ ∃ p, ol_at N L x p ∧ r = nI p ∧ N' = N ∧ L' = L)) ∧ ol_ok N' L' := by
  rcases ol_dec N L x with ⟨p, hp⟩ | hno
  · exact ⟨0, _, N, L, Or.inr ⟨rfl, p, hp, rfl, rfl, rfl⟩, ok⟩
  · exact ⟨1, 0, N, L, Or.inl ⟨hno, rfl, rfl, rfl, rfl⟩, ok⟩
theorem ex_next {N : Nat} {L : Nat → Nat} (ok : ol_ok N L) (x z : Int32) : ∃ (tt r : Int32) (N' : Nat) (L' : Nat → Nat), ((ol_no N L x ∧ tt = 1 ∧ r = 0 ∧ N' = N ∧ L' = L) ∨ (tt = 0 ∧ ∃ p, ol_at N L x p ∧ ol_ps N L (if z = 0 then nI p - 1 else nI p + 1) r ∧ N' = N ∧ L' = L)) ∧ ol_ok N' L' := by
  rcases ol_dec N L x with ⟨p, hp⟩ | hno
  · obtain ⟨r, hr⟩ := ol_ps_ex ok.2.1 L (if z = 0 then nI p - 1 else nI p + 1)
    exact ⟨0, r, N, L, Or.inr ⟨rfl, p, hp, hr, rfl, rfl⟩, ok⟩
  · exact ⟨1, 0, N, L, Or.inl ⟨hno, rfl, rfl, rfl, rfl⟩, ok⟩
theorem ex_remove {N : Nat} {L : Nat → Nat} (ok : ol_ok N L) (x : Int32) : ∃ (r : Int32) (N' : Nat) (L' : Nat → Nat), sp_rm N L x r N' L' ∧ ol_ok N' L' := by
  rcases ol_dec N L x with ⟨p, hp⟩ | hno
  · have hpN := hp.1
    by_cases h : 1 ≤ p
    · exact ⟨1, N - 1, ol_rem L p 1, Or.inl ⟨p, hp, h, rfl, rfl, rfl⟩, ol_ok_rem ok h (by omega)⟩
    · have e : p = 0 := by omega
      subst e
      exact ⟨0, N, L, Or.inr ⟨Or.inr hp, rfl, rfl, rfl⟩, ok⟩
  · exact ⟨0, N, L, Or.inr ⟨Or.inl hno, rfl, rfl, rfl⟩, ok⟩
theorem ol_lh {LN i : Nat} (hL : LN ≤ 2048) (hi : i < 2 ^ 30) (h : ¬ nI LN - nI 4 < nI i) : i + 4 ≤ LN := by
  have h1 : (nI LN - nI 4).toInt = (LN : Int) - (4 : Nat) := pk_sub_toInt (by omega) (by omega)
  have h2 : (nI i).toInt = (i : Int) := nI_toInt (by omega)
  rw [Int32.lt_iff_toInt_lt, h1, h2] at h
  omega
section VXS
variable {p : Program} {l : Launch} {e : Env} {R : Room} {s : State} {m : MethodId} {args : Array Value} {below : List Frame} {meth : Method} {c : Code} {T : State} {H : Heap} {locs : List Loc} {cells slots : Nat}
abbrev vx_CSW (R : Room) (s : State) (args : Array Value) (own : String) (index : Nat) (y : MethodName) (bytes : ByteArray) (maxL : Nat) (ret : Option FieldType) (hh : List (Nat × Nat × Nat × Nat)) (ws : List Cond) (rm : Room) (mc ms n : Nat) : Prop :=
  (rm.cells = mc ∧ rm.slots = ms ∧ rm.frames + 1 ≤ R.frames ∧ 8 + (maxL + 11) + rm.locals ≤ R.locals ∧ (∀ w ∈ ws, ∀ (a' : Array Value) (U : State), s.WarmedH U.vm → w.before a' U = true) ∧ Cond.codeWith y bytes maxL ret hh ∈ ws) ∧
  (Cond.codeWith y bytes maxL ret hh).before args s = true ∧ (Cond.initialized y.cls).before args s = true ∧ (y.cls ≠ "java/lang/invoke/MethodHandle" ∧ y.cls ≠ "java/lang/invoke/VarHandle") ∧
  (∀ sig, parseMethodDescriptor y.desc = some sig → n = sig.parameters.length) ∧ (Cond.methodLink own index y).before args s = true ∧ (Cond.static y).before args s = true
theorem vx_cwSW {own : String} {index maxL mc ms : Nat} {y : MethodName} {bytes : ByteArray} {ret : Option FieldType} {hh : List (Nat × Nat × Nat × Nat)} {Ts ws ws' : List Cond} {rm : Room} (n : Nat) (ht : ∀ w ∈ Ts, w.before args s = true) (hT : GoodIn Ts (va_wsS own index y ws)) (hw : ws = Cond.codeWith y bytes maxL ret hh :: ws') (hrc : rm.cells = mc) (hrs : rm.slots = ms)
    (hd : y.cls ≠ "java/lang/invoke/MethodHandle" ∧ y.cls ≠ "java/lang/invoke/VarHandle" ∧ (parseMethodDescriptor y.desc).map (fun d => d.parameters.length) = some n) (hR : rm.frames + 1 ≤ R.frames ∧ 8 + (maxL + 11) + rm.locals ≤ R.locals) :
    vx_CSW R s args own index y bytes maxL ret hh ws rm mc ms n := by
  have ok : ∀ w ∈ va_wsS own index y ws, w.before args s = true := fun w h => ht w (hT w h).1
  have hG : GoodIn Ts ws := fun w h => hT w (by unfold va_wsS; exact List.mem_append_right _ h)
  have hc : Cond.codeWith y bytes maxL ret hh ∈ ws := by rw [hw]; exact List.mem_cons_self
  refine ⟨⟨hrc, hrs, hR.1, hR.2, pay_in ht hG, hc⟩, ht _ (hG _ hc).1, ok _ (by simp [va_wsS]), ⟨hd.1, hd.2.1⟩, fun sig h => ?_, ok _ (by simp [va_wsS]), ok _ (by simp [va_wsS])⟩
  have h2 := hd.2.2
  rw [h] at h2
  exact (Option.some.inj h2).symm
theorem vx_callSW (X : Stand p l e R s m args below meth c T locs cells slots) (hexec : p.tables.exec = Jvm.exec) {own : String} {index : Nat} {y : MethodName} {bytes : ByteArray} {maxL : Nat} {ret : Option FieldType} {hh : List (Nat × Nat × Nat × Nat)}
    (hown : s.vm.findClass own = some m.cls) (hlink : (Cond.methodLink own index y).before args s = true) (hstat : (Cond.static y).before args s = true) (hinit : (Cond.initialized y.cls).before args s = true)
    (hcode : (Cond.codeWith y bytes maxL ret hh).before args s = true) (hy : y.cls ≠ "java/lang/invoke/MethodHandle" ∧ y.cls ≠ "java/lang/invoke/VarHandle")
    {W9 : Nat} {Pre : Pt → Array Value → Prop} {Post : Pt → Array Value → Option Value → Pt → Prop} (hK : Back l R p e below s args y 3 W9 Pre Post)
    {g : JFrame} (hg : g.method = m) (hsize : g.locals.size = c.maxLocals) {argsL rest : List Value} (hlen : ∀ sig, parseMethodDescriptor y.desc = some sig → argsL.length = sig.parameters.length)
    (hstack : g.stack = argsL.reverse ++ rest) (hW : 2 * g.monitorRoom + (rest.map fun v => v.category).sum ≤ W9) (hdg : decode c.code g.pc = .ok (.invokestatic index, 3))
    (hpre : ∀ vm₁, s.WarmedH vm₁ → Pre ⟨T.setVm vm₁, locs, cells, slots⟩ argsL.toArray) :
    ∃ (v : Option Value) (vm₁ : Vm) (B : Pt), s.WarmedH vm₁ ∧ Stand p l e R s m args below meth c B.U B.locs B.cells B.slots ∧ Post ⟨T.setVm vm₁, locs, cells, slots⟩ argsL.toArray v B ∧
      ∀ target, Steps p.tables e below (B.U.setTop { g with pc := g.pc + 3, stack := v.toList ++ rest }) target → Steps p.tables e below (T.setTop g) target := by
  obtain ⟨mk, methM, cM, hnamed, hmethM, -, -, -, -, -, -, hsigM⟩ := Cond.codeWith_spec hcode
  have hstatic : methM.isStatic = true := Cond.static_spec hnamed hmethM hstat
  obtain ⟨kP, hkP, -⟩ := className_of_methodNamed hnamed
  have hinitP : kP.init = .initialized := Cond.initialized_spec (findClass_of_methodNamed hnamed) hkP hinit
  obtain ⟨vm₁, X₁, hstep₁⟩ := X.invokestatic hexec hown hlink hnamed hmethM hstatic hkP hinitP hy (g := g) hg (argsL := argsL) (rest := rest) (hlen _ hsigM) hstack hdg
  obtain ⟨v, B, X', hpost, hsteps⟩ := hK m meth c ⟨T.setVm vm₁, locs, cells, slots⟩ { g with stack := rest } (.invokestatic index) mk argsL.toArray X₁ hg hsize hdg hW (X₁.named hnamed) (hpre vm₁ X₁.warmed)
  exact ⟨v, vm₁, B, X₁.warmed, X', hpost, fun target h => hstep₁ _ fun acts => by rw [doInvoke_state]; exact hsteps.trans h⟩
theorem vx_runSW {y : MethodName} {bytes cc : ByteArray} {maxL nL mc ms n index : Nat} {ret : Option FieldType} {hh : List (Nat × Nat × Nat × Nat)} {ws : List Cond} {rm : Room} {Pc : Array Value → State → Prop} {Qc : Array Value → State → Outcome → State → Prop} {free : Addr → Prop} {Ts : List Cond} {own : String} {As rest : List Value} {g : JFrame}
    (S : CallFix p m c cc nL s args Ts own) (hM : Met l y ws rm Pc Qc mc ms free) (cw : vx_CSW R s args own index y bytes maxL ret hh ws rm mc ms n) (hp : PreS s H Pc As)
    (hg : g.method = m) (hn : As.length = n) (hsize : g.locals.size = nL) (hstack : g.stack = As.reverse ++ rest) (hW : 2 * g.monitorRoom + (rest.map fun v => v.category).sum ≤ 8) (hdg : decode cc g.pc = .ok (.invokestatic index, 3)) (hf : cells + mc ≤ R.cells ∧ slots + ms ≤ R.slots) :
    va_Run p l e R s m args below meth c H locs cells slots mc ms g rest (Qc As.toArray) (free) := by
  obtain ⟨⟨hrc, hrs, hfr, hlo, hws, hcw⟩, hcode, hini, hy, hlen, hl, hstt⟩ := cw
  have hK : Back l R p e below s args y 3 8 (PreOf R mc ms Pc) (PostOf Qc mc ms free) := va_backW (hh := hh) (bytes := bytes) (maxL := maxL) (ret := ret) hM hp.1 hrc hrs hfr hlo hws hcw (fun a' U hW => word_at hW (Or.inl (by first | rfl | simp [Cond.onTables, Cond.keeps, Cond.steady])) hini)
  obtain ⟨hx, hb, hml, ho, -⟩ := S
  intro T hT X
  obtain ⟨v, vm₁, ⟨U', l2, c2, s2⟩, hW₁, X', ⟨g', mk, t, L, e1, e2, hq, h1, hL, h2, h3⟩, st⟩ := vx_callSW X hx (hh := hh) (bytes := bytes) (maxL := maxL) (ret := ret) ho hl hstt hini hcode hy hK hg (hsize.trans hml.symm) (argsL := As) (rest := rest) (fun sig h => hn.trans (hlen sig h)) hstack hW (by rw [hb]; exact hdg)
    (fun vm₁ hW₁ => ⟨hf.1, hf.2, hp.2 (T.setVm vm₁) hT hW₁⟩)
  dsimp only [Pt.U, Pt.locs, Pt.cells, Pt.slots] at X' e1 e2 h1 h2 h3 st
  subst h1; subst h2; subst h3
  exact ⟨v, (T.setVm vm₁).calling g' mk As.toArray, t, U', L, hT, X', hL, e1, e2, hq, st⟩
end VXS
/-! ROWS FOR THE LAW'S WALK -/
section LR
variable {p : Program} {l : Launch} {e : Env} {R : Room} {s : State} {m : MethodId} {args : Array Value} {below : List Frame} {meth : Method} {c : Code} {H : Heap} {locs : List Loc} {cells slots : Nat} {Q : State → Prop}
variable {cc : ByteArray} {pc : Nat} {ls : Array Slot} {rest : List Value} {D : va_G} {cl : List vw_C} {A : Nat → Prop} {tys : List (ClassId × FieldType)} {ws : va_W} {H0 : Heap} {As : List Value}
theorem ow_sld (hexec : p.tables.exec = Jvm.exec) (hb : c.code = cc) {b L : Nat} {xs : Nat → Int32} (hX : va_X b L xs s H0) (hbl : b < H0.size) (hbA : ¬ A b) (hS : va_S A H0 H locs) {k : Nat} (hk : k < L) (hL : L < 2 ^ 31) (hdg : decode cc pc = .ok (.iaload, 1))
    (kk : W p l e R s m args below meth c H locs cells slots Q (F0 m (pc + 1) ls (.int (xs k) :: rest))) : W p l e R s m args below meth c H locs cells slots Q (F0 m pc ls (.int (nI k) :: .ref b :: rest)) := by
  refine va_sld hexec hb hX hbl hbA hS (vp_in_nI hk hL) hdg ?_
  rw [nI_clamp (by omega)]
  exact kk
/-- what the law knows of what is thrown, at its start -/
def lw_Zs (A : Nat → Prop) (s : State) : Prop := vx_Zq Bundle.tN "UNASSIGNED_STACK" Bundle.steD A s s.heap ∧ vx_Zq Bundle.tN "SUPPRESSED_SENTINEL" Bundle.listD A s s.heap ∧ (∀ w ∈ ow_B4, va_Nw w s) ∧ ∃ sa : Nat, vk_R RX0 55 "there is no such stamp" sa s
theorem lw_Zs.at (h : lw_Zs A s) (hS : va_S A s.heap H locs) {U : State} (hU : U.heap = H) (hW : s.WarmedH U.vm) : ow_Z U := by
  obtain ⟨h1, h2, h3, sa, h4⟩ := h
  unfold ow_Z
  rw [hU]
  exact ⟨vx_Zq.moved hW.alike ((h1.kept hS.2.1).narrow (fun _ h => h.elim)), vx_Zq.moved hW.alike ((h2.kept hS.2.1).narrow (fun _ h => h.elim)), ow_B4_warm hW h3, sa, vk_R.warm hW h4⟩
theorem ow_PreSx (hK : va_K D cl tys s) (hP : va_P D cl ws H) (hD : va_D A ws) (hZ : lw_Zs A s) (hS : va_S A s.heap H locs) : PreS s H (ow_Px D cl tys ws H.size As) As :=
  ⟨ow_Px_bl, fun U hU hW => ⟨rfl, by rw [hU], by rw [hU]; exact hP, va_K.moved hW.alike hK, hD.weaken (fun _ _ _ _ => trivial), hZ.at hS hU hW⟩⟩
end LR
set_option maxRecDepth 20000 in
theorem gT_law_X1_behind : GoodIn lw_tbl (wsV RL 48 RX1 yX1_behind wsX1_behind) := goodIn_p _ [252, 256, 260, 264, 268] (by decide +kernel) (by decide +kernel)
set_option maxRecDepth 20000 in
theorem gT_law_X1_several : GoodIn lw_tbl (wsV RL 56 RX1 yX1_several wsX1_several) := goodIn_p _ [272, 256, 260, 264, 268] (by decide +kernel) (by decide +kernel)
set_option maxRecDepth 20000 in
theorem gT_law_X1_remove : GoodIn lw_tbl (wsV RL 61 RX1 yX1_remove wsX1_remove) := goodIn_p _ [276, 260, 280] (by decide +kernel) (by decide +kernel)
set_option maxRecDepth 20000 in
theorem gT_law_X1_clear : GoodIn lw_tbl (wsV RL 64 RX1 yX1_clear wsX1_clear) := goodIn_p _ [284, 256, 260, 280] (by decide +kernel) (by decide +kernel)
set_option maxRecDepth 20000 in
theorem gT_law_X1_carry : GoodIn lw_tbl (wsV RL 68 RX1 yX1_carry wsX1_carry) := goodIn_p _ [288, 256, 260, 280, 268] (by decide +kernel) (by decide +kernel)
set_option maxRecDepth 20000 in
theorem gT_law_X1_compare : GoodIn lw_tbl (wsV RL 71 RX1 yX1_compare wsX1_compare) := goodIn_p _ [292, 256, 260] (by decide +kernel) (by decide +kernel)
set_option maxRecDepth 20000 in
theorem gT_law_X1_next : GoodIn lw_tbl (wsV RL 75 RX1 yX1_next wsX1_next) := goodIn_p _ [296, 256, 260] (by decide +kernel) (by decide +kernel)
set_option maxRecDepth 20000 in
theorem gT_law_X1_has : GoodIn lw_tbl (wsV RL 79 RX1 yX1_has wsX1_has) := goodIn_p _ [300, 260] (by decide +kernel) (by decide +kernel)
set_option maxRecDepth 20000 in
theorem gT_law_X1_place : GoodIn lw_tbl (wsV RL 82 RX1 yX1_place wsX1_place) := goodIn_p _ [304, 256, 260] (by decide +kernel) (by decide +kernel)
set_option maxRecDepth 20000 in
theorem gT_law_X1_at : GoodIn lw_tbl (wsV RL 86 RX1 yX1_at wsX1_at) := goodIn_p _ [308] (by decide +kernel) (by decide +kernel)
set_option maxRecDepth 20000 in
theorem gT_law_X1_greatest : GoodIn lw_tbl (wsV RL 89 RX1 yX1_greatest wsX1_greatest) := goodIn_p _ [312, 256, 260] (by decide +kernel) (by decide +kernel)
set_option maxRecDepth 20000 in
theorem gT_law_X1_wipe : GoodIn lw_tbl (wsV RL 93 RX1 yX1_wipe wsX1_wipe) := goodIn_p _ [316] (by decide +kernel) (by decide +kernel)
set_option maxRecDepth 20000 in
theorem gT_law_X1_look : GoodIn lw_tbl (wsV RL 97 RX1 yX1_look wsX1_look) := goodIn_p _ [320, 264, 260] (by decide +kernel) (by decide +kernel)
/-! THE CLAIM OUT OF ONE WALK OF THE LAW'S BODY. Your part is whole_start (and what it stands on); all else here is the same for every law, but numbers. -/
def R_law : String := "OrderLineLaw"
def lw_P (b : Addr) (xs : List Int32) (args : Array Value) (s : State) : Prop := args = #[.ref b] ∧ s.IntsAt b xs ∧ xs.length ≤ 2048 ∧ (Jvm.Cond.and given_1 narrow_1).before args s = true
def lw_Q (_ : Array Value) (s : State) (o : Outcome) (t : State) : Prop := o = .returned (some (.int 1)) ∧ Framed s o t [] 1032 12206
def lw_Z (below : List Frame) (a : Array Value) (s : State) : State → Prop := fun t => ∃ o, t.status = .running ∧ Ended t below o ∧ lw_Q a s o t
/-- the law's own end, with 1 on the stack, nothing written that was there before, its room as the claim has it -/
theorem lw_ret {p : Program} {l : Launch} {e : Env} {s : State} {m : MethodId} {below : List Frame} {meth : Method} {c : Code} {b : Nat} (hx : p.tables.exec = Jvm.exec) (hb : c.code = code) (hr : meth.sig.returnType = ret) (hlocks : meth.locks = false) {pc : Nat} {H : Heap} {ls : Array Slot} (hdg : decode code pc = .ok (.ireturn, 1)) : W p l e room_1 s m #[Value.ref b] below meth c H [] 1032 12206 (lw_Z below #[Value.ref b] s) (F0 m pc ls [.int 1]) := by
  intro T hT X
  obtain ⟨fs, hret, hrun, hended, hW, hframe⟩ := X.leave (v := some (.int 1)) (hlocks := hlocks) (fun h => by rw [hr] at h; cases h)
  have hmeth' : T.vm.method? m = some meth := X.method'
  refine ⟨T.setFrames fs, ?_, .returned (some (.int 1)), hrun, hended, rfl, ⟨_, rfl⟩, hW, hframe⟩
  jvm_step X.here [X.here.top, hx, hb, hdg, hmeth', hr, ret, narrow_b1]
  (try refine ⟨rfl, ?_⟩); (try refine ⟨rfl, ?_⟩)
  first | (intro acts; rw [hret _ acts rfl rfl rfl]) | rw [hret _ _ rfl rfl rfl]
  exact Steps.refl _
/-- what holds at the law's entry: the machine, the code, the tables' words (any of lw_tbl by 'hts w (by decide +kernel)'), the script of L ints xs at the cell b, what the Statement gives of the start (any of its parts by flat_of_before) -/
def lw_At (p : Program) (s : State) (m : MethodId) (meth : Method) (c : Code) (b L : Nat) (xs : Nat → Int32) : Prop :=
  p.tables.exec = Jvm.exec ∧ c.code = code ∧ meth.sig.returnType = ret ∧ c.maxLocals = 7 ∧ s.vm.findClass R_law = some m.cls ∧ (∀ w ∈ lw_tbl, w.before #[Value.ref b] s = true) ∧ va_X b L xs s s.heap ∧ b < s.heap.size ∧ meth.locks = false ∧ (Jvm.Cond.and given_1 narrow_1).before #[Value.ref b] s = true
/-- the law at a place of its loop: both sides hold one line -/
abbrev lw_inv (pg : Program) (l : Launch) (ev : Env) (s : State) (m : MethodId) (below : List Frame) (meth : Method) (cd : Code) (b : Nat) (dC : Nat → ClassId) (dI : Nat → Nat → Nat) (A : Nat → Prop) (hX aX bX o hM aM bM : Nat) (cA cB cO cC cD : ClassId) (q pc cells slots : Nat) : Prop :=
  ∀ (N : Nat) (L : Nat → Nat) (f g f2 as : Nat → Int32) (th : Int32) (oo : Nat → Int64) (H : Heap) (locs : List Loc) (ls : Array Slot), ol_ok N L → ol_f N L f → ol_g N L g → ol_f N L f2 → va_P (dC, dI) vwCl [(hX, .inr (0, [.ref aX, .ref bX, .int (nI N)])), (aX, .inl (cA, 1000, .inl f)), (bX, .inl (cB, 1000, .inl g)), (o, .inl (cO, 1, .inr (.inl oo))), (hM, .inr (1, [.int th, .ref aM, .int (nI N), .ref bM])), (aM, .inl (cC, 1000, .inl f2)), (bM, .inl (cD, 1000, .inl as))] H → va_D A [(hX, .inr (0, [.ref aX, .ref bX, .int (nI N)])), (aX, .inl (cA, 1000, .inl f)), (bX, .inl (cB, 1000, .inl g)), (o, .inl (cO, 1, .inr (.inl oo))), (hM, .inr (1, [.int th, .ref aM, .int (nI N), .ref bM])), (aM, .inl (cC, 1000, .inl f2)), (bM, .inl (cD, 1000, .inl as))] → va_S A s.heap H locs → lv_has ls 7 [(0, .ref b), (1, .ref hX), (2, .ref hM), (3, .ref o), (4, .int (nI (4 * q)))] →
    W pg l ev room_1 s m #[Value.ref b] below meth cd H locs cells slots (lw_Z below #[Value.ref b] s) (F0 m pc ls [])
end
section
theorem dL_law_0 : decode cL_law 0 = .ok (.new 8, 3) := by decide +kernel
theorem dL_law_3 : decode cL_law 3 = .ok (.dup, 1) := by decide +kernel
theorem dL_law_4 : decode cL_law 4 = .ok (.invokespecial 39, 3) := by decide +kernel
theorem dL_law_7 : decode cL_law 7 = .ok (.astore_n 1, 1) := by decide +kernel
theorem dL_law_8 : decode cL_law 8 = .ok (.new 40, 3) := by decide +kernel
theorem dL_law_11 : decode cL_law 11 = .ok (.dup, 1) := by decide +kernel
theorem dL_law_12 : decode cL_law 12 = .ok (.invokespecial 42, 3) := by decide +kernel
theorem dL_law_15 : decode cL_law 15 = .ok (.astore_n 2, 1) := by decide +kernel
theorem dL_law_16 : decode cL_law 16 = .ok (.iconst 1, 1) := by decide +kernel
theorem dL_law_17 : decode cL_law 17 = .ok (.newarray .long, 2) := by decide +kernel
theorem dL_law_19 : decode cL_law 19 = .ok (.astore_n 3, 1) := by decide +kernel
theorem dL_law_20 : decode cL_law 20 = .ok (.iconst 0, 1) := by decide +kernel
theorem dL_law_21 : decode cL_law 21 = .ok (.istore 4, 2) := by decide +kernel
theorem dL_law_23 : decode cL_law 23 = .ok (.iload 4, 2) := by decide +kernel
theorem dL_law_25 : decode cL_law 25 = .ok (.aload_n 0, 1) := by decide +kernel
theorem dL_law_26 : decode cL_law 26 = .ok (.arraylength, 1) := by decide +kernel
theorem dL_law_27 : decode cL_law 27 = .ok (.iconst 4, 1) := by decide +kernel
theorem dL_law_28 : decode cL_law 28 = .ok (.isub, 1) := by decide +kernel
theorem dL_law_29 : decode cL_law 29 = .ok (.if_icmp .gt 740, 3) := by decide +kernel
theorem dL_law_32 : decode cL_law 32 = .ok (.aload_n 0, 1) := by decide +kernel
theorem dL_law_33 : decode cL_law 33 = .ok (.iload 4, 2) := by decide +kernel
theorem dL_law_35 : decode cL_law 35 = .ok (.iaload, 1) := by decide +kernel
theorem dL_law_36 : decode cL_law 36 = .ok (.bipush 15, 2) := by decide +kernel
theorem dL_law_38 : decode cL_law 38 = .ok (.iand, 1) := by decide +kernel
theorem dL_law_39 : decode cL_law 39 = .ok (.tableswitch 724 0 12 #[65, 121, 189, 214, 282, 362, 430, 514, 539, 595, 620, 688, 699], 65) := by decide +kernel
theorem dL_law_104 : decode cL_law 104 = .ok (.aload_n 1, 1) := by decide +kernel
theorem dL_law_105 : decode cL_law 105 = .ok (.aload_n 0, 1) := by decide +kernel
theorem dL_law_106 : decode cL_law 106 = .ok (.iload 4, 2) := by decide +kernel
theorem dL_law_108 : decode cL_law 108 = .ok (.iconst 1, 1) := by decide +kernel
theorem dL_law_109 : decode cL_law 109 = .ok (.iadd, 1) := by decide +kernel
theorem dL_law_110 : decode cL_law 110 = .ok (.iaload, 1) := by decide +kernel
theorem dL_law_111 : decode cL_law 111 = .ok (.aload_n 3, 1) := by decide +kernel
theorem dL_law_112 : decode cL_law 112 = .ok (.invokestatic 43, 3) := by decide +kernel
theorem dL_law_115 : decode cL_law 115 = .ok (.istore 5, 2) := by decide +kernel
theorem dL_law_117 : decode cL_law 117 = .ok (.aload_n 2, 1) := by decide +kernel
theorem dL_law_118 : decode cL_law 118 = .ok (.aload_n 0, 1) := by decide +kernel
theorem dL_law_119 : decode cL_law 119 = .ok (.iload 4, 2) := by decide +kernel
theorem dL_law_121 : decode cL_law 121 = .ok (.iconst 1, 1) := by decide +kernel
theorem dL_law_122 : decode cL_law 122 = .ok (.iadd, 1) := by decide +kernel
theorem dL_law_123 : decode cL_law 123 = .ok (.iaload, 1) := by decide +kernel
theorem dL_law_124 : decode cL_law 124 = .ok (.invokevirtual 48, 3) := by decide +kernel
theorem dL_law_127 : decode cL_law 127 = .ok (.istore 6, 2) := by decide +kernel
theorem dL_law_129 : decode cL_law 129 = .ok (.aload_n 2, 1) := by decide +kernel
theorem dL_law_130 : decode cL_law 130 = .ok (.invokevirtual 49, 3) := by decide +kernel
theorem dL_law_133 : decode cL_law 133 = .ok (.iload 5, 2) := by decide +kernel
theorem dL_law_135 : decode cL_law 135 = .ok (.if_icmp .eq 5, 3) := by decide +kernel
theorem dL_law_138 : decode cL_law 138 = .ok (.iconst 0, 1) := by decide +kernel
theorem dL_law_139 : decode cL_law 139 = .ok (.ireturn, 1) := by decide +kernel
theorem dL_law_140 : decode cL_law 140 = .ok (.iload 5, 2) := by decide +kernel
theorem dL_law_142 : decode cL_law 142 = .ok (.ifCond .ne 15, 3) := by decide +kernel
theorem dL_law_145 : decode cL_law 145 = .ok (.aload_n 3, 1) := by decide +kernel
theorem dL_law_146 : decode cL_law 146 = .ok (.iconst 0, 1) := by decide +kernel
theorem dL_law_147 : decode cL_law 147 = .ok (.laload, 1) := by decide +kernel
theorem dL_law_148 : decode cL_law 148 = .ok (.iload 6, 2) := by decide +kernel
theorem dL_law_150 : decode cL_law 150 = .ok (.i2l, 1) := by decide +kernel
theorem dL_law_151 : decode cL_law 151 = .ok (.lcmp, 1) := by decide +kernel
theorem dL_law_152 : decode cL_law 152 = .ok (.ifCond .eq 5, 3) := by decide +kernel
theorem dL_law_155 : decode cL_law 155 = .ok (.iconst 0, 1) := by decide +kernel
theorem dL_law_156 : decode cL_law 156 = .ok (.ireturn, 1) := by decide +kernel
theorem dL_law_157 : decode cL_law 157 = .ok (.goto 606, 3) := by decide +kernel
theorem dL_law_160 : decode cL_law 160 = .ok (.aload_n 1, 1) := by decide +kernel
theorem dL_law_161 : decode cL_law 161 = .ok (.aload_n 0, 1) := by decide +kernel
theorem dL_law_162 : decode cL_law 162 = .ok (.iload 4, 2) := by decide +kernel
theorem dL_law_164 : decode cL_law 164 = .ok (.iconst 1, 1) := by decide +kernel
theorem dL_law_165 : decode cL_law 165 = .ok (.iadd, 1) := by decide +kernel
theorem dL_law_166 : decode cL_law 166 = .ok (.iaload, 1) := by decide +kernel
theorem dL_law_167 : decode cL_law 167 = .ok (.aload_n 0, 1) := by decide +kernel
theorem dL_law_168 : decode cL_law 168 = .ok (.iload 4, 2) := by decide +kernel
theorem dL_law_170 : decode cL_law 170 = .ok (.iconst 2, 1) := by decide +kernel
theorem dL_law_171 : decode cL_law 171 = .ok (.iadd, 1) := by decide +kernel
theorem dL_law_172 : decode cL_law 172 = .ok (.iaload, 1) := by decide +kernel
theorem dL_law_173 : decode cL_law 173 = .ok (.aload_n 3, 1) := by decide +kernel
theorem dL_law_174 : decode cL_law 174 = .ok (.invokestatic 53, 3) := by decide +kernel
theorem dL_law_177 : decode cL_law 177 = .ok (.istore 5, 2) := by decide +kernel
theorem dL_law_179 : decode cL_law 179 = .ok (.aload_n 2, 1) := by decide +kernel
theorem dL_law_180 : decode cL_law 180 = .ok (.aload_n 0, 1) := by decide +kernel
theorem dL_law_181 : decode cL_law 181 = .ok (.iload 4, 2) := by decide +kernel
theorem dL_law_183 : decode cL_law 183 = .ok (.iconst 1, 1) := by decide +kernel
theorem dL_law_184 : decode cL_law 184 = .ok (.iadd, 1) := by decide +kernel
theorem dL_law_185 : decode cL_law 185 = .ok (.iaload, 1) := by decide +kernel
theorem dL_law_186 : decode cL_law 186 = .ok (.aload_n 0, 1) := by decide +kernel
theorem dL_law_187 : decode cL_law 187 = .ok (.iload 4, 2) := by decide +kernel
theorem dL_law_189 : decode cL_law 189 = .ok (.iconst 2, 1) := by decide +kernel
theorem dL_law_190 : decode cL_law 190 = .ok (.iadd, 1) := by decide +kernel
theorem dL_law_191 : decode cL_law 191 = .ok (.iaload, 1) := by decide +kernel
theorem dL_law_192 : decode cL_law 192 = .ok (.invokevirtual 56, 3) := by decide +kernel
theorem dL_law_195 : decode cL_law 195 = .ok (.istore 6, 2) := by decide +kernel
theorem dL_law_197 : decode cL_law 197 = .ok (.aload_n 2, 1) := by decide +kernel
theorem dL_law_198 : decode cL_law 198 = .ok (.invokevirtual 49, 3) := by decide +kernel
theorem dL_law_201 : decode cL_law 201 = .ok (.iload 5, 2) := by decide +kernel
theorem dL_law_203 : decode cL_law 203 = .ok (.if_icmp .eq 5, 3) := by decide +kernel
theorem dL_law_206 : decode cL_law 206 = .ok (.iconst 0, 1) := by decide +kernel
theorem dL_law_207 : decode cL_law 207 = .ok (.ireturn, 1) := by decide +kernel
theorem dL_law_208 : decode cL_law 208 = .ok (.iload 5, 2) := by decide +kernel
theorem dL_law_210 : decode cL_law 210 = .ok (.ifCond .ne 15, 3) := by decide +kernel
theorem dL_law_213 : decode cL_law 213 = .ok (.aload_n 3, 1) := by decide +kernel
theorem dL_law_214 : decode cL_law 214 = .ok (.iconst 0, 1) := by decide +kernel
theorem dL_law_215 : decode cL_law 215 = .ok (.laload, 1) := by decide +kernel
theorem dL_law_216 : decode cL_law 216 = .ok (.iload 6, 2) := by decide +kernel
theorem dL_law_218 : decode cL_law 218 = .ok (.i2l, 1) := by decide +kernel
theorem dL_law_219 : decode cL_law 219 = .ok (.lcmp, 1) := by decide +kernel
theorem dL_law_220 : decode cL_law 220 = .ok (.ifCond .eq 5, 3) := by decide +kernel
theorem dL_law_223 : decode cL_law 223 = .ok (.iconst 0, 1) := by decide +kernel
theorem dL_law_224 : decode cL_law 224 = .ok (.ireturn, 1) := by decide +kernel
theorem dL_law_225 : decode cL_law 225 = .ok (.goto 538, 3) := by decide +kernel
theorem dL_law_228 : decode cL_law 228 = .ok (.aload_n 1, 1) := by decide +kernel
theorem dL_law_229 : decode cL_law 229 = .ok (.aload_n 0, 1) := by decide +kernel
theorem dL_law_230 : decode cL_law 230 = .ok (.iload 4, 2) := by decide +kernel
theorem dL_law_232 : decode cL_law 232 = .ok (.iconst 1, 1) := by decide +kernel
theorem dL_law_233 : decode cL_law 233 = .ok (.iadd, 1) := by decide +kernel
theorem dL_law_234 : decode cL_law 234 = .ok (.iaload, 1) := by decide +kernel
theorem dL_law_235 : decode cL_law 235 = .ok (.invokevirtual 57, 3) := by decide +kernel
theorem dL_law_238 : decode cL_law 238 = .ok (.aload_n 2, 1) := by decide +kernel
theorem dL_law_239 : decode cL_law 239 = .ok (.aload_n 0, 1) := by decide +kernel
theorem dL_law_240 : decode cL_law 240 = .ok (.iload 4, 2) := by decide +kernel
theorem dL_law_242 : decode cL_law 242 = .ok (.iconst 1, 1) := by decide +kernel
theorem dL_law_243 : decode cL_law 243 = .ok (.iadd, 1) := by decide +kernel
theorem dL_law_244 : decode cL_law 244 = .ok (.iaload, 1) := by decide +kernel
theorem dL_law_245 : decode cL_law 245 = .ok (.invokevirtual 61, 3) := by decide +kernel
theorem dL_law_248 : decode cL_law 248 = .ok (.if_icmp .eq 515, 3) := by decide +kernel
theorem dL_law_251 : decode cL_law 251 = .ok (.iconst 0, 1) := by decide +kernel
theorem dL_law_252 : decode cL_law 252 = .ok (.ireturn, 1) := by decide +kernel
theorem dL_law_253 : decode cL_law 253 = .ok (.aload_n 1, 1) := by decide +kernel
theorem dL_law_254 : decode cL_law 254 = .ok (.aload_n 0, 1) := by decide +kernel
theorem dL_law_255 : decode cL_law 255 = .ok (.iload 4, 2) := by decide +kernel
theorem dL_law_257 : decode cL_law 257 = .ok (.iconst 1, 1) := by decide +kernel
theorem dL_law_258 : decode cL_law 258 = .ok (.iadd, 1) := by decide +kernel
theorem dL_law_259 : decode cL_law 259 = .ok (.iaload, 1) := by decide +kernel
theorem dL_law_260 : decode cL_law 260 = .ok (.aload_n 0, 1) := by decide +kernel
theorem dL_law_261 : decode cL_law 261 = .ok (.iload 4, 2) := by decide +kernel
theorem dL_law_263 : decode cL_law 263 = .ok (.iconst 2, 1) := by decide +kernel
theorem dL_law_264 : decode cL_law 264 = .ok (.iadd, 1) := by decide +kernel
theorem dL_law_265 : decode cL_law 265 = .ok (.iaload, 1) := by decide +kernel
theorem dL_law_266 : decode cL_law 266 = .ok (.aload_n 3, 1) := by decide +kernel
theorem dL_law_267 : decode cL_law 267 = .ok (.invokestatic 62, 3) := by decide +kernel
theorem dL_law_270 : decode cL_law 270 = .ok (.istore 5, 2) := by decide +kernel
theorem dL_law_272 : decode cL_law 272 = .ok (.aload_n 2, 1) := by decide +kernel
theorem dL_law_273 : decode cL_law 273 = .ok (.aload_n 0, 1) := by decide +kernel
theorem dL_law_274 : decode cL_law 274 = .ok (.iload 4, 2) := by decide +kernel
theorem dL_law_276 : decode cL_law 276 = .ok (.iconst 1, 1) := by decide +kernel
theorem dL_law_277 : decode cL_law 277 = .ok (.iadd, 1) := by decide +kernel
theorem dL_law_278 : decode cL_law 278 = .ok (.iaload, 1) := by decide +kernel
theorem dL_law_279 : decode cL_law 279 = .ok (.aload_n 0, 1) := by decide +kernel
theorem dL_law_280 : decode cL_law 280 = .ok (.iload 4, 2) := by decide +kernel
theorem dL_law_282 : decode cL_law 282 = .ok (.iconst 2, 1) := by decide +kernel
theorem dL_law_283 : decode cL_law 283 = .ok (.iadd, 1) := by decide +kernel
theorem dL_law_284 : decode cL_law 284 = .ok (.iaload, 1) := by decide +kernel
theorem dL_law_285 : decode cL_law 285 = .ok (.invokevirtual 64, 3) := by decide +kernel
theorem dL_law_288 : decode cL_law 288 = .ok (.istore 6, 2) := by decide +kernel
theorem dL_law_290 : decode cL_law 290 = .ok (.aload_n 2, 1) := by decide +kernel
theorem dL_law_291 : decode cL_law 291 = .ok (.invokevirtual 49, 3) := by decide +kernel
theorem dL_law_294 : decode cL_law 294 = .ok (.iload 5, 2) := by decide +kernel
theorem dL_law_296 : decode cL_law 296 = .ok (.if_icmp .eq 5, 3) := by decide +kernel
theorem dL_law_299 : decode cL_law 299 = .ok (.iconst 0, 1) := by decide +kernel
theorem dL_law_300 : decode cL_law 300 = .ok (.ireturn, 1) := by decide +kernel
theorem dL_law_301 : decode cL_law 301 = .ok (.iload 5, 2) := by decide +kernel
theorem dL_law_303 : decode cL_law 303 = .ok (.ifCond .ne 15, 3) := by decide +kernel
theorem dL_law_306 : decode cL_law 306 = .ok (.aload_n 3, 1) := by decide +kernel
theorem dL_law_307 : decode cL_law 307 = .ok (.iconst 0, 1) := by decide +kernel
theorem dL_law_308 : decode cL_law 308 = .ok (.laload, 1) := by decide +kernel
theorem dL_law_309 : decode cL_law 309 = .ok (.iload 6, 2) := by decide +kernel
theorem dL_law_311 : decode cL_law 311 = .ok (.i2l, 1) := by decide +kernel
theorem dL_law_312 : decode cL_law 312 = .ok (.lcmp, 1) := by decide +kernel
theorem dL_law_313 : decode cL_law 313 = .ok (.ifCond .eq 5, 3) := by decide +kernel
theorem dL_law_316 : decode cL_law 316 = .ok (.iconst 0, 1) := by decide +kernel
theorem dL_law_317 : decode cL_law 317 = .ok (.ireturn, 1) := by decide +kernel
theorem dL_law_318 : decode cL_law 318 = .ok (.goto 445, 3) := by decide +kernel
theorem dL_law_321 : decode cL_law 321 = .ok (.aload_n 1, 1) := by decide +kernel
theorem dL_law_322 : decode cL_law 322 = .ok (.aload_n 0, 1) := by decide +kernel
theorem dL_law_323 : decode cL_law 323 = .ok (.iload 4, 2) := by decide +kernel
theorem dL_law_325 : decode cL_law 325 = .ok (.iconst 1, 1) := by decide +kernel
theorem dL_law_326 : decode cL_law 326 = .ok (.iadd, 1) := by decide +kernel
theorem dL_law_327 : decode cL_law 327 = .ok (.iaload, 1) := by decide +kernel
theorem dL_law_328 : decode cL_law 328 = .ok (.aload_n 0, 1) := by decide +kernel
theorem dL_law_329 : decode cL_law 329 = .ok (.iload 4, 2) := by decide +kernel
theorem dL_law_331 : decode cL_law 331 = .ok (.iconst 2, 1) := by decide +kernel
theorem dL_law_332 : decode cL_law 332 = .ok (.iadd, 1) := by decide +kernel
theorem dL_law_333 : decode cL_law 333 = .ok (.iaload, 1) := by decide +kernel
theorem dL_law_334 : decode cL_law 334 = .ok (.aload_n 0, 1) := by decide +kernel
theorem dL_law_335 : decode cL_law 335 = .ok (.iload 4, 2) := by decide +kernel
theorem dL_law_337 : decode cL_law 337 = .ok (.iconst 3, 1) := by decide +kernel
theorem dL_law_338 : decode cL_law 338 = .ok (.iadd, 1) := by decide +kernel
theorem dL_law_339 : decode cL_law 339 = .ok (.iaload, 1) := by decide +kernel
theorem dL_law_340 : decode cL_law 340 = .ok (.aload_n 3, 1) := by decide +kernel
theorem dL_law_341 : decode cL_law 341 = .ok (.invokestatic 65, 3) := by decide +kernel
theorem dL_law_344 : decode cL_law 344 = .ok (.istore 5, 2) := by decide +kernel
theorem dL_law_346 : decode cL_law 346 = .ok (.aload_n 2, 1) := by decide +kernel
theorem dL_law_347 : decode cL_law 347 = .ok (.aload_n 0, 1) := by decide +kernel
theorem dL_law_348 : decode cL_law 348 = .ok (.iload 4, 2) := by decide +kernel
theorem dL_law_350 : decode cL_law 350 = .ok (.iconst 1, 1) := by decide +kernel
theorem dL_law_351 : decode cL_law 351 = .ok (.iadd, 1) := by decide +kernel
theorem dL_law_352 : decode cL_law 352 = .ok (.iaload, 1) := by decide +kernel
theorem dL_law_353 : decode cL_law 353 = .ok (.aload_n 0, 1) := by decide +kernel
theorem dL_law_354 : decode cL_law 354 = .ok (.iload 4, 2) := by decide +kernel
theorem dL_law_356 : decode cL_law 356 = .ok (.iconst 2, 1) := by decide +kernel
theorem dL_law_357 : decode cL_law 357 = .ok (.iadd, 1) := by decide +kernel
theorem dL_law_358 : decode cL_law 358 = .ok (.iaload, 1) := by decide +kernel
theorem dL_law_359 : decode cL_law 359 = .ok (.aload_n 0, 1) := by decide +kernel
theorem dL_law_360 : decode cL_law 360 = .ok (.iload 4, 2) := by decide +kernel
theorem dL_law_362 : decode cL_law 362 = .ok (.iconst 3, 1) := by decide +kernel
theorem dL_law_363 : decode cL_law 363 = .ok (.iadd, 1) := by decide +kernel
theorem dL_law_364 : decode cL_law 364 = .ok (.iaload, 1) := by decide +kernel
theorem dL_law_365 : decode cL_law 365 = .ok (.invokevirtual 68, 3) := by decide +kernel
theorem dL_law_368 : decode cL_law 368 = .ok (.istore 6, 2) := by decide +kernel
theorem dL_law_370 : decode cL_law 370 = .ok (.aload_n 2, 1) := by decide +kernel
theorem dL_law_371 : decode cL_law 371 = .ok (.invokevirtual 49, 3) := by decide +kernel
theorem dL_law_374 : decode cL_law 374 = .ok (.iload 5, 2) := by decide +kernel
theorem dL_law_376 : decode cL_law 376 = .ok (.if_icmp .eq 5, 3) := by decide +kernel
theorem dL_law_379 : decode cL_law 379 = .ok (.iconst 0, 1) := by decide +kernel
theorem dL_law_380 : decode cL_law 380 = .ok (.ireturn, 1) := by decide +kernel
theorem dL_law_381 : decode cL_law 381 = .ok (.iload 5, 2) := by decide +kernel
theorem dL_law_383 : decode cL_law 383 = .ok (.ifCond .ne 15, 3) := by decide +kernel
theorem dL_law_386 : decode cL_law 386 = .ok (.aload_n 3, 1) := by decide +kernel
theorem dL_law_387 : decode cL_law 387 = .ok (.iconst 0, 1) := by decide +kernel
theorem dL_law_388 : decode cL_law 388 = .ok (.laload, 1) := by decide +kernel
theorem dL_law_389 : decode cL_law 389 = .ok (.iload 6, 2) := by decide +kernel
theorem dL_law_391 : decode cL_law 391 = .ok (.i2l, 1) := by decide +kernel
theorem dL_law_392 : decode cL_law 392 = .ok (.lcmp, 1) := by decide +kernel
theorem dL_law_393 : decode cL_law 393 = .ok (.ifCond .eq 5, 3) := by decide +kernel
theorem dL_law_396 : decode cL_law 396 = .ok (.iconst 0, 1) := by decide +kernel
theorem dL_law_397 : decode cL_law 397 = .ok (.ireturn, 1) := by decide +kernel
theorem dL_law_398 : decode cL_law 398 = .ok (.goto 365, 3) := by decide +kernel
theorem dL_law_401 : decode cL_law 401 = .ok (.aload_n 1, 1) := by decide +kernel
theorem dL_law_402 : decode cL_law 402 = .ok (.aload_n 0, 1) := by decide +kernel
theorem dL_law_403 : decode cL_law 403 = .ok (.iload 4, 2) := by decide +kernel
theorem dL_law_405 : decode cL_law 405 = .ok (.iconst 1, 1) := by decide +kernel
theorem dL_law_406 : decode cL_law 406 = .ok (.iadd, 1) := by decide +kernel
theorem dL_law_407 : decode cL_law 407 = .ok (.iaload, 1) := by decide +kernel
theorem dL_law_408 : decode cL_law 408 = .ok (.aload_n 0, 1) := by decide +kernel
theorem dL_law_409 : decode cL_law 409 = .ok (.iload 4, 2) := by decide +kernel
theorem dL_law_411 : decode cL_law 411 = .ok (.iconst 2, 1) := by decide +kernel
theorem dL_law_412 : decode cL_law 412 = .ok (.iadd, 1) := by decide +kernel
theorem dL_law_413 : decode cL_law 413 = .ok (.iaload, 1) := by decide +kernel
theorem dL_law_414 : decode cL_law 414 = .ok (.aload_n 3, 1) := by decide +kernel
theorem dL_law_415 : decode cL_law 415 = .ok (.invokestatic 69, 3) := by decide +kernel
theorem dL_law_418 : decode cL_law 418 = .ok (.istore 5, 2) := by decide +kernel
theorem dL_law_420 : decode cL_law 420 = .ok (.aload_n 2, 1) := by decide +kernel
theorem dL_law_421 : decode cL_law 421 = .ok (.aload_n 0, 1) := by decide +kernel
theorem dL_law_422 : decode cL_law 422 = .ok (.iload 4, 2) := by decide +kernel
theorem dL_law_424 : decode cL_law 424 = .ok (.iconst 1, 1) := by decide +kernel
theorem dL_law_425 : decode cL_law 425 = .ok (.iadd, 1) := by decide +kernel
theorem dL_law_426 : decode cL_law 426 = .ok (.iaload, 1) := by decide +kernel
theorem dL_law_427 : decode cL_law 427 = .ok (.aload_n 0, 1) := by decide +kernel
theorem dL_law_428 : decode cL_law 428 = .ok (.iload 4, 2) := by decide +kernel
theorem dL_law_430 : decode cL_law 430 = .ok (.iconst 2, 1) := by decide +kernel
theorem dL_law_431 : decode cL_law 431 = .ok (.iadd, 1) := by decide +kernel
theorem dL_law_432 : decode cL_law 432 = .ok (.iaload, 1) := by decide +kernel
theorem dL_law_433 : decode cL_law 433 = .ok (.invokevirtual 71, 3) := by decide +kernel
theorem dL_law_436 : decode cL_law 436 = .ok (.istore 6, 2) := by decide +kernel
theorem dL_law_438 : decode cL_law 438 = .ok (.aload_n 2, 1) := by decide +kernel
theorem dL_law_439 : decode cL_law 439 = .ok (.invokevirtual 49, 3) := by decide +kernel
theorem dL_law_442 : decode cL_law 442 = .ok (.iload 5, 2) := by decide +kernel
theorem dL_law_444 : decode cL_law 444 = .ok (.if_icmp .eq 5, 3) := by decide +kernel
theorem dL_law_447 : decode cL_law 447 = .ok (.iconst 0, 1) := by decide +kernel
theorem dL_law_448 : decode cL_law 448 = .ok (.ireturn, 1) := by decide +kernel
theorem dL_law_449 : decode cL_law 449 = .ok (.iload 5, 2) := by decide +kernel
theorem dL_law_451 : decode cL_law 451 = .ok (.ifCond .ne 15, 3) := by decide +kernel
theorem dL_law_454 : decode cL_law 454 = .ok (.aload_n 3, 1) := by decide +kernel
theorem dL_law_455 : decode cL_law 455 = .ok (.iconst 0, 1) := by decide +kernel
theorem dL_law_456 : decode cL_law 456 = .ok (.laload, 1) := by decide +kernel
theorem dL_law_457 : decode cL_law 457 = .ok (.iload 6, 2) := by decide +kernel
theorem dL_law_459 : decode cL_law 459 = .ok (.i2l, 1) := by decide +kernel
theorem dL_law_460 : decode cL_law 460 = .ok (.lcmp, 1) := by decide +kernel
theorem dL_law_461 : decode cL_law 461 = .ok (.ifCond .eq 5, 3) := by decide +kernel
theorem dL_law_464 : decode cL_law 464 = .ok (.iconst 0, 1) := by decide +kernel
theorem dL_law_465 : decode cL_law 465 = .ok (.ireturn, 1) := by decide +kernel
theorem dL_law_466 : decode cL_law 466 = .ok (.goto 297, 3) := by decide +kernel
theorem dL_law_469 : decode cL_law 469 = .ok (.aload_n 1, 1) := by decide +kernel
theorem dL_law_470 : decode cL_law 470 = .ok (.aload_n 0, 1) := by decide +kernel
theorem dL_law_471 : decode cL_law 471 = .ok (.iload 4, 2) := by decide +kernel
theorem dL_law_473 : decode cL_law 473 = .ok (.iconst 1, 1) := by decide +kernel
theorem dL_law_474 : decode cL_law 474 = .ok (.iadd, 1) := by decide +kernel
theorem dL_law_475 : decode cL_law 475 = .ok (.iaload, 1) := by decide +kernel
theorem dL_law_476 : decode cL_law 476 = .ok (.aload_n 0, 1) := by decide +kernel
theorem dL_law_477 : decode cL_law 477 = .ok (.iload 4, 2) := by decide +kernel
theorem dL_law_479 : decode cL_law 479 = .ok (.iconst 2, 1) := by decide +kernel
theorem dL_law_480 : decode cL_law 480 = .ok (.iadd, 1) := by decide +kernel
theorem dL_law_481 : decode cL_law 481 = .ok (.iaload, 1) := by decide +kernel
theorem dL_law_482 : decode cL_law 482 = .ok (.ifCond .eq 7, 3) := by decide +kernel
theorem dL_law_485 : decode cL_law 485 = .ok (.iconst 1, 1) := by decide +kernel
theorem dL_law_486 : decode cL_law 486 = .ok (.goto 4, 3) := by decide +kernel
theorem dL_law_489 : decode cL_law 489 = .ok (.iconst 0, 1) := by decide +kernel
theorem dL_law_490 : decode cL_law 490 = .ok (.aload_n 3, 1) := by decide +kernel
theorem dL_law_491 : decode cL_law 491 = .ok (.invokestatic 72, 3) := by decide +kernel
theorem dL_law_494 : decode cL_law 494 = .ok (.istore 5, 2) := by decide +kernel
theorem dL_law_496 : decode cL_law 496 = .ok (.aload_n 2, 1) := by decide +kernel
theorem dL_law_497 : decode cL_law 497 = .ok (.aload_n 0, 1) := by decide +kernel
theorem dL_law_498 : decode cL_law 498 = .ok (.iload 4, 2) := by decide +kernel
theorem dL_law_500 : decode cL_law 500 = .ok (.iconst 1, 1) := by decide +kernel
theorem dL_law_501 : decode cL_law 501 = .ok (.iadd, 1) := by decide +kernel
theorem dL_law_502 : decode cL_law 502 = .ok (.iaload, 1) := by decide +kernel
theorem dL_law_503 : decode cL_law 503 = .ok (.aload_n 0, 1) := by decide +kernel
theorem dL_law_504 : decode cL_law 504 = .ok (.iload 4, 2) := by decide +kernel
theorem dL_law_506 : decode cL_law 506 = .ok (.iconst 2, 1) := by decide +kernel
theorem dL_law_507 : decode cL_law 507 = .ok (.iadd, 1) := by decide +kernel
theorem dL_law_508 : decode cL_law 508 = .ok (.iaload, 1) := by decide +kernel
theorem dL_law_509 : decode cL_law 509 = .ok (.ifCond .eq 7, 3) := by decide +kernel
theorem dL_law_512 : decode cL_law 512 = .ok (.iconst 1, 1) := by decide +kernel
theorem dL_law_513 : decode cL_law 513 = .ok (.goto 4, 3) := by decide +kernel
theorem dL_law_516 : decode cL_law 516 = .ok (.iconst 0, 1) := by decide +kernel
theorem dL_law_517 : decode cL_law 517 = .ok (.invokevirtual 75, 3) := by decide +kernel
theorem dL_law_520 : decode cL_law 520 = .ok (.istore 6, 2) := by decide +kernel
theorem dL_law_522 : decode cL_law 522 = .ok (.aload_n 2, 1) := by decide +kernel
theorem dL_law_523 : decode cL_law 523 = .ok (.invokevirtual 49, 3) := by decide +kernel
theorem dL_law_526 : decode cL_law 526 = .ok (.iload 5, 2) := by decide +kernel
theorem dL_law_528 : decode cL_law 528 = .ok (.if_icmp .eq 5, 3) := by decide +kernel
theorem dL_law_531 : decode cL_law 531 = .ok (.iconst 0, 1) := by decide +kernel
theorem dL_law_532 : decode cL_law 532 = .ok (.ireturn, 1) := by decide +kernel
theorem dL_law_533 : decode cL_law 533 = .ok (.iload 5, 2) := by decide +kernel
theorem dL_law_535 : decode cL_law 535 = .ok (.ifCond .ne 15, 3) := by decide +kernel
theorem dL_law_538 : decode cL_law 538 = .ok (.aload_n 3, 1) := by decide +kernel
theorem dL_law_539 : decode cL_law 539 = .ok (.iconst 0, 1) := by decide +kernel
theorem dL_law_540 : decode cL_law 540 = .ok (.laload, 1) := by decide +kernel
theorem dL_law_541 : decode cL_law 541 = .ok (.iload 6, 2) := by decide +kernel
theorem dL_law_543 : decode cL_law 543 = .ok (.i2l, 1) := by decide +kernel
theorem dL_law_544 : decode cL_law 544 = .ok (.lcmp, 1) := by decide +kernel
theorem dL_law_545 : decode cL_law 545 = .ok (.ifCond .eq 5, 3) := by decide +kernel
theorem dL_law_548 : decode cL_law 548 = .ok (.iconst 0, 1) := by decide +kernel
theorem dL_law_549 : decode cL_law 549 = .ok (.ireturn, 1) := by decide +kernel
theorem dL_law_550 : decode cL_law 550 = .ok (.goto 213, 3) := by decide +kernel
theorem dL_law_553 : decode cL_law 553 = .ok (.aload_n 1, 1) := by decide +kernel
theorem dL_law_554 : decode cL_law 554 = .ok (.aload_n 0, 1) := by decide +kernel
theorem dL_law_555 : decode cL_law 555 = .ok (.iload 4, 2) := by decide +kernel
theorem dL_law_557 : decode cL_law 557 = .ok (.iconst 1, 1) := by decide +kernel
theorem dL_law_558 : decode cL_law 558 = .ok (.iadd, 1) := by decide +kernel
theorem dL_law_559 : decode cL_law 559 = .ok (.iaload, 1) := by decide +kernel
theorem dL_law_560 : decode cL_law 560 = .ok (.invokevirtual 76, 3) := by decide +kernel
theorem dL_law_563 : decode cL_law 563 = .ok (.aload_n 2, 1) := by decide +kernel
theorem dL_law_564 : decode cL_law 564 = .ok (.aload_n 0, 1) := by decide +kernel
theorem dL_law_565 : decode cL_law 565 = .ok (.iload 4, 2) := by decide +kernel
theorem dL_law_567 : decode cL_law 567 = .ok (.iconst 1, 1) := by decide +kernel
theorem dL_law_568 : decode cL_law 568 = .ok (.iadd, 1) := by decide +kernel
theorem dL_law_569 : decode cL_law 569 = .ok (.iaload, 1) := by decide +kernel
theorem dL_law_570 : decode cL_law 570 = .ok (.invokevirtual 79, 3) := by decide +kernel
theorem dL_law_573 : decode cL_law 573 = .ok (.if_icmp .eq 190, 3) := by decide +kernel
theorem dL_law_576 : decode cL_law 576 = .ok (.iconst 0, 1) := by decide +kernel
theorem dL_law_577 : decode cL_law 577 = .ok (.ireturn, 1) := by decide +kernel
theorem dL_law_578 : decode cL_law 578 = .ok (.aload_n 1, 1) := by decide +kernel
theorem dL_law_579 : decode cL_law 579 = .ok (.aload_n 0, 1) := by decide +kernel
theorem dL_law_580 : decode cL_law 580 = .ok (.iload 4, 2) := by decide +kernel
theorem dL_law_582 : decode cL_law 582 = .ok (.iconst 1, 1) := by decide +kernel
theorem dL_law_583 : decode cL_law 583 = .ok (.iadd, 1) := by decide +kernel
theorem dL_law_584 : decode cL_law 584 = .ok (.iaload, 1) := by decide +kernel
theorem dL_law_585 : decode cL_law 585 = .ok (.aload_n 3, 1) := by decide +kernel
theorem dL_law_586 : decode cL_law 586 = .ok (.invokestatic 80, 3) := by decide +kernel
theorem dL_law_589 : decode cL_law 589 = .ok (.istore 5, 2) := by decide +kernel
theorem dL_law_591 : decode cL_law 591 = .ok (.aload_n 2, 1) := by decide +kernel
theorem dL_law_592 : decode cL_law 592 = .ok (.aload_n 0, 1) := by decide +kernel
theorem dL_law_593 : decode cL_law 593 = .ok (.iload 4, 2) := by decide +kernel
theorem dL_law_595 : decode cL_law 595 = .ok (.iconst 1, 1) := by decide +kernel
theorem dL_law_596 : decode cL_law 596 = .ok (.iadd, 1) := by decide +kernel
theorem dL_law_597 : decode cL_law 597 = .ok (.iaload, 1) := by decide +kernel
theorem dL_law_598 : decode cL_law 598 = .ok (.invokevirtual 82, 3) := by decide +kernel
theorem dL_law_601 : decode cL_law 601 = .ok (.istore 6, 2) := by decide +kernel
theorem dL_law_603 : decode cL_law 603 = .ok (.aload_n 2, 1) := by decide +kernel
theorem dL_law_604 : decode cL_law 604 = .ok (.invokevirtual 49, 3) := by decide +kernel
theorem dL_law_607 : decode cL_law 607 = .ok (.iload 5, 2) := by decide +kernel
theorem dL_law_609 : decode cL_law 609 = .ok (.if_icmp .eq 5, 3) := by decide +kernel
theorem dL_law_612 : decode cL_law 612 = .ok (.iconst 0, 1) := by decide +kernel
theorem dL_law_613 : decode cL_law 613 = .ok (.ireturn, 1) := by decide +kernel
theorem dL_law_614 : decode cL_law 614 = .ok (.iload 5, 2) := by decide +kernel
theorem dL_law_616 : decode cL_law 616 = .ok (.ifCond .ne 15, 3) := by decide +kernel
theorem dL_law_619 : decode cL_law 619 = .ok (.aload_n 3, 1) := by decide +kernel
theorem dL_law_620 : decode cL_law 620 = .ok (.iconst 0, 1) := by decide +kernel
theorem dL_law_621 : decode cL_law 621 = .ok (.laload, 1) := by decide +kernel
theorem dL_law_622 : decode cL_law 622 = .ok (.iload 6, 2) := by decide +kernel
theorem dL_law_624 : decode cL_law 624 = .ok (.i2l, 1) := by decide +kernel
theorem dL_law_625 : decode cL_law 625 = .ok (.lcmp, 1) := by decide +kernel
theorem dL_law_626 : decode cL_law 626 = .ok (.ifCond .eq 5, 3) := by decide +kernel
theorem dL_law_629 : decode cL_law 629 = .ok (.iconst 0, 1) := by decide +kernel
theorem dL_law_630 : decode cL_law 630 = .ok (.ireturn, 1) := by decide +kernel
theorem dL_law_631 : decode cL_law 631 = .ok (.goto 132, 3) := by decide +kernel
theorem dL_law_634 : decode cL_law 634 = .ok (.aload_n 1, 1) := by decide +kernel
theorem dL_law_635 : decode cL_law 635 = .ok (.aload_n 0, 1) := by decide +kernel
theorem dL_law_636 : decode cL_law 636 = .ok (.iload 4, 2) := by decide +kernel
theorem dL_law_638 : decode cL_law 638 = .ok (.iconst 1, 1) := by decide +kernel
theorem dL_law_639 : decode cL_law 639 = .ok (.iadd, 1) := by decide +kernel
theorem dL_law_640 : decode cL_law 640 = .ok (.iaload, 1) := by decide +kernel
theorem dL_law_641 : decode cL_law 641 = .ok (.invokevirtual 83, 3) := by decide +kernel
theorem dL_law_644 : decode cL_law 644 = .ok (.aload_n 2, 1) := by decide +kernel
theorem dL_law_645 : decode cL_law 645 = .ok (.aload_n 0, 1) := by decide +kernel
theorem dL_law_646 : decode cL_law 646 = .ok (.iload 4, 2) := by decide +kernel
theorem dL_law_648 : decode cL_law 648 = .ok (.iconst 1, 1) := by decide +kernel
theorem dL_law_649 : decode cL_law 649 = .ok (.iadd, 1) := by decide +kernel
theorem dL_law_650 : decode cL_law 650 = .ok (.iaload, 1) := by decide +kernel
theorem dL_law_651 : decode cL_law 651 = .ok (.invokevirtual 86, 3) := by decide +kernel
theorem dL_law_654 : decode cL_law 654 = .ok (.if_icmp .eq 109, 3) := by decide +kernel
theorem dL_law_657 : decode cL_law 657 = .ok (.iconst 0, 1) := by decide +kernel
theorem dL_law_658 : decode cL_law 658 = .ok (.ireturn, 1) := by decide +kernel
theorem dL_law_659 : decode cL_law 659 = .ok (.aload_n 1, 1) := by decide +kernel
theorem dL_law_660 : decode cL_law 660 = .ok (.aload_n 0, 1) := by decide +kernel
theorem dL_law_661 : decode cL_law 661 = .ok (.iload 4, 2) := by decide +kernel
theorem dL_law_663 : decode cL_law 663 = .ok (.iconst 1, 1) := by decide +kernel
theorem dL_law_664 : decode cL_law 664 = .ok (.iadd, 1) := by decide +kernel
theorem dL_law_665 : decode cL_law 665 = .ok (.iaload, 1) := by decide +kernel
theorem dL_law_666 : decode cL_law 666 = .ok (.aload_n 0, 1) := by decide +kernel
theorem dL_law_667 : decode cL_law 667 = .ok (.iload 4, 2) := by decide +kernel
theorem dL_law_669 : decode cL_law 669 = .ok (.iconst 2, 1) := by decide +kernel
theorem dL_law_670 : decode cL_law 670 = .ok (.iadd, 1) := by decide +kernel
theorem dL_law_671 : decode cL_law 671 = .ok (.iaload, 1) := by decide +kernel
theorem dL_law_672 : decode cL_law 672 = .ok (.aload_n 3, 1) := by decide +kernel
theorem dL_law_673 : decode cL_law 673 = .ok (.invokestatic 87, 3) := by decide +kernel
theorem dL_law_676 : decode cL_law 676 = .ok (.istore 5, 2) := by decide +kernel
theorem dL_law_678 : decode cL_law 678 = .ok (.aload_n 2, 1) := by decide +kernel
theorem dL_law_679 : decode cL_law 679 = .ok (.aload_n 0, 1) := by decide +kernel
theorem dL_law_680 : decode cL_law 680 = .ok (.iload 4, 2) := by decide +kernel
theorem dL_law_682 : decode cL_law 682 = .ok (.iconst 1, 1) := by decide +kernel
theorem dL_law_683 : decode cL_law 683 = .ok (.iadd, 1) := by decide +kernel
theorem dL_law_684 : decode cL_law 684 = .ok (.iaload, 1) := by decide +kernel
theorem dL_law_685 : decode cL_law 685 = .ok (.aload_n 0, 1) := by decide +kernel
theorem dL_law_686 : decode cL_law 686 = .ok (.iload 4, 2) := by decide +kernel
theorem dL_law_688 : decode cL_law 688 = .ok (.iconst 2, 1) := by decide +kernel
theorem dL_law_689 : decode cL_law 689 = .ok (.iadd, 1) := by decide +kernel
theorem dL_law_690 : decode cL_law 690 = .ok (.iaload, 1) := by decide +kernel
theorem dL_law_691 : decode cL_law 691 = .ok (.invokevirtual 89, 3) := by decide +kernel
theorem dL_law_694 : decode cL_law 694 = .ok (.istore 6, 2) := by decide +kernel
theorem dL_law_696 : decode cL_law 696 = .ok (.aload_n 2, 1) := by decide +kernel
theorem dL_law_697 : decode cL_law 697 = .ok (.invokevirtual 49, 3) := by decide +kernel
theorem dL_law_700 : decode cL_law 700 = .ok (.iload 5, 2) := by decide +kernel
theorem dL_law_702 : decode cL_law 702 = .ok (.if_icmp .eq 5, 3) := by decide +kernel
theorem dL_law_705 : decode cL_law 705 = .ok (.iconst 0, 1) := by decide +kernel
theorem dL_law_706 : decode cL_law 706 = .ok (.ireturn, 1) := by decide +kernel
theorem dL_law_707 : decode cL_law 707 = .ok (.iload 5, 2) := by decide +kernel
theorem dL_law_709 : decode cL_law 709 = .ok (.ifCond .ne 15, 3) := by decide +kernel
theorem dL_law_712 : decode cL_law 712 = .ok (.aload_n 3, 1) := by decide +kernel
theorem dL_law_713 : decode cL_law 713 = .ok (.iconst 0, 1) := by decide +kernel
theorem dL_law_714 : decode cL_law 714 = .ok (.laload, 1) := by decide +kernel
theorem dL_law_715 : decode cL_law 715 = .ok (.iload 6, 2) := by decide +kernel
theorem dL_law_717 : decode cL_law 717 = .ok (.i2l, 1) := by decide +kernel
theorem dL_law_718 : decode cL_law 718 = .ok (.lcmp, 1) := by decide +kernel
theorem dL_law_719 : decode cL_law 719 = .ok (.ifCond .eq 5, 3) := by decide +kernel
theorem dL_law_722 : decode cL_law 722 = .ok (.iconst 0, 1) := by decide +kernel
theorem dL_law_723 : decode cL_law 723 = .ok (.ireturn, 1) := by decide +kernel
theorem dL_law_724 : decode cL_law 724 = .ok (.goto 39, 3) := by decide +kernel
theorem dL_law_727 : decode cL_law 727 = .ok (.aload_n 1, 1) := by decide +kernel
theorem dL_law_728 : decode cL_law 728 = .ok (.invokevirtual 90, 3) := by decide +kernel
theorem dL_law_731 : decode cL_law 731 = .ok (.aload_n 2, 1) := by decide +kernel
theorem dL_law_732 : decode cL_law 732 = .ok (.invokevirtual 93, 3) := by decide +kernel
theorem dL_law_735 : decode cL_law 735 = .ok (.goto 28, 3) := by decide +kernel
theorem dL_law_738 : decode cL_law 738 = .ok (.aload_n 1, 1) := by decide +kernel
theorem dL_law_739 : decode cL_law 739 = .ok (.aload_n 0, 1) := by decide +kernel
theorem dL_law_740 : decode cL_law 740 = .ok (.iload 4, 2) := by decide +kernel
theorem dL_law_742 : decode cL_law 742 = .ok (.iconst 1, 1) := by decide +kernel
theorem dL_law_743 : decode cL_law 743 = .ok (.iadd, 1) := by decide +kernel
theorem dL_law_744 : decode cL_law 744 = .ok (.iaload, 1) := by decide +kernel
theorem dL_law_745 : decode cL_law 745 = .ok (.invokevirtual 94, 3) := by decide +kernel
theorem dL_law_748 : decode cL_law 748 = .ok (.aload_n 2, 1) := by decide +kernel
theorem dL_law_749 : decode cL_law 749 = .ok (.aload_n 0, 1) := by decide +kernel
theorem dL_law_750 : decode cL_law 750 = .ok (.iload 4, 2) := by decide +kernel
theorem dL_law_752 : decode cL_law 752 = .ok (.iconst 1, 1) := by decide +kernel
theorem dL_law_753 : decode cL_law 753 = .ok (.iadd, 1) := by decide +kernel
theorem dL_law_754 : decode cL_law 754 = .ok (.iaload, 1) := by decide +kernel
theorem dL_law_755 : decode cL_law 755 = .ok (.invokevirtual 97, 3) := by decide +kernel
theorem dL_law_758 : decode cL_law 758 = .ok (.if_icmp .eq 5, 3) := by decide +kernel
theorem dL_law_761 : decode cL_law 761 = .ok (.iconst 0, 1) := by decide +kernel
theorem dL_law_762 : decode cL_law 762 = .ok (.ireturn, 1) := by decide +kernel
theorem dL_law_763 : decode cL_law 763 = .ok (.iinc 4 4, 3) := by decide +kernel
theorem dL_law_766 : decode cL_law 766 = .ok (.goto (-743), 3) := by decide +kernel
theorem dL_law_769 : decode cL_law 769 = .ok (.iconst 1, 1) := by decide +kernel
theorem dL_law_770 : decode cL_law 770 = .ok (.ireturn, 1) := by decide +kernel
end
section
set_option maxHeartbeats 4000000 in
set_option maxRecDepth 100000 in
/-- a call of behind -/
theorem law_behind {pg : Program} {l : Launch} {ev : Env} {s : State} {m : MethodId} {below : List Frame} {meth : Method} {cd : Code} {b LN : Nat} {xs : Nat → Int32} {dC : Nat → ClassId} {dI : Nat → Nat → Nat} {A : Nat → Prop} {hX aX bX o hM aM bM : Nat} {cA cB cO cC cD : ClassId} {q : Nat} (C0 : lw_At pg s m meth cd b LN xs) (hLN : LN ≤ 2048) (hq : 4 * q + 4 ≤ LN) (hfl : l.flags = flags0) (hK : va_K (dC, dI) vwCl [(cA, .int), (cB, .int), (cO, .long), (cC, .int), (cD, .int)] s) (hA : ∀ q : Nat, s.heap.size ≤ q → A q) (hbA : ¬ A b) (hZs : lw_Zs A s) (hk : lw_inv pg l ev s m below meth cd b dC dI A hX aX bX o hM aM bM cA cB cO cC cD q 763 (8 + q) (4014 + 6 * q)) : lw_inv pg l ev s m below meth cd b dC dI A hX aX bX o hM aM bM cA cB cO cC cD q 104 (7 + q) (4008 + 6 * q) := by
  obtain ⟨hx, hb, hr, hml, hown, hts, hSc, hbl, hlocks, hgv⟩ := C0
  have hown : s.vm.findClass RL = some m.cls := hown
  have htsL : ∀ w ∈ wsL_law, w.before #[Value.ref b] s = true := fun w h => hts w (wsL_law_in w h)
  intro N L f g f2 as th oo H locs ls ok hf hg hf2 hP hD hS hl
  refine lv_aload_n hx hb dL_law_104 rfl (lv_at hl 1 rfl) ?_
  refine lv_aload_n hx hb dL_law_105 rfl (lv_at hl 0 rfl) ?_
  refine lv_iload hx hb dL_law_106 (lv_at hl 4 rfl) ?_
  refine lv_iconst (v := 1) hx hb dL_law_108 (by decide +kernel) ?_
  refine lv_iadd hx hb dL_law_109 ?_
  refine ow_top (z := nI (4 * q + 1)) (nI_1 (4 * q)) ?_
  refine ow_sld (k := 4 * q + 1) hx hb hSc hbl hbA hS (by omega) (by omega) dL_law_110 ?_
  refine lv_aload_n hx hb dL_law_111 rfl (lv_at hl 3 rfl) ?_
  obtain ⟨tt, r, N', L', hsp, ok'⟩ := ex_behind ok ((xs (4 * q + 1)))
  refine ow_calli (wr := [(hM, .inr (1, [.int th, .ref aM, .int (nI N), .ref bM])), (aM, .inl (cC, 1000, .inl f2)), (bM, .inl (cD, 1000, .inl as))]) (vx_runSW (As := [.ref hX, .int (xs (4 * q + 1)), .ref o]) (rest := []) ⟨hx, hb, hml, hown, htsL⟩ (c_L_behind l dC dI hfl hX aX bX o cA cB cO N L f g oo tt r N' L' _ ok hf hg ((xs (4 * q + 1))) hsp) (vx_cwSW 3 htsL gL_law_L_behind rfl rfl rfl (by decide +kernel) ⟨Nat.le_of_ble_eq_true rfl, Nat.le_of_ble_eq_true rfl⟩) (ow_PreSx (hK.sub (tys' := [(cA, .int), (cB, .int), (cO, .long)]) [0, 1, 2] rfl) (hP.sub (ws' := (wO hX aX bX o cA cB cO ((nI N, f, g), oo))) [0, 1, 2, 3] rfl) (hD.sub (ws' := (wO hX aX bX o cA cB cO ((nI N, f, g), oo))) [0, 1, 2, 3] (by decide) rfl) hZs hS) rfl rfl hl.1 rfl (lv_room (Nat.le_of_ble_eq_true rfl)) dL_law_112 ⟨by show 7 + q + 1 ≤ 1032; omega, by show 4008 + 6 * q + 6 ≤ 12206; omega⟩) hP hD hS hA [0, 1, 2, 3] [4, 5, 6] rfl rfl (by decide) (by decide) (fun r0 u H locs hw hP hD hS => ?_)
  refine W.widen (k := 8 + q) (n := 4014 + 6 * q) (by omega) (by omega) ?_
  obtain ⟨⟨a1, f1, g1⟩, oo1⟩ := u
  obtain ⟨er, hoo, e1, hf1, hg1⟩ := hw
  obtain rfl : nI N' = a1 := e1.symm
  refine ow_top (z := tt) er ?_
  have hP : va_P (dC, dI) vwCl [(hM, .inr (1, [.int th, .ref aM, .int (nI N), .ref bM])), (aM, .inl (cC, 1000, .inl f2)), (bM, .inl (cD, 1000, .inl as)), (hX, .inr (0, [.ref aX, .ref bX, .int (nI N')])), (aX, .inl (cA, 1000, .inl f1)), (bX, .inl (cB, 1000, .inl g1)), (o, .inl (cO, 1, .inr (.inl oo1)))] H := hP
  have hD : va_D A [(hM, .inr (1, [.int th, .ref aM, .int (nI N), .ref bM])), (aM, .inl (cC, 1000, .inl f2)), (bM, .inl (cD, 1000, .inl as)), (hX, .inr (0, [.ref aX, .ref bX, .int (nI N')])), (aX, .inl (cA, 1000, .inl f1)), (bX, .inl (cB, 1000, .inl g1)), (o, .inl (cO, 1, .inr (.inl oo1)))] := hD
  refine lv_istore (lv' := [(5, .int tt), (0, .ref b), (1, .ref hX), (2, .ref hM), (3, .ref o), (4, .int (nI (4 * q)))]) hx hb dL_law_115 hl (by decide) rfl (fun ls hl => ?_)
  refine lv_aload_n hx hb dL_law_117 rfl (lv_at hl 3 rfl) ?_
  refine lv_aload_n hx hb dL_law_118 rfl (lv_at hl 1 rfl) ?_
  refine lv_iload hx hb dL_law_119 (lv_at hl 5 rfl) ?_
  refine lv_iconst (v := 1) hx hb dL_law_121 (by decide +kernel) ?_
  refine lv_iadd hx hb dL_law_122 ?_
  refine ow_top (z := nI (4 * q + 1)) (nI_1 (4 * q)) ?_
  refine ow_sld (k := 4 * q + 1) hx hb hSc hbl hbA hS (by omega) (by omega) dL_law_123 ?_
  refine ow_calli (wr := [(hX, .inr (0, [.ref aX, .ref bX, .int (nI N')])), (aX, .inl (cA, 1000, .inl f1)), (bX, .inl (cB, 1000, .inl g1)), (o, .inl (cO, 1, .inr (.inl oo1)))]) (va_runV (As := [.int (xs (4 * q + 1))]) (rest := []) ⟨hx, hb, hml, hown, hts⟩ (c_M_behind l dC dI hM aM bM cC cD th N L f2 as tt r N' L' _ ok hf2 ((xs (4 * q + 1))) hsp) (cwV 1 hts gT_law_X1_behind rfl rfl rfl (by decide +kernel) ⟨Nat.le_of_ble_eq_true rfl, Nat.le_of_ble_eq_true rfl⟩) (ow_PreV (hK.sub (tys' := [(cC, .int), (cD, .int)]) [3, 4] rfl) (hP.sub (ws' := (wM hM aM bM cC cD (th, nI N, f2, as))) [0, 1, 2] rfl) (hD.sub (ws' := (wM hM aM bM cC cD (th, nI N, f2, as))) [0, 1, 2] (by decide) rfl) (ci := 1) (q0 := 0) rfl rfl) rfl rfl hl.1 rfl (lv_room (Nat.le_of_ble_eq_true rfl)) dL_law_124 ⟨by show 8 + q + 0 ≤ 1032; omega, by show 4014 + 6 * q + 0 ≤ 12206; omega⟩) hP hD hS hA [0, 1, 2] [3, 4, 5, 6] rfl rfl (by decide) (by decide) (fun r0 u H locs hw hP hD hS => ?_)
  obtain ⟨v1, v2, v3, v4⟩ := u
  obtain ⟨er, e1, e2, hf9⟩ := hw
  obtain rfl : tt = v1 := e1.symm
  obtain rfl : nI N' = v2 := e2.symm
  refine ow_top (z := r) er ?_
  have hP : va_P (dC, dI) vwCl [(hX, .inr (0, [.ref aX, .ref bX, .int (nI N')])), (aX, .inl (cA, 1000, .inl f1)), (bX, .inl (cB, 1000, .inl g1)), (o, .inl (cO, 1, .inr (.inl oo1))), (hM, .inr (1, [.int tt, .ref aM, .int (nI N'), .ref bM])), (aM, .inl (cC, 1000, .inl v3)), (bM, .inl (cD, 1000, .inl v4))] H := hP
  have hD : va_D A [(hX, .inr (0, [.ref aX, .ref bX, .int (nI N')])), (aX, .inl (cA, 1000, .inl f1)), (bX, .inl (cB, 1000, .inl g1)), (o, .inl (cO, 1, .inr (.inl oo1))), (hM, .inr (1, [.int tt, .ref aM, .int (nI N'), .ref bM])), (aM, .inl (cC, 1000, .inl v3)), (bM, .inl (cD, 1000, .inl v4))] := hD
  refine lv_istore (lv' := [(6, .int r), (5, .int tt), (0, .ref b), (1, .ref hX), (2, .ref hM), (3, .ref o), (4, .int (nI (4 * q)))]) hx hb dL_law_127 hl (by decide) rfl (fun ls hl => ?_)
  refine lv_aload_n hx hb dL_law_129 rfl (lv_at hl 4 rfl) ?_
  refine ow_callR (r := tt) (W.runV (As := []) (rest := []) ⟨hx, hb, hml, hown, htsL⟩ (c_M_thrown l dC dI hM aM bM cC cD tt (nI N') v3 v4) (cwV 0 htsL gL_law_X1_thrown rfl rfl rfl (by decide +kernel) ⟨Nat.le_of_ble_eq_true rfl, Nat.le_of_ble_eq_true rfl⟩) (ow_PreR (hK.sub (tys' := [(cC, .int), (cD, .int)]) [3, 4] rfl) (hP.sub (ws' := (wM hM aM bM cC cD (tt, nI N', v3, v4))) [4, 5, 6] rfl) (ci := 1) (q0 := 0) rfl rfl) rfl rfl hl.1 rfl (lv_room (Nat.le_of_ble_eq_true rfl)) dL_law_130 ⟨by show 8 + q + 0 ≤ 1032; omega, by show 4014 + 6 * q + 0 ≤ 12206; omega⟩) ?_
  refine lv_iload hx hb dL_law_133 (lv_at hl 1 rfl) ?_
  refine lv_icmp_eq (tgt := 140) hx hb dL_law_135 (by decide) (fun c_135 => ?_) (fun c_135 => (c_135 rfl).elim)
  refine lv_iload hx hb dL_law_140 (lv_at hl 1 rfl) ?_
  refine lv_if_ne (tgt := 157) hx hb dL_law_142 (by decide) (fun c_142 => ?_) (fun c_142 => ?_)
  · refine lv_goto (tgt := 763) hx hb dL_law_157 (by decide) ?_
    exact hk N' L' f1 g1 v3 v4 tt oo1 H locs ls ok' hf1 hg1 hf9 (hP.sub [0, 1, 2, 3, 4, 5, 6] rfl) (hD.sub [0, 1, 2, 3, 4, 5, 6] (by decide) rfl) hS (lv_sub hl [2, 3, 4, 5, 6] rfl)
  · refine lv_aload_n hx hb dL_law_145 rfl (lv_at hl 5 rfl) ?_
    refine lv_iconst (v := 0) hx hb dL_law_146 (by decide +kernel) ?_
    refine ow_lald (k := 0) (v := r.toInt64) hx hb hK hP 3 2 rfl rfl nI_0.symm (by decide) (by decide) (hoo c_142) dL_law_147 ?_
    refine lv_iload hx hb dL_law_148 (lv_at hl 0 rfl) ?_
    refine lv_i2l (v := r.toInt64) hx hb dL_law_150 rfl ?_
    refine W.lcmp hx hb dL_law_151 ?_
    refine lv_if_eq (tgt := 157) hx hb dL_law_152 (by decide) (fun c_152 => ?_) (fun c_152 => (c_152 ((lg_cmp_eq _ _).mpr rfl)).elim)
    refine lv_goto (tgt := 763) hx hb dL_law_157 (by decide) ?_
    exact hk N' L' f1 g1 v3 v4 tt oo1 H locs ls ok' hf1 hg1 hf9 (hP.sub [0, 1, 2, 3, 4, 5, 6] rfl) (hD.sub [0, 1, 2, 3, 4, 5, 6] (by decide) rfl) hS (lv_sub hl [2, 3, 4, 5, 6] rfl)
set_option maxHeartbeats 4000000 in
set_option maxRecDepth 100000 in
/-- a call of several -/
theorem law_several {pg : Program} {l : Launch} {ev : Env} {s : State} {m : MethodId} {below : List Frame} {meth : Method} {cd : Code} {b LN : Nat} {xs : Nat → Int32} {dC : Nat → ClassId} {dI : Nat → Nat → Nat} {A : Nat → Prop} {hX aX bX o hM aM bM : Nat} {cA cB cO cC cD : ClassId} {q : Nat} (C0 : lw_At pg s m meth cd b LN xs) (hLN : LN ≤ 2048) (hq : 4 * q + 4 ≤ LN) (hfl : l.flags = flags0) (hK : va_K (dC, dI) vwCl [(cA, .int), (cB, .int), (cO, .long), (cC, .int), (cD, .int)] s) (hA : ∀ q : Nat, s.heap.size ≤ q → A q) (hbA : ¬ A b) (hZs : lw_Zs A s) (hk : lw_inv pg l ev s m below meth cd b dC dI A hX aX bX o hM aM bM cA cB cO cC cD q 763 (8 + q) (4014 + 6 * q)) : lw_inv pg l ev s m below meth cd b dC dI A hX aX bX o hM aM bM cA cB cO cC cD q 160 (7 + q) (4008 + 6 * q) := by
  obtain ⟨hx, hb, hr, hml, hown, hts, hSc, hbl, hlocks, hgv⟩ := C0
  have hown : s.vm.findClass RL = some m.cls := hown
  have htsL : ∀ w ∈ wsL_law, w.before #[Value.ref b] s = true := fun w h => hts w (wsL_law_in w h)
  intro N L f g f2 as th oo H locs ls ok hf hg hf2 hP hD hS hl
  refine lv_aload_n hx hb dL_law_160 rfl (lv_at hl 1 rfl) ?_
  refine lv_aload_n hx hb dL_law_161 rfl (lv_at hl 0 rfl) ?_
  refine lv_iload hx hb dL_law_162 (lv_at hl 4 rfl) ?_
  refine lv_iconst (v := 1) hx hb dL_law_164 (by decide +kernel) ?_
  refine lv_iadd hx hb dL_law_165 ?_
  refine ow_top (z := nI (4 * q + 1)) (nI_1 (4 * q)) ?_
  refine ow_sld (k := 4 * q + 1) hx hb hSc hbl hbA hS (by omega) (by omega) dL_law_166 ?_
  refine lv_aload_n hx hb dL_law_167 rfl (lv_at hl 0 rfl) ?_
  refine lv_iload hx hb dL_law_168 (lv_at hl 4 rfl) ?_
  refine lv_iconst (v := nI 2) hx hb dL_law_170 (by decide +kernel) ?_
  refine lv_iadd hx hb dL_law_171 ?_
  refine ow_top (z := nI (4 * q + 2)) (nI_add (4 * q) 2) ?_
  refine ow_sld (k := 4 * q + 2) hx hb hSc hbl hbA hS (by omega) (by omega) dL_law_172 ?_
  refine lv_aload_n hx hb dL_law_173 rfl (lv_at hl 3 rfl) ?_
  obtain ⟨tt, r, N', L', hsp, ok'⟩ := ex_several ok ((xs (4 * q + 1))) ((xs (4 * q + 2)))
  refine ow_calli (wr := [(hM, .inr (1, [.int th, .ref aM, .int (nI N), .ref bM])), (aM, .inl (cC, 1000, .inl f2)), (bM, .inl (cD, 1000, .inl as))]) (vx_runSW (As := [.ref hX, .int (xs (4 * q + 1)), .int (xs (4 * q + 2)), .ref o]) (rest := []) ⟨hx, hb, hml, hown, htsL⟩ (c_L_several l dC dI hfl hX aX bX o cA cB cO N L f g oo tt r N' L' _ ok hf hg ((xs (4 * q + 1))) ((xs (4 * q + 2))) hsp) (vx_cwSW 4 htsL gL_law_L_several rfl rfl rfl (by decide +kernel) ⟨Nat.le_of_ble_eq_true rfl, Nat.le_of_ble_eq_true rfl⟩) (ow_PreSx (hK.sub (tys' := [(cA, .int), (cB, .int), (cO, .long)]) [0, 1, 2] rfl) (hP.sub (ws' := (wO hX aX bX o cA cB cO ((nI N, f, g), oo))) [0, 1, 2, 3] rfl) (hD.sub (ws' := (wO hX aX bX o cA cB cO ((nI N, f, g), oo))) [0, 1, 2, 3] (by decide) rfl) hZs hS) rfl rfl hl.1 rfl (lv_room (Nat.le_of_ble_eq_true rfl)) dL_law_174 ⟨by show 7 + q + 1 ≤ 1032; omega, by show 4008 + 6 * q + 6 ≤ 12206; omega⟩) hP hD hS hA [0, 1, 2, 3] [4, 5, 6] rfl rfl (by decide) (by decide) (fun r0 u H locs hw hP hD hS => ?_)
  refine W.widen (k := 8 + q) (n := 4014 + 6 * q) (by omega) (by omega) ?_
  obtain ⟨⟨a1, f1, g1⟩, oo1⟩ := u
  obtain ⟨er, hoo, e1, hf1, hg1⟩ := hw
  obtain rfl : nI N' = a1 := e1.symm
  refine ow_top (z := tt) er ?_
  have hP : va_P (dC, dI) vwCl [(hM, .inr (1, [.int th, .ref aM, .int (nI N), .ref bM])), (aM, .inl (cC, 1000, .inl f2)), (bM, .inl (cD, 1000, .inl as)), (hX, .inr (0, [.ref aX, .ref bX, .int (nI N')])), (aX, .inl (cA, 1000, .inl f1)), (bX, .inl (cB, 1000, .inl g1)), (o, .inl (cO, 1, .inr (.inl oo1)))] H := hP
  have hD : va_D A [(hM, .inr (1, [.int th, .ref aM, .int (nI N), .ref bM])), (aM, .inl (cC, 1000, .inl f2)), (bM, .inl (cD, 1000, .inl as)), (hX, .inr (0, [.ref aX, .ref bX, .int (nI N')])), (aX, .inl (cA, 1000, .inl f1)), (bX, .inl (cB, 1000, .inl g1)), (o, .inl (cO, 1, .inr (.inl oo1)))] := hD
  refine lv_istore (lv' := [(5, .int tt), (0, .ref b), (1, .ref hX), (2, .ref hM), (3, .ref o), (4, .int (nI (4 * q)))]) hx hb dL_law_177 hl (by decide) rfl (fun ls hl => ?_)
  refine lv_aload_n hx hb dL_law_179 rfl (lv_at hl 3 rfl) ?_
  refine lv_aload_n hx hb dL_law_180 rfl (lv_at hl 1 rfl) ?_
  refine lv_iload hx hb dL_law_181 (lv_at hl 5 rfl) ?_
  refine lv_iconst (v := 1) hx hb dL_law_183 (by decide +kernel) ?_
  refine lv_iadd hx hb dL_law_184 ?_
  refine ow_top (z := nI (4 * q + 1)) (nI_1 (4 * q)) ?_
  refine ow_sld (k := 4 * q + 1) hx hb hSc hbl hbA hS (by omega) (by omega) dL_law_185 ?_
  refine lv_aload_n hx hb dL_law_186 rfl (lv_at hl 1 rfl) ?_
  refine lv_iload hx hb dL_law_187 (lv_at hl 5 rfl) ?_
  refine lv_iconst (v := nI 2) hx hb dL_law_189 (by decide +kernel) ?_
  refine lv_iadd hx hb dL_law_190 ?_
  refine ow_top (z := nI (4 * q + 2)) (nI_add (4 * q) 2) ?_
  refine ow_sld (k := 4 * q + 2) hx hb hSc hbl hbA hS (by omega) (by omega) dL_law_191 ?_
  refine ow_calli (wr := [(hX, .inr (0, [.ref aX, .ref bX, .int (nI N')])), (aX, .inl (cA, 1000, .inl f1)), (bX, .inl (cB, 1000, .inl g1)), (o, .inl (cO, 1, .inr (.inl oo1)))]) (va_runV (As := [.int (xs (4 * q + 1)), .int (xs (4 * q + 2))]) (rest := []) ⟨hx, hb, hml, hown, hts⟩ (c_M_several l dC dI hM aM bM cC cD th N L f2 as tt r N' L' _ ok hf2 ((xs (4 * q + 1))) ((xs (4 * q + 2))) hsp) (cwV 2 hts gT_law_X1_several rfl rfl rfl (by decide +kernel) ⟨Nat.le_of_ble_eq_true rfl, Nat.le_of_ble_eq_true rfl⟩) (ow_PreV (hK.sub (tys' := [(cC, .int), (cD, .int)]) [3, 4] rfl) (hP.sub (ws' := (wM hM aM bM cC cD (th, nI N, f2, as))) [0, 1, 2] rfl) (hD.sub (ws' := (wM hM aM bM cC cD (th, nI N, f2, as))) [0, 1, 2] (by decide) rfl) (ci := 1) (q0 := 0) rfl rfl) rfl rfl hl.1 rfl (lv_room (Nat.le_of_ble_eq_true rfl)) dL_law_192 ⟨by show 8 + q + 0 ≤ 1032; omega, by show 4014 + 6 * q + 0 ≤ 12206; omega⟩) hP hD hS hA [0, 1, 2] [3, 4, 5, 6] rfl rfl (by decide) (by decide) (fun r0 u H locs hw hP hD hS => ?_)
  obtain ⟨v1, v2, v3, v4⟩ := u
  obtain ⟨er, e1, e2, hf9⟩ := hw
  obtain rfl : tt = v1 := e1.symm
  obtain rfl : nI N' = v2 := e2.symm
  refine ow_top (z := r) er ?_
  have hP : va_P (dC, dI) vwCl [(hX, .inr (0, [.ref aX, .ref bX, .int (nI N')])), (aX, .inl (cA, 1000, .inl f1)), (bX, .inl (cB, 1000, .inl g1)), (o, .inl (cO, 1, .inr (.inl oo1))), (hM, .inr (1, [.int tt, .ref aM, .int (nI N'), .ref bM])), (aM, .inl (cC, 1000, .inl v3)), (bM, .inl (cD, 1000, .inl v4))] H := hP
  have hD : va_D A [(hX, .inr (0, [.ref aX, .ref bX, .int (nI N')])), (aX, .inl (cA, 1000, .inl f1)), (bX, .inl (cB, 1000, .inl g1)), (o, .inl (cO, 1, .inr (.inl oo1))), (hM, .inr (1, [.int tt, .ref aM, .int (nI N'), .ref bM])), (aM, .inl (cC, 1000, .inl v3)), (bM, .inl (cD, 1000, .inl v4))] := hD
  refine lv_istore (lv' := [(6, .int r), (5, .int tt), (0, .ref b), (1, .ref hX), (2, .ref hM), (3, .ref o), (4, .int (nI (4 * q)))]) hx hb dL_law_195 hl (by decide) rfl (fun ls hl => ?_)
  refine lv_aload_n hx hb dL_law_197 rfl (lv_at hl 4 rfl) ?_
  refine ow_callR (r := tt) (W.runV (As := []) (rest := []) ⟨hx, hb, hml, hown, htsL⟩ (c_M_thrown l dC dI hM aM bM cC cD tt (nI N') v3 v4) (cwV 0 htsL gL_law_X1_thrown rfl rfl rfl (by decide +kernel) ⟨Nat.le_of_ble_eq_true rfl, Nat.le_of_ble_eq_true rfl⟩) (ow_PreR (hK.sub (tys' := [(cC, .int), (cD, .int)]) [3, 4] rfl) (hP.sub (ws' := (wM hM aM bM cC cD (tt, nI N', v3, v4))) [4, 5, 6] rfl) (ci := 1) (q0 := 0) rfl rfl) rfl rfl hl.1 rfl (lv_room (Nat.le_of_ble_eq_true rfl)) dL_law_198 ⟨by show 8 + q + 0 ≤ 1032; omega, by show 4014 + 6 * q + 0 ≤ 12206; omega⟩) ?_
  refine lv_iload hx hb dL_law_201 (lv_at hl 1 rfl) ?_
  refine lv_icmp_eq (tgt := 208) hx hb dL_law_203 (by decide) (fun c_203 => ?_) (fun c_203 => (c_203 rfl).elim)
  refine lv_iload hx hb dL_law_208 (lv_at hl 1 rfl) ?_
  refine lv_if_ne (tgt := 225) hx hb dL_law_210 (by decide) (fun c_210 => ?_) (fun c_210 => ?_)
  · refine lv_goto (tgt := 763) hx hb dL_law_225 (by decide) ?_
    exact hk N' L' f1 g1 v3 v4 tt oo1 H locs ls ok' hf1 hg1 hf9 (hP.sub [0, 1, 2, 3, 4, 5, 6] rfl) (hD.sub [0, 1, 2, 3, 4, 5, 6] (by decide) rfl) hS (lv_sub hl [2, 3, 4, 5, 6] rfl)
  · refine lv_aload_n hx hb dL_law_213 rfl (lv_at hl 5 rfl) ?_
    refine lv_iconst (v := 0) hx hb dL_law_214 (by decide +kernel) ?_
    refine ow_lald (k := 0) (v := r.toInt64) hx hb hK hP 3 2 rfl rfl nI_0.symm (by decide) (by decide) (hoo c_210) dL_law_215 ?_
    refine lv_iload hx hb dL_law_216 (lv_at hl 0 rfl) ?_
    refine lv_i2l (v := r.toInt64) hx hb dL_law_218 rfl ?_
    refine W.lcmp hx hb dL_law_219 ?_
    refine lv_if_eq (tgt := 225) hx hb dL_law_220 (by decide) (fun c_220 => ?_) (fun c_220 => (c_220 ((lg_cmp_eq _ _).mpr rfl)).elim)
    refine lv_goto (tgt := 763) hx hb dL_law_225 (by decide) ?_
    exact hk N' L' f1 g1 v3 v4 tt oo1 H locs ls ok' hf1 hg1 hf9 (hP.sub [0, 1, 2, 3, 4, 5, 6] rfl) (hD.sub [0, 1, 2, 3, 4, 5, 6] (by decide) rfl) hS (lv_sub hl [2, 3, 4, 5, 6] rfl)
set_option maxHeartbeats 4000000 in
set_option maxRecDepth 100000 in
/-- a call of remove -/
theorem law_remove {pg : Program} {l : Launch} {ev : Env} {s : State} {m : MethodId} {below : List Frame} {meth : Method} {cd : Code} {b LN : Nat} {xs : Nat → Int32} {dC : Nat → ClassId} {dI : Nat → Nat → Nat} {A : Nat → Prop} {hX aX bX o hM aM bM : Nat} {cA cB cO cC cD : ClassId} {q : Nat} (C0 : lw_At pg s m meth cd b LN xs) (hLN : LN ≤ 2048) (hq : 4 * q + 4 ≤ LN) (hfl : l.flags = flags0) (hK : va_K (dC, dI) vwCl [(cA, .int), (cB, .int), (cO, .long), (cC, .int), (cD, .int)] s) (hA : ∀ q : Nat, s.heap.size ≤ q → A q) (hbA : ¬ A b) (hZs : lw_Zs A s) (hk : lw_inv pg l ev s m below meth cd b dC dI A hX aX bX o hM aM bM cA cB cO cC cD q 763 (8 + q) (4014 + 6 * q)) : lw_inv pg l ev s m below meth cd b dC dI A hX aX bX o hM aM bM cA cB cO cC cD q 228 (7 + q) (4008 + 6 * q) := by
  obtain ⟨hx, hb, hr, hml, hown, hts, hSc, hbl, hlocks, hgv⟩ := C0
  have hown : s.vm.findClass RL = some m.cls := hown
  have htsL : ∀ w ∈ wsL_law, w.before #[Value.ref b] s = true := fun w h => hts w (wsL_law_in w h)
  intro N L f g f2 as th oo H locs ls ok hf hg hf2 hP hD hS hl
  refine W.widen (k := 8 + q) (n := 4014 + 6 * q) (by omega) (by omega) ?_
  obtain ⟨r, N', L', hsp, ok'⟩ := ex_remove ok (xs (4 * q + 1))
  refine lv_aload_n hx hb dL_law_228 rfl (lv_at hl 1 rfl) ?_
  refine lv_aload_n hx hb dL_law_229 rfl (lv_at hl 0 rfl) ?_
  refine lv_iload hx hb dL_law_230 (lv_at hl 4 rfl) ?_
  refine lv_iconst (v := 1) hx hb dL_law_232 (by decide +kernel) ?_
  refine lv_iadd hx hb dL_law_233 ?_
  refine ow_top (z := nI (4 * q + 1)) (nI_1 (4 * q)) ?_
  refine ow_sld (k := 4 * q + 1) hx hb hSc hbl hbA hS (by omega) (by omega) dL_law_234 ?_
  refine ow_calli (wr := [(o, .inl (cO, 1, .inr (.inl oo))), (hM, .inr (1, [.int th, .ref aM, .int (nI N), .ref bM])), (aM, .inl (cC, 1000, .inl f2)), (bM, .inl (cD, 1000, .inl as))]) (va_runV (As := [.int (xs (4 * q + 1))]) (rest := []) ⟨hx, hb, hml, hown, htsL⟩ (c_X_remove l dC dI hX aX bX cA cB N L f g (xs (4 * q + 1)) r N' L' _ ok hf hg hsp) (cwV 1 htsL gL_law_X0_remove rfl rfl rfl (by decide +kernel) ⟨Nat.le_of_ble_eq_true rfl, Nat.le_of_ble_eq_true rfl⟩) (ow_PreV (hK.sub (tys' := [(cA, .int), (cB, .int)]) [0, 1] rfl) (hP.sub (ws' := (wX hX aX bX cA cB (nI N, f, g))) [0, 1, 2] rfl) (hD.sub (ws' := (wX hX aX bX cA cB (nI N, f, g))) [0, 1, 2] (by decide) rfl) (ci := 0) (q0 := 0) rfl rfl) rfl rfl hl.1 rfl (lv_room (Nat.le_of_ble_eq_true rfl)) dL_law_235 ⟨by show 8 + q + 0 ≤ 1032; omega, by show 4014 + 6 * q + 0 ≤ 12206; omega⟩) hP hD hS hA [0, 1, 2] [3, 4, 5, 6] rfl rfl (by decide) (by decide) (fun r0 u H locs hw hP hD hS => ?_)
  obtain ⟨a1, f1, g1⟩ := u
  obtain ⟨er, e1, hf1, hg1⟩ := hw
  obtain rfl : nI N' = a1 := e1.symm
  refine ow_top (z := r) er ?_
  have hP : va_P (dC, dI) vwCl [(o, .inl (cO, 1, .inr (.inl oo))), (hM, .inr (1, [.int th, .ref aM, .int (nI N), .ref bM])), (aM, .inl (cC, 1000, .inl f2)), (bM, .inl (cD, 1000, .inl as)), (hX, .inr (0, [.ref aX, .ref bX, .int (nI N')])), (aX, .inl (cA, 1000, .inl f1)), (bX, .inl (cB, 1000, .inl g1))] H := hP
  have hD : va_D A [(o, .inl (cO, 1, .inr (.inl oo))), (hM, .inr (1, [.int th, .ref aM, .int (nI N), .ref bM])), (aM, .inl (cC, 1000, .inl f2)), (bM, .inl (cD, 1000, .inl as)), (hX, .inr (0, [.ref aX, .ref bX, .int (nI N')])), (aX, .inl (cA, 1000, .inl f1)), (bX, .inl (cB, 1000, .inl g1))] := hD
  refine lv_aload_n hx hb dL_law_238 rfl (lv_at hl 2 rfl) ?_
  refine lv_aload_n hx hb dL_law_239 rfl (lv_at hl 0 rfl) ?_
  refine lv_iload hx hb dL_law_240 (lv_at hl 4 rfl) ?_
  refine lv_iconst (v := 1) hx hb dL_law_242 (by decide +kernel) ?_
  refine lv_iadd hx hb dL_law_243 ?_
  refine ow_top (z := nI (4 * q + 1)) (nI_1 (4 * q)) ?_
  refine ow_sld (k := 4 * q + 1) hx hb hSc hbl hbA hS (by omega) (by omega) dL_law_244 ?_
  refine ow_calli (wr := [(o, .inl (cO, 1, .inr (.inl oo))), (hX, .inr (0, [.ref aX, .ref bX, .int (nI N')])), (aX, .inl (cA, 1000, .inl f1)), (bX, .inl (cB, 1000, .inl g1))]) (va_runV (As := [.int (xs (4 * q + 1))]) (rest := [.int r]) ⟨hx, hb, hml, hown, hts⟩ (c_M_remove l dC dI hM aM bM cC cD th N L f2 as r N' L' _ ok hf2 (xs (4 * q + 1)) hsp) (cwV 1 hts gT_law_X1_remove rfl rfl rfl (by decide +kernel) ⟨Nat.le_of_ble_eq_true rfl, Nat.le_of_ble_eq_true rfl⟩) (ow_PreV (hK.sub (tys' := [(cC, .int), (cD, .int)]) [3, 4] rfl) (hP.sub (ws' := (wM hM aM bM cC cD (th, nI N, f2, as))) [1, 2, 3] rfl) (hD.sub (ws' := (wM hM aM bM cC cD (th, nI N, f2, as))) [1, 2, 3] (by decide) rfl) (ci := 1) (q0 := 0) rfl rfl) rfl rfl hl.1 rfl (lv_room (Nat.le_of_ble_eq_true rfl)) dL_law_245 ⟨by show 8 + q + 0 ≤ 1032; omega, by show 4014 + 6 * q + 0 ≤ 12206; omega⟩) hP hD hS hA [1, 2, 3] [0, 4, 5, 6] rfl rfl (by decide) (by decide) (fun r0 u H locs hw hP hD hS => ?_)
  obtain ⟨v1, v2, v3, v4⟩ := u
  obtain ⟨er, e1, e2, hf9⟩ := hw
  obtain rfl : 0 = v1 := e1.symm
  obtain rfl : nI N' = v2 := e2.symm
  refine ow_top (z := r) er ?_
  have hP : va_P (dC, dI) vwCl [(o, .inl (cO, 1, .inr (.inl oo))), (hX, .inr (0, [.ref aX, .ref bX, .int (nI N')])), (aX, .inl (cA, 1000, .inl f1)), (bX, .inl (cB, 1000, .inl g1)), (hM, .inr (1, [.int 0, .ref aM, .int (nI N'), .ref bM])), (aM, .inl (cC, 1000, .inl v3)), (bM, .inl (cD, 1000, .inl v4))] H := hP
  have hD : va_D A [(o, .inl (cO, 1, .inr (.inl oo))), (hX, .inr (0, [.ref aX, .ref bX, .int (nI N')])), (aX, .inl (cA, 1000, .inl f1)), (bX, .inl (cB, 1000, .inl g1)), (hM, .inr (1, [.int 0, .ref aM, .int (nI N'), .ref bM])), (aM, .inl (cC, 1000, .inl v3)), (bM, .inl (cD, 1000, .inl v4))] := hD
  refine lv_icmp_eq (tgt := 763) hx hb dL_law_248 (by decide) (fun c_248 => ?_) (fun c_248 => (c_248 rfl).elim)
  exact hk N' L' f1 g1 v3 v4 0 oo H locs ls ok' hf1 hg1 hf9 (hP.sub [1, 2, 3, 0, 4, 5, 6] rfl) (hD.sub [1, 2, 3, 0, 4, 5, 6] (by decide) rfl) hS (lv_sub hl [0, 1, 2, 3, 4] rfl)
set_option maxHeartbeats 4000000 in
set_option maxRecDepth 100000 in
/-- a call of clear -/
theorem law_clear {pg : Program} {l : Launch} {ev : Env} {s : State} {m : MethodId} {below : List Frame} {meth : Method} {cd : Code} {b LN : Nat} {xs : Nat → Int32} {dC : Nat → ClassId} {dI : Nat → Nat → Nat} {A : Nat → Prop} {hX aX bX o hM aM bM : Nat} {cA cB cO cC cD : ClassId} {q : Nat} (C0 : lw_At pg s m meth cd b LN xs) (hLN : LN ≤ 2048) (hq : 4 * q + 4 ≤ LN) (hfl : l.flags = flags0) (hK : va_K (dC, dI) vwCl [(cA, .int), (cB, .int), (cO, .long), (cC, .int), (cD, .int)] s) (hA : ∀ q : Nat, s.heap.size ≤ q → A q) (hbA : ¬ A b) (hZs : lw_Zs A s) (hk : lw_inv pg l ev s m below meth cd b dC dI A hX aX bX o hM aM bM cA cB cO cC cD q 763 (8 + q) (4014 + 6 * q)) : lw_inv pg l ev s m below meth cd b dC dI A hX aX bX o hM aM bM cA cB cO cC cD q 253 (7 + q) (4008 + 6 * q) := by
  obtain ⟨hx, hb, hr, hml, hown, hts, hSc, hbl, hlocks, hgv⟩ := C0
  have hown : s.vm.findClass RL = some m.cls := hown
  have htsL : ∀ w ∈ wsL_law, w.before #[Value.ref b] s = true := fun w h => hts w (wsL_law_in w h)
  intro N L f g f2 as th oo H locs ls ok hf hg hf2 hP hD hS hl
  refine lv_aload_n hx hb dL_law_253 rfl (lv_at hl 1 rfl) ?_
  refine lv_aload_n hx hb dL_law_254 rfl (lv_at hl 0 rfl) ?_
  refine lv_iload hx hb dL_law_255 (lv_at hl 4 rfl) ?_
  refine lv_iconst (v := 1) hx hb dL_law_257 (by decide +kernel) ?_
  refine lv_iadd hx hb dL_law_258 ?_
  refine ow_top (z := nI (4 * q + 1)) (nI_1 (4 * q)) ?_
  refine ow_sld (k := 4 * q + 1) hx hb hSc hbl hbA hS (by omega) (by omega) dL_law_259 ?_
  refine lv_aload_n hx hb dL_law_260 rfl (lv_at hl 0 rfl) ?_
  refine lv_iload hx hb dL_law_261 (lv_at hl 4 rfl) ?_
  refine lv_iconst (v := nI 2) hx hb dL_law_263 (by decide +kernel) ?_
  refine lv_iadd hx hb dL_law_264 ?_
  refine ow_top (z := nI (4 * q + 2)) (nI_add (4 * q) 2) ?_
  refine ow_sld (k := 4 * q + 2) hx hb hSc hbl hbA hS (by omega) (by omega) dL_law_265 ?_
  refine lv_aload_n hx hb dL_law_266 rfl (lv_at hl 3 rfl) ?_
  obtain ⟨tt, r, N', L', hsp, ok'⟩ := ex_clear ok ((xs (4 * q + 1))) ((xs (4 * q + 2)))
  refine ow_calli (wr := [(hM, .inr (1, [.int th, .ref aM, .int (nI N), .ref bM])), (aM, .inl (cC, 1000, .inl f2)), (bM, .inl (cD, 1000, .inl as))]) (vx_runSW (As := [.ref hX, .int (xs (4 * q + 1)), .int (xs (4 * q + 2)), .ref o]) (rest := []) ⟨hx, hb, hml, hown, htsL⟩ (c_L_clear l dC dI hfl hX aX bX o cA cB cO N L f g oo tt r N' L' _ ok hf hg ((xs (4 * q + 1))) ((xs (4 * q + 2))) hsp) (vx_cwSW 4 htsL gL_law_L_clear rfl rfl rfl (by decide +kernel) ⟨Nat.le_of_ble_eq_true rfl, Nat.le_of_ble_eq_true rfl⟩) (ow_PreSx (hK.sub (tys' := [(cA, .int), (cB, .int), (cO, .long)]) [0, 1, 2] rfl) (hP.sub (ws' := (wO hX aX bX o cA cB cO ((nI N, f, g), oo))) [0, 1, 2, 3] rfl) (hD.sub (ws' := (wO hX aX bX o cA cB cO ((nI N, f, g), oo))) [0, 1, 2, 3] (by decide) rfl) hZs hS) rfl rfl hl.1 rfl (lv_room (Nat.le_of_ble_eq_true rfl)) dL_law_267 ⟨by show 7 + q + 1 ≤ 1032; omega, by show 4008 + 6 * q + 6 ≤ 12206; omega⟩) hP hD hS hA [0, 1, 2, 3] [4, 5, 6] rfl rfl (by decide) (by decide) (fun r0 u H locs hw hP hD hS => ?_)
  refine W.widen (k := 8 + q) (n := 4014 + 6 * q) (by omega) (by omega) ?_
  obtain ⟨⟨a1, f1, g1⟩, oo1⟩ := u
  obtain ⟨er, hoo, e1, hf1, hg1⟩ := hw
  obtain rfl : nI N' = a1 := e1.symm
  refine ow_top (z := tt) er ?_
  have hP : va_P (dC, dI) vwCl [(hM, .inr (1, [.int th, .ref aM, .int (nI N), .ref bM])), (aM, .inl (cC, 1000, .inl f2)), (bM, .inl (cD, 1000, .inl as)), (hX, .inr (0, [.ref aX, .ref bX, .int (nI N')])), (aX, .inl (cA, 1000, .inl f1)), (bX, .inl (cB, 1000, .inl g1)), (o, .inl (cO, 1, .inr (.inl oo1)))] H := hP
  have hD : va_D A [(hM, .inr (1, [.int th, .ref aM, .int (nI N), .ref bM])), (aM, .inl (cC, 1000, .inl f2)), (bM, .inl (cD, 1000, .inl as)), (hX, .inr (0, [.ref aX, .ref bX, .int (nI N')])), (aX, .inl (cA, 1000, .inl f1)), (bX, .inl (cB, 1000, .inl g1)), (o, .inl (cO, 1, .inr (.inl oo1)))] := hD
  refine lv_istore (lv' := [(5, .int tt), (0, .ref b), (1, .ref hX), (2, .ref hM), (3, .ref o), (4, .int (nI (4 * q)))]) hx hb dL_law_270 hl (by decide) rfl (fun ls hl => ?_)
  refine lv_aload_n hx hb dL_law_272 rfl (lv_at hl 3 rfl) ?_
  refine lv_aload_n hx hb dL_law_273 rfl (lv_at hl 1 rfl) ?_
  refine lv_iload hx hb dL_law_274 (lv_at hl 5 rfl) ?_
  refine lv_iconst (v := 1) hx hb dL_law_276 (by decide +kernel) ?_
  refine lv_iadd hx hb dL_law_277 ?_
  refine ow_top (z := nI (4 * q + 1)) (nI_1 (4 * q)) ?_
  refine ow_sld (k := 4 * q + 1) hx hb hSc hbl hbA hS (by omega) (by omega) dL_law_278 ?_
  refine lv_aload_n hx hb dL_law_279 rfl (lv_at hl 1 rfl) ?_
  refine lv_iload hx hb dL_law_280 (lv_at hl 5 rfl) ?_
  refine lv_iconst (v := nI 2) hx hb dL_law_282 (by decide +kernel) ?_
  refine lv_iadd hx hb dL_law_283 ?_
  refine ow_top (z := nI (4 * q + 2)) (nI_add (4 * q) 2) ?_
  refine ow_sld (k := 4 * q + 2) hx hb hSc hbl hbA hS (by omega) (by omega) dL_law_284 ?_
  refine ow_calli (wr := [(hX, .inr (0, [.ref aX, .ref bX, .int (nI N')])), (aX, .inl (cA, 1000, .inl f1)), (bX, .inl (cB, 1000, .inl g1)), (o, .inl (cO, 1, .inr (.inl oo1)))]) (va_runV (As := [.int (xs (4 * q + 1)), .int (xs (4 * q + 2))]) (rest := []) ⟨hx, hb, hml, hown, hts⟩ (c_M_clear l dC dI hM aM bM cC cD th N L f2 as tt r N' L' _ ok hf2 ((xs (4 * q + 1))) ((xs (4 * q + 2))) hsp) (cwV 2 hts gT_law_X1_clear rfl rfl rfl (by decide +kernel) ⟨Nat.le_of_ble_eq_true rfl, Nat.le_of_ble_eq_true rfl⟩) (ow_PreV (hK.sub (tys' := [(cC, .int), (cD, .int)]) [3, 4] rfl) (hP.sub (ws' := (wM hM aM bM cC cD (th, nI N, f2, as))) [0, 1, 2] rfl) (hD.sub (ws' := (wM hM aM bM cC cD (th, nI N, f2, as))) [0, 1, 2] (by decide) rfl) (ci := 1) (q0 := 0) rfl rfl) rfl rfl hl.1 rfl (lv_room (Nat.le_of_ble_eq_true rfl)) dL_law_285 ⟨by show 8 + q + 0 ≤ 1032; omega, by show 4014 + 6 * q + 0 ≤ 12206; omega⟩) hP hD hS hA [0, 1, 2] [3, 4, 5, 6] rfl rfl (by decide) (by decide) (fun r0 u H locs hw hP hD hS => ?_)
  obtain ⟨v1, v2, v3, v4⟩ := u
  obtain ⟨er, e1, e2, hf9⟩ := hw
  obtain rfl : tt = v1 := e1.symm
  obtain rfl : nI N' = v2 := e2.symm
  refine ow_top (z := r) er ?_
  have hP : va_P (dC, dI) vwCl [(hX, .inr (0, [.ref aX, .ref bX, .int (nI N')])), (aX, .inl (cA, 1000, .inl f1)), (bX, .inl (cB, 1000, .inl g1)), (o, .inl (cO, 1, .inr (.inl oo1))), (hM, .inr (1, [.int tt, .ref aM, .int (nI N'), .ref bM])), (aM, .inl (cC, 1000, .inl v3)), (bM, .inl (cD, 1000, .inl v4))] H := hP
  have hD : va_D A [(hX, .inr (0, [.ref aX, .ref bX, .int (nI N')])), (aX, .inl (cA, 1000, .inl f1)), (bX, .inl (cB, 1000, .inl g1)), (o, .inl (cO, 1, .inr (.inl oo1))), (hM, .inr (1, [.int tt, .ref aM, .int (nI N'), .ref bM])), (aM, .inl (cC, 1000, .inl v3)), (bM, .inl (cD, 1000, .inl v4))] := hD
  refine lv_istore (lv' := [(6, .int r), (5, .int tt), (0, .ref b), (1, .ref hX), (2, .ref hM), (3, .ref o), (4, .int (nI (4 * q)))]) hx hb dL_law_288 hl (by decide) rfl (fun ls hl => ?_)
  refine lv_aload_n hx hb dL_law_290 rfl (lv_at hl 4 rfl) ?_
  refine ow_callR (r := tt) (W.runV (As := []) (rest := []) ⟨hx, hb, hml, hown, htsL⟩ (c_M_thrown l dC dI hM aM bM cC cD tt (nI N') v3 v4) (cwV 0 htsL gL_law_X1_thrown rfl rfl rfl (by decide +kernel) ⟨Nat.le_of_ble_eq_true rfl, Nat.le_of_ble_eq_true rfl⟩) (ow_PreR (hK.sub (tys' := [(cC, .int), (cD, .int)]) [3, 4] rfl) (hP.sub (ws' := (wM hM aM bM cC cD (tt, nI N', v3, v4))) [4, 5, 6] rfl) (ci := 1) (q0 := 0) rfl rfl) rfl rfl hl.1 rfl (lv_room (Nat.le_of_ble_eq_true rfl)) dL_law_291 ⟨by show 8 + q + 0 ≤ 1032; omega, by show 4014 + 6 * q + 0 ≤ 12206; omega⟩) ?_
  refine lv_iload hx hb dL_law_294 (lv_at hl 1 rfl) ?_
  refine lv_icmp_eq (tgt := 301) hx hb dL_law_296 (by decide) (fun c_296 => ?_) (fun c_296 => (c_296 rfl).elim)
  refine lv_iload hx hb dL_law_301 (lv_at hl 1 rfl) ?_
  refine lv_if_ne (tgt := 318) hx hb dL_law_303 (by decide) (fun c_303 => ?_) (fun c_303 => ?_)
  · refine lv_goto (tgt := 763) hx hb dL_law_318 (by decide) ?_
    exact hk N' L' f1 g1 v3 v4 tt oo1 H locs ls ok' hf1 hg1 hf9 (hP.sub [0, 1, 2, 3, 4, 5, 6] rfl) (hD.sub [0, 1, 2, 3, 4, 5, 6] (by decide) rfl) hS (lv_sub hl [2, 3, 4, 5, 6] rfl)
  · refine lv_aload_n hx hb dL_law_306 rfl (lv_at hl 5 rfl) ?_
    refine lv_iconst (v := 0) hx hb dL_law_307 (by decide +kernel) ?_
    refine ow_lald (k := 0) (v := r.toInt64) hx hb hK hP 3 2 rfl rfl nI_0.symm (by decide) (by decide) (hoo c_303) dL_law_308 ?_
    refine lv_iload hx hb dL_law_309 (lv_at hl 0 rfl) ?_
    refine lv_i2l (v := r.toInt64) hx hb dL_law_311 rfl ?_
    refine W.lcmp hx hb dL_law_312 ?_
    refine lv_if_eq (tgt := 318) hx hb dL_law_313 (by decide) (fun c_313 => ?_) (fun c_313 => (c_313 ((lg_cmp_eq _ _).mpr rfl)).elim)
    refine lv_goto (tgt := 763) hx hb dL_law_318 (by decide) ?_
    exact hk N' L' f1 g1 v3 v4 tt oo1 H locs ls ok' hf1 hg1 hf9 (hP.sub [0, 1, 2, 3, 4, 5, 6] rfl) (hD.sub [0, 1, 2, 3, 4, 5, 6] (by decide) rfl) hS (lv_sub hl [2, 3, 4, 5, 6] rfl)
set_option maxHeartbeats 4000000 in
set_option maxRecDepth 100000 in
/-- a call of carry -/
theorem law_carry {pg : Program} {l : Launch} {ev : Env} {s : State} {m : MethodId} {below : List Frame} {meth : Method} {cd : Code} {b LN : Nat} {xs : Nat → Int32} {dC : Nat → ClassId} {dI : Nat → Nat → Nat} {A : Nat → Prop} {hX aX bX o hM aM bM : Nat} {cA cB cO cC cD : ClassId} {q : Nat} (C0 : lw_At pg s m meth cd b LN xs) (hLN : LN ≤ 2048) (hq : 4 * q + 4 ≤ LN) (hfl : l.flags = flags0) (hK : va_K (dC, dI) vwCl [(cA, .int), (cB, .int), (cO, .long), (cC, .int), (cD, .int)] s) (hA : ∀ q : Nat, s.heap.size ≤ q → A q) (hbA : ¬ A b) (hZs : lw_Zs A s) (hk : lw_inv pg l ev s m below meth cd b dC dI A hX aX bX o hM aM bM cA cB cO cC cD q 763 (8 + q) (4014 + 6 * q)) : lw_inv pg l ev s m below meth cd b dC dI A hX aX bX o hM aM bM cA cB cO cC cD q 321 (7 + q) (4008 + 6 * q) := by
  obtain ⟨hx, hb, hr, hml, hown, hts, hSc, hbl, hlocks, hgv⟩ := C0
  have hown : s.vm.findClass RL = some m.cls := hown
  have htsL : ∀ w ∈ wsL_law, w.before #[Value.ref b] s = true := fun w h => hts w (wsL_law_in w h)
  intro N L f g f2 as th oo H locs ls ok hf hg hf2 hP hD hS hl
  refine lv_aload_n hx hb dL_law_321 rfl (lv_at hl 1 rfl) ?_
  refine lv_aload_n hx hb dL_law_322 rfl (lv_at hl 0 rfl) ?_
  refine lv_iload hx hb dL_law_323 (lv_at hl 4 rfl) ?_
  refine lv_iconst (v := 1) hx hb dL_law_325 (by decide +kernel) ?_
  refine lv_iadd hx hb dL_law_326 ?_
  refine ow_top (z := nI (4 * q + 1)) (nI_1 (4 * q)) ?_
  refine ow_sld (k := 4 * q + 1) hx hb hSc hbl hbA hS (by omega) (by omega) dL_law_327 ?_
  refine lv_aload_n hx hb dL_law_328 rfl (lv_at hl 0 rfl) ?_
  refine lv_iload hx hb dL_law_329 (lv_at hl 4 rfl) ?_
  refine lv_iconst (v := nI 2) hx hb dL_law_331 (by decide +kernel) ?_
  refine lv_iadd hx hb dL_law_332 ?_
  refine ow_top (z := nI (4 * q + 2)) (nI_add (4 * q) 2) ?_
  refine ow_sld (k := 4 * q + 2) hx hb hSc hbl hbA hS (by omega) (by omega) dL_law_333 ?_
  refine lv_aload_n hx hb dL_law_334 rfl (lv_at hl 0 rfl) ?_
  refine lv_iload hx hb dL_law_335 (lv_at hl 4 rfl) ?_
  refine lv_iconst (v := nI 3) hx hb dL_law_337 (by decide +kernel) ?_
  refine lv_iadd hx hb dL_law_338 ?_
  refine ow_top (z := nI (4 * q + 3)) (nI_add (4 * q) 3) ?_
  refine ow_sld (k := 4 * q + 3) hx hb hSc hbl hbA hS (by omega) (by omega) dL_law_339 ?_
  refine lv_aload_n hx hb dL_law_340 rfl (lv_at hl 3 rfl) ?_
  obtain ⟨tt, r, N', L', hsp, ok'⟩ := ex_carry ok ((xs (4 * q + 1))) ((xs (4 * q + 2))) ((xs (4 * q + 3)))
  refine ow_calli (wr := [(hM, .inr (1, [.int th, .ref aM, .int (nI N), .ref bM])), (aM, .inl (cC, 1000, .inl f2)), (bM, .inl (cD, 1000, .inl as))]) (vx_runSW (As := [.ref hX, .int (xs (4 * q + 1)), .int (xs (4 * q + 2)), .int (xs (4 * q + 3)), .ref o]) (rest := []) ⟨hx, hb, hml, hown, htsL⟩ (c_L_carry l dC dI hfl hX aX bX o cA cB cO N L f g oo tt r N' L' _ ok hf hg ((xs (4 * q + 1))) ((xs (4 * q + 2))) ((xs (4 * q + 3))) hsp) (vx_cwSW 5 htsL gL_law_L_carry rfl rfl rfl (by decide +kernel) ⟨Nat.le_of_ble_eq_true rfl, Nat.le_of_ble_eq_true rfl⟩) (ow_PreSx (hK.sub (tys' := [(cA, .int), (cB, .int), (cO, .long)]) [0, 1, 2] rfl) (hP.sub (ws' := (wO hX aX bX o cA cB cO ((nI N, f, g), oo))) [0, 1, 2, 3] rfl) (hD.sub (ws' := (wO hX aX bX o cA cB cO ((nI N, f, g), oo))) [0, 1, 2, 3] (by decide) rfl) hZs hS) rfl rfl hl.1 rfl (lv_room (Nat.le_of_ble_eq_true rfl)) dL_law_341 ⟨by show 7 + q + 1 ≤ 1032; omega, by show 4008 + 6 * q + 6 ≤ 12206; omega⟩) hP hD hS hA [0, 1, 2, 3] [4, 5, 6] rfl rfl (by decide) (by decide) (fun r0 u H locs hw hP hD hS => ?_)
  refine W.widen (k := 8 + q) (n := 4014 + 6 * q) (by omega) (by omega) ?_
  obtain ⟨⟨a1, f1, g1⟩, oo1⟩ := u
  obtain ⟨er, hoo, e1, hf1, hg1⟩ := hw
  obtain rfl : nI N' = a1 := e1.symm
  refine ow_top (z := tt) er ?_
  have hP : va_P (dC, dI) vwCl [(hM, .inr (1, [.int th, .ref aM, .int (nI N), .ref bM])), (aM, .inl (cC, 1000, .inl f2)), (bM, .inl (cD, 1000, .inl as)), (hX, .inr (0, [.ref aX, .ref bX, .int (nI N')])), (aX, .inl (cA, 1000, .inl f1)), (bX, .inl (cB, 1000, .inl g1)), (o, .inl (cO, 1, .inr (.inl oo1)))] H := hP
  have hD : va_D A [(hM, .inr (1, [.int th, .ref aM, .int (nI N), .ref bM])), (aM, .inl (cC, 1000, .inl f2)), (bM, .inl (cD, 1000, .inl as)), (hX, .inr (0, [.ref aX, .ref bX, .int (nI N')])), (aX, .inl (cA, 1000, .inl f1)), (bX, .inl (cB, 1000, .inl g1)), (o, .inl (cO, 1, .inr (.inl oo1)))] := hD
  refine lv_istore (lv' := [(5, .int tt), (0, .ref b), (1, .ref hX), (2, .ref hM), (3, .ref o), (4, .int (nI (4 * q)))]) hx hb dL_law_344 hl (by decide) rfl (fun ls hl => ?_)
  refine lv_aload_n hx hb dL_law_346 rfl (lv_at hl 3 rfl) ?_
  refine lv_aload_n hx hb dL_law_347 rfl (lv_at hl 1 rfl) ?_
  refine lv_iload hx hb dL_law_348 (lv_at hl 5 rfl) ?_
  refine lv_iconst (v := 1) hx hb dL_law_350 (by decide +kernel) ?_
  refine lv_iadd hx hb dL_law_351 ?_
  refine ow_top (z := nI (4 * q + 1)) (nI_1 (4 * q)) ?_
  refine ow_sld (k := 4 * q + 1) hx hb hSc hbl hbA hS (by omega) (by omega) dL_law_352 ?_
  refine lv_aload_n hx hb dL_law_353 rfl (lv_at hl 1 rfl) ?_
  refine lv_iload hx hb dL_law_354 (lv_at hl 5 rfl) ?_
  refine lv_iconst (v := nI 2) hx hb dL_law_356 (by decide +kernel) ?_
  refine lv_iadd hx hb dL_law_357 ?_
  refine ow_top (z := nI (4 * q + 2)) (nI_add (4 * q) 2) ?_
  refine ow_sld (k := 4 * q + 2) hx hb hSc hbl hbA hS (by omega) (by omega) dL_law_358 ?_
  refine lv_aload_n hx hb dL_law_359 rfl (lv_at hl 1 rfl) ?_
  refine lv_iload hx hb dL_law_360 (lv_at hl 5 rfl) ?_
  refine lv_iconst (v := nI 3) hx hb dL_law_362 (by decide +kernel) ?_
  refine lv_iadd hx hb dL_law_363 ?_
  refine ow_top (z := nI (4 * q + 3)) (nI_add (4 * q) 3) ?_
  refine ow_sld (k := 4 * q + 3) hx hb hSc hbl hbA hS (by omega) (by omega) dL_law_364 ?_
  refine ow_calli (wr := [(hX, .inr (0, [.ref aX, .ref bX, .int (nI N')])), (aX, .inl (cA, 1000, .inl f1)), (bX, .inl (cB, 1000, .inl g1)), (o, .inl (cO, 1, .inr (.inl oo1)))]) (va_runV (As := [.int (xs (4 * q + 1)), .int (xs (4 * q + 2)), .int (xs (4 * q + 3))]) (rest := []) ⟨hx, hb, hml, hown, hts⟩ (c_M_carry l dC dI hM aM bM cC cD th N L f2 as tt r N' L' _ ok hf2 ((xs (4 * q + 1))) ((xs (4 * q + 2))) ((xs (4 * q + 3))) hsp) (cwV 3 hts gT_law_X1_carry rfl rfl rfl (by decide +kernel) ⟨Nat.le_of_ble_eq_true rfl, Nat.le_of_ble_eq_true rfl⟩) (ow_PreV (hK.sub (tys' := [(cC, .int), (cD, .int)]) [3, 4] rfl) (hP.sub (ws' := (wM hM aM bM cC cD (th, nI N, f2, as))) [0, 1, 2] rfl) (hD.sub (ws' := (wM hM aM bM cC cD (th, nI N, f2, as))) [0, 1, 2] (by decide) rfl) (ci := 1) (q0 := 0) rfl rfl) rfl rfl hl.1 rfl (lv_room (Nat.le_of_ble_eq_true rfl)) dL_law_365 ⟨by show 8 + q + 0 ≤ 1032; omega, by show 4014 + 6 * q + 0 ≤ 12206; omega⟩) hP hD hS hA [0, 1, 2] [3, 4, 5, 6] rfl rfl (by decide) (by decide) (fun r0 u H locs hw hP hD hS => ?_)
  obtain ⟨v1, v2, v3, v4⟩ := u
  obtain ⟨er, e1, e2, hf9⟩ := hw
  obtain rfl : tt = v1 := e1.symm
  obtain rfl : nI N' = v2 := e2.symm
  refine ow_top (z := r) er ?_
  have hP : va_P (dC, dI) vwCl [(hX, .inr (0, [.ref aX, .ref bX, .int (nI N')])), (aX, .inl (cA, 1000, .inl f1)), (bX, .inl (cB, 1000, .inl g1)), (o, .inl (cO, 1, .inr (.inl oo1))), (hM, .inr (1, [.int tt, .ref aM, .int (nI N'), .ref bM])), (aM, .inl (cC, 1000, .inl v3)), (bM, .inl (cD, 1000, .inl v4))] H := hP
  have hD : va_D A [(hX, .inr (0, [.ref aX, .ref bX, .int (nI N')])), (aX, .inl (cA, 1000, .inl f1)), (bX, .inl (cB, 1000, .inl g1)), (o, .inl (cO, 1, .inr (.inl oo1))), (hM, .inr (1, [.int tt, .ref aM, .int (nI N'), .ref bM])), (aM, .inl (cC, 1000, .inl v3)), (bM, .inl (cD, 1000, .inl v4))] := hD
  refine lv_istore (lv' := [(6, .int r), (5, .int tt), (0, .ref b), (1, .ref hX), (2, .ref hM), (3, .ref o), (4, .int (nI (4 * q)))]) hx hb dL_law_368 hl (by decide) rfl (fun ls hl => ?_)
  refine lv_aload_n hx hb dL_law_370 rfl (lv_at hl 4 rfl) ?_
  refine ow_callR (r := tt) (W.runV (As := []) (rest := []) ⟨hx, hb, hml, hown, htsL⟩ (c_M_thrown l dC dI hM aM bM cC cD tt (nI N') v3 v4) (cwV 0 htsL gL_law_X1_thrown rfl rfl rfl (by decide +kernel) ⟨Nat.le_of_ble_eq_true rfl, Nat.le_of_ble_eq_true rfl⟩) (ow_PreR (hK.sub (tys' := [(cC, .int), (cD, .int)]) [3, 4] rfl) (hP.sub (ws' := (wM hM aM bM cC cD (tt, nI N', v3, v4))) [4, 5, 6] rfl) (ci := 1) (q0 := 0) rfl rfl) rfl rfl hl.1 rfl (lv_room (Nat.le_of_ble_eq_true rfl)) dL_law_371 ⟨by show 8 + q + 0 ≤ 1032; omega, by show 4014 + 6 * q + 0 ≤ 12206; omega⟩) ?_
  refine lv_iload hx hb dL_law_374 (lv_at hl 1 rfl) ?_
  refine lv_icmp_eq (tgt := 381) hx hb dL_law_376 (by decide) (fun c_376 => ?_) (fun c_376 => (c_376 rfl).elim)
  refine lv_iload hx hb dL_law_381 (lv_at hl 1 rfl) ?_
  refine lv_if_ne (tgt := 398) hx hb dL_law_383 (by decide) (fun c_383 => ?_) (fun c_383 => ?_)
  · refine lv_goto (tgt := 763) hx hb dL_law_398 (by decide) ?_
    exact hk N' L' f1 g1 v3 v4 tt oo1 H locs ls ok' hf1 hg1 hf9 (hP.sub [0, 1, 2, 3, 4, 5, 6] rfl) (hD.sub [0, 1, 2, 3, 4, 5, 6] (by decide) rfl) hS (lv_sub hl [2, 3, 4, 5, 6] rfl)
  · refine lv_aload_n hx hb dL_law_386 rfl (lv_at hl 5 rfl) ?_
    refine lv_iconst (v := 0) hx hb dL_law_387 (by decide +kernel) ?_
    refine ow_lald (k := 0) (v := r.toInt64) hx hb hK hP 3 2 rfl rfl nI_0.symm (by decide) (by decide) (hoo c_383) dL_law_388 ?_
    refine lv_iload hx hb dL_law_389 (lv_at hl 0 rfl) ?_
    refine lv_i2l (v := r.toInt64) hx hb dL_law_391 rfl ?_
    refine W.lcmp hx hb dL_law_392 ?_
    refine lv_if_eq (tgt := 398) hx hb dL_law_393 (by decide) (fun c_393 => ?_) (fun c_393 => (c_393 ((lg_cmp_eq _ _).mpr rfl)).elim)
    refine lv_goto (tgt := 763) hx hb dL_law_398 (by decide) ?_
    exact hk N' L' f1 g1 v3 v4 tt oo1 H locs ls ok' hf1 hg1 hf9 (hP.sub [0, 1, 2, 3, 4, 5, 6] rfl) (hD.sub [0, 1, 2, 3, 4, 5, 6] (by decide) rfl) hS (lv_sub hl [2, 3, 4, 5, 6] rfl)
set_option maxHeartbeats 4000000 in
set_option maxRecDepth 100000 in
/-- a call of compare -/
theorem law_compare {pg : Program} {l : Launch} {ev : Env} {s : State} {m : MethodId} {below : List Frame} {meth : Method} {cd : Code} {b LN : Nat} {xs : Nat → Int32} {dC : Nat → ClassId} {dI : Nat → Nat → Nat} {A : Nat → Prop} {hX aX bX o hM aM bM : Nat} {cA cB cO cC cD : ClassId} {q : Nat} (C0 : lw_At pg s m meth cd b LN xs) (hLN : LN ≤ 2048) (hq : 4 * q + 4 ≤ LN) (hfl : l.flags = flags0) (hK : va_K (dC, dI) vwCl [(cA, .int), (cB, .int), (cO, .long), (cC, .int), (cD, .int)] s) (hA : ∀ q : Nat, s.heap.size ≤ q → A q) (hbA : ¬ A b) (hZs : lw_Zs A s) (hk : lw_inv pg l ev s m below meth cd b dC dI A hX aX bX o hM aM bM cA cB cO cC cD q 763 (8 + q) (4014 + 6 * q)) : lw_inv pg l ev s m below meth cd b dC dI A hX aX bX o hM aM bM cA cB cO cC cD q 401 (7 + q) (4008 + 6 * q) := by
  obtain ⟨hx, hb, hr, hml, hown, hts, hSc, hbl, hlocks, hgv⟩ := C0
  have hown : s.vm.findClass RL = some m.cls := hown
  have htsL : ∀ w ∈ wsL_law, w.before #[Value.ref b] s = true := fun w h => hts w (wsL_law_in w h)
  intro N L f g f2 as th oo H locs ls ok hf hg hf2 hP hD hS hl
  refine lv_aload_n hx hb dL_law_401 rfl (lv_at hl 1 rfl) ?_
  refine lv_aload_n hx hb dL_law_402 rfl (lv_at hl 0 rfl) ?_
  refine lv_iload hx hb dL_law_403 (lv_at hl 4 rfl) ?_
  refine lv_iconst (v := 1) hx hb dL_law_405 (by decide +kernel) ?_
  refine lv_iadd hx hb dL_law_406 ?_
  refine ow_top (z := nI (4 * q + 1)) (nI_1 (4 * q)) ?_
  refine ow_sld (k := 4 * q + 1) hx hb hSc hbl hbA hS (by omega) (by omega) dL_law_407 ?_
  refine lv_aload_n hx hb dL_law_408 rfl (lv_at hl 0 rfl) ?_
  refine lv_iload hx hb dL_law_409 (lv_at hl 4 rfl) ?_
  refine lv_iconst (v := nI 2) hx hb dL_law_411 (by decide +kernel) ?_
  refine lv_iadd hx hb dL_law_412 ?_
  refine ow_top (z := nI (4 * q + 2)) (nI_add (4 * q) 2) ?_
  refine ow_sld (k := 4 * q + 2) hx hb hSc hbl hbA hS (by omega) (by omega) dL_law_413 ?_
  refine lv_aload_n hx hb dL_law_414 rfl (lv_at hl 3 rfl) ?_
  obtain ⟨tt, r, N', L', hsp, ok'⟩ := ex_compare ok ((xs (4 * q + 1))) ((xs (4 * q + 2)))
  refine ow_calli (wr := [(hM, .inr (1, [.int th, .ref aM, .int (nI N), .ref bM])), (aM, .inl (cC, 1000, .inl f2)), (bM, .inl (cD, 1000, .inl as))]) (vx_runSW (As := [.ref hX, .int (xs (4 * q + 1)), .int (xs (4 * q + 2)), .ref o]) (rest := []) ⟨hx, hb, hml, hown, htsL⟩ (c_L_compare l dC dI hfl hX aX bX o cA cB cO N L f g oo tt r N' L' _ ok hf hg ((xs (4 * q + 1))) ((xs (4 * q + 2))) hsp) (vx_cwSW 4 htsL gL_law_L_compare rfl rfl rfl (by decide +kernel) ⟨Nat.le_of_ble_eq_true rfl, Nat.le_of_ble_eq_true rfl⟩) (ow_PreSx (hK.sub (tys' := [(cA, .int), (cB, .int), (cO, .long)]) [0, 1, 2] rfl) (hP.sub (ws' := (wO hX aX bX o cA cB cO ((nI N, f, g), oo))) [0, 1, 2, 3] rfl) (hD.sub (ws' := (wO hX aX bX o cA cB cO ((nI N, f, g), oo))) [0, 1, 2, 3] (by decide) rfl) hZs hS) rfl rfl hl.1 rfl (lv_room (Nat.le_of_ble_eq_true rfl)) dL_law_415 ⟨by show 7 + q + 1 ≤ 1032; omega, by show 4008 + 6 * q + 6 ≤ 12206; omega⟩) hP hD hS hA [0, 1, 2, 3] [4, 5, 6] rfl rfl (by decide) (by decide) (fun r0 u H locs hw hP hD hS => ?_)
  refine W.widen (k := 8 + q) (n := 4014 + 6 * q) (by omega) (by omega) ?_
  obtain ⟨⟨a1, f1, g1⟩, oo1⟩ := u
  obtain ⟨er, hoo, e1, hf1, hg1⟩ := hw
  obtain rfl : nI N' = a1 := e1.symm
  refine ow_top (z := tt) er ?_
  have hP : va_P (dC, dI) vwCl [(hM, .inr (1, [.int th, .ref aM, .int (nI N), .ref bM])), (aM, .inl (cC, 1000, .inl f2)), (bM, .inl (cD, 1000, .inl as)), (hX, .inr (0, [.ref aX, .ref bX, .int (nI N')])), (aX, .inl (cA, 1000, .inl f1)), (bX, .inl (cB, 1000, .inl g1)), (o, .inl (cO, 1, .inr (.inl oo1)))] H := hP
  have hD : va_D A [(hM, .inr (1, [.int th, .ref aM, .int (nI N), .ref bM])), (aM, .inl (cC, 1000, .inl f2)), (bM, .inl (cD, 1000, .inl as)), (hX, .inr (0, [.ref aX, .ref bX, .int (nI N')])), (aX, .inl (cA, 1000, .inl f1)), (bX, .inl (cB, 1000, .inl g1)), (o, .inl (cO, 1, .inr (.inl oo1)))] := hD
  refine lv_istore (lv' := [(5, .int tt), (0, .ref b), (1, .ref hX), (2, .ref hM), (3, .ref o), (4, .int (nI (4 * q)))]) hx hb dL_law_418 hl (by decide) rfl (fun ls hl => ?_)
  refine lv_aload_n hx hb dL_law_420 rfl (lv_at hl 3 rfl) ?_
  refine lv_aload_n hx hb dL_law_421 rfl (lv_at hl 1 rfl) ?_
  refine lv_iload hx hb dL_law_422 (lv_at hl 5 rfl) ?_
  refine lv_iconst (v := 1) hx hb dL_law_424 (by decide +kernel) ?_
  refine lv_iadd hx hb dL_law_425 ?_
  refine ow_top (z := nI (4 * q + 1)) (nI_1 (4 * q)) ?_
  refine ow_sld (k := 4 * q + 1) hx hb hSc hbl hbA hS (by omega) (by omega) dL_law_426 ?_
  refine lv_aload_n hx hb dL_law_427 rfl (lv_at hl 1 rfl) ?_
  refine lv_iload hx hb dL_law_428 (lv_at hl 5 rfl) ?_
  refine lv_iconst (v := nI 2) hx hb dL_law_430 (by decide +kernel) ?_
  refine lv_iadd hx hb dL_law_431 ?_
  refine ow_top (z := nI (4 * q + 2)) (nI_add (4 * q) 2) ?_
  refine ow_sld (k := 4 * q + 2) hx hb hSc hbl hbA hS (by omega) (by omega) dL_law_432 ?_
  refine ow_calli (wr := [(hX, .inr (0, [.ref aX, .ref bX, .int (nI N')])), (aX, .inl (cA, 1000, .inl f1)), (bX, .inl (cB, 1000, .inl g1)), (o, .inl (cO, 1, .inr (.inl oo1)))]) (va_runV (As := [.int (xs (4 * q + 1)), .int (xs (4 * q + 2))]) (rest := []) ⟨hx, hb, hml, hown, hts⟩ (c_M_compare l dC dI hM aM bM cC cD th N L f2 as tt r N' L' _ ok hf2 ((xs (4 * q + 1))) ((xs (4 * q + 2))) hsp) (cwV 2 hts gT_law_X1_compare rfl rfl rfl (by decide +kernel) ⟨Nat.le_of_ble_eq_true rfl, Nat.le_of_ble_eq_true rfl⟩) (ow_PreV (hK.sub (tys' := [(cC, .int), (cD, .int)]) [3, 4] rfl) (hP.sub (ws' := (wM hM aM bM cC cD (th, nI N, f2, as))) [0, 1, 2] rfl) (hD.sub (ws' := (wM hM aM bM cC cD (th, nI N, f2, as))) [0, 1, 2] (by decide) rfl) (ci := 1) (q0 := 0) rfl rfl) rfl rfl hl.1 rfl (lv_room (Nat.le_of_ble_eq_true rfl)) dL_law_433 ⟨by show 8 + q + 0 ≤ 1032; omega, by show 4014 + 6 * q + 0 ≤ 12206; omega⟩) hP hD hS hA [0, 1, 2] [3, 4, 5, 6] rfl rfl (by decide) (by decide) (fun r0 u H locs hw hP hD hS => ?_)
  obtain ⟨v1, v2, v3, v4⟩ := u
  obtain ⟨er, e1, e2, hf9⟩ := hw
  obtain rfl : tt = v1 := e1.symm
  obtain rfl : nI N' = v2 := e2.symm
  refine ow_top (z := r) er ?_
  have hP : va_P (dC, dI) vwCl [(hX, .inr (0, [.ref aX, .ref bX, .int (nI N')])), (aX, .inl (cA, 1000, .inl f1)), (bX, .inl (cB, 1000, .inl g1)), (o, .inl (cO, 1, .inr (.inl oo1))), (hM, .inr (1, [.int tt, .ref aM, .int (nI N'), .ref bM])), (aM, .inl (cC, 1000, .inl v3)), (bM, .inl (cD, 1000, .inl v4))] H := hP
  have hD : va_D A [(hX, .inr (0, [.ref aX, .ref bX, .int (nI N')])), (aX, .inl (cA, 1000, .inl f1)), (bX, .inl (cB, 1000, .inl g1)), (o, .inl (cO, 1, .inr (.inl oo1))), (hM, .inr (1, [.int tt, .ref aM, .int (nI N'), .ref bM])), (aM, .inl (cC, 1000, .inl v3)), (bM, .inl (cD, 1000, .inl v4))] := hD
  refine lv_istore (lv' := [(6, .int r), (5, .int tt), (0, .ref b), (1, .ref hX), (2, .ref hM), (3, .ref o), (4, .int (nI (4 * q)))]) hx hb dL_law_436 hl (by decide) rfl (fun ls hl => ?_)
  refine lv_aload_n hx hb dL_law_438 rfl (lv_at hl 4 rfl) ?_
  refine ow_callR (r := tt) (W.runV (As := []) (rest := []) ⟨hx, hb, hml, hown, htsL⟩ (c_M_thrown l dC dI hM aM bM cC cD tt (nI N') v3 v4) (cwV 0 htsL gL_law_X1_thrown rfl rfl rfl (by decide +kernel) ⟨Nat.le_of_ble_eq_true rfl, Nat.le_of_ble_eq_true rfl⟩) (ow_PreR (hK.sub (tys' := [(cC, .int), (cD, .int)]) [3, 4] rfl) (hP.sub (ws' := (wM hM aM bM cC cD (tt, nI N', v3, v4))) [4, 5, 6] rfl) (ci := 1) (q0 := 0) rfl rfl) rfl rfl hl.1 rfl (lv_room (Nat.le_of_ble_eq_true rfl)) dL_law_439 ⟨by show 8 + q + 0 ≤ 1032; omega, by show 4014 + 6 * q + 0 ≤ 12206; omega⟩) ?_
  refine lv_iload hx hb dL_law_442 (lv_at hl 1 rfl) ?_
  refine lv_icmp_eq (tgt := 449) hx hb dL_law_444 (by decide) (fun c_444 => ?_) (fun c_444 => (c_444 rfl).elim)
  refine lv_iload hx hb dL_law_449 (lv_at hl 1 rfl) ?_
  refine lv_if_ne (tgt := 466) hx hb dL_law_451 (by decide) (fun c_451 => ?_) (fun c_451 => ?_)
  · refine lv_goto (tgt := 763) hx hb dL_law_466 (by decide) ?_
    exact hk N' L' f1 g1 v3 v4 tt oo1 H locs ls ok' hf1 hg1 hf9 (hP.sub [0, 1, 2, 3, 4, 5, 6] rfl) (hD.sub [0, 1, 2, 3, 4, 5, 6] (by decide) rfl) hS (lv_sub hl [2, 3, 4, 5, 6] rfl)
  · refine lv_aload_n hx hb dL_law_454 rfl (lv_at hl 5 rfl) ?_
    refine lv_iconst (v := 0) hx hb dL_law_455 (by decide +kernel) ?_
    refine ow_lald (k := 0) (v := r.toInt64) hx hb hK hP 3 2 rfl rfl nI_0.symm (by decide) (by decide) (hoo c_451) dL_law_456 ?_
    refine lv_iload hx hb dL_law_457 (lv_at hl 0 rfl) ?_
    refine lv_i2l (v := r.toInt64) hx hb dL_law_459 rfl ?_
    refine W.lcmp hx hb dL_law_460 ?_
    refine lv_if_eq (tgt := 466) hx hb dL_law_461 (by decide) (fun c_461 => ?_) (fun c_461 => (c_461 ((lg_cmp_eq _ _).mpr rfl)).elim)
    refine lv_goto (tgt := 763) hx hb dL_law_466 (by decide) ?_
    exact hk N' L' f1 g1 v3 v4 tt oo1 H locs ls ok' hf1 hg1 hf9 (hP.sub [0, 1, 2, 3, 4, 5, 6] rfl) (hD.sub [0, 1, 2, 3, 4, 5, 6] (by decide) rfl) hS (lv_sub hl [2, 3, 4, 5, 6] rfl)
set_option maxHeartbeats 4000000 in
set_option maxRecDepth 100000 in
/-- a call of next -/
theorem law_next {pg : Program} {l : Launch} {ev : Env} {s : State} {m : MethodId} {below : List Frame} {meth : Method} {cd : Code} {b LN : Nat} {xs : Nat → Int32} {dC : Nat → ClassId} {dI : Nat → Nat → Nat} {A : Nat → Prop} {hX aX bX o hM aM bM : Nat} {cA cB cO cC cD : ClassId} {q : Nat} (C0 : lw_At pg s m meth cd b LN xs) (hLN : LN ≤ 2048) (hq : 4 * q + 4 ≤ LN) (hfl : l.flags = flags0) (hK : va_K (dC, dI) vwCl [(cA, .int), (cB, .int), (cO, .long), (cC, .int), (cD, .int)] s) (hA : ∀ q : Nat, s.heap.size ≤ q → A q) (hbA : ¬ A b) (hZs : lw_Zs A s) (hk : lw_inv pg l ev s m below meth cd b dC dI A hX aX bX o hM aM bM cA cB cO cC cD q 763 (8 + q) (4014 + 6 * q)) : lw_inv pg l ev s m below meth cd b dC dI A hX aX bX o hM aM bM cA cB cO cC cD q 469 (7 + q) (4008 + 6 * q) := by
  obtain ⟨hx, hb, hr, hml, hown, hts, hSc, hbl, hlocks, hgv⟩ := C0
  have hown : s.vm.findClass RL = some m.cls := hown
  have htsL : ∀ w ∈ wsL_law, w.before #[Value.ref b] s = true := fun w h => hts w (wsL_law_in w h)
  intro N L f g f2 as th oo H locs ls ok hf hg hf2 hP hD hS hl
  refine lv_aload_n hx hb dL_law_469 rfl (lv_at hl 1 rfl) ?_
  refine lv_aload_n hx hb dL_law_470 rfl (lv_at hl 0 rfl) ?_
  refine lv_iload hx hb dL_law_471 (lv_at hl 4 rfl) ?_
  refine lv_iconst (v := 1) hx hb dL_law_473 (by decide +kernel) ?_
  refine lv_iadd hx hb dL_law_474 ?_
  refine ow_top (z := nI (4 * q + 1)) (nI_1 (4 * q)) ?_
  refine ow_sld (k := 4 * q + 1) hx hb hSc hbl hbA hS (by omega) (by omega) dL_law_475 ?_
  refine lv_aload_n hx hb dL_law_476 rfl (lv_at hl 0 rfl) ?_
  refine lv_iload hx hb dL_law_477 (lv_at hl 4 rfl) ?_
  refine lv_iconst (v := nI 2) hx hb dL_law_479 (by decide +kernel) ?_
  refine lv_iadd hx hb dL_law_480 ?_
  refine ow_top (z := nI (4 * q + 2)) (nI_add (4 * q) 2) ?_
  refine ow_sld (k := 4 * q + 2) hx hb hSc hbl hbA hS (by omega) (by omega) dL_law_481 ?_
  refine lv_if_eq (tgt := 489) hx hb dL_law_482 (by decide) (fun c_482 => ?_) (fun c_482 => ?_)
  · refine lv_iconst (v := 0) hx hb dL_law_489 (by decide +kernel) ?_
    refine lv_aload_n hx hb dL_law_490 rfl (lv_at hl 3 rfl) ?_
    obtain ⟨tt, r, N', L', hsp, ok'⟩ := ex_next ok ((xs (4 * q + 1))) 0
    refine ow_calli (wr := [(hM, .inr (1, [.int th, .ref aM, .int (nI N), .ref bM])), (aM, .inl (cC, 1000, .inl f2)), (bM, .inl (cD, 1000, .inl as))]) (vx_runSW (As := [.ref hX, .int (xs (4 * q + 1)), .int 0, .ref o]) (rest := []) ⟨hx, hb, hml, hown, htsL⟩ (c_L_next l dC dI hfl hX aX bX o cA cB cO N L f g oo tt r N' L' _ ok hf hg ((xs (4 * q + 1))) 0 hsp) (vx_cwSW 4 htsL gL_law_L_next rfl rfl rfl (by decide +kernel) ⟨Nat.le_of_ble_eq_true rfl, Nat.le_of_ble_eq_true rfl⟩) (ow_PreSx (hK.sub (tys' := [(cA, .int), (cB, .int), (cO, .long)]) [0, 1, 2] rfl) (hP.sub (ws' := (wO hX aX bX o cA cB cO ((nI N, f, g), oo))) [0, 1, 2, 3] rfl) (hD.sub (ws' := (wO hX aX bX o cA cB cO ((nI N, f, g), oo))) [0, 1, 2, 3] (by decide) rfl) hZs hS) rfl rfl hl.1 rfl (lv_room (Nat.le_of_ble_eq_true rfl)) dL_law_491 ⟨by show 7 + q + 1 ≤ 1032; omega, by show 4008 + 6 * q + 6 ≤ 12206; omega⟩) hP hD hS hA [0, 1, 2, 3] [4, 5, 6] rfl rfl (by decide) (by decide) (fun r0 u H locs hw hP hD hS => ?_)
    refine W.widen (k := 8 + q) (n := 4014 + 6 * q) (by omega) (by omega) ?_
    obtain ⟨⟨a1, f1, g1⟩, oo1⟩ := u
    obtain ⟨er, hoo, e1, hf1, hg1⟩ := hw
    obtain rfl : nI N' = a1 := e1.symm
    refine ow_top (z := tt) er ?_
    have hP : va_P (dC, dI) vwCl [(hM, .inr (1, [.int th, .ref aM, .int (nI N), .ref bM])), (aM, .inl (cC, 1000, .inl f2)), (bM, .inl (cD, 1000, .inl as)), (hX, .inr (0, [.ref aX, .ref bX, .int (nI N')])), (aX, .inl (cA, 1000, .inl f1)), (bX, .inl (cB, 1000, .inl g1)), (o, .inl (cO, 1, .inr (.inl oo1)))] H := hP
    have hD : va_D A [(hM, .inr (1, [.int th, .ref aM, .int (nI N), .ref bM])), (aM, .inl (cC, 1000, .inl f2)), (bM, .inl (cD, 1000, .inl as)), (hX, .inr (0, [.ref aX, .ref bX, .int (nI N')])), (aX, .inl (cA, 1000, .inl f1)), (bX, .inl (cB, 1000, .inl g1)), (o, .inl (cO, 1, .inr (.inl oo1)))] := hD
    refine lv_istore (lv' := [(5, .int tt), (0, .ref b), (1, .ref hX), (2, .ref hM), (3, .ref o), (4, .int (nI (4 * q)))]) hx hb dL_law_494 hl (by decide) rfl (fun ls hl => ?_)
    refine lv_aload_n hx hb dL_law_496 rfl (lv_at hl 3 rfl) ?_
    refine lv_aload_n hx hb dL_law_497 rfl (lv_at hl 1 rfl) ?_
    refine lv_iload hx hb dL_law_498 (lv_at hl 5 rfl) ?_
    refine lv_iconst (v := 1) hx hb dL_law_500 (by decide +kernel) ?_
    refine lv_iadd hx hb dL_law_501 ?_
    refine ow_top (z := nI (4 * q + 1)) (nI_1 (4 * q)) ?_
    refine ow_sld (k := 4 * q + 1) hx hb hSc hbl hbA hS (by omega) (by omega) dL_law_502 ?_
    refine lv_aload_n hx hb dL_law_503 rfl (lv_at hl 1 rfl) ?_
    refine lv_iload hx hb dL_law_504 (lv_at hl 5 rfl) ?_
    refine lv_iconst (v := nI 2) hx hb dL_law_506 (by decide +kernel) ?_
    refine lv_iadd hx hb dL_law_507 ?_
    refine ow_top (z := nI (4 * q + 2)) (nI_add (4 * q) 2) ?_
    refine ow_sld (k := 4 * q + 2) hx hb hSc hbl hbA hS (by omega) (by omega) dL_law_508 ?_
    refine lv_if_eq (tgt := 516) hx hb dL_law_509 (by decide) (fun c_509 => ?_) (fun c_509 => (c_509 c_482).elim)
    refine lv_iconst (v := 0) hx hb dL_law_516 (by decide +kernel) ?_
    refine ow_calli (wr := [(hX, .inr (0, [.ref aX, .ref bX, .int (nI N')])), (aX, .inl (cA, 1000, .inl f1)), (bX, .inl (cB, 1000, .inl g1)), (o, .inl (cO, 1, .inr (.inl oo1)))]) (va_runV (As := [.int (xs (4 * q + 1)), .int 0]) (rest := []) ⟨hx, hb, hml, hown, hts⟩ (c_M_next l dC dI hM aM bM cC cD th N L f2 as tt r N' L' _ ok hf2 ((xs (4 * q + 1))) 0 hsp) (cwV 2 hts gT_law_X1_next rfl rfl rfl (by decide +kernel) ⟨Nat.le_of_ble_eq_true rfl, Nat.le_of_ble_eq_true rfl⟩) (ow_PreV (hK.sub (tys' := [(cC, .int), (cD, .int)]) [3, 4] rfl) (hP.sub (ws' := (wM hM aM bM cC cD (th, nI N, f2, as))) [0, 1, 2] rfl) (hD.sub (ws' := (wM hM aM bM cC cD (th, nI N, f2, as))) [0, 1, 2] (by decide) rfl) (ci := 1) (q0 := 0) rfl rfl) rfl rfl hl.1 rfl (lv_room (Nat.le_of_ble_eq_true rfl)) dL_law_517 ⟨by show 8 + q + 0 ≤ 1032; omega, by show 4014 + 6 * q + 0 ≤ 12206; omega⟩) hP hD hS hA [0, 1, 2] [3, 4, 5, 6] rfl rfl (by decide) (by decide) (fun r0 u H locs hw hP hD hS => ?_)
    obtain ⟨v1, v2, v3, v4⟩ := u
    obtain ⟨er, e1, e2, hf9⟩ := hw
    obtain rfl : tt = v1 := e1.symm
    obtain rfl : nI N' = v2 := e2.symm
    refine ow_top (z := r) er ?_
    have hP : va_P (dC, dI) vwCl [(hX, .inr (0, [.ref aX, .ref bX, .int (nI N')])), (aX, .inl (cA, 1000, .inl f1)), (bX, .inl (cB, 1000, .inl g1)), (o, .inl (cO, 1, .inr (.inl oo1))), (hM, .inr (1, [.int tt, .ref aM, .int (nI N'), .ref bM])), (aM, .inl (cC, 1000, .inl v3)), (bM, .inl (cD, 1000, .inl v4))] H := hP
    have hD : va_D A [(hX, .inr (0, [.ref aX, .ref bX, .int (nI N')])), (aX, .inl (cA, 1000, .inl f1)), (bX, .inl (cB, 1000, .inl g1)), (o, .inl (cO, 1, .inr (.inl oo1))), (hM, .inr (1, [.int tt, .ref aM, .int (nI N'), .ref bM])), (aM, .inl (cC, 1000, .inl v3)), (bM, .inl (cD, 1000, .inl v4))] := hD
    refine lv_istore (lv' := [(6, .int r), (5, .int tt), (0, .ref b), (1, .ref hX), (2, .ref hM), (3, .ref o), (4, .int (nI (4 * q)))]) hx hb dL_law_520 hl (by decide) rfl (fun ls hl => ?_)
    refine lv_aload_n hx hb dL_law_522 rfl (lv_at hl 4 rfl) ?_
    refine ow_callR (r := tt) (W.runV (As := []) (rest := []) ⟨hx, hb, hml, hown, htsL⟩ (c_M_thrown l dC dI hM aM bM cC cD tt (nI N') v3 v4) (cwV 0 htsL gL_law_X1_thrown rfl rfl rfl (by decide +kernel) ⟨Nat.le_of_ble_eq_true rfl, Nat.le_of_ble_eq_true rfl⟩) (ow_PreR (hK.sub (tys' := [(cC, .int), (cD, .int)]) [3, 4] rfl) (hP.sub (ws' := (wM hM aM bM cC cD (tt, nI N', v3, v4))) [4, 5, 6] rfl) (ci := 1) (q0 := 0) rfl rfl) rfl rfl hl.1 rfl (lv_room (Nat.le_of_ble_eq_true rfl)) dL_law_523 ⟨by show 8 + q + 0 ≤ 1032; omega, by show 4014 + 6 * q + 0 ≤ 12206; omega⟩) ?_
    refine lv_iload hx hb dL_law_526 (lv_at hl 1 rfl) ?_
    refine lv_icmp_eq (tgt := 533) hx hb dL_law_528 (by decide) (fun c_528 => ?_) (fun c_528 => (c_528 rfl).elim)
    refine lv_iload hx hb dL_law_533 (lv_at hl 1 rfl) ?_
    refine lv_if_ne (tgt := 550) hx hb dL_law_535 (by decide) (fun c_535 => ?_) (fun c_535 => ?_)
    · refine lv_goto (tgt := 763) hx hb dL_law_550 (by decide) ?_
      exact hk N' L' f1 g1 v3 v4 tt oo1 H locs ls ok' hf1 hg1 hf9 (hP.sub [0, 1, 2, 3, 4, 5, 6] rfl) (hD.sub [0, 1, 2, 3, 4, 5, 6] (by decide) rfl) hS (lv_sub hl [2, 3, 4, 5, 6] rfl)
    · refine lv_aload_n hx hb dL_law_538 rfl (lv_at hl 5 rfl) ?_
      refine lv_iconst (v := 0) hx hb dL_law_539 (by decide +kernel) ?_
      refine ow_lald (k := 0) (v := r.toInt64) hx hb hK hP 3 2 rfl rfl nI_0.symm (by decide) (by decide) (hoo c_535) dL_law_540 ?_
      refine lv_iload hx hb dL_law_541 (lv_at hl 0 rfl) ?_
      refine lv_i2l (v := r.toInt64) hx hb dL_law_543 rfl ?_
      refine W.lcmp hx hb dL_law_544 ?_
      refine lv_if_eq (tgt := 550) hx hb dL_law_545 (by decide) (fun c_545 => ?_) (fun c_545 => (c_545 ((lg_cmp_eq _ _).mpr rfl)).elim)
      refine lv_goto (tgt := 763) hx hb dL_law_550 (by decide) ?_
      exact hk N' L' f1 g1 v3 v4 tt oo1 H locs ls ok' hf1 hg1 hf9 (hP.sub [0, 1, 2, 3, 4, 5, 6] rfl) (hD.sub [0, 1, 2, 3, 4, 5, 6] (by decide) rfl) hS (lv_sub hl [2, 3, 4, 5, 6] rfl)
  · refine lv_iconst (v := 1) hx hb dL_law_485 (by decide +kernel) ?_
    refine lv_goto (tgt := 490) hx hb dL_law_486 (by decide) ?_
    refine lv_aload_n hx hb dL_law_490 rfl (lv_at hl 3 rfl) ?_
    obtain ⟨tt, r, N', L', hsp, ok'⟩ := ex_next ok ((xs (4 * q + 1))) 1
    refine ow_calli (wr := [(hM, .inr (1, [.int th, .ref aM, .int (nI N), .ref bM])), (aM, .inl (cC, 1000, .inl f2)), (bM, .inl (cD, 1000, .inl as))]) (vx_runSW (As := [.ref hX, .int (xs (4 * q + 1)), .int 1, .ref o]) (rest := []) ⟨hx, hb, hml, hown, htsL⟩ (c_L_next l dC dI hfl hX aX bX o cA cB cO N L f g oo tt r N' L' _ ok hf hg ((xs (4 * q + 1))) 1 hsp) (vx_cwSW 4 htsL gL_law_L_next rfl rfl rfl (by decide +kernel) ⟨Nat.le_of_ble_eq_true rfl, Nat.le_of_ble_eq_true rfl⟩) (ow_PreSx (hK.sub (tys' := [(cA, .int), (cB, .int), (cO, .long)]) [0, 1, 2] rfl) (hP.sub (ws' := (wO hX aX bX o cA cB cO ((nI N, f, g), oo))) [0, 1, 2, 3] rfl) (hD.sub (ws' := (wO hX aX bX o cA cB cO ((nI N, f, g), oo))) [0, 1, 2, 3] (by decide) rfl) hZs hS) rfl rfl hl.1 rfl (lv_room (Nat.le_of_ble_eq_true rfl)) dL_law_491 ⟨by show 7 + q + 1 ≤ 1032; omega, by show 4008 + 6 * q + 6 ≤ 12206; omega⟩) hP hD hS hA [0, 1, 2, 3] [4, 5, 6] rfl rfl (by decide) (by decide) (fun r0 u H locs hw hP hD hS => ?_)
    refine W.widen (k := 8 + q) (n := 4014 + 6 * q) (by omega) (by omega) ?_
    obtain ⟨⟨a1, f1, g1⟩, oo1⟩ := u
    obtain ⟨er, hoo, e1, hf1, hg1⟩ := hw
    obtain rfl : nI N' = a1 := e1.symm
    refine ow_top (z := tt) er ?_
    have hP : va_P (dC, dI) vwCl [(hM, .inr (1, [.int th, .ref aM, .int (nI N), .ref bM])), (aM, .inl (cC, 1000, .inl f2)), (bM, .inl (cD, 1000, .inl as)), (hX, .inr (0, [.ref aX, .ref bX, .int (nI N')])), (aX, .inl (cA, 1000, .inl f1)), (bX, .inl (cB, 1000, .inl g1)), (o, .inl (cO, 1, .inr (.inl oo1)))] H := hP
    have hD : va_D A [(hM, .inr (1, [.int th, .ref aM, .int (nI N), .ref bM])), (aM, .inl (cC, 1000, .inl f2)), (bM, .inl (cD, 1000, .inl as)), (hX, .inr (0, [.ref aX, .ref bX, .int (nI N')])), (aX, .inl (cA, 1000, .inl f1)), (bX, .inl (cB, 1000, .inl g1)), (o, .inl (cO, 1, .inr (.inl oo1)))] := hD
    refine lv_istore (lv' := [(5, .int tt), (0, .ref b), (1, .ref hX), (2, .ref hM), (3, .ref o), (4, .int (nI (4 * q)))]) hx hb dL_law_494 hl (by decide) rfl (fun ls hl => ?_)
    refine lv_aload_n hx hb dL_law_496 rfl (lv_at hl 3 rfl) ?_
    refine lv_aload_n hx hb dL_law_497 rfl (lv_at hl 1 rfl) ?_
    refine lv_iload hx hb dL_law_498 (lv_at hl 5 rfl) ?_
    refine lv_iconst (v := 1) hx hb dL_law_500 (by decide +kernel) ?_
    refine lv_iadd hx hb dL_law_501 ?_
    refine ow_top (z := nI (4 * q + 1)) (nI_1 (4 * q)) ?_
    refine ow_sld (k := 4 * q + 1) hx hb hSc hbl hbA hS (by omega) (by omega) dL_law_502 ?_
    refine lv_aload_n hx hb dL_law_503 rfl (lv_at hl 1 rfl) ?_
    refine lv_iload hx hb dL_law_504 (lv_at hl 5 rfl) ?_
    refine lv_iconst (v := nI 2) hx hb dL_law_506 (by decide +kernel) ?_
    refine lv_iadd hx hb dL_law_507 ?_
    refine ow_top (z := nI (4 * q + 2)) (nI_add (4 * q) 2) ?_
    refine ow_sld (k := 4 * q + 2) hx hb hSc hbl hbA hS (by omega) (by omega) dL_law_508 ?_
    refine lv_if_eq (tgt := 516) hx hb dL_law_509 (by decide) (fun c_509 => (c_482 c_509).elim) (fun c_509 => ?_)
    refine lv_iconst (v := 1) hx hb dL_law_512 (by decide +kernel) ?_
    refine lv_goto (tgt := 517) hx hb dL_law_513 (by decide) ?_
    refine ow_calli (wr := [(hX, .inr (0, [.ref aX, .ref bX, .int (nI N')])), (aX, .inl (cA, 1000, .inl f1)), (bX, .inl (cB, 1000, .inl g1)), (o, .inl (cO, 1, .inr (.inl oo1)))]) (va_runV (As := [.int (xs (4 * q + 1)), .int 1]) (rest := []) ⟨hx, hb, hml, hown, hts⟩ (c_M_next l dC dI hM aM bM cC cD th N L f2 as tt r N' L' _ ok hf2 ((xs (4 * q + 1))) 1 hsp) (cwV 2 hts gT_law_X1_next rfl rfl rfl (by decide +kernel) ⟨Nat.le_of_ble_eq_true rfl, Nat.le_of_ble_eq_true rfl⟩) (ow_PreV (hK.sub (tys' := [(cC, .int), (cD, .int)]) [3, 4] rfl) (hP.sub (ws' := (wM hM aM bM cC cD (th, nI N, f2, as))) [0, 1, 2] rfl) (hD.sub (ws' := (wM hM aM bM cC cD (th, nI N, f2, as))) [0, 1, 2] (by decide) rfl) (ci := 1) (q0 := 0) rfl rfl) rfl rfl hl.1 rfl (lv_room (Nat.le_of_ble_eq_true rfl)) dL_law_517 ⟨by show 8 + q + 0 ≤ 1032; omega, by show 4014 + 6 * q + 0 ≤ 12206; omega⟩) hP hD hS hA [0, 1, 2] [3, 4, 5, 6] rfl rfl (by decide) (by decide) (fun r0 u H locs hw hP hD hS => ?_)
    obtain ⟨v1, v2, v3, v4⟩ := u
    obtain ⟨er, e1, e2, hf9⟩ := hw
    obtain rfl : tt = v1 := e1.symm
    obtain rfl : nI N' = v2 := e2.symm
    refine ow_top (z := r) er ?_
    have hP : va_P (dC, dI) vwCl [(hX, .inr (0, [.ref aX, .ref bX, .int (nI N')])), (aX, .inl (cA, 1000, .inl f1)), (bX, .inl (cB, 1000, .inl g1)), (o, .inl (cO, 1, .inr (.inl oo1))), (hM, .inr (1, [.int tt, .ref aM, .int (nI N'), .ref bM])), (aM, .inl (cC, 1000, .inl v3)), (bM, .inl (cD, 1000, .inl v4))] H := hP
    have hD : va_D A [(hX, .inr (0, [.ref aX, .ref bX, .int (nI N')])), (aX, .inl (cA, 1000, .inl f1)), (bX, .inl (cB, 1000, .inl g1)), (o, .inl (cO, 1, .inr (.inl oo1))), (hM, .inr (1, [.int tt, .ref aM, .int (nI N'), .ref bM])), (aM, .inl (cC, 1000, .inl v3)), (bM, .inl (cD, 1000, .inl v4))] := hD
    refine lv_istore (lv' := [(6, .int r), (5, .int tt), (0, .ref b), (1, .ref hX), (2, .ref hM), (3, .ref o), (4, .int (nI (4 * q)))]) hx hb dL_law_520 hl (by decide) rfl (fun ls hl => ?_)
    refine lv_aload_n hx hb dL_law_522 rfl (lv_at hl 4 rfl) ?_
    refine ow_callR (r := tt) (W.runV (As := []) (rest := []) ⟨hx, hb, hml, hown, htsL⟩ (c_M_thrown l dC dI hM aM bM cC cD tt (nI N') v3 v4) (cwV 0 htsL gL_law_X1_thrown rfl rfl rfl (by decide +kernel) ⟨Nat.le_of_ble_eq_true rfl, Nat.le_of_ble_eq_true rfl⟩) (ow_PreR (hK.sub (tys' := [(cC, .int), (cD, .int)]) [3, 4] rfl) (hP.sub (ws' := (wM hM aM bM cC cD (tt, nI N', v3, v4))) [4, 5, 6] rfl) (ci := 1) (q0 := 0) rfl rfl) rfl rfl hl.1 rfl (lv_room (Nat.le_of_ble_eq_true rfl)) dL_law_523 ⟨by show 8 + q + 0 ≤ 1032; omega, by show 4014 + 6 * q + 0 ≤ 12206; omega⟩) ?_
    refine lv_iload hx hb dL_law_526 (lv_at hl 1 rfl) ?_
    refine lv_icmp_eq (tgt := 533) hx hb dL_law_528 (by decide) (fun c_528 => ?_) (fun c_528 => (c_528 rfl).elim)
    refine lv_iload hx hb dL_law_533 (lv_at hl 1 rfl) ?_
    refine lv_if_ne (tgt := 550) hx hb dL_law_535 (by decide) (fun c_535 => ?_) (fun c_535 => ?_)
    · refine lv_goto (tgt := 763) hx hb dL_law_550 (by decide) ?_
      exact hk N' L' f1 g1 v3 v4 tt oo1 H locs ls ok' hf1 hg1 hf9 (hP.sub [0, 1, 2, 3, 4, 5, 6] rfl) (hD.sub [0, 1, 2, 3, 4, 5, 6] (by decide) rfl) hS (lv_sub hl [2, 3, 4, 5, 6] rfl)
    · refine lv_aload_n hx hb dL_law_538 rfl (lv_at hl 5 rfl) ?_
      refine lv_iconst (v := 0) hx hb dL_law_539 (by decide +kernel) ?_
      refine ow_lald (k := 0) (v := r.toInt64) hx hb hK hP 3 2 rfl rfl nI_0.symm (by decide) (by decide) (hoo c_535) dL_law_540 ?_
      refine lv_iload hx hb dL_law_541 (lv_at hl 0 rfl) ?_
      refine lv_i2l (v := r.toInt64) hx hb dL_law_543 rfl ?_
      refine W.lcmp hx hb dL_law_544 ?_
      refine lv_if_eq (tgt := 550) hx hb dL_law_545 (by decide) (fun c_545 => ?_) (fun c_545 => (c_545 ((lg_cmp_eq _ _).mpr rfl)).elim)
      refine lv_goto (tgt := 763) hx hb dL_law_550 (by decide) ?_
      exact hk N' L' f1 g1 v3 v4 tt oo1 H locs ls ok' hf1 hg1 hf9 (hP.sub [0, 1, 2, 3, 4, 5, 6] rfl) (hD.sub [0, 1, 2, 3, 4, 5, 6] (by decide) rfl) hS (lv_sub hl [2, 3, 4, 5, 6] rfl)
set_option maxHeartbeats 4000000 in
set_option maxRecDepth 100000 in
/-- a call of has -/
theorem law_has {pg : Program} {l : Launch} {ev : Env} {s : State} {m : MethodId} {below : List Frame} {meth : Method} {cd : Code} {b LN : Nat} {xs : Nat → Int32} {dC : Nat → ClassId} {dI : Nat → Nat → Nat} {A : Nat → Prop} {hX aX bX o hM aM bM : Nat} {cA cB cO cC cD : ClassId} {q : Nat} (C0 : lw_At pg s m meth cd b LN xs) (hLN : LN ≤ 2048) (hq : 4 * q + 4 ≤ LN) (hfl : l.flags = flags0) (hK : va_K (dC, dI) vwCl [(cA, .int), (cB, .int), (cO, .long), (cC, .int), (cD, .int)] s) (hA : ∀ q : Nat, s.heap.size ≤ q → A q) (hbA : ¬ A b) (hZs : lw_Zs A s) (hk : lw_inv pg l ev s m below meth cd b dC dI A hX aX bX o hM aM bM cA cB cO cC cD q 763 (8 + q) (4014 + 6 * q)) : lw_inv pg l ev s m below meth cd b dC dI A hX aX bX o hM aM bM cA cB cO cC cD q 553 (7 + q) (4008 + 6 * q) := by
  obtain ⟨hx, hb, hr, hml, hown, hts, hSc, hbl, hlocks, hgv⟩ := C0
  have hown : s.vm.findClass RL = some m.cls := hown
  have htsL : ∀ w ∈ wsL_law, w.before #[Value.ref b] s = true := fun w h => hts w (wsL_law_in w h)
  intro N L f g f2 as th oo H locs ls ok hf hg hf2 hP hD hS hl
  refine W.widen (k := 8 + q) (n := 4014 + 6 * q) (by omega) (by omega) ?_
  obtain ⟨r, hh, -⟩ := ol_hs_ex N L (xs (4 * q + 1))
  refine lv_aload_n hx hb dL_law_553 rfl (lv_at hl 1 rfl) ?_
  refine lv_aload_n hx hb dL_law_554 rfl (lv_at hl 0 rfl) ?_
  refine lv_iload hx hb dL_law_555 (lv_at hl 4 rfl) ?_
  refine lv_iconst (v := 1) hx hb dL_law_557 (by decide +kernel) ?_
  refine lv_iadd hx hb dL_law_558 ?_
  refine ow_top (z := nI (4 * q + 1)) (nI_1 (4 * q)) ?_
  refine ow_sld (k := 4 * q + 1) hx hb hSc hbl hbA hS (by omega) (by omega) dL_law_559 ?_
  refine ow_callR (r := r) (W.runV (As := [.int (xs (4 * q + 1))]) (rest := []) ⟨hx, hb, hml, hown, htsL⟩ (c_X_has l dC dI hX aX bX cA cB N L f g (xs (4 * q + 1)) r ok hg hh) (cwV 1 htsL gL_law_X0_has rfl rfl rfl (by decide +kernel) ⟨Nat.le_of_ble_eq_true rfl, Nat.le_of_ble_eq_true rfl⟩) (ow_PreR (hK.sub (tys' := [(cA, .int), (cB, .int)]) [0, 1] rfl) (hP.sub (ws' := (wX hX aX bX cA cB (nI N, f, g))) [0, 1, 2] rfl) (ci := 0) (q0 := 0) rfl rfl) rfl rfl hl.1 rfl (lv_room (Nat.le_of_ble_eq_true rfl)) dL_law_560 ⟨by show 8 + q + 0 ≤ 1032; omega, by show 4014 + 6 * q + 0 ≤ 12206; omega⟩) ?_
  refine lv_aload_n hx hb dL_law_563 rfl (lv_at hl 2 rfl) ?_
  refine lv_aload_n hx hb dL_law_564 rfl (lv_at hl 0 rfl) ?_
  refine lv_iload hx hb dL_law_565 (lv_at hl 4 rfl) ?_
  refine lv_iconst (v := 1) hx hb dL_law_567 (by decide +kernel) ?_
  refine lv_iadd hx hb dL_law_568 ?_
  refine ow_top (z := nI (4 * q + 1)) (nI_1 (4 * q)) ?_
  refine ow_sld (k := 4 * q + 1) hx hb hSc hbl hbA hS (by omega) (by omega) dL_law_569 ?_
  refine ow_calli (wr := [(hX, .inr (0, [.ref aX, .ref bX, .int (nI N)])), (aX, .inl (cA, 1000, .inl f)), (bX, .inl (cB, 1000, .inl g)), (o, .inl (cO, 1, .inr (.inl oo)))]) (va_runV (As := [.int (xs (4 * q + 1))]) (rest := [.int r]) ⟨hx, hb, hml, hown, hts⟩ (c_M_has l dC dI hM aM bM cC cD th N L f2 as r _ ok hf2 (xs (4 * q + 1)) hh) (cwV 1 hts gT_law_X1_has rfl rfl rfl (by decide +kernel) ⟨Nat.le_of_ble_eq_true rfl, Nat.le_of_ble_eq_true rfl⟩) (ow_PreV (hK.sub (tys' := [(cC, .int), (cD, .int)]) [3, 4] rfl) (hP.sub (ws' := (wM hM aM bM cC cD (th, nI N, f2, as))) [4, 5, 6] rfl) (hD.sub (ws' := (wM hM aM bM cC cD (th, nI N, f2, as))) [4, 5, 6] (by decide) rfl) (ci := 1) (q0 := 0) rfl rfl) rfl rfl hl.1 rfl (lv_room (Nat.le_of_ble_eq_true rfl)) dL_law_570 ⟨by show 8 + q + 0 ≤ 1032; omega, by show 4014 + 6 * q + 0 ≤ 12206; omega⟩) hP hD hS hA [4, 5, 6] [0, 1, 2, 3] rfl rfl (by decide) (by decide) (fun r0 u H locs hw hP hD hS => ?_)
  obtain ⟨er, eu⟩ := hw
  subst eu
  refine ow_top (z := r) er ?_
  have hP : va_P (dC, dI) vwCl [(hX, .inr (0, [.ref aX, .ref bX, .int (nI N)])), (aX, .inl (cA, 1000, .inl f)), (bX, .inl (cB, 1000, .inl g)), (o, .inl (cO, 1, .inr (.inl oo))), (hM, .inr (1, [.int 0, .ref aM, .int (nI N), .ref bM])), (aM, .inl (cC, 1000, .inl f2)), (bM, .inl (cD, 1000, .inl as))] H := hP
  have hD : va_D A [(hX, .inr (0, [.ref aX, .ref bX, .int (nI N)])), (aX, .inl (cA, 1000, .inl f)), (bX, .inl (cB, 1000, .inl g)), (o, .inl (cO, 1, .inr (.inl oo))), (hM, .inr (1, [.int 0, .ref aM, .int (nI N), .ref bM])), (aM, .inl (cC, 1000, .inl f2)), (bM, .inl (cD, 1000, .inl as))] := hD
  refine lv_icmp_eq (tgt := 763) hx hb dL_law_573 (by decide) (fun c_573 => ?_) (fun c_573 => (c_573 rfl).elim)
  exact hk N L f g f2 as 0 oo H locs ls ok hf hg hf2 (hP.sub [0, 1, 2, 3, 4, 5, 6] rfl) (hD.sub [0, 1, 2, 3, 4, 5, 6] (by decide) rfl) hS (lv_sub hl [0, 1, 2, 3, 4] rfl)
set_option maxHeartbeats 4000000 in
set_option maxRecDepth 100000 in
/-- a call of place -/
theorem law_place {pg : Program} {l : Launch} {ev : Env} {s : State} {m : MethodId} {below : List Frame} {meth : Method} {cd : Code} {b LN : Nat} {xs : Nat → Int32} {dC : Nat → ClassId} {dI : Nat → Nat → Nat} {A : Nat → Prop} {hX aX bX o hM aM bM : Nat} {cA cB cO cC cD : ClassId} {q : Nat} (C0 : lw_At pg s m meth cd b LN xs) (hLN : LN ≤ 2048) (hq : 4 * q + 4 ≤ LN) (hfl : l.flags = flags0) (hK : va_K (dC, dI) vwCl [(cA, .int), (cB, .int), (cO, .long), (cC, .int), (cD, .int)] s) (hA : ∀ q : Nat, s.heap.size ≤ q → A q) (hbA : ¬ A b) (hZs : lw_Zs A s) (hk : lw_inv pg l ev s m below meth cd b dC dI A hX aX bX o hM aM bM cA cB cO cC cD q 763 (8 + q) (4014 + 6 * q)) : lw_inv pg l ev s m below meth cd b dC dI A hX aX bX o hM aM bM cA cB cO cC cD q 578 (7 + q) (4008 + 6 * q) := by
  obtain ⟨hx, hb, hr, hml, hown, hts, hSc, hbl, hlocks, hgv⟩ := C0
  have hown : s.vm.findClass RL = some m.cls := hown
  have htsL : ∀ w ∈ wsL_law, w.before #[Value.ref b] s = true := fun w h => hts w (wsL_law_in w h)
  intro N L f g f2 as th oo H locs ls ok hf hg hf2 hP hD hS hl
  refine lv_aload_n hx hb dL_law_578 rfl (lv_at hl 1 rfl) ?_
  refine lv_aload_n hx hb dL_law_579 rfl (lv_at hl 0 rfl) ?_
  refine lv_iload hx hb dL_law_580 (lv_at hl 4 rfl) ?_
  refine lv_iconst (v := 1) hx hb dL_law_582 (by decide +kernel) ?_
  refine lv_iadd hx hb dL_law_583 ?_
  refine ow_top (z := nI (4 * q + 1)) (nI_1 (4 * q)) ?_
  refine ow_sld (k := 4 * q + 1) hx hb hSc hbl hbA hS (by omega) (by omega) dL_law_584 ?_
  refine lv_aload_n hx hb dL_law_585 rfl (lv_at hl 3 rfl) ?_
  obtain ⟨tt, r, N', L', hsp, ok'⟩ := ex_place ok ((xs (4 * q + 1)))
  refine ow_calli (wr := [(hM, .inr (1, [.int th, .ref aM, .int (nI N), .ref bM])), (aM, .inl (cC, 1000, .inl f2)), (bM, .inl (cD, 1000, .inl as))]) (vx_runSW (As := [.ref hX, .int (xs (4 * q + 1)), .ref o]) (rest := []) ⟨hx, hb, hml, hown, htsL⟩ (c_L_place l dC dI hfl hX aX bX o cA cB cO N L f g oo tt r N' L' _ ok hf hg ((xs (4 * q + 1))) hsp) (vx_cwSW 3 htsL gL_law_L_place rfl rfl rfl (by decide +kernel) ⟨Nat.le_of_ble_eq_true rfl, Nat.le_of_ble_eq_true rfl⟩) (ow_PreSx (hK.sub (tys' := [(cA, .int), (cB, .int), (cO, .long)]) [0, 1, 2] rfl) (hP.sub (ws' := (wO hX aX bX o cA cB cO ((nI N, f, g), oo))) [0, 1, 2, 3] rfl) (hD.sub (ws' := (wO hX aX bX o cA cB cO ((nI N, f, g), oo))) [0, 1, 2, 3] (by decide) rfl) hZs hS) rfl rfl hl.1 rfl (lv_room (Nat.le_of_ble_eq_true rfl)) dL_law_586 ⟨by show 7 + q + 1 ≤ 1032; omega, by show 4008 + 6 * q + 6 ≤ 12206; omega⟩) hP hD hS hA [0, 1, 2, 3] [4, 5, 6] rfl rfl (by decide) (by decide) (fun r0 u H locs hw hP hD hS => ?_)
  refine W.widen (k := 8 + q) (n := 4014 + 6 * q) (by omega) (by omega) ?_
  obtain ⟨⟨a1, f1, g1⟩, oo1⟩ := u
  obtain ⟨er, hoo, e1, hf1, hg1⟩ := hw
  obtain rfl : nI N' = a1 := e1.symm
  refine ow_top (z := tt) er ?_
  have hP : va_P (dC, dI) vwCl [(hM, .inr (1, [.int th, .ref aM, .int (nI N), .ref bM])), (aM, .inl (cC, 1000, .inl f2)), (bM, .inl (cD, 1000, .inl as)), (hX, .inr (0, [.ref aX, .ref bX, .int (nI N')])), (aX, .inl (cA, 1000, .inl f1)), (bX, .inl (cB, 1000, .inl g1)), (o, .inl (cO, 1, .inr (.inl oo1)))] H := hP
  have hD : va_D A [(hM, .inr (1, [.int th, .ref aM, .int (nI N), .ref bM])), (aM, .inl (cC, 1000, .inl f2)), (bM, .inl (cD, 1000, .inl as)), (hX, .inr (0, [.ref aX, .ref bX, .int (nI N')])), (aX, .inl (cA, 1000, .inl f1)), (bX, .inl (cB, 1000, .inl g1)), (o, .inl (cO, 1, .inr (.inl oo1)))] := hD
  refine lv_istore (lv' := [(5, .int tt), (0, .ref b), (1, .ref hX), (2, .ref hM), (3, .ref o), (4, .int (nI (4 * q)))]) hx hb dL_law_589 hl (by decide) rfl (fun ls hl => ?_)
  refine lv_aload_n hx hb dL_law_591 rfl (lv_at hl 3 rfl) ?_
  refine lv_aload_n hx hb dL_law_592 rfl (lv_at hl 1 rfl) ?_
  refine lv_iload hx hb dL_law_593 (lv_at hl 5 rfl) ?_
  refine lv_iconst (v := 1) hx hb dL_law_595 (by decide +kernel) ?_
  refine lv_iadd hx hb dL_law_596 ?_
  refine ow_top (z := nI (4 * q + 1)) (nI_1 (4 * q)) ?_
  refine ow_sld (k := 4 * q + 1) hx hb hSc hbl hbA hS (by omega) (by omega) dL_law_597 ?_
  refine ow_calli (wr := [(hX, .inr (0, [.ref aX, .ref bX, .int (nI N')])), (aX, .inl (cA, 1000, .inl f1)), (bX, .inl (cB, 1000, .inl g1)), (o, .inl (cO, 1, .inr (.inl oo1)))]) (va_runV (As := [.int (xs (4 * q + 1))]) (rest := []) ⟨hx, hb, hml, hown, hts⟩ (c_M_place l dC dI hM aM bM cC cD th N L f2 as tt r N' L' _ ok hf2 ((xs (4 * q + 1))) hsp) (cwV 1 hts gT_law_X1_place rfl rfl rfl (by decide +kernel) ⟨Nat.le_of_ble_eq_true rfl, Nat.le_of_ble_eq_true rfl⟩) (ow_PreV (hK.sub (tys' := [(cC, .int), (cD, .int)]) [3, 4] rfl) (hP.sub (ws' := (wM hM aM bM cC cD (th, nI N, f2, as))) [0, 1, 2] rfl) (hD.sub (ws' := (wM hM aM bM cC cD (th, nI N, f2, as))) [0, 1, 2] (by decide) rfl) (ci := 1) (q0 := 0) rfl rfl) rfl rfl hl.1 rfl (lv_room (Nat.le_of_ble_eq_true rfl)) dL_law_598 ⟨by show 8 + q + 0 ≤ 1032; omega, by show 4014 + 6 * q + 0 ≤ 12206; omega⟩) hP hD hS hA [0, 1, 2] [3, 4, 5, 6] rfl rfl (by decide) (by decide) (fun r0 u H locs hw hP hD hS => ?_)
  obtain ⟨v1, v2, v3, v4⟩ := u
  obtain ⟨er, e1, e2, hf9⟩ := hw
  obtain rfl : tt = v1 := e1.symm
  obtain rfl : nI N' = v2 := e2.symm
  refine ow_top (z := r) er ?_
  have hP : va_P (dC, dI) vwCl [(hX, .inr (0, [.ref aX, .ref bX, .int (nI N')])), (aX, .inl (cA, 1000, .inl f1)), (bX, .inl (cB, 1000, .inl g1)), (o, .inl (cO, 1, .inr (.inl oo1))), (hM, .inr (1, [.int tt, .ref aM, .int (nI N'), .ref bM])), (aM, .inl (cC, 1000, .inl v3)), (bM, .inl (cD, 1000, .inl v4))] H := hP
  have hD : va_D A [(hX, .inr (0, [.ref aX, .ref bX, .int (nI N')])), (aX, .inl (cA, 1000, .inl f1)), (bX, .inl (cB, 1000, .inl g1)), (o, .inl (cO, 1, .inr (.inl oo1))), (hM, .inr (1, [.int tt, .ref aM, .int (nI N'), .ref bM])), (aM, .inl (cC, 1000, .inl v3)), (bM, .inl (cD, 1000, .inl v4))] := hD
  refine lv_istore (lv' := [(6, .int r), (5, .int tt), (0, .ref b), (1, .ref hX), (2, .ref hM), (3, .ref o), (4, .int (nI (4 * q)))]) hx hb dL_law_601 hl (by decide) rfl (fun ls hl => ?_)
  refine lv_aload_n hx hb dL_law_603 rfl (lv_at hl 4 rfl) ?_
  refine ow_callR (r := tt) (W.runV (As := []) (rest := []) ⟨hx, hb, hml, hown, htsL⟩ (c_M_thrown l dC dI hM aM bM cC cD tt (nI N') v3 v4) (cwV 0 htsL gL_law_X1_thrown rfl rfl rfl (by decide +kernel) ⟨Nat.le_of_ble_eq_true rfl, Nat.le_of_ble_eq_true rfl⟩) (ow_PreR (hK.sub (tys' := [(cC, .int), (cD, .int)]) [3, 4] rfl) (hP.sub (ws' := (wM hM aM bM cC cD (tt, nI N', v3, v4))) [4, 5, 6] rfl) (ci := 1) (q0 := 0) rfl rfl) rfl rfl hl.1 rfl (lv_room (Nat.le_of_ble_eq_true rfl)) dL_law_604 ⟨by show 8 + q + 0 ≤ 1032; omega, by show 4014 + 6 * q + 0 ≤ 12206; omega⟩) ?_
  refine lv_iload hx hb dL_law_607 (lv_at hl 1 rfl) ?_
  refine lv_icmp_eq (tgt := 614) hx hb dL_law_609 (by decide) (fun c_609 => ?_) (fun c_609 => (c_609 rfl).elim)
  refine lv_iload hx hb dL_law_614 (lv_at hl 1 rfl) ?_
  refine lv_if_ne (tgt := 631) hx hb dL_law_616 (by decide) (fun c_616 => ?_) (fun c_616 => ?_)
  · refine lv_goto (tgt := 763) hx hb dL_law_631 (by decide) ?_
    exact hk N' L' f1 g1 v3 v4 tt oo1 H locs ls ok' hf1 hg1 hf9 (hP.sub [0, 1, 2, 3, 4, 5, 6] rfl) (hD.sub [0, 1, 2, 3, 4, 5, 6] (by decide) rfl) hS (lv_sub hl [2, 3, 4, 5, 6] rfl)
  · refine lv_aload_n hx hb dL_law_619 rfl (lv_at hl 5 rfl) ?_
    refine lv_iconst (v := 0) hx hb dL_law_620 (by decide +kernel) ?_
    refine ow_lald (k := 0) (v := r.toInt64) hx hb hK hP 3 2 rfl rfl nI_0.symm (by decide) (by decide) (hoo c_616) dL_law_621 ?_
    refine lv_iload hx hb dL_law_622 (lv_at hl 0 rfl) ?_
    refine lv_i2l (v := r.toInt64) hx hb dL_law_624 rfl ?_
    refine W.lcmp hx hb dL_law_625 ?_
    refine lv_if_eq (tgt := 631) hx hb dL_law_626 (by decide) (fun c_626 => ?_) (fun c_626 => (c_626 ((lg_cmp_eq _ _).mpr rfl)).elim)
    refine lv_goto (tgt := 763) hx hb dL_law_631 (by decide) ?_
    exact hk N' L' f1 g1 v3 v4 tt oo1 H locs ls ok' hf1 hg1 hf9 (hP.sub [0, 1, 2, 3, 4, 5, 6] rfl) (hD.sub [0, 1, 2, 3, 4, 5, 6] (by decide) rfl) hS (lv_sub hl [2, 3, 4, 5, 6] rfl)
set_option maxHeartbeats 4000000 in
set_option maxRecDepth 100000 in
/-- a call of at -/
theorem law_at {pg : Program} {l : Launch} {ev : Env} {s : State} {m : MethodId} {below : List Frame} {meth : Method} {cd : Code} {b LN : Nat} {xs : Nat → Int32} {dC : Nat → ClassId} {dI : Nat → Nat → Nat} {A : Nat → Prop} {hX aX bX o hM aM bM : Nat} {cA cB cO cC cD : ClassId} {q : Nat} (C0 : lw_At pg s m meth cd b LN xs) (hLN : LN ≤ 2048) (hq : 4 * q + 4 ≤ LN) (hfl : l.flags = flags0) (hK : va_K (dC, dI) vwCl [(cA, .int), (cB, .int), (cO, .long), (cC, .int), (cD, .int)] s) (hA : ∀ q : Nat, s.heap.size ≤ q → A q) (hbA : ¬ A b) (hZs : lw_Zs A s) (hk : lw_inv pg l ev s m below meth cd b dC dI A hX aX bX o hM aM bM cA cB cO cC cD q 763 (8 + q) (4014 + 6 * q)) : lw_inv pg l ev s m below meth cd b dC dI A hX aX bX o hM aM bM cA cB cO cC cD q 634 (7 + q) (4008 + 6 * q) := by
  obtain ⟨hx, hb, hr, hml, hown, hts, hSc, hbl, hlocks, hgv⟩ := C0
  have hown : s.vm.findClass RL = some m.cls := hown
  have htsL : ∀ w ∈ wsL_law, w.before #[Value.ref b] s = true := fun w h => hts w (wsL_law_in w h)
  intro N L f g f2 as th oo H locs ls ok hf hg hf2 hP hD hS hl
  refine W.widen (k := 8 + q) (n := 4014 + 6 * q) (by omega) (by omega) ?_
  obtain ⟨r, hh⟩ := ol_ps_ex ok.2.1 L (xs (4 * q + 1))
  refine lv_aload_n hx hb dL_law_634 rfl (lv_at hl 1 rfl) ?_
  refine lv_aload_n hx hb dL_law_635 rfl (lv_at hl 0 rfl) ?_
  refine lv_iload hx hb dL_law_636 (lv_at hl 4 rfl) ?_
  refine lv_iconst (v := 1) hx hb dL_law_638 (by decide +kernel) ?_
  refine lv_iadd hx hb dL_law_639 ?_
  refine ow_top (z := nI (4 * q + 1)) (nI_1 (4 * q)) ?_
  refine ow_sld (k := 4 * q + 1) hx hb hSc hbl hbA hS (by omega) (by omega) dL_law_640 ?_
  refine ow_callR (r := r) (W.runV (As := [.int (xs (4 * q + 1))]) (rest := []) ⟨hx, hb, hml, hown, htsL⟩ (c_X_at l dC dI hX aX bX cA cB N L f g (xs (4 * q + 1)) r ok hf hh) (cwV 1 htsL gL_law_X0_at rfl rfl rfl (by decide +kernel) ⟨Nat.le_of_ble_eq_true rfl, Nat.le_of_ble_eq_true rfl⟩) (ow_PreR (hK.sub (tys' := [(cA, .int), (cB, .int)]) [0, 1] rfl) (hP.sub (ws' := (wX hX aX bX cA cB (nI N, f, g))) [0, 1, 2] rfl) (ci := 0) (q0 := 0) rfl rfl) rfl rfl hl.1 rfl (lv_room (Nat.le_of_ble_eq_true rfl)) dL_law_641 ⟨by show 8 + q + 0 ≤ 1032; omega, by show 4014 + 6 * q + 0 ≤ 12206; omega⟩) ?_
  refine lv_aload_n hx hb dL_law_644 rfl (lv_at hl 2 rfl) ?_
  refine lv_aload_n hx hb dL_law_645 rfl (lv_at hl 0 rfl) ?_
  refine lv_iload hx hb dL_law_646 (lv_at hl 4 rfl) ?_
  refine lv_iconst (v := 1) hx hb dL_law_648 (by decide +kernel) ?_
  refine lv_iadd hx hb dL_law_649 ?_
  refine ow_top (z := nI (4 * q + 1)) (nI_1 (4 * q)) ?_
  refine ow_sld (k := 4 * q + 1) hx hb hSc hbl hbA hS (by omega) (by omega) dL_law_650 ?_
  refine ow_calli (wr := [(hX, .inr (0, [.ref aX, .ref bX, .int (nI N)])), (aX, .inl (cA, 1000, .inl f)), (bX, .inl (cB, 1000, .inl g)), (o, .inl (cO, 1, .inr (.inl oo)))]) (va_runV (As := [.int (xs (4 * q + 1))]) (rest := [.int r]) ⟨hx, hb, hml, hown, hts⟩ (c_M_at l dC dI hM aM bM cC cD th N L f2 as r _ ok hf2 (xs (4 * q + 1)) hh) (cwV 1 hts gT_law_X1_at rfl rfl rfl (by decide +kernel) ⟨Nat.le_of_ble_eq_true rfl, Nat.le_of_ble_eq_true rfl⟩) (ow_PreV (hK.sub (tys' := [(cC, .int), (cD, .int)]) [3, 4] rfl) (hP.sub (ws' := (wM hM aM bM cC cD (th, nI N, f2, as))) [4, 5, 6] rfl) (hD.sub (ws' := (wM hM aM bM cC cD (th, nI N, f2, as))) [4, 5, 6] (by decide) rfl) (ci := 1) (q0 := 0) rfl rfl) rfl rfl hl.1 rfl (lv_room (Nat.le_of_ble_eq_true rfl)) dL_law_651 ⟨by show 8 + q + 0 ≤ 1032; omega, by show 4014 + 6 * q + 0 ≤ 12206; omega⟩) hP hD hS hA [4, 5, 6] [0, 1, 2, 3] rfl rfl (by decide) (by decide) (fun r0 u H locs hw hP hD hS => ?_)
  obtain ⟨er, eu⟩ := hw
  subst eu
  refine ow_top (z := r) er ?_
  have hP : va_P (dC, dI) vwCl [(hX, .inr (0, [.ref aX, .ref bX, .int (nI N)])), (aX, .inl (cA, 1000, .inl f)), (bX, .inl (cB, 1000, .inl g)), (o, .inl (cO, 1, .inr (.inl oo))), (hM, .inr (1, [.int 0, .ref aM, .int (nI N), .ref bM])), (aM, .inl (cC, 1000, .inl f2)), (bM, .inl (cD, 1000, .inl as))] H := hP
  have hD : va_D A [(hX, .inr (0, [.ref aX, .ref bX, .int (nI N)])), (aX, .inl (cA, 1000, .inl f)), (bX, .inl (cB, 1000, .inl g)), (o, .inl (cO, 1, .inr (.inl oo))), (hM, .inr (1, [.int 0, .ref aM, .int (nI N), .ref bM])), (aM, .inl (cC, 1000, .inl f2)), (bM, .inl (cD, 1000, .inl as))] := hD
  refine lv_icmp_eq (tgt := 763) hx hb dL_law_654 (by decide) (fun c_654 => ?_) (fun c_654 => (c_654 rfl).elim)
  exact hk N L f g f2 as 0 oo H locs ls ok hf hg hf2 (hP.sub [0, 1, 2, 3, 4, 5, 6] rfl) (hD.sub [0, 1, 2, 3, 4, 5, 6] (by decide) rfl) hS (lv_sub hl [0, 1, 2, 3, 4] rfl)
set_option maxHeartbeats 4000000 in
set_option maxRecDepth 100000 in
/-- a call of greatest -/
theorem law_greatest {pg : Program} {l : Launch} {ev : Env} {s : State} {m : MethodId} {below : List Frame} {meth : Method} {cd : Code} {b LN : Nat} {xs : Nat → Int32} {dC : Nat → ClassId} {dI : Nat → Nat → Nat} {A : Nat → Prop} {hX aX bX o hM aM bM : Nat} {cA cB cO cC cD : ClassId} {q : Nat} (C0 : lw_At pg s m meth cd b LN xs) (hLN : LN ≤ 2048) (hq : 4 * q + 4 ≤ LN) (hfl : l.flags = flags0) (hK : va_K (dC, dI) vwCl [(cA, .int), (cB, .int), (cO, .long), (cC, .int), (cD, .int)] s) (hA : ∀ q : Nat, s.heap.size ≤ q → A q) (hbA : ¬ A b) (hZs : lw_Zs A s) (hk : lw_inv pg l ev s m below meth cd b dC dI A hX aX bX o hM aM bM cA cB cO cC cD q 763 (8 + q) (4014 + 6 * q)) : lw_inv pg l ev s m below meth cd b dC dI A hX aX bX o hM aM bM cA cB cO cC cD q 659 (7 + q) (4008 + 6 * q) := by
  obtain ⟨hx, hb, hr, hml, hown, hts, hSc, hbl, hlocks, hgv⟩ := C0
  have hown : s.vm.findClass RL = some m.cls := hown
  have htsL : ∀ w ∈ wsL_law, w.before #[Value.ref b] s = true := fun w h => hts w (wsL_law_in w h)
  intro N L f g f2 as th oo H locs ls ok hf hg hf2 hP hD hS hl
  refine lv_aload_n hx hb dL_law_659 rfl (lv_at hl 1 rfl) ?_
  refine lv_aload_n hx hb dL_law_660 rfl (lv_at hl 0 rfl) ?_
  refine lv_iload hx hb dL_law_661 (lv_at hl 4 rfl) ?_
  refine lv_iconst (v := 1) hx hb dL_law_663 (by decide +kernel) ?_
  refine lv_iadd hx hb dL_law_664 ?_
  refine ow_top (z := nI (4 * q + 1)) (nI_1 (4 * q)) ?_
  refine ow_sld (k := 4 * q + 1) hx hb hSc hbl hbA hS (by omega) (by omega) dL_law_665 ?_
  refine lv_aload_n hx hb dL_law_666 rfl (lv_at hl 0 rfl) ?_
  refine lv_iload hx hb dL_law_667 (lv_at hl 4 rfl) ?_
  refine lv_iconst (v := nI 2) hx hb dL_law_669 (by decide +kernel) ?_
  refine lv_iadd hx hb dL_law_670 ?_
  refine ow_top (z := nI (4 * q + 2)) (nI_add (4 * q) 2) ?_
  refine ow_sld (k := 4 * q + 2) hx hb hSc hbl hbA hS (by omega) (by omega) dL_law_671 ?_
  refine lv_aload_n hx hb dL_law_672 rfl (lv_at hl 3 rfl) ?_
  obtain ⟨tt, r, N', L', hsp, ok'⟩ := ex_greatest ok ((xs (4 * q + 1))) ((xs (4 * q + 2)))
  refine ow_calli (wr := [(hM, .inr (1, [.int th, .ref aM, .int (nI N), .ref bM])), (aM, .inl (cC, 1000, .inl f2)), (bM, .inl (cD, 1000, .inl as))]) (vx_runSW (As := [.ref hX, .int (xs (4 * q + 1)), .int (xs (4 * q + 2)), .ref o]) (rest := []) ⟨hx, hb, hml, hown, htsL⟩ (c_L_greatest l dC dI hfl hX aX bX o cA cB cO N L f g oo tt r N' L' _ ok hf hg ((xs (4 * q + 1))) ((xs (4 * q + 2))) hsp) (vx_cwSW 4 htsL gL_law_L_greatest rfl rfl rfl (by decide +kernel) ⟨Nat.le_of_ble_eq_true rfl, Nat.le_of_ble_eq_true rfl⟩) (ow_PreSx (hK.sub (tys' := [(cA, .int), (cB, .int), (cO, .long)]) [0, 1, 2] rfl) (hP.sub (ws' := (wO hX aX bX o cA cB cO ((nI N, f, g), oo))) [0, 1, 2, 3] rfl) (hD.sub (ws' := (wO hX aX bX o cA cB cO ((nI N, f, g), oo))) [0, 1, 2, 3] (by decide) rfl) hZs hS) rfl rfl hl.1 rfl (lv_room (Nat.le_of_ble_eq_true rfl)) dL_law_673 ⟨by show 7 + q + 1 ≤ 1032; omega, by show 4008 + 6 * q + 6 ≤ 12206; omega⟩) hP hD hS hA [0, 1, 2, 3] [4, 5, 6] rfl rfl (by decide) (by decide) (fun r0 u H locs hw hP hD hS => ?_)
  refine W.widen (k := 8 + q) (n := 4014 + 6 * q) (by omega) (by omega) ?_
  obtain ⟨⟨a1, f1, g1⟩, oo1⟩ := u
  obtain ⟨er, hoo, e1, hf1, hg1⟩ := hw
  obtain rfl : nI N' = a1 := e1.symm
  refine ow_top (z := tt) er ?_
  have hP : va_P (dC, dI) vwCl [(hM, .inr (1, [.int th, .ref aM, .int (nI N), .ref bM])), (aM, .inl (cC, 1000, .inl f2)), (bM, .inl (cD, 1000, .inl as)), (hX, .inr (0, [.ref aX, .ref bX, .int (nI N')])), (aX, .inl (cA, 1000, .inl f1)), (bX, .inl (cB, 1000, .inl g1)), (o, .inl (cO, 1, .inr (.inl oo1)))] H := hP
  have hD : va_D A [(hM, .inr (1, [.int th, .ref aM, .int (nI N), .ref bM])), (aM, .inl (cC, 1000, .inl f2)), (bM, .inl (cD, 1000, .inl as)), (hX, .inr (0, [.ref aX, .ref bX, .int (nI N')])), (aX, .inl (cA, 1000, .inl f1)), (bX, .inl (cB, 1000, .inl g1)), (o, .inl (cO, 1, .inr (.inl oo1)))] := hD
  refine lv_istore (lv' := [(5, .int tt), (0, .ref b), (1, .ref hX), (2, .ref hM), (3, .ref o), (4, .int (nI (4 * q)))]) hx hb dL_law_676 hl (by decide) rfl (fun ls hl => ?_)
  refine lv_aload_n hx hb dL_law_678 rfl (lv_at hl 3 rfl) ?_
  refine lv_aload_n hx hb dL_law_679 rfl (lv_at hl 1 rfl) ?_
  refine lv_iload hx hb dL_law_680 (lv_at hl 5 rfl) ?_
  refine lv_iconst (v := 1) hx hb dL_law_682 (by decide +kernel) ?_
  refine lv_iadd hx hb dL_law_683 ?_
  refine ow_top (z := nI (4 * q + 1)) (nI_1 (4 * q)) ?_
  refine ow_sld (k := 4 * q + 1) hx hb hSc hbl hbA hS (by omega) (by omega) dL_law_684 ?_
  refine lv_aload_n hx hb dL_law_685 rfl (lv_at hl 1 rfl) ?_
  refine lv_iload hx hb dL_law_686 (lv_at hl 5 rfl) ?_
  refine lv_iconst (v := nI 2) hx hb dL_law_688 (by decide +kernel) ?_
  refine lv_iadd hx hb dL_law_689 ?_
  refine ow_top (z := nI (4 * q + 2)) (nI_add (4 * q) 2) ?_
  refine ow_sld (k := 4 * q + 2) hx hb hSc hbl hbA hS (by omega) (by omega) dL_law_690 ?_
  refine ow_calli (wr := [(hX, .inr (0, [.ref aX, .ref bX, .int (nI N')])), (aX, .inl (cA, 1000, .inl f1)), (bX, .inl (cB, 1000, .inl g1)), (o, .inl (cO, 1, .inr (.inl oo1)))]) (va_runV (As := [.int (xs (4 * q + 1)), .int (xs (4 * q + 2))]) (rest := []) ⟨hx, hb, hml, hown, hts⟩ (c_M_greatest l dC dI hM aM bM cC cD th N L f2 as tt r N' L' _ ok hf2 ((xs (4 * q + 1))) ((xs (4 * q + 2))) hsp) (cwV 2 hts gT_law_X1_greatest rfl rfl rfl (by decide +kernel) ⟨Nat.le_of_ble_eq_true rfl, Nat.le_of_ble_eq_true rfl⟩) (ow_PreV (hK.sub (tys' := [(cC, .int), (cD, .int)]) [3, 4] rfl) (hP.sub (ws' := (wM hM aM bM cC cD (th, nI N, f2, as))) [0, 1, 2] rfl) (hD.sub (ws' := (wM hM aM bM cC cD (th, nI N, f2, as))) [0, 1, 2] (by decide) rfl) (ci := 1) (q0 := 0) rfl rfl) rfl rfl hl.1 rfl (lv_room (Nat.le_of_ble_eq_true rfl)) dL_law_691 ⟨by show 8 + q + 0 ≤ 1032; omega, by show 4014 + 6 * q + 0 ≤ 12206; omega⟩) hP hD hS hA [0, 1, 2] [3, 4, 5, 6] rfl rfl (by decide) (by decide) (fun r0 u H locs hw hP hD hS => ?_)
  obtain ⟨v1, v2, v3, v4⟩ := u
  obtain ⟨er, e1, e2, hf9⟩ := hw
  obtain rfl : tt = v1 := e1.symm
  obtain rfl : nI N' = v2 := e2.symm
  refine ow_top (z := r) er ?_
  have hP : va_P (dC, dI) vwCl [(hX, .inr (0, [.ref aX, .ref bX, .int (nI N')])), (aX, .inl (cA, 1000, .inl f1)), (bX, .inl (cB, 1000, .inl g1)), (o, .inl (cO, 1, .inr (.inl oo1))), (hM, .inr (1, [.int tt, .ref aM, .int (nI N'), .ref bM])), (aM, .inl (cC, 1000, .inl v3)), (bM, .inl (cD, 1000, .inl v4))] H := hP
  have hD : va_D A [(hX, .inr (0, [.ref aX, .ref bX, .int (nI N')])), (aX, .inl (cA, 1000, .inl f1)), (bX, .inl (cB, 1000, .inl g1)), (o, .inl (cO, 1, .inr (.inl oo1))), (hM, .inr (1, [.int tt, .ref aM, .int (nI N'), .ref bM])), (aM, .inl (cC, 1000, .inl v3)), (bM, .inl (cD, 1000, .inl v4))] := hD
  refine lv_istore (lv' := [(6, .int r), (5, .int tt), (0, .ref b), (1, .ref hX), (2, .ref hM), (3, .ref o), (4, .int (nI (4 * q)))]) hx hb dL_law_694 hl (by decide) rfl (fun ls hl => ?_)
  refine lv_aload_n hx hb dL_law_696 rfl (lv_at hl 4 rfl) ?_
  refine ow_callR (r := tt) (W.runV (As := []) (rest := []) ⟨hx, hb, hml, hown, htsL⟩ (c_M_thrown l dC dI hM aM bM cC cD tt (nI N') v3 v4) (cwV 0 htsL gL_law_X1_thrown rfl rfl rfl (by decide +kernel) ⟨Nat.le_of_ble_eq_true rfl, Nat.le_of_ble_eq_true rfl⟩) (ow_PreR (hK.sub (tys' := [(cC, .int), (cD, .int)]) [3, 4] rfl) (hP.sub (ws' := (wM hM aM bM cC cD (tt, nI N', v3, v4))) [4, 5, 6] rfl) (ci := 1) (q0 := 0) rfl rfl) rfl rfl hl.1 rfl (lv_room (Nat.le_of_ble_eq_true rfl)) dL_law_697 ⟨by show 8 + q + 0 ≤ 1032; omega, by show 4014 + 6 * q + 0 ≤ 12206; omega⟩) ?_
  refine lv_iload hx hb dL_law_700 (lv_at hl 1 rfl) ?_
  refine lv_icmp_eq (tgt := 707) hx hb dL_law_702 (by decide) (fun c_702 => ?_) (fun c_702 => (c_702 rfl).elim)
  refine lv_iload hx hb dL_law_707 (lv_at hl 1 rfl) ?_
  refine lv_if_ne (tgt := 724) hx hb dL_law_709 (by decide) (fun c_709 => ?_) (fun c_709 => ?_)
  · refine lv_goto (tgt := 763) hx hb dL_law_724 (by decide) ?_
    exact hk N' L' f1 g1 v3 v4 tt oo1 H locs ls ok' hf1 hg1 hf9 (hP.sub [0, 1, 2, 3, 4, 5, 6] rfl) (hD.sub [0, 1, 2, 3, 4, 5, 6] (by decide) rfl) hS (lv_sub hl [2, 3, 4, 5, 6] rfl)
  · refine lv_aload_n hx hb dL_law_712 rfl (lv_at hl 5 rfl) ?_
    refine lv_iconst (v := 0) hx hb dL_law_713 (by decide +kernel) ?_
    refine ow_lald (k := 0) (v := r.toInt64) hx hb hK hP 3 2 rfl rfl nI_0.symm (by decide) (by decide) (hoo c_709) dL_law_714 ?_
    refine lv_iload hx hb dL_law_715 (lv_at hl 0 rfl) ?_
    refine lv_i2l (v := r.toInt64) hx hb dL_law_717 rfl ?_
    refine W.lcmp hx hb dL_law_718 ?_
    refine lv_if_eq (tgt := 724) hx hb dL_law_719 (by decide) (fun c_719 => ?_) (fun c_719 => (c_719 ((lg_cmp_eq _ _).mpr rfl)).elim)
    refine lv_goto (tgt := 763) hx hb dL_law_724 (by decide) ?_
    exact hk N' L' f1 g1 v3 v4 tt oo1 H locs ls ok' hf1 hg1 hf9 (hP.sub [0, 1, 2, 3, 4, 5, 6] rfl) (hD.sub [0, 1, 2, 3, 4, 5, 6] (by decide) rfl) hS (lv_sub hl [2, 3, 4, 5, 6] rfl)
set_option maxHeartbeats 4000000 in
set_option maxRecDepth 100000 in
/-- a call of wipe -/
theorem law_wipe {pg : Program} {l : Launch} {ev : Env} {s : State} {m : MethodId} {below : List Frame} {meth : Method} {cd : Code} {b LN : Nat} {xs : Nat → Int32} {dC : Nat → ClassId} {dI : Nat → Nat → Nat} {A : Nat → Prop} {hX aX bX o hM aM bM : Nat} {cA cB cO cC cD : ClassId} {q : Nat} (C0 : lw_At pg s m meth cd b LN xs) (hLN : LN ≤ 2048) (hq : 4 * q + 4 ≤ LN) (hfl : l.flags = flags0) (hK : va_K (dC, dI) vwCl [(cA, .int), (cB, .int), (cO, .long), (cC, .int), (cD, .int)] s) (hA : ∀ q : Nat, s.heap.size ≤ q → A q) (hbA : ¬ A b) (hZs : lw_Zs A s) (hk : lw_inv pg l ev s m below meth cd b dC dI A hX aX bX o hM aM bM cA cB cO cC cD q 763 (8 + q) (4014 + 6 * q)) : lw_inv pg l ev s m below meth cd b dC dI A hX aX bX o hM aM bM cA cB cO cC cD q 727 (7 + q) (4008 + 6 * q) := by
  obtain ⟨hx, hb, hr, hml, hown, hts, hSc, hbl, hlocks, hgv⟩ := C0
  have hown : s.vm.findClass RL = some m.cls := hown
  have htsL : ∀ w ∈ wsL_law, w.before #[Value.ref b] s = true := fun w h => hts w (wsL_law_in w h)
  intro N L f g f2 as th oo H locs ls ok hf hg hf2 hP hD hS hl
  refine W.widen (k := 8 + q) (n := 4014 + 6 * q) (by omega) (by omega) ?_
  refine lv_aload_n hx hb dL_law_727 rfl (lv_at hl 1 rfl) ?_
  refine ow_callv (wr := [(o, .inl (cO, 1, .inr (.inl oo))), (hM, .inr (1, [.int th, .ref aM, .int (nI N), .ref bM])), (aM, .inl (cC, 1000, .inl f2)), (bM, .inl (cD, 1000, .inl as))]) (va_runV (As := []) (rest := []) ⟨hx, hb, hml, hown, htsL⟩ (c_X_wipe l dC dI hX aX bX cA cB N L f g _ ok hf hg) (cwV 0 htsL gL_law_X0_wipe rfl rfl rfl (by decide +kernel) ⟨Nat.le_of_ble_eq_true rfl, Nat.le_of_ble_eq_true rfl⟩) (ow_PreV (hK.sub (tys' := [(cA, .int), (cB, .int)]) [0, 1] rfl) (hP.sub (ws' := (wX hX aX bX cA cB (nI N, f, g))) [0, 1, 2] rfl) (hD.sub (ws' := (wX hX aX bX cA cB (nI N, f, g))) [0, 1, 2] (by decide) rfl) (ci := 0) (q0 := 0) rfl rfl) rfl rfl hl.1 rfl (lv_room (Nat.le_of_ble_eq_true rfl)) dL_law_728 ⟨by show 8 + q + 0 ≤ 1032; omega, by show 4014 + 6 * q + 0 ≤ 12206; omega⟩) hP hD hS hA [0, 1, 2] [3, 4, 5, 6] rfl rfl (by decide) (by decide) (fun u H locs hw hP hD hS => ?_)
  obtain ⟨a1, f1, g1⟩ := u
  obtain ⟨e1, hf1, hg1⟩ := hw
  obtain rfl : nI 1 = a1 := e1.symm
  have hP : va_P (dC, dI) vwCl [(o, .inl (cO, 1, .inr (.inl oo))), (hM, .inr (1, [.int th, .ref aM, .int (nI N), .ref bM])), (aM, .inl (cC, 1000, .inl f2)), (bM, .inl (cD, 1000, .inl as)), (hX, .inr (0, [.ref aX, .ref bX, .int (nI 1)])), (aX, .inl (cA, 1000, .inl f1)), (bX, .inl (cB, 1000, .inl g1))] H := hP
  have hD : va_D A [(o, .inl (cO, 1, .inr (.inl oo))), (hM, .inr (1, [.int th, .ref aM, .int (nI N), .ref bM])), (aM, .inl (cC, 1000, .inl f2)), (bM, .inl (cD, 1000, .inl as)), (hX, .inr (0, [.ref aX, .ref bX, .int (nI 1)])), (aX, .inl (cA, 1000, .inl f1)), (bX, .inl (cB, 1000, .inl g1))] := hD
  refine lv_aload_n hx hb dL_law_731 rfl (lv_at hl 2 rfl) ?_
  refine ow_callv (wr := [(o, .inl (cO, 1, .inr (.inl oo))), (hX, .inr (0, [.ref aX, .ref bX, .int (nI 1)])), (aX, .inl (cA, 1000, .inl f1)), (bX, .inl (cB, 1000, .inl g1))]) (va_runV (As := []) (rest := []) ⟨hx, hb, hml, hown, hts⟩ (c_M_wipe l dC dI hM aM bM cC cD th N L f2 as _ ok hf2) (cwV 0 hts gT_law_X1_wipe rfl rfl rfl (by decide +kernel) ⟨Nat.le_of_ble_eq_true rfl, Nat.le_of_ble_eq_true rfl⟩) (ow_PreV (hK.sub (tys' := [(cC, .int), (cD, .int)]) [3, 4] rfl) (hP.sub (ws' := (wM hM aM bM cC cD (th, nI N, f2, as))) [1, 2, 3] rfl) (hD.sub (ws' := (wM hM aM bM cC cD (th, nI N, f2, as))) [1, 2, 3] (by decide) rfl) (ci := 1) (q0 := 0) rfl rfl) rfl rfl hl.1 rfl (lv_room (Nat.le_of_ble_eq_true rfl)) dL_law_732 ⟨by show 8 + q + 0 ≤ 1032; omega, by show 4014 + 6 * q + 0 ≤ 12206; omega⟩) hP hD hS hA [1, 2, 3] [0, 4, 5, 6] rfl rfl (by decide) (by decide) (fun u H locs hw hP hD hS => ?_)
  obtain ⟨v1, v2, v3, v4⟩ := u
  obtain ⟨e1, e2, hf9⟩ := hw
  obtain rfl : 0 = v1 := e1.symm
  obtain rfl : nI 1 = v2 := e2.symm
  have hP : va_P (dC, dI) vwCl [(o, .inl (cO, 1, .inr (.inl oo))), (hX, .inr (0, [.ref aX, .ref bX, .int (nI 1)])), (aX, .inl (cA, 1000, .inl f1)), (bX, .inl (cB, 1000, .inl g1)), (hM, .inr (1, [.int 0, .ref aM, .int (nI 1), .ref bM])), (aM, .inl (cC, 1000, .inl v3)), (bM, .inl (cD, 1000, .inl v4))] H := hP
  have hD : va_D A [(o, .inl (cO, 1, .inr (.inl oo))), (hX, .inr (0, [.ref aX, .ref bX, .int (nI 1)])), (aX, .inl (cA, 1000, .inl f1)), (bX, .inl (cB, 1000, .inl g1)), (hM, .inr (1, [.int 0, .ref aM, .int (nI 1), .ref bM])), (aM, .inl (cC, 1000, .inl v3)), (bM, .inl (cD, 1000, .inl v4))] := hD
  refine lv_goto (tgt := 763) hx hb dL_law_735 (by decide) ?_
  exact hk 1 L f1 g1 v3 v4 0 oo H locs ls (ol_ok_1 ok) hf1 hg1 hf9 (hP.sub [1, 2, 3, 0, 4, 5, 6] rfl) (hD.sub [1, 2, 3, 0, 4, 5, 6] (by decide) rfl) hS (lv_sub hl [0, 1, 2, 3, 4] rfl)
set_option maxHeartbeats 4000000 in
set_option maxRecDepth 100000 in
/-- a call of look -/
theorem law_look {pg : Program} {l : Launch} {ev : Env} {s : State} {m : MethodId} {below : List Frame} {meth : Method} {cd : Code} {b LN : Nat} {xs : Nat → Int32} {dC : Nat → ClassId} {dI : Nat → Nat → Nat} {A : Nat → Prop} {hX aX bX o hM aM bM : Nat} {cA cB cO cC cD : ClassId} {q : Nat} (C0 : lw_At pg s m meth cd b LN xs) (hLN : LN ≤ 2048) (hq : 4 * q + 4 ≤ LN) (hfl : l.flags = flags0) (hK : va_K (dC, dI) vwCl [(cA, .int), (cB, .int), (cO, .long), (cC, .int), (cD, .int)] s) (hA : ∀ q : Nat, s.heap.size ≤ q → A q) (hbA : ¬ A b) (hZs : lw_Zs A s) (hk : lw_inv pg l ev s m below meth cd b dC dI A hX aX bX o hM aM bM cA cB cO cC cD q 763 (8 + q) (4014 + 6 * q)) : lw_inv pg l ev s m below meth cd b dC dI A hX aX bX o hM aM bM cA cB cO cC cD q 738 (7 + q) (4008 + 6 * q) := by
  obtain ⟨hx, hb, hr, hml, hown, hts, hSc, hbl, hlocks, hgv⟩ := C0
  have hown : s.vm.findClass RL = some m.cls := hown
  have htsL : ∀ w ∈ wsL_law, w.before #[Value.ref b] s = true := fun w h => hts w (wsL_law_in w h)
  intro N L f g f2 as th oo H locs ls ok hf hg hf2 hP hD hS hl
  refine W.widen (k := 8 + q) (n := 4014 + 6 * q) (by omega) (by omega) ?_
  refine lv_aload_n hx hb dL_law_738 rfl (lv_at hl 1 rfl) ?_
  refine lv_aload_n hx hb dL_law_739 rfl (lv_at hl 0 rfl) ?_
  refine lv_iload hx hb dL_law_740 (lv_at hl 4 rfl) ?_
  refine lv_iconst (v := 1) hx hb dL_law_742 (by decide +kernel) ?_
  refine lv_iadd hx hb dL_law_743 ?_
  refine ow_top (z := nI (4 * q + 1)) (nI_1 (4 * q)) ?_
  refine ow_sld (k := 4 * q + 1) hx hb hSc hbl hbA hS (by omega) (by omega) dL_law_744 ?_
  refine ow_callR (r := ol_lk N L (xs (4 * q + 1))) (W.runV (As := [.int (xs (4 * q + 1))]) (rest := []) ⟨hx, hb, hml, hown, htsL⟩ (c_X_look l dC dI hX aX bX cA cB N L f g (xs (4 * q + 1)) ok hf hg) (cwV 1 htsL gL_law_X0_look rfl rfl rfl (by decide +kernel) ⟨Nat.le_of_ble_eq_true rfl, Nat.le_of_ble_eq_true rfl⟩) (ow_PreR (hK.sub (tys' := [(cA, .int), (cB, .int)]) [0, 1] rfl) (hP.sub (ws' := (wX hX aX bX cA cB (nI N, f, g))) [0, 1, 2] rfl) (ci := 0) (q0 := 0) rfl rfl) rfl rfl hl.1 rfl (lv_room (Nat.le_of_ble_eq_true rfl)) dL_law_745 ⟨by show 8 + q + 0 ≤ 1032; omega, by show 4014 + 6 * q + 0 ≤ 12206; omega⟩) ?_
  refine lv_aload_n hx hb dL_law_748 rfl (lv_at hl 2 rfl) ?_
  refine lv_aload_n hx hb dL_law_749 rfl (lv_at hl 0 rfl) ?_
  refine lv_iload hx hb dL_law_750 (lv_at hl 4 rfl) ?_
  refine lv_iconst (v := 1) hx hb dL_law_752 (by decide +kernel) ?_
  refine lv_iadd hx hb dL_law_753 ?_
  refine ow_top (z := nI (4 * q + 1)) (nI_1 (4 * q)) ?_
  refine ow_sld (k := 4 * q + 1) hx hb hSc hbl hbA hS (by omega) (by omega) dL_law_754 ?_
  refine ow_calli (wr := [(hX, .inr (0, [.ref aX, .ref bX, .int (nI N)])), (aX, .inl (cA, 1000, .inl f)), (bX, .inl (cB, 1000, .inl g)), (o, .inl (cO, 1, .inr (.inl oo)))]) (va_runV (As := [.int (xs (4 * q + 1))]) (rest := [.int (ol_lk N L (xs (4 * q + 1)))]) ⟨hx, hb, hml, hown, hts⟩ (c_M_look l dC dI hM aM bM cC cD th N L f2 as _ ok hf2 (xs (4 * q + 1))) (cwV 1 hts gT_law_X1_look rfl rfl rfl (by decide +kernel) ⟨Nat.le_of_ble_eq_true rfl, Nat.le_of_ble_eq_true rfl⟩) (ow_PreV (hK.sub (tys' := [(cC, .int), (cD, .int)]) [3, 4] rfl) (hP.sub (ws' := (wM hM aM bM cC cD (th, nI N, f2, as))) [4, 5, 6] rfl) (hD.sub (ws' := (wM hM aM bM cC cD (th, nI N, f2, as))) [4, 5, 6] (by decide) rfl) (ci := 1) (q0 := 0) rfl rfl) rfl rfl hl.1 rfl (lv_room (Nat.le_of_ble_eq_true rfl)) dL_law_755 ⟨by show 8 + q + 0 ≤ 1032; omega, by show 4014 + 6 * q + 0 ≤ 12206; omega⟩) hP hD hS hA [4, 5, 6] [0, 1, 2, 3] rfl rfl (by decide) (by decide) (fun r0 u H locs hw hP hD hS => ?_)
  obtain ⟨er, eu⟩ := hw
  subst eu
  refine ow_top (z := ol_lk N L (xs (4 * q + 1))) er ?_
  have hP : va_P (dC, dI) vwCl [(hX, .inr (0, [.ref aX, .ref bX, .int (nI N)])), (aX, .inl (cA, 1000, .inl f)), (bX, .inl (cB, 1000, .inl g)), (o, .inl (cO, 1, .inr (.inl oo))), (hM, .inr (1, [.int 0, .ref aM, .int (nI N), .ref bM])), (aM, .inl (cC, 1000, .inl f2)), (bM, .inl (cD, 1000, .inl as))] H := hP
  have hD : va_D A [(hX, .inr (0, [.ref aX, .ref bX, .int (nI N)])), (aX, .inl (cA, 1000, .inl f)), (bX, .inl (cB, 1000, .inl g)), (o, .inl (cO, 1, .inr (.inl oo))), (hM, .inr (1, [.int 0, .ref aM, .int (nI N), .ref bM])), (aM, .inl (cC, 1000, .inl f2)), (bM, .inl (cD, 1000, .inl as))] := hD
  refine lv_icmp_eq (tgt := 763) hx hb dL_law_758 (by decide) (fun c_758 => ?_) (fun c_758 => (c_758 rfl).elim)
  exact hk N L f g f2 as 0 oo H locs ls ok hf hg hf2 (hP.sub [0, 1, 2, 3, 4, 5, 6] rfl) (hD.sub [0, 1, 2, 3, 4, 5, 6] (by decide) rfl) hS (lv_sub hl [0, 1, 2, 3, 4] rfl)
end
section
set_option maxHeartbeats 4000000 in
set_option maxRecDepth 100000 in
/-- the law's loop, from its head -/
theorem law_loop {pg : Program} {l : Launch} {ev : Env} {s : State} {m : MethodId} {below : List Frame} {meth : Method} {cd : Code} {b LN : Nat} {xs : Nat → Int32} {dC : Nat → ClassId} {dI : Nat → Nat → Nat} {A : Nat → Prop} {hX aX bX o hM aM bM : Nat} {cA cB cO cC cD : ClassId} (C0 : lw_At pg s m meth cd b LN xs) (hLN : LN ≤ 2048) (hfl : l.flags = flags0) (hK : va_K (dC, dI) vwCl [(cA, .int), (cB, .int), (cO, .long), (cC, .int), (cD, .int)] s) (hA : ∀ q : Nat, s.heap.size ≤ q → A q) (hbA : ¬ A b) (hZs : lw_Zs A s) (hAs : ∀ q : Nat, A q → s.heap.size ≤ q) : ∀ (k q : Nat), LN < 4 * q + k → 4 * q ≤ LN → lw_inv pg l ev s m below meth cd b dC dI A hX aX bX o hM aM bM cA cB cO cC cD q 23 (7 + q) (4008 + 6 * q) := by
  obtain ⟨hx, hb, hr, hml, hown, hts, hSc, hbl, hlocks, hgv⟩ := id C0
  have hown : s.vm.findClass RL = some m.cls := hown
  have htsL : ∀ w ∈ wsL_law, w.before #[Value.ref b] s = true := fun w h => hts w (wsL_law_in w h)
  intro k
  induction k with
  | zero =>
    intro q h1 h2
    exact absurd h1 (by omega)
  | succ k ih =>
    intro q h1 h2
    have h763 : 4 * q + 4 ≤ LN → lw_inv pg l ev s m below meth cd b dC dI A hX aX bX o hM aM bM cA cB cO cC cD q 763 (8 + q) (4014 + 6 * q) := by
      intro hq N L f g f2 as th oo H locs ls ok hf hg hf2 hP hD hS hl
      have he : nI (4 * q) + Int32.ofInt 4 = nI (4 * (q + 1)) := (congrArg (fun z => nI (4 * q) + z) (by decide +kernel : Int32.ofInt 4 = nI 4)).trans (nI_add (4 * q) 4)
      refine lv_iinc (v := nI (4 * (q + 1))) (lv' := [(4, .int (nI (4 * (q + 1)))), (0, .ref b), (1, .ref hX), (2, .ref hM), (3, .ref o)]) hx hb dL_law_763 hl (k := 4) rfl he (by decide) rfl (fun ls hl => ?_)
      refine lv_goto (tgt := 23) hx hb dL_law_766 (by decide) ?_
      refine W.widen (k := 7 + (q + 1)) (n := 4008 + 6 * (q + 1)) (by omega) (by omega) ?_
      exact ih (q + 1) (by omega) (by omega) N L f g f2 as th oo H locs ls ok hf hg hf2 hP hD hS (lv_sub hl [1, 2, 3, 4, 0] rfl)
    intro N L f g f2 as th oo H locs ls ok hf hg hf2 hP hD hS hl
    refine lv_iload hx hb dL_law_23 (lv_at hl 4 rfl) ?_
    refine lv_aload_n hx hb dL_law_25 rfl (lv_at hl 0 rfl) ?_
    refine va_slen hx hb hSc hbl hbA hS dL_law_26 ?_
    refine ow_top (z := nI LN) rfl ?_
    refine lv_iconst (v := nI 4) hx hb dL_law_27 (by decide +kernel) ?_
    refine lv_isub hx hb dL_law_28 ?_
    refine lv_icmp_gt (tgt := 769) hx hb dL_law_29 (by decide) (fun c_29 => ?_) (fun c_29 => ?_)
    · refine va_forget (fun q hq => hAs _ (hS.2.2 q hq)) ?_
      refine W.widen (k := 1032) (n := 12206) (by omega) (by omega) ?_
      refine lv_iconst (v := 1) hx hb dL_law_769 (by decide +kernel) ?_
      exact lw_ret hx hb hr hlocks dL_law_770
    · have hq : 4 * q + 4 ≤ LN := ol_lh hLN (by omega) c_29
      have h763 := h763 hq
      refine lv_aload_n hx hb dL_law_32 rfl (lv_at hl 0 rfl) ?_
      refine lv_iload hx hb dL_law_33 (lv_at hl 4 rfl) ?_
      refine ow_sld (k := 4 * q) hx hb hSc hbl hbA hS (by omega) (by omega) dL_law_35 ?_
      refine lv_bipush (v := 15) hx hb dL_law_36 (by decide +kernel) ?_
      refine lv_iand hx hb dL_law_38 ?_
      obtain ⟨j, hj, ej⟩ := pk_andE (xs (4 * q)) (m := 15) 4 (by decide)
      refine ow_top (z := nI j) ej ?_
      by_cases h13 : 13 ≤ j
      · refine lv_tableOut (tgt := 763) hx hb dL_law_39 (Or.inr (by rw [nI_toInt (by omega)]; omega)) (by decide) ?_
        refine W.widen (k := 8 + q) (n := 4014 + 6 * q) (by omega) (by omega) ?_
        exact h763 N L f g f2 as th oo H locs ls ok hf hg hf2 hP hD hS hl
      · rcases (show j = 0 ∨ j = 1 ∨ j = 2 ∨ j = 3 ∨ j = 4 ∨ j = 5 ∨ j = 6 ∨ j = 7 ∨ j = 8 ∨ j = 9 ∨ j = 10 ∨ j = 11 ∨ j = 12 by omega) with rfl | rfl | rfl | rfl | rfl | rfl | rfl | rfl | rfl | rfl | rfl | rfl | rfl
        · refine lv_tableIn (off := 65) (tgt := 104) hx hb dL_law_39 (by decide +kernel) (by decide +kernel) (by decide +kernel) (by decide) ?_
          exact law_behind C0 hLN hq hfl hK hA hbA hZs h763 N L f g f2 as th oo H locs ls ok hf hg hf2 hP hD hS hl
        · refine lv_tableIn (off := 121) (tgt := 160) hx hb dL_law_39 (by decide +kernel) (by decide +kernel) (by decide +kernel) (by decide) ?_
          exact law_several C0 hLN hq hfl hK hA hbA hZs h763 N L f g f2 as th oo H locs ls ok hf hg hf2 hP hD hS hl
        · refine lv_tableIn (off := 189) (tgt := 228) hx hb dL_law_39 (by decide +kernel) (by decide +kernel) (by decide +kernel) (by decide) ?_
          exact law_remove C0 hLN hq hfl hK hA hbA hZs h763 N L f g f2 as th oo H locs ls ok hf hg hf2 hP hD hS hl
        · refine lv_tableIn (off := 214) (tgt := 253) hx hb dL_law_39 (by decide +kernel) (by decide +kernel) (by decide +kernel) (by decide) ?_
          exact law_clear C0 hLN hq hfl hK hA hbA hZs h763 N L f g f2 as th oo H locs ls ok hf hg hf2 hP hD hS hl
        · refine lv_tableIn (off := 282) (tgt := 321) hx hb dL_law_39 (by decide +kernel) (by decide +kernel) (by decide +kernel) (by decide) ?_
          exact law_carry C0 hLN hq hfl hK hA hbA hZs h763 N L f g f2 as th oo H locs ls ok hf hg hf2 hP hD hS hl
        · refine lv_tableIn (off := 362) (tgt := 401) hx hb dL_law_39 (by decide +kernel) (by decide +kernel) (by decide +kernel) (by decide) ?_
          exact law_compare C0 hLN hq hfl hK hA hbA hZs h763 N L f g f2 as th oo H locs ls ok hf hg hf2 hP hD hS hl
        · refine lv_tableIn (off := 430) (tgt := 469) hx hb dL_law_39 (by decide +kernel) (by decide +kernel) (by decide +kernel) (by decide) ?_
          exact law_next C0 hLN hq hfl hK hA hbA hZs h763 N L f g f2 as th oo H locs ls ok hf hg hf2 hP hD hS hl
        · refine lv_tableIn (off := 514) (tgt := 553) hx hb dL_law_39 (by decide +kernel) (by decide +kernel) (by decide +kernel) (by decide) ?_
          exact law_has C0 hLN hq hfl hK hA hbA hZs h763 N L f g f2 as th oo H locs ls ok hf hg hf2 hP hD hS hl
        · refine lv_tableIn (off := 539) (tgt := 578) hx hb dL_law_39 (by decide +kernel) (by decide +kernel) (by decide +kernel) (by decide) ?_
          exact law_place C0 hLN hq hfl hK hA hbA hZs h763 N L f g f2 as th oo H locs ls ok hf hg hf2 hP hD hS hl
        · refine lv_tableIn (off := 595) (tgt := 634) hx hb dL_law_39 (by decide +kernel) (by decide +kernel) (by decide +kernel) (by decide) ?_
          exact law_at C0 hLN hq hfl hK hA hbA hZs h763 N L f g f2 as th oo H locs ls ok hf hg hf2 hP hD hS hl
        · refine lv_tableIn (off := 620) (tgt := 659) hx hb dL_law_39 (by decide +kernel) (by decide +kernel) (by decide +kernel) (by decide) ?_
          exact law_greatest C0 hLN hq hfl hK hA hbA hZs h763 N L f g f2 as th oo H locs ls ok hf hg hf2 hP hD hS hl
        · refine lv_tableIn (off := 688) (tgt := 727) hx hb dL_law_39 (by decide +kernel) (by decide +kernel) (by decide +kernel) (by decide) ?_
          exact law_wipe C0 hLN hq hfl hK hA hbA hZs h763 N L f g f2 as th oo H locs ls ok hf hg hf2 hP hD hS hl
        · refine lv_tableIn (off := 699) (tgt := 738) hx hb dL_law_39 (by decide +kernel) (by decide +kernel) (by decide +kernel) (by decide) ?_
          exact law_look C0 hLN hq hfl hK hA hbA hZs h763 N L f g f2 as th oo H locs ls ok hf hg hf2 hP hD hS hl
set_option maxHeartbeats 4000000 in
set_option maxRecDepth 100000 in
/-- what the law knows of what is thrown -/
theorem law_Zs {s : State} {b : Nat} (hts : ∀ w ∈ lw_tbl, w.before #[Value.ref b] s = true) (hgv : (Jvm.Cond.and given_1 narrow_1).before #[Value.ref b] s = true) : lw_Zs (fun q : Nat => s.heap.size ≤ q) s := by
  have hs := flat_of_before _ hgv
  have hnA : ∀ a : Nat, a < s.heap.size → ¬ (s.heap.size ≤ a) := fun a h => Nat.not_le.mpr h
  have z1 : vx_Zq Bundle.tN "UNASSIGNED_STACK" Bundle.steD (fun q : Nat => s.heap.size ≤ q) s s.heap := vx_Zqof (hts (.laysStatic Bundle.tN "UNASSIGNED_STACK" Bundle.steD) (by decide +kernel)) (hts (.initialized Bundle.tN) (by decide +kernel)) (hs (.isRef (.static Bundle.tN "UNASSIGNED_STACK" Bundle.steD)) (by decide +kernel)) hnA
  have z2 : vx_Zq Bundle.tN "SUPPRESSED_SENTINEL" Bundle.listD (fun q : Nat => s.heap.size ≤ q) s s.heap := vx_Zqof (hts (.laysStatic Bundle.tN "SUPPRESSED_SENTINEL" Bundle.listD) (by decide +kernel)) (hts (.initialized Bundle.tN) (by decide +kernel)) (hs (.isRef (.static Bundle.tN "SUPPRESSED_SENTINEL" Bundle.listD)) (by decide +kernel)) hnA
  have z3 : ∀ w ∈ ow_B4, va_Nw w s := by
    intro w hw
    simp only [ow_B4, List.mem_cons, List.not_mem_nil, or_false] at hw
    rcases hw with rfl | rfl | rfl | rfl
    · exact va_Nw.of rfl (hts _ (by decide +kernel))
    · exact va_Nw.of rfl (hts _ (by decide +kernel))
    · exact va_Nw.of rfl (hts _ (by decide +kernel))
    · exact va_Nw.of rfl (hts _ (by decide +kernel))
  obtain ⟨sa, c, cA, kA, q1, q2⟩ := Cond.exactly_spec (args := #[Value.ref b]) (first := s) (o := none) (s := s) (idx := []) (t := .string RX0 55) (cls := "java/lang/String") (hs (.exactly (.string RX0 55) "java/lang/String") (by decide +kernel))
  exact ⟨z1, z2, z3, sa, vk_R.of (hts (.stringRef RX0 55 "there is no such stamp") (by decide +kernel)) q1⟩
set_option maxHeartbeats 4000000 in
set_option maxRecDepth 100000 in
/-- from the entry, for every script of at most 2048 ints, the law comes to its end with true -/
theorem whole_start {p : Program} {e : Env} {s : State} {m : MethodId} {below : List Frame} {meth : Method} {c : Code} (l : Launch) (hfl : l.flags = flags0) {b L : Nat} {xs : Nat → Int32} (hL : L ≤ 2048) (C0 : lw_At p s m meth c b L xs) : W p l e room_1 s m #[Value.ref b] below meth c s.heap [] 0 0 (lw_Z below #[Value.ref b] s) (entryFrame m ([Value.ref b] : List Value).toArray 7) := by
  obtain ⟨hx, hb, hr, hml, hown, hts, hSc, hbl, hlocks, hgv⟩ := id C0
  have hown : s.vm.findClass RL = some m.cls := hown
  have htsL : ∀ w ∈ wsL_law, w.before #[Value.ref b] s = true := fun w h => hts w (wsL_law_in w h)
  have hA : ∀ q : Nat, s.heap.size ≤ q → (fun q : Nat => s.heap.size ≤ q) q := fun _ h => h
  have hbA : ¬ (fun q : Nat => s.heap.size ≤ q) b := Nat.not_le.mpr hbl
  have hZs := law_Zs hts hgv
  obtain ⟨c0, iS0, hKn0⟩ := u_known (C := RX0) (T := TX0) (N := 3) (n := 3) hts inX0 (hts (.instantiable RX0 3) (by decide +kernel))
  obtain ⟨c1, iS1, hKn1⟩ := u_known (C := RX1) (T := TX1) (N := 4) (n := 4) hts inX1 (hts (.instantiable RX1 4) (by decide +kernel))
  obtain ⟨dC, dI, hKc⟩ : ∃ (dC : Nat → ClassId) (dI : Nat → Nat → Nat), ∀ (k : Nat) (q : vw_C), vwCl[k]? = some q → u_Kn s q.1 q.2.1 q.2.2 (dC k) (dI k) := by
    refine ⟨fun k => if k = 0 then c0 else c1, fun k => if k = 0 then iS0 else iS1, ?_⟩
    intro k q hq
    match k, hq with
    | 0, hq => cases hq; exact hKn0
    | 1, hq => cases hq; exact hKn1
    | k + 2, hq => simp [vwCl] at hq
  have hS : va_S (fun q : Nat => s.heap.size ≤ q) s.heap s.heap [] := va_S.rf
  have hK : va_K (dC, dI) vwCl [] s := ⟨hKc, fun k q h => by simp at h⟩
  have hP : va_P (dC, dI) vwCl [] s.heap := fun k q h => by simp at h
  have hD : va_D (fun q : Nat => s.heap.size ≤ q) [] := ⟨fun i j p q h => by simp at h, fun k q h => by simp at h⟩
  have hl := lv_entry ([.ref b]) (n := 7) (Nat.le_of_ble_eq_true rfl)
  rw [lg_entry_eq]
  generalize (lg_sl ([.ref b]) ++ List.replicate (7 - (lg_sl ([.ref b])).length) Slot.unset).toArray = ls at hl ⊢
  have hl : lv_has ls 7 [(0, .ref b)] := hl
  refine va_new (ci := 0) (fs := [.null, .null, .int 0]) (C := RX0) (T := TX0) (N := 3) hx hb hts inX0 tyX0 tyX0_ok hown (hts (.classLink RL 8 RX0) (by decide +kernel)) (hts (.instantiable RX0 3) (by decide +kernel)) (hts (.initialized RX0) (by decide +kernel)) hK hP hD hS hA rfl (fun j hj => by rcases (show j = 0 ∨ j = 1 ∨ j = 2 by omega) with rfl | rfl | rfl <;> rfl) (Nat.le_of_ble_eq_true rfl) (Nat.le_of_ble_eq_true rfl) dL_law_0 (fun hX H hP hD hS => ?_)
  have hP : va_P (dC, dI) vwCl [(hX, .inr (0, [.null, .null, .int 0]))] H := hP
  have hD : va_D (fun q : Nat => s.heap.size ≤ q) [(hX, .inr (0, [.null, .null, .int 0]))] := hD
  refine W.widen (k := 1) (n := 3) (by omega) (by omega) ?_
  refine lv_dup hx hb dL_law_3 rfl ?_
  have hPc := hP.sub (ws' := [(hX, .inr (0, [.null, .null, .int 0]))]) [0] rfl
  have hDc := hD.sub (ws' := [(hX, .inr (0, [.null, .null, .int 0]))]) [0] (by decide) rfl
  have hKc := hK.sub (tys' := []) [] rfl
  have hFc := va_free (wc := [(hX, .inr (0, [.null, .null, .int 0]))]) hD hS hA [0] rfl
  refine va_callv (va_runI (As := []) (rest := [.ref hX]) ⟨hx, hb, hml, hown, htsL⟩ (c_X_init l dC dI hX H.size) (cwI 0 htsL gL_law_X0_init rfl rfl rfl (hts (.initialized RX0) (by decide +kernel)) (hts (.methodLink RL 39 yX0_init) (by decide +kernel)) (hts (.instanceMethod yX0_init) (by decide +kernel)) rfl (by decide +kernel) ⟨(Nat.le_of_ble_eq_true rfl), (Nat.le_of_ble_eq_true rfl)⟩) (ow_PreI hKc hPc hDc) rfl rfl hl.1 rfl (lv_room (Nat.le_of_ble_eq_true rfl)) dL_law_4 ⟨(Nat.le_of_ble_eq_true rfl), (Nat.le_of_ble_eq_true rfl)⟩) hS (fun q _ h => hFc q h) hFc (fun u t H1 locs ht hvm hw hB hz1 hk1 hS => ?_)
  obtain ⟨aX, bX, cA, cB, g⟩ := u
  obtain ⟨hP1, hK1, hD1⟩ := hB
  rw [ht] at hP1
  have hK1 := va_K.moved hvm.symm hK1
  obtain ⟨hP, hD⟩ := va_join (wr := []) (w1 := (wX hX aX bX cA cB (nI 1, (fun _ => 0), g))) hP hD [0] [] rfl rfl (by decide) (by decide) hk1 hFc hP1 hD1
  generalize H1 = H at hP hS ⊢
  have hP : va_P (dC, dI) vwCl [(hX, .inr (0, [.ref aX, .ref bX, .int (nI 1)])), (aX, .inl (cA, 1000, .inl (fun _ => 0))), (bX, .inl (cB, 1000, .inl g))] H := hP
  have hD : va_D (fun q : Nat => s.heap.size ≤ q) [(hX, .inr (0, [.ref aX, .ref bX, .int (nI 1)])), (aX, .inl (cA, 1000, .inl (fun _ => 0))), (bX, .inl (cB, 1000, .inl g))] := hD
  have hK : va_K (dC, dI) vwCl [(cA, .int), (cB, .int)] s := hK.app hK1
  have hg9 : ol_g 1 (fun _ => 0) g := hw
  refine W.widen (k := 3) (n := 2003) (by omega) (by omega) ?_
  refine lv_astore_n (lv' := [(1, .ref hX), (0, .ref b)]) hx hb dL_law_7 rfl hl (by decide) rfl (fun ls hl => ?_)
  refine va_new (ci := 1) (fs := [.int 0, .null, .int 0, .null]) (C := RX1) (T := TX1) (N := 4) hx hb hts inX1 tyX1 tyX1_ok hown (hts (.classLink RL 40 RX1) (by decide +kernel)) (hts (.instantiable RX1 4) (by decide +kernel)) (hts (.initialized RX1) (by decide +kernel)) hK hP hD hS hA rfl (fun j hj => by rcases (show j = 0 ∨ j = 1 ∨ j = 2 ∨ j = 3 by omega) with rfl | rfl | rfl | rfl <;> rfl) (Nat.le_of_ble_eq_true rfl) (Nat.le_of_ble_eq_true rfl) dL_law_8 (fun hM H hP hD hS => ?_)
  have hP : va_P (dC, dI) vwCl [(hX, .inr (0, [.ref aX, .ref bX, .int (nI 1)])), (aX, .inl (cA, 1000, .inl (fun _ => 0))), (bX, .inl (cB, 1000, .inl g)), (hM, .inr (1, [.int 0, .null, .int 0, .null]))] H := hP
  have hD : va_D (fun q : Nat => s.heap.size ≤ q) [(hX, .inr (0, [.ref aX, .ref bX, .int (nI 1)])), (aX, .inl (cA, 1000, .inl (fun _ => 0))), (bX, .inl (cB, 1000, .inl g)), (hM, .inr (1, [.int 0, .null, .int 0, .null]))] := hD
  refine W.widen (k := 4) (n := 2007) (by omega) (by omega) ?_
  refine lv_dup hx hb dL_law_11 rfl ?_
  have hPc := hP.sub (ws' := [(hM, .inr (1, [.int 0, .null, .int 0, .null]))]) [3] rfl
  have hDc := hD.sub (ws' := [(hM, .inr (1, [.int 0, .null, .int 0, .null]))]) [3] (by decide) rfl
  have hKc := hK.sub (tys' := []) [] rfl
  have hFc := va_free (wc := [(hM, .inr (1, [.int 0, .null, .int 0, .null]))]) hD hS hA [3] rfl
  refine va_callv (va_runI (As := []) (rest := [.ref hM]) ⟨hx, hb, hml, hown, htsL⟩ (c_M_init l dC dI hM H.size) (cwI 0 htsL gL_law_X1_init rfl rfl rfl (hts (.initialized RX1) (by decide +kernel)) (hts (.methodLink RL 42 yX1_init) (by decide +kernel)) (hts (.instanceMethod yX1_init) (by decide +kernel)) rfl (by decide +kernel) ⟨(Nat.le_of_ble_eq_true rfl), (Nat.le_of_ble_eq_true rfl)⟩) (ow_PreI hKc hPc hDc) rfl rfl hl.1 rfl (lv_room (Nat.le_of_ble_eq_true rfl)) dL_law_12 ⟨(Nat.le_of_ble_eq_true rfl), (Nat.le_of_ble_eq_true rfl)⟩) hS (fun q _ h => hFc q h) hFc (fun u t H1 locs ht hvm hw hB hz1 hk1 hS => ?_)
  obtain ⟨aM, bM, cC, cD⟩ := u
  obtain ⟨hP1, hK1, hD1⟩ := hB
  rw [ht] at hP1
  have hK1 := va_K.moved hvm.symm hK1
  obtain ⟨hP, hD⟩ := va_join (wr := [(hX, .inr (0, [.ref aX, .ref bX, .int (nI 1)])), (aX, .inl (cA, 1000, .inl (fun _ => 0))), (bX, .inl (cB, 1000, .inl g))]) (w1 := (wM hM aM bM cC cD (0, nI 1, (fun _ => 0), (fun _ => 0)))) hP hD [3] [0, 1, 2] rfl rfl (by decide) (by decide) hk1 hFc hP1 hD1
  generalize H1 = H at hP hS ⊢
  have hP : va_P (dC, dI) vwCl [(hX, .inr (0, [.ref aX, .ref bX, .int (nI 1)])), (aX, .inl (cA, 1000, .inl (fun _ => 0))), (bX, .inl (cB, 1000, .inl g)), (hM, .inr (1, [.int 0, .ref aM, .int (nI 1), .ref bM])), (aM, .inl (cC, 1000, .inl (fun _ => 0))), (bM, .inl (cD, 1000, .inl (fun _ => 0)))] H := hP
  have hD : va_D (fun q : Nat => s.heap.size ≤ q) [(hX, .inr (0, [.ref aX, .ref bX, .int (nI 1)])), (aX, .inl (cA, 1000, .inl (fun _ => 0))), (bX, .inl (cB, 1000, .inl g)), (hM, .inr (1, [.int 0, .ref aM, .int (nI 1), .ref bM])), (aM, .inl (cC, 1000, .inl (fun _ => 0))), (bM, .inl (cD, 1000, .inl (fun _ => 0)))] := hD
  have hK : va_K (dC, dI) vwCl [(cA, .int), (cB, .int), (cC, .int), (cD, .int)] s := hK.app hK1
  refine W.widen (k := 6) (n := 4007) (by omega) (by omega) ?_
  refine lv_astore_n (lv' := [(2, .ref hM), (1, .ref hX), (0, .ref b)]) hx hb dL_law_15 rfl hl (by decide) rfl (fun ls hl => ?_)
  refine lv_iconst (v := 1) hx hb dL_law_16 (by decide +kernel) ?_
  refine va_newa (atype := .long) (ty := .long) (N' := 1) (a0 := (1, .inr (.inl (fun _ => 0)))) hx hb (hts (.arrayClass .long) (by decide +kernel)) rfl hK hP hD hS hA (fun _ => rfl) (by decide +kernel) (by decide +kernel) (by decide) (Nat.le_of_ble_eq_true rfl) (Nat.le_of_ble_eq_true rfl) dL_law_17 (fun o cO H hK hP hD hS => ?_)
  have hP : va_P (dC, dI) vwCl [(hX, .inr (0, [.ref aX, .ref bX, .int (nI 1)])), (aX, .inl (cA, 1000, .inl (fun _ => 0))), (bX, .inl (cB, 1000, .inl g)), (hM, .inr (1, [.int 0, .ref aM, .int (nI 1), .ref bM])), (aM, .inl (cC, 1000, .inl (fun _ => 0))), (bM, .inl (cD, 1000, .inl (fun _ => 0))), (o, .inl (cO, 1, .inr (.inl (fun _ => 0))))] H := hP
  have hD : va_D (fun q : Nat => s.heap.size ≤ q) [(hX, .inr (0, [.ref aX, .ref bX, .int (nI 1)])), (aX, .inl (cA, 1000, .inl (fun _ => 0))), (bX, .inl (cB, 1000, .inl g)), (hM, .inr (1, [.int 0, .ref aM, .int (nI 1), .ref bM])), (aM, .inl (cC, 1000, .inl (fun _ => 0))), (bM, .inl (cD, 1000, .inl (fun _ => 0))), (o, .inl (cO, 1, .inr (.inl (fun _ => 0))))] := hD
  have hK : va_K (dC, dI) vwCl [(cA, .int), (cB, .int), (cC, .int), (cD, .int), (cO, .long)] s := hK
  refine W.widen (k := 7 + 0) (n := 4008 + 6 * 0) (by omega) (by omega) ?_
  refine lv_astore_n (lv' := [(3, .ref o), (2, .ref hM), (1, .ref hX), (0, .ref b)]) hx hb dL_law_19 rfl hl (by decide) rfl (fun ls hl => ?_)
  refine lv_iconst (v := nI (4 * 0)) hx hb dL_law_20 (by decide +kernel) ?_
  refine lv_istore (lv' := [(4, .int (nI (4 * 0))), (3, .ref o), (2, .ref hM), (1, .ref hX), (0, .ref b)]) hx hb dL_law_21 hl (by decide) rfl (fun ls hl => ?_)
  exact law_loop C0 hL hfl (hK.sub [0, 1, 4, 2, 3] rfl) hA hbA hZs (fun _ h => h) (L + 1) 0 (by omega) (by omega) 1 (fun _ => 0) (fun _ => 0) g (fun _ => 0) (fun _ => 0) 0 (fun _ => 0) H locs ls ol_ok_0 ol_f_0 hg9 ol_f_0 (hP.sub [0, 1, 2, 6, 3, 4, 5] rfl) (hD.sub [0, 1, 2, 6, 3, 4, 5] (by decide) rfl) hS (lv_sub hl [4, 3, 2, 1, 0] rfl)
end
section
set_option maxHeartbeats 4000000 in
theorem lw_walk (l : Launch) (hfl : l.flags = flags0) (b : Addr) (xs : List Int32) : MetFree l x (headSpec (Jvm.Cond.code x code maxLocals ret :: tables_1) room_1) (lw_P b xs) (fun _ _ _ _ _ => True) lw_Q := by
  refine MetFree.of_bodyS (code := code) (maxLocals := maxLocals) (ret := ret) (by decide) ?_ ?_
  · intro args s m h hn
    obtain ⟨meth, c, h1, h2, h3, h4, h5, h6, -, -⟩ := Cond.code_spec hn (atoms_spec (ws := Jvm.Cond.code x code maxLocals ret :: tables_1) h _ List.mem_cons_self)
    exact ⟨meth, c, h1, h2, h3, h4, h5, h6⟩
  · intro p e s m args below meth c s₁ B hml0 hP _
    obtain ⟨rfl, hx, hbd, hgv⟩ := hP
    obtain ⟨scr, harrAt, hlist, hof, hsmall⟩ := hx
    obtain ⟨hcb, hkn, -, -⟩ := State.arrayAt?_spec harrAt
    have hown : s.vm.findClass R_law = some m.cls := findClass_of_methodNamed B.named
    have hts0 : ∀ c ∈ (Jvm.Cond.code x code maxLocals ret :: tables_1), c.before #[Value.ref b] s = true := atoms_spec (ws := Jvm.Cond.code x code maxLocals ret :: tables_1) B.pre
    have hts : ∀ w ∈ lw_tbl, w.before #[Value.ref b] s = true := k2_hts_sels lw_privs (fun w hw => hts0 w (List.mem_cons_of_mem _ hw)) lw_privs_ok
    have hml : c.maxLocals = 7 := B.maxLocals_eq (hts0 _ List.mem_cons_self)
    have X₀ : Stand p l e room_1 s m #[Value.ref b] below meth c s₁ [] 0 0 := Stand.of_body B
    have hh0 : s₁.heap = s.heap := by rw [B.state]; rfl
    have hsz : scr.slots.size = xs.length := by rw [← Array.length_toList, hlist, List.length_map]
    have hval : ∀ j : Nat, j < xs.length → scr.slots[j]? = some (.int (xs.getD j 0)) := fun j hj => by
      rw [← Array.getElem?_toList, hlist]
      simp [hj]
    have hbl : b < s.heap.size := (Array.getElem?_eq_some_iff.mp hcb).1
    have hX : va_X b xs.length (fun j => xs.getD j 0) s s.heap := ⟨scr, hcb, hof, hkn, hsz, hval⟩
    have K : W p l e room_1 s m #[Value.ref b] below meth c s₁.heap [] 0 0 (lw_Z below #[Value.ref b] s) (entryFrame m ([Value.ref b] : List Value).toArray 7) := by
      rw [hh0]
      exact whole_start l hfl hbd ⟨B.exec, B.bytes, B.returns, hml, hown, hts, hX, hbl, B.notSynchronized, hgv⟩
    obtain ⟨t, a1, o, b1, b2, b3⟩ := K s₁ rfl X₀
    exact ⟨t, o, a1, b1, b2, b3⟩
theorem lw_pre_spec {args : Array Value} {s : State} (h : (Jvm.Cond.and given_1 narrow_1).before args s = true) (hr : rest_1_c.before args s = true) : ∃ (b : Addr) (xs : List Int32), lw_P b xs args s := by
  have hs := flat_of_before _ h
  have hq := flat_of_before _ hr
  have hc : (Cond.count 1).before args s = true := hs _ (by decide +kernel)
  have harr : (Cond.arrayOf (.arg 0) .int).before args s = true := hs _ (by decide +kernel)
  have hle : (Cond.le (.length (.arg 0)) (.int 2048)).before args s = true := hs _ (by decide +kernel)
  have hlen : (Cond.isInt (.length (.arg 0))).before args s = true := hq _ (by decide +kernel)
  have hall : (Cond.all (.arg 0) (.isInt (.elem (.arg 0) (.index 0)))).before args s = true := hq _ (by decide +kernel)
  obtain ⟨b, xs, hb, hx⟩ := State.ints_of_pre rfl harr hlen hall
  have hsm : xs.length < 2 ^ 31 := hx.choose_spec.2.2.2
  have hev : (Term.length (.arg 0)).eval args s none [] s = some (.int xs.length.toInt32) := hx.length_eval hb
  have hv := Cond.le_ints hev (show (Term.int 2048).eval args s none [] s = some (.int 2048) from rfl)
  have hd : xs.length.toInt32 ≤ 2048 := by
    simpa [Cond.before, Cond.holds, hv] using hle
  have hN : xs.length ≤ 2048 := (Int32.ofNat_le_ofNat hsm (by decide)).mp (show Int32.ofNat xs.length ≤ Int32.ofNat 2048 from hd)
  exact ⟨b, xs, Cond.one_arg hc (show args[0]? = some (.ref b) from hb), hx, hN, h⟩
theorem lw_comes (l : Launch) (hfl : l.flags = flags0) : Comes l x (Jvm.Cond.code x code maxLocals ret :: tables_1) room_1 (fun tb e args s => Calls_1 tb e args s ∧ rest_1 tb e args s ∧ Pre_1 tb e args s)
    (fun _ _ args s o t => lw_Q args s o t) := by
  intro p e ha hc hk s m args below hf hfit hheap happ hpre
  obtain ⟨b, xs, hP⟩ := lw_pre_spec hpre.2.2 hpre.2.1
  obtain ⟨k, o, h1, h2, h3, hQ⟩ := lw_walk l hfl b xs p e ha hc hk s m args below hf ((Spec.applies_iff_loose hf).mp happ).1 hP trivial
  exact ⟨k, o, h1, h2, h3, hQ⟩
theorem lw_frame {s t : State} {o : Outcome} {args : Array Value} (h : Framed s o t [] 1032 12206) :
    Framed s o t (fieldLocs frame_1_writes args s ++ arrayLocs frame_1_arrays args s ++ staticLocs frame_1_statics s) 1032 12206 := h
theorem lw_limb (L : Cond) (hL : ∀ (args : Array Value) (s t : State), L.after args s (.returned (some (.int 1))) t = true) :
    ArmFor flags0 classFile x code maxLocals ret World_1 tables_1 room_1 Calls_1 rest_1 Pre_1
      (fun tb e a s o t => postC L tb e a s o t ∧ Framed s o t (fieldLocs frame_1_writes a s ++ arrayLocs frame_1_arrays a s ++ staticLocs frame_1_statics s) 1032 12206) := by
  intro l hfl _ _ p e ha hc hk s m args below hf hfit hheap happ hpre
  obtain ⟨k, o, h1, h2, h3, rfl, hF⟩ := lw_comes l hfl p e ha hc hk s m args below hf hfit hheap happ hpre
  exact ⟨k, _, h1, h2, h3, hL args s _, lw_frame hF⟩
theorem i_vc : Claimed_1_1 ∧ Claimed_1_2 := ⟨lw_limb limb_1_1 (fun args s t => by simp [limb_1_1, Cond.after, Cond.holds, Cond.value]), lw_limb limb_1_2 (fun args s t => Cond.after_iff.mpr (by
  first | (rw [show limb_1_2 = Cond.eq .result (.int 1) from rfl, Cond.eq_ints (x := 1) (y := 1) rfl rfl]; simp; done) | (simp [limb_1_2, Cond.value, Term.eval]; done)))⟩
end
