/-! ROWS OF MY OWN: a method that may throw (ow_Met), a call of one, a method with a handler table, short forms of worlds and calls -/
def ow_FE (first : State) (o : Outcome) (t : State) (L : List Loc) (k n : Nat) : Prop := first.WarmedH t.vm ∧ first.sameButNew ({ t with vm := first.vm } : State) L k n ∧ ((∃ v, o = .returned v) → first.sameButNew ({ t with vm := first.vm } : State) L 0 0)
def ow_Met (l : Launch) (y : MethodName) (ws : List Cond) (rm : Room) (Pc : Array Value → State → Prop) (Qc : Array Value → State → Outcome → State → Prop) (mc ms : Nat) (free : Addr → Prop) : Prop :=
  MetFree l y (headSpec ws rm) Pc (fun _ _ _ _ _ => True) (fun a st o t => Qc a st o t ∧ ∃ L, ow_FE st o t L mc ms ∧ ∀ q ∈ L, free q.base)
def ow_MQ (below : List Frame) (Qc : Array Value → State → Outcome → State → Prop) (a : Array Value) (s : State) (mc ms : Nat) (free : Addr → Prop) : State → Prop := fun t =>
  ∃ o, t.status = .running ∧ Ended t below o ∧ Qc a s o t ∧ ∃ L, ow_FE s o t L mc ms ∧ ∀ q ∈ L, free q.base
section OW
variable {p : Program} {l : Launch} {e : Env} {R : Room} {s : State} {m : MethodId} {args : Array Value} {below : List Frame} {meth : Method} {c : Code} {H : Heap} {locs : List Loc} {cells slots : Nat} {Q Q' : State → Prop}
variable {y : MethodName} {bytes cc : ByteArray} {maxL nL mc ms n index : Nat} {ret : Option FieldType} {ws ws' : List Cond} {rm : Room} {Pc : Array Value → State → Prop} {Qc : Array Value → State → Outcome → State → Prop} {free : Addr → Prop} {Ts : List Cond} {own C : String} {b : Addr} {As rest : List Value} {g : JFrame}
theorem ow_imp (h : ∀ t, Q t → Q' t) (k : W p l e R s m args below meth c H locs cells slots Q g) : W p l e R s m args below meth c H locs cells slots Q' g := fun T hT X => by
  obtain ⟨t, a, b⟩ := k T hT X
  exact ⟨t, a, h t b⟩
theorem ow_ofMQ {a : Array Value} {t : State} (h : MQ below Qc a s 0 0 free t) : ow_MQ below Qc a s mc ms free t := by
  obtain ⟨o, h1, h2, h3, L, ⟨_, h4, h5⟩, h6⟩ := h
  exact ⟨o, h1, h2, h3, L, ⟨h4, h5.mono (Nat.zero_le _) (Nat.zero_le _), fun _ => h5⟩, h6⟩
theorem ow_ret {a : Array Value} (k : W p l e R s m args below meth c H locs cells slots (MQ below Qc a s 0 0 free) g) : W p l e R s m args below meth c H locs cells slots (ow_MQ below Qc a s mc ms free) g :=
  ow_imp (fun _ h => ow_ofMQ h) k
theorem ow_ofW (hy : plainName y.cls = true) (hw : ws = Cond.code y cc maxL ret :: ws')
    (body : ∀ p e s m args below meth c s₁, BodyLoose p l y (headSpec ws rm) cc maxL ret e s m args below meth c s₁ → c.maxLocals = maxL → Pc args s →
      W p l e (headSpec ws rm).room s m args below meth c s.heap [] 0 0 (ow_MQ below Qc args s mc ms free) (entryFrame m args maxL)) : ow_Met l y ws rm Pc Qc mc ms free := by
  refine MetFree.of_bodyS (code := cc) (maxLocals := maxL) (ret := ret) hy ?_ ?_
  · intro args s m h hn
    obtain ⟨meth, c, h1, h2, h3, h4, h5, h6, -, -⟩ := Cond.code_spec hn (atoms_spec (ws := ws) h _ (by rw [hw]; exact List.mem_cons_self))
    exact ⟨meth, c, h1, h2, h3, h4, h5, h6⟩
  · intro p e s m args below meth c s₁ B hml hP _
    have hh0 : s₁.heap = s.heap := by rw [B.state]; rfl
    obtain ⟨t, a1, o, b1, b2, b3⟩ := body p e s m args below meth c s₁ B hml hP s₁ hh0 (Stand.of_body B)
    exact ⟨t, o, a1, b1, b2, ⟨b3.1, b3.2⟩⟩
/-- a method with a handler table; what it makes it says as others do -/
theorem ow_ofWH {hs : List (Nat × Nat × Nat × Nat)} (hy : plainName y.cls = true) (hw : ws = Cond.codeWith y cc maxL ret hs :: ws')
    (body : ∀ p e s m args below meth c s₁, BodyLoose p l y (headSpec ws rm) cc maxL ret e s m args below meth c s₁ → c.maxLocals = maxL → c.exceptionTable.toList = tableOf hs → Pc args s →
      W p l e (headSpec ws rm).room s m args below meth c s.heap [] 0 0 (MQ below Qc args s mc ms free) (entryFrame m args maxL)) : Met l y ws rm Pc Qc mc ms free := by
  refine MetFree.of_bodyS (code := cc) (maxLocals := maxL) (ret := ret) hy ?_ ?_
  · intro args s m h hn
    obtain ⟨m', meth, c, h0, h1, h2, h3, h4, -, h5, h6, -⟩ := Cond.codeWith_spec (atoms_spec (ws := ws) h _ (by rw [hw]; exact List.mem_cons_self))
    cases hn.symm.trans h0
    exact ⟨meth, c, h1, h2, h3, h4, h5, h6⟩
  · intro p e s m args below meth c s₁ B hml hP _
    have hh0 : s₁.heap = s.heap := by rw [B.state]; rfl
    have htab : c.exceptionTable.toList = tableOf hs := by
      obtain ⟨m', meth', c', h0, h1, h2, -, -, h5, -⟩ := Cond.codeWith_spec (atoms_spec (ws := ws) B.pre _ (by rw [hw]; exact List.mem_cons_self))
      cases B.named.symm.trans h0
      cases B.method.symm.trans h1
      cases (Stand.of_body B).code.symm.trans h2
      rw [← h5, table_eq]
    obtain ⟨t, a1, o, b1, b2, b3⟩ := body p e s m args below meth c s₁ B hml htab hP s₁ hh0 (Stand.of_body B)
    exact ⟨t, o, a1, b1, b2, ⟨b3.1, b3.2⟩⟩
/-- a call that may throw -/
def ow_Run (p : Program) (l : Launch) (e : Env) (R : Room) (s : State) (m : MethodId) (args : Array Value) (below : List Frame) (meth : Method) (c : Code) (H : Heap) (locs : List Loc) (cells slots mc ms : Nat) (g : JFrame) (rest : List Value) (Qa : State → Outcome → State → Prop) (free : Addr → Prop) : Prop :=
  ∀ T : State, T.heap = H → Stand p l e R s m args below meth c T locs cells slots → ∃ (o : Outcome) (st₀ t T' : State) (L : List Loc), st₀.heap = H ∧ s.vm.Alike st₀.vm ∧ ((∃ v, o = .returned v) → Stand p l e R s m args below meth c T' (locs ++ L) cells slots) ∧ Stand p l e R s m args below meth c T' (locs ++ L) (cells + mc) (slots + ms) ∧ (∀ q ∈ L, free q.base) ∧ T'.heap = t.heap ∧ s.vm.Alike t.vm ∧ Qa st₀ o t ∧
    (∀ v, o = .returned v → Goes p e below T g T' { g with pc := g.pc + 3, stack := v.toList ++ rest }) ∧
    (∀ x, o = .threw x → ∀ target, Steps p.tables e below ((T'.setTop { g with stack := rest }).pushFrame (.throwing x)) target → Steps p.tables e below (T.setTop g) target)
theorem ow_runV (S : CallFix p m c cc nL s args Ts own) (hM : ow_Met l y ws rm Pc Qc mc ms free) (cw : CallW R s args own C index y bytes maxL ret ws rm mc ms n) (hp : PreV s H C b Pc As)
    (hg : g.method = m) (hn : As.length = n) (hsize : g.locals.size = nL) (hstack : g.stack = As.reverse ++ .ref b :: rest) (hW : 2 * g.monitorRoom + (rest.map fun v => v.category).sum ≤ 8) (hdg : decode cc g.pc = .ok (.invokevirtual index, 3)) (hf : cells + mc ≤ R.cells ∧ slots + ms ≤ R.slots) :
    ow_Run p l e R s m args below meth c H locs cells slots mc ms g rest (Qc (Value.ref b :: As).toArray) free := by
  obtain ⟨⟨hrc, hrs, hfr, hlo, hws, hcw, hcode, hini, hy, hlen, hl⟩, hin, hse⟩ := cw
  obtain ⟨hx, hb, hml, ho, -⟩ := S
  obtain ⟨hbl, ⟨cellB, hcB, hoB, hclB⟩, hPc⟩ := hp
  intro T hT X
  obtain ⟨mk, methM, hnamed, hmethM, hstM, habM⟩ := Cond.instanceMethod_spec hin
  obtain ⟨methM', cM, hmethM', -, -, -, -, -, -, hsigM⟩ := Cond.code_spec hnamed hcode
  cases hmethM.symm.trans hmethM'
  obtain ⟨c2, r2, m2, q1, q2, q3, q4, kP, hkP, hkPi⟩ := Cond.selects_spec hse
  cases hclB.symm.trans q1
  cases (State.methodFound?_of_named hnamed hy).symm.trans q2
  cases hnamed.symm.trans q3
  have hselP : selectMethod e.platform s.vm cellB.cls mk = .method mk := by rw [Launch.admits_selectMethod X.admits]; exact q4
  subst hb
  obtain ⟨vm₁, X₁, hstep₁⟩ := X.invokevirtual hx ho hl hnamed hmethM hstM hkP hkPi hy (a := b) (cell := cellB) (by rw [hT]; exact hcB)
    (fun z h => by rw [h] at hoB; cases hoB) hselP hmethM habM hkP hkPi (g := g) hg (argsL := As) (rest := rest) (hn.trans (hlen _ hsigM)) hstack hdg
  have hn1 : (T.setVm vm₁).methodNamed? y = some mk := X₁.named hnamed
  have hdg1 : decode c.code ({ g with stack := rest } : JFrame).pc = .ok (.invokevirtual index, 3) := hdg
  have h1 : (headSpec ws rm).pre.before (Value.ref b :: As).toArray (T.setVm vm₁) = true := atoms_intro fun w hw => hws w hw _ _ X₁.warmed
  have h2 : (Cond.code y bytes maxL ret).before (Value.ref b :: As).toArray (T.setVm vm₁) = true := hws _ hcw _ _ X₁.warmed
  have h3 : (Cond.initialized y.cls).before (Value.ref b :: As).toArray (T.setVm vm₁) = true := word_at X₁.warmed (Or.inl (by first | rfl | simp [Cond.onTables, Cond.keeps, Cond.steady])) hini
  obtain ⟨methY, cY, hmY, hcY, -, hlY, -, -, -, -⟩ := Cond.code_spec hn1 h2
  obtain ⟨kY, hkY, -⟩ := className_of_methodNamed hn1
  have hinitY : kY.init = .initialized := Cond.initialized_spec (findClass_of_methodNamed hn1) hkY h3
  have h : At (T.setVm vm₁) ({ g with stack := rest } : JFrame).method c below := by
    show At (T.setVm vm₁) g.method c below
    rw [hg]; exact X₁.here
  have happ : (headSpec ws rm).appliesLoose y e.platform ((T.setVm vm₁).calling { g with stack := rest } mk (Value.ref b :: As).toArray) = true :=
    Spec.appliesLoose_calling (g := { g with stack := rest }) h hdg1 hn1 hkY hinitY
      (X₁.room_calling (g := { g with stack := rest }) (R' := (headSpec ws rm).room) (by show g.locals.size = _; rw [hsize, hml]) hmY hcY hfr (by
        rw [hlY]
        show 2 * g.monitorRoom + (rest.map fun v => v.category).sum + (maxL + 11) + rm.locals ≤ R.locals
        omega) (by show cells + rm.cells ≤ R.cells; rw [hrc]; exact hf.1) (by show slots + rm.slots ≤ R.slots; rw [hrs]; exact hf.2)) h1
  obtain ⟨mid, hmid⟩ := h.above
  have hfrm : ((T.setVm vm₁).setTop { g with stack := rest }).frames = (.java { g with stack := rest } :: mid) ++ below := by rw [State.frames_setTop' _ h.top, hmid]; rfl
  obtain ⟨o, s₂, hsteps, -, hend, hq, L, ⟨hW2, hsame, hsame0⟩, hL⟩ := Steps.callFree hM p X₁.admits X₁.cas X₁.clock (acts := []) hfrm happ (hbl _ _ _ _ (hPc (T.setVm vm₁) hT X₁.warmed)) trivial
  rw [State.frames_setTop' _ h.top, X₁.tail] at hend
  have hW2' : (T.setVm vm₁).WarmedH s₂.vm := hW2
  have hal : s.vm.Alike s₂.vm := (State.WarmedH.trans X₁.warmed hW2').alike
  cases o with
  | returned v =>
    obtain ⟨T', X', hWT, -, ht⟩ := X₁.outOf (g := { g with stack := rest }) hg hdg1 hend hW2 (hsame0 ⟨v, rfl⟩)
    refine ⟨.returned v, (T.setVm vm₁).calling { g with stack := rest } mk (Value.ref b :: As).toArray, s₂, T', L, hT, X₁.warmed.alike, fun _ => X', stand_widen X' (by omega) (by omega), hL, ?_, hal, hq, ?_, fun x hx => by cases hx⟩
    · rw [ht]; first | rfl | simp [State.setFrames, State.setTop, State.modifyTopJava]
    · intro v' hv'
      cases hv'
      intro target hr
      refine hstep₁ target fun acts => ?_
      rw [doInvoke_state]
      refine hsteps.trans ?_
      rw [ht]
      exact hr
  | threw x =>
    obtain ⟨T', X', hWT, -, ht⟩ := X₁.outOfThrown (g := { g with stack := rest }) hg hend hW2 hsame
    refine ⟨.threw x, (T.setVm vm₁).calling { g with stack := rest } mk (Value.ref b :: As).toArray, s₂, T', L, hT, X₁.warmed.alike, fun ⟨v, hv⟩ => by (cases hv), X', hL, ?_, hal, hq, fun v hv => by (cases hv), ?_⟩
    · rw [ht]; first | rfl | simp [State.pushFrame, State.setFrames, State.setTop, State.modifyTopJava]
    · intro x' hx'
      cases hx'
      intro target hr
      refine hstep₁ target fun acts => ?_
      rw [doInvoke_state]
      refine hsteps.trans ?_
      rw [ht]
      exact hr
/-- what is known of what was thrown: a new cell of that kind; nothing that was there has changed -/
def ow_ex (E : String) (st : State) (x : Nat) (t : State) : Prop := (∃ cell : Cell, t.heap[x]? = some cell ∧ cell.vm.isStatics = false ∧ st.vm.findClass E = some cell.cls) ∧ st.heap.size ≤ t.heap.size ∧ ∀ q : Nat, q < st.heap.size → t.heap[q]? = st.heap[q]?
/-- the ends of a method that throws: 'ok oc t' where it returns -/
def ow_Q (E : String) (thr : Prop) (ok : Array Value → State → Outcome → State → Prop) : Array Value → State → Outcome → State → Prop := fun a st oc t =>
  ((∃ v, oc = .returned v) ∧ ¬ thr ∧ ok a st oc t) ∨ (thr ∧ ∃ x, oc = .threw x ∧ ow_ex E st x t)
end OW
/-! SHORT FORMS: arrays by natural places, worlds ahead of and behind a call -/
def ow_Pc (D : va_G) (cl : List vw_C) (tys : List (ClassId × FieldType)) (ws : va_W) (sz : Nat) (av : List Value) : Array Value → State → Prop := va_Pc av (fun U => U.heap.size = sz ∧ va_P D cl ws U.heap ∧ va_K D cl tys U ∧ va_D (fun _ => True) ws)
def ow_Rc (D : va_G) (cl : List vw_C) (tys : List (ClassId × FieldType)) (ws : va_W) (av : List Value) : Array Value → State → Prop := va_Pc av (fun U => va_P D cl ws U.heap ∧ va_K D cl tys U)
def ow_B (D : va_G) (cl : List vw_C) {S : Type} (w : S → va_W) (A1 : Nat → Prop) (u : S) (t : State) : Prop := va_P D cl (w u) t.heap ∧ va_D A1 (w u)
theorem ow_Pc_bl {D : va_G} {cl : List vw_C} {tys : List (ClassId × FieldType)} {ws : va_W} {sz : Nat} {av : List Value} : FrameBlind (ow_Pc D cl tys ws sz av) := fun a U g mk q => by
  obtain ⟨q0, q1, qP, qK, qD⟩ := q
  exact ⟨q0, q1, qP, va_K.moved (u := U) (U := U.calling g mk a) (Vm.Alike.refl U.vm) qK, qD⟩
theorem ow_Rc_bl {D : va_G} {cl : List vw_C} {tys : List (ClassId × FieldType)} {ws : va_W} {av : List Value} : FrameBlind (ow_Rc D cl tys ws av) := fun a U g mk q => by
  obtain ⟨q0, qP, qK⟩ := q
  exact ⟨q0, qP, va_K.moved (u := U) (U := U.calling g mk a) (Vm.Alike.refl U.vm) qK⟩
section OX
variable {p : Program} {l : Launch} {e : Env} {R : Room} {s : State} {m : MethodId} {args : Array Value} {below : List Frame} {meth : Method} {c : Code} {H : Heap} {locs : List Loc} {cells slots : Nat} {Q : State → Prop}
variable {cc : ByteArray} {pc : Nat} {ls : Array Slot} {rest st0 : List Value} {D : va_G} {cl : List vw_C} {A : Nat → Prop} {a : Nat} {tys tys' : List (ClassId × FieldType)} {ws wc wr : va_W} {H0 : Heap} {mc ms : Nat} {As : List Value}
theorem ow_PreV (hK : va_K D cl tys s) (hP : va_P D cl ws H) (hD : va_D A ws) {q : vw_C} {ci q0 b : Nat} {fs : List Value} (hc : cl[ci]? = some q) (he : ws[q0]? = some (b, .inr (ci, fs))) : PreV s H q.1 b (ow_Pc D cl tys ws H.size (.ref b :: As)) As :=
  ⟨ow_Pc_bl, va_recv hK hP hc he, fun U hU hW => ⟨rfl, by rw [hU], by rw [hU]; exact hP, va_K.moved hW.alike hK, hD.weaken (fun _ _ _ _ => trivial)⟩⟩
theorem ow_PreR (hK : va_K D cl tys s) (hP : va_P D cl ws H) {q : vw_C} {ci q0 b : Nat} {fs : List Value} (hc : cl[ci]? = some q) (he : ws[q0]? = some (b, .inr (ci, fs))) : PreV s H q.1 b (ow_Rc D cl tys ws (.ref b :: As)) As :=
  ⟨ow_Rc_bl, va_recv hK hP hc he, fun U hU hW => ⟨rfl, by rw [hU]; exact hP, va_K.moved hW.alike hK⟩⟩
theorem ow_PreI (hK : va_K D cl tys s) (hP : va_P D cl ws H) (hD : va_D A ws) : PreS s H (ow_Pc D cl tys ws H.size As) As :=
  ⟨ow_Pc_bl, fun U hU hW => ⟨rfl, by rw [hU], by rw [hU]; exact hP, va_K.moved hW.alike hK, hD.weaken (fun _ _ _ _ => trivial)⟩⟩
theorem ow_top {x z : Int32} (h : x = z) (k : W p l e R s m args below meth c H locs cells slots Q (F0 m pc ls (.int z :: rest))) : W p l e R s m args below meth c H locs cells slots Q (F0 m pc ls (.int x :: rest)) := h ▸ k
theorem ow_iald (hexec : p.tables.exec = Jvm.exec) (hb : c.code = cc) (hK : va_K D cl tys s) (hP : va_P D cl ws H) (q0 t0 : Nat) {cA : ClassId} {n : Nat} {f : Nat → Int32} (ha : ws[q0]? = some (a, .inl (cA, n, .inl f))) (ht : tys[t0]? = some (cA, .int)) {k : Nat} {v : Int32} (hk : k < n) (hn : n < 2 ^ 31) (hv : f k = v) (hdg : decode cc pc = .ok (.iaload, 1))
    (kk : W p l e R s m args below meth c H locs cells slots Q (F0 m (pc + 1) ls (.int v :: rest))) : W p l e R s m args below meth c H locs cells slots Q (F0 m pc ls (.int (nI k) :: .ref a :: rest)) := by
  refine va_iald hexec hb hK hP q0 t0 ha ht (vp_in_nI hk hn) hdg ?_
  rw [nI_clamp (by omega), hv]
  exact kk
theorem ow_iast (hexec : p.tables.exec = Jvm.exec) (hb : c.code = cc) (hK : va_K D cl tys s) (hP : va_P D cl ws H) (hD : va_D A ws) (hS : va_S A H0 H locs) (q0 t0 : Nat) {cA : ClassId} {n : Nat} {f : Nat → Int32} (ha : ws[q0]? = some (a, .inl (cA, n, .inl f))) (ht : tys[t0]? = some (cA, .int)) {k : Nat} {x : Int32} (hk : k < n) (hn : n < 2 ^ 31) (hdg : decode cc pc = .ok (.iastore, 1))
    (kk : ∀ (H1 : Heap) (locs1 : List Loc), va_P D cl (ws.set q0 (a, .inl (cA, n, .inl (upd f k x)))) H1 → va_D A (ws.set q0 (a, .inl (cA, n, .inl (upd f k x)))) → va_S A H0 H1 locs1 → W p l e R s m args below meth c H1 locs1 cells slots Q (F0 m (pc + 1) ls rest)) : W p l e R s m args below meth c H locs cells slots Q (F0 m pc ls (.int x :: .int (nI k) :: .ref a :: rest)) := by
  refine va_iast hexec hb hK hP hD hS q0 t0 ha ht (vp_in_nI hk hn) hdg (fun H1 locs1 h1 h2 h3 => ?_)
  rw [nI_clamp (by omega)] at h1 h2
  exact kk H1 locs1 h1 h2 h3
theorem ow_lald (hexec : p.tables.exec = Jvm.exec) (hb : c.code = cc) (hK : va_K D cl tys s) (hP : va_P D cl ws H) (q0 t0 : Nat) {cA : ClassId} {n : Nat} {f : Nat → Int64} (ha : ws[q0]? = some (a, .inl (cA, n, .inr (.inl f)))) (ht : tys[t0]? = some (cA, .long)) {i : Int32} {k : Nat} {v : Int64} (hi : i = nI k) (hk : k < n) (hn : n < 2 ^ 31) (hv : f k = v) (hdg : decode cc pc = .ok (.laload, 1))
    (kk : W p l e R s m args below meth c H locs cells slots Q (F0 m (pc + 1) ls (.long v :: rest))) : W p l e R s m args below meth c H locs cells slots Q (F0 m pc ls (.int i :: .ref a :: rest)) := by
  subst hi
  refine va_lald hexec hb hK hP q0 t0 ha ht (vp_in_nI hk hn) hdg ?_
  rw [nI_clamp (by omega), hv]
  exact kk
theorem ow_last (hexec : p.tables.exec = Jvm.exec) (hb : c.code = cc) (hK : va_K D cl tys s) (hP : va_P D cl ws H) (hD : va_D A ws) (hS : va_S A H0 H locs) (q0 t0 : Nat) {cA : ClassId} {n : Nat} {f : Nat → Int64} (ha : ws[q0]? = some (a, .inl (cA, n, .inr (.inl f)))) (ht : tys[t0]? = some (cA, .long)) {i : Int32} {k : Nat} {x : Int64} (hi : i = nI k) (hk : k < n) (hn : n < 2 ^ 31) (hdg : decode cc pc = .ok (.lastore, 1))
    (kk : ∀ (H1 : Heap) (locs1 : List Loc), va_P D cl (ws.set q0 (a, .inl (cA, n, .inr (.inl (vp_updL f k x))))) H1 → va_D A (ws.set q0 (a, .inl (cA, n, .inr (.inl (vp_updL f k x))))) → va_S A H0 H1 locs1 → W p l e R s m args below meth c H1 locs1 cells slots Q (F0 m (pc + 1) ls rest)) : W p l e R s m args below meth c H locs cells slots Q (F0 m pc ls (.long x :: .int i :: .ref a :: rest)) := by
  subst hi
  refine va_last hexec hb hK hP hD hS q0 t0 ha ht (vp_in_nI hk hn) hdg (fun H1 locs1 h1 h2 h3 => ?_)
  rw [nI_clamp (by omega)] at h1 h2
  exact kk H1 locs1 h1 h2 h3
theorem ow_callR {r : Int32} {av : Array Value} (hr : CallRun p l e R s m args below meth c H locs cells slots 0 0 (F0 m pc ls st0) rest (QcRead r av) (fun _ => False)) (kk : W p l e R s m args below meth c H locs cells slots Q (F0 m (pc + 3) ls (.int r :: rest))) : W p l e R s m args below meth c H locs cells slots Q (F0 m pc ls st0) := W.callR hr kk
theorem ow_calli {S : Type} {post : Int32 → S → Prop} {w : S → va_W} {av : Array Value} (hr : va_Run p l e R s m args below meth c H locs cells slots mc ms (F0 m pc ls st0) rest (va_Qi post (ow_B D cl w (va_A wc H.size)) (va_A wc H.size) av) (va_A wc H.size))
    (hP : va_P D cl ws H) (hD : va_D A ws) (hS : va_S A H0 H locs) (hA : ∀ q, H0.size ≤ q → A q) (isC isR : List Nat) (hC : isC.map (fun i => ws[i]?) = wc.map some) (hR : isR.map (fun i => ws[i]?) = wr.map some) (hn : va_nd isR = true) (hdis : ∀ i ∈ isR, i ∉ isC)
    (kk : ∀ (r : Int32) (u : S) (H1 : Heap) (locs1 : List Loc), post r u → va_P D cl (wr ++ w u) H1 → va_D A (wr ++ w u) → va_S A H0 H1 locs1 → W p l e R s m args below meth c H1 locs1 (cells + mc) (slots + ms) Q (F0 m (pc + 3) ls (.int r :: rest))) : W p l e R s m args below meth c H locs cells slots Q (F0 m pc ls st0) := by
  have hF := va_free (wc := wc) hD hS hA isC hC
  refine va_calli hr hS (fun q _ h => hF q h) hF (fun r u t H1 locs1 ht hvm hw hB hz1 hk1 hS1 => ?_)
  obtain ⟨hP1, hD1⟩ := hB
  rw [ht] at hP1
  obtain ⟨hP2, hD2⟩ := va_join hP hD isC isR hC hR hn hdis hk1 hF hP1 hD1
  exact kk r u H1 locs1 hw hP2 hD2 hS1
theorem ow_callv {S : Type} {post : S → Prop} {w : S → va_W} {av : Array Value} (hr : va_Run p l e R s m args below meth c H locs cells slots mc ms (F0 m pc ls st0) rest (va_Qv post (ow_B D cl w (va_A wc H.size)) (va_A wc H.size) av) (va_A wc H.size))
    (hP : va_P D cl ws H) (hD : va_D A ws) (hS : va_S A H0 H locs) (hA : ∀ q, H0.size ≤ q → A q) (isC isR : List Nat) (hC : isC.map (fun i => ws[i]?) = wc.map some) (hR : isR.map (fun i => ws[i]?) = wr.map some) (hn : va_nd isR = true) (hdis : ∀ i ∈ isR, i ∉ isC)
    (kk : ∀ (u : S) (H1 : Heap) (locs1 : List Loc), post u → va_P D cl (wr ++ w u) H1 → va_D A (wr ++ w u) → va_S A H0 H1 locs1 → W p l e R s m args below meth c H1 locs1 (cells + mc) (slots + ms) Q (F0 m (pc + 3) ls rest)) : W p l e R s m args below meth c H locs cells slots Q (F0 m pc ls st0) := by
  have hF := va_free (wc := wc) hD hS hA isC hC
  refine va_callv hr hS (fun q _ h => hF q h) hF (fun u t H1 locs1 ht hvm hw hB hz1 hk1 hS1 => ?_)
  obtain ⟨hP1, hD1⟩ := hB
  rw [ht] at hP1
  obtain ⟨hP2, hD2⟩ := va_join hP hD isC isR hC hR hn hdis hk1 hF hP1 hD1
  exact kk u H1 locs1 hw hP2 hD2 hS1
end OX
/-! WHAT IS THROWN: out of a method without a table of handlers; into the one handler of a method that has one -/
section OT
variable {p : Program} {l : Launch} {e : Env} {R : Room} {s : State} {m : MethodId} {args : Array Value} {below : List Frame} {meth : Method} {c : Code} {H : Heap} {locs : List Loc} {cells slots : Nat} {Q : State → Prop}
variable {cc : ByteArray} {pc : Nat} {ls : Array Slot} {rest st0 : List Value} {D : va_G} {cl : List vw_C} {A : Nat → Prop} {a : Nat} {tys : List (ClassId × FieldType)} {ws wc wr : va_W} {H0 : Heap} {mc ms mF sF : Nat} {As : List Value} {free : Addr → Prop}
/-- one entry covers the place, its name links, the object is of just that name -/
theorem ow_find {u : State} {f : JFrame} {x : Addr} {meth' : Method} {code : Code} (hm : u.vm.method? f.method = some meth') (hc : meth'.code = some code) {q : ExceptionTableEntry} (htab : code.exceptionTable.toList = [q]) (hx : covers q f.pc = true) (h0 : q.catchType ≠ 0)
    {k : ClassId} {cell : Cell} (hl : u.vm.ClassLinks e.platform f.method.cls q.catchType k) (hcell : u.heap[x]? = some cell) (hobj : ∀ j, cell.vm ≠ .statics j) (hcls : cell.cls = k) (hk : ∃ z, u.vm.classes[k]? = some z)
    (Q : Handler → Pre) (E : CtlPost) (d : Bool) (acts : List Action) : wp (findHandler f x) Q E e d acts u ↔ Q (.found q.handlerPc) d acts (u.setVm (u.vm.noted f.method.cls q.catchType (.cls k))) := by
  rw [W.findHandler_eq hm hc, htab]
  simp only [covers] at hx
  obtain ⟨g1, g2⟩ := (resolveClass_links e.toSetting hl).op (op := VmOp.resolveClass f.method.cls q.catchType) rfl
  have hal : u.vm.Alike (u.vm.noted f.method.cls q.catchType (.cls k)) := (Vm.Alike.refl u.vm).noted _ _ _
  obtain ⟨z, hz⟩ := hk
  obtain ⟨z', hz', -⟩ := hal.2.2 _ _ hz
  have hfit : (u.vm.noted f.method.cls q.catchType (.cls k)).assignable k k = true := by
    show (u.vm.noted f.method.cls q.catchType (.cls k)).assignableAux (255 + 1) k k = true
    rw [Vm.assignableAux]
    simp
  subst hcls
  simp [findHandler.go, hx, h0, g1, g2, hcell, hobj, hz', hfit, VmOp.dirties, VmOp.acts]
theorem ow_step {u : State} {f : JFrame} {x : Addr} {r : List Frame} {hp : Nat} {vm' : Vm} (hf : ∀ (Q : Handler → Pre) (E : CtlPost) (d : Bool) (acts : List Action), wp (findHandler f x) Q E e d acts u ↔ Q (.found hp) d acts (u.setVm vm')) :
    (stepThrowing e u x (.java f :: r)).Is ((u.setVm vm').setFrames (.java { f with pc := hp, stack := [.ref x] } :: r)) [] := by
  simp only [stepThrowing, searchFrame, vmDo]
  generalize hr : Sem.go _ e false [] u = res
  obtain ⟨as, rfl, ha⟩ := Sem.eq_ok_of hr (a := Handler.found hp) (s' := u.setVm vm') (acts' := []) (by simp [hf _ _ _ _])
  exact ⟨rfl, ha⟩
theorem ow_caught {T : State} (X : Stand p l e R s m args below meth c T locs cells slots) {x : Addr} {g : JFrame} (hg : g.method = m) {own E : String} (hown : s.vm.findClass own = some m.cls) {q : ExceptionTableEntry} (htab : c.exceptionTable.toList = [q]) (hx : covers q g.pc = true) (h0 : q.catchType ≠ 0)
    (hlink : (Cond.classLink own q.catchType E).before args s = true) {cell : Cell} (hcell : T.heap[x]? = some cell) (hobj : cell.vm.isStatics = false) (hcls : s.vm.findClass E = some cell.cls) :
    ∃ vm', Stand p l e R s m args below meth c (T.setVm vm') locs cells slots ∧
      ∀ target, Steps p.tables e below ((T.setVm vm').setTop { g with pc := q.handlerPc, stack := [.ref x] }) target → Steps p.tables e below ((T.setTop g).pushFrame (.throwing x)) target := by
  have hpl : e.platform.magicAccessors = ({} : Platform).magicAccessors := by rw [X.admits.platform]
  obtain ⟨k, hk, hcl⟩ := Cond.classLink_spec hown hlink e.platform hpl
  cases hcls.symm.trans hk
  obtain ⟨dk, _, _, kt, hd, _, _, _, _, hkt, _, hopen⟩ := hcl.here
  have hcl0 := X.warmed.classLinks hcl
  have hW' : s.WarmedH (T.vm.noted m.cls q.catchType (.cls cell.cls)) := X.warmed.noted hd hopen (State.rightAt_cls hcl)
  obtain ⟨kt', hkt', -⟩ := X.warmed.alike.2.2 _ _ hkt
  refine ⟨_, X.noted hW', fun target hrest => ?_⟩
  subst hg
  obtain ⟨hgo, hw⟩ := At.throwing (g := g) X.here x
  refine Steps.head hgo hw ?_
  rw [stepThread_throwing (frames_entered X.here.top _), (ow_step (u := (T.setTop g).pushFrame (.throwing x)) (f := g) (x := x) (hp := q.handlerPc) (vm' := T.vm.noted g.method.cls q.catchType (.cls cell.cls)) (fun Q E d acts => by
    have h1 := ow_find (e := e) (u := (T.setTop g).pushFrame (.throwing x)) (f := g) (x := x) (meth' := meth) (code := c) X.method' X.code htab hx h0 (k := cell.cls) (cell := cell) hcl0 hcell (VmData.ne_statics_of hobj) rfl ⟨kt', hkt'⟩ Q E d acts
    exact h1)).1]
  obtain ⟨g₀, hg⟩ := Option.isSome_iff_exists.mp X.here.top
  obtain ⟨r, hr⟩ := State.topJava?_eq_some.mp hg
  have hr' : (T.setVm (T.vm.noted g.method.cls q.catchType (.cls cell.cls))).frames = .java g₀ :: r := hr
  rw [State.setTop_of_frames _ hr'] at hrest
  have e1 : ∀ (F G : List Frame), ((T.setFrames F).setVm (T.vm.noted g.method.cls q.catchType (.cls cell.cls))).setFrames G = (T.setVm (T.vm.noted g.method.cls q.catchType (.cls cell.cls))).setFrames G := fun F G => by
    have h1 : (T.setFrames F).setVm (T.vm.noted g.method.cls q.catchType (.cls cell.cls)) = (T.setVm (T.vm.noted g.method.cls q.catchType (.cls cell.cls))).setFrames F := rfl
    rw [h1, State.setFrames_setFrames]
  rw [hr, List.tail_cons, State.pushFrame, State.setTop_of_frames _ hr, State.setFrames_setFrames, e1]
  exact hrest
theorem ow_emp {c : Code} (h : c.exceptionTable.isEmpty = true) (pc : Nat) : ∀ x ∈ c.exceptionTable.toList, covers x pc = false := by
  have h1 : c.exceptionTable.toList = [] := by
    have h2 : c.exceptionTable.size = 0 := by simpa [Array.isEmpty] using h
    exact List.eq_nil_of_length_eq_zero (by simpa using h2)
  rw [h1]
  intro q hq
  cases hq
/-- the callee looks whether something is there: it comes back and nothing has changed, or throws, and so does the caller -/
theorem ow_callD {E : String} {thr thr' okP : Prop} {av : Array Value} {ok' : Array Value → State → Outcome → State → Prop}
    (hr : ow_Run p l e R s m args below meth c s.heap locs cells slots mc ms (F0 m pc ls st0) rest (ow_Q E thr (fun _ st oc t => oc = .returned none ∧ t.heap = st.heap ∧ okP) av) (fun _ => False))
    (hlocs : ∀ q ∈ locs, free q.base) (hemp : c.exceptionTable.isEmpty = true) (hlocks : meth.locks = false) (hc : cells + mc ≤ mF) (hs : slots + ms ≤ sF) (ht : thr → thr')
    (kk : okP → W p l e R s m args below meth c s.heap locs cells slots (ow_MQ below (ow_Q E thr' ok') args s mF sF free) (F0 m (pc + 3) ls rest)) :
    W p l e R s m args below meth c s.heap locs cells slots (ow_MQ below (ow_Q E thr' ok') args s mF sF free) (F0 m pc ls st0) := by
  intro T hT X
  obtain ⟨o, st₀, t, T', L, h0, hal0, X0, X', hL, e1, hal, hq, hret, hthr⟩ := hr T hT X
  have hLn : ∀ q ∈ L, free q.base := fun q h => (hL q h).elim
  rcases hq with ⟨⟨v, rfl⟩, -, hv, hh, hok⟩ | ⟨hth, x, rfl, ⟨cell, hc1, hc2, hc3⟩, hx3, hx4⟩
  · cases hv
    have X2 : Stand p l e R s m args below meth c T' locs cells slots := Stand.forget (X0 ⟨_, rfl⟩) (fun q h => (hL q h).elim)
    obtain ⟨t2, a1, b1⟩ := kk hok T' (by rw [e1, hh, h0]) X2
    exact ⟨t2, hret none rfl t2 a1, b1⟩
  · have X2 : Stand p l e R s m args below meth c T' locs (cells + mc) (slots + ms) := Stand.forget X' (fun q h => (hL q h).elim)
    obtain ⟨w1, w2, w3, w4, w5⟩ := X2.leaveThrown x (g := { F0 m pc ls st0 with stack := rest }) rfl rfl rfl (ow_emp hemp _) hlocks
    refine ⟨_, hthr x rfl _ w1, .threw x, w2, w3, Or.inr ⟨ht hth, x, rfl, ?_⟩, locs, ⟨w4, w5.mono hc hs, fun ⟨v, hv⟩ => by (cases hv)⟩, hlocs⟩
    rw [h0] at hx3 hx4
    refine ⟨⟨cell, ?_, hc2, ?_⟩, ?_, ?_⟩
    · show T'.heap[x]? = some cell
      rw [e1]; exact hc1
    · rw [← hal0.findClass]; exact hc3
    · show s.heap.size ≤ T'.heap.size
      rw [e1]; exact hx3
    · intro q hq
      show T'.heap[q]? = s.heap[q]?
      rw [e1]; exact hx4 q hq
end OT
/-! A CALL IN A METHOD THAT CATCHES -/
section OC
variable {p : Program} {l : Launch} {e : Env} {R : Room} {s : State} {m : MethodId} {args : Array Value} {below : List Frame} {meth : Method} {c : Code} {H : Heap} {locs : List Loc} {cells slots : Nat} {Q : State → Prop}
variable {cc : ByteArray} {pc hpc : Nat} {ls : Array Slot} {rest st0 : List Value} {D : va_G} {cl : List vw_C} {A : Nat → Prop} {a : Nat} {tys : List (ClassId × FieldType)} {ws wc wr : va_W} {H0 : Heap} {mc ms : Nat} {As : List Value} {free : Addr → Prop} {own E : String} {q0 : ExceptionTableEntry} {thr : Prop} {av : Array Value}
theorem ow_catch {T T' t st₀ : State} {x : Nat} (X' : Stand p l e R s m args below meth c T' locs cells slots) (h0 : st₀.heap = H) (hal0 : s.vm.Alike st₀.vm) (e1 : T'.heap = t.heap) (hex : ow_ex E st₀ x t)
    (hthr : ∀ target, Steps p.tables e below ((T'.setTop { F0 m pc ls st0 with stack := rest }).pushFrame (.throwing x)) target → Steps p.tables e below (T.setTop (F0 m pc ls st0)) target)
    (hP : va_P D cl ws H) (hS : va_S A H0 H locs) (hown : s.vm.findClass own = some m.cls) (htab : c.exceptionTable.toList = [q0]) (hx : covers q0 pc = true) (hct : q0.catchType ≠ 0) (hlink : (Cond.classLink own q0.catchType E).before args s = true) (hh : q0.handlerPc = hpc)
    (k2 : ∀ (x : Nat) (H1 : Heap), va_P D cl ws H1 → va_S A H0 H1 locs → W p l e R s m args below meth c H1 locs cells slots Q (F0 m hpc ls [.ref x])) : ∃ t, Steps p.tables e below (T.setTop (F0 m pc ls st0)) t ∧ Q t := by
  obtain ⟨⟨cell, hc1, hc2, hc3⟩, hx3, hx4⟩ := hex
  rw [h0] at hx3 hx4
  subst hh
  obtain ⟨vm', X2, st⟩ := ow_caught X' (x := x) (g := { F0 m pc ls st0 with stack := rest }) rfl hown htab hx hct hlink (cell := cell) (by rw [e1]; exact hc1) hc2 (by rw [← hal0.findClass]; exact hc3)
  have hk : ∀ q : Nat, q < H.size → T'.heap[q]? = H[q]? := fun q hq => by rw [e1]; exact hx4 q hq
  have hsz : H.size ≤ T'.heap.size := by rw [e1]; exact hx3
  obtain ⟨t2, a1, b1⟩ := k2 x T'.heap (hP.kept fun k q hq => hk _ (va_at.lt (hP k q hq))) ⟨Nat.le_trans hS.1 hsz, fun q h1 h2 => by rw [hk q (Nat.lt_of_lt_of_le h1 hS.1)]; exact hS.2.1 q h1 h2, hS.2.2⟩ (T'.setVm vm') rfl X2
  exact ⟨t2, hthr _ (st _ a1), b1⟩
theorem ow_callC {S : Type} {post : Int32 → S → Prop} {w : S → va_W} (hr : ow_Run p l e R s m args below meth c H locs cells slots mc ms (F0 m pc ls st0) rest (ow_Q E thr (va_Qi post (ow_B D cl w (va_A wc H.size)) (va_A wc H.size)) av) (va_A wc H.size))
    (hP : va_P D cl ws H) (hD : va_D A ws) (hS : va_S A H0 H locs) (hA : ∀ q, H0.size ≤ q → A q) (isC isR : List Nat) (hC : isC.map (fun i => ws[i]?) = wc.map some) (hR : isR.map (fun i => ws[i]?) = wr.map some) (hn : va_nd isR = true) (hdis : ∀ i ∈ isR, i ∉ isC)
    (hown : s.vm.findClass own = some m.cls) (htab : c.exceptionTable.toList = [q0]) (hx : covers q0 pc = true) (hct : q0.catchType ≠ 0) (hlink : (Cond.classLink own q0.catchType E).before args s = true) (hh : q0.handlerPc = hpc)
    (k1 : ¬ thr → ∀ (r : Int32) (u : S) (H1 : Heap) (locs1 : List Loc), post r u → va_P D cl (wr ++ w u) H1 → va_D A (wr ++ w u) → va_S A H0 H1 locs1 → W p l e R s m args below meth c H1 locs1 cells slots Q (F0 m (pc + 3) ls (.int r :: rest)))
    (k2 : thr → ∀ (x : Nat) (H1 : Heap) (locs1 : List Loc), va_P D cl ws H1 → va_S A H0 H1 locs1 → W p l e R s m args below meth c H1 locs1 (cells + mc) (slots + ms) Q (F0 m hpc ls [.ref x])) : W p l e R s m args below meth c H locs cells slots Q (F0 m pc ls st0) := by
  have hF := va_free (wc := wc) hD hS hA isC hC
  intro T hT X
  obtain ⟨o, st₀, t, T', L, h0, hal0, X0, X', hL, e1, hal, hq, hret, hthr⟩ := hr T hT X
  have hLA : ∀ q ∈ locs ++ L, A q.base := fun q h => by
    rcases List.mem_append.mp h with h | h
    · exact hS.2.2 q h
    · exact hF _ (hL q h)
  rcases hq with ⟨⟨v, rfl⟩, hnt, ⟨r, u, hv, hpost, hP1, hD1⟩, hz, hk⟩ | ⟨hth, x, rfl, hex⟩
  · cases hv
    rw [h0] at hz hk
    obtain ⟨hP2, hD2⟩ := va_join hP hD isC isR hC hR hn hdis hk hF hP1 hD1
    have hS2 : va_S A H0 t.heap (locs ++ L) := ⟨Nat.le_trans hS.1 hz, fun q h1 h2 => by rw [hk q (Nat.lt_of_lt_of_le h1 hS.1) (fun h3 => h2 (hF q h3))]; exact hS.2.1 q h1 h2, hLA⟩
    obtain ⟨t2, a1, b1⟩ := k1 hnt r u t.heap (locs ++ L) hpost hP2 hD2 hS2 T' e1 (X0 ⟨_, rfl⟩)
    exact ⟨t2, hret _ rfl t2 a1, b1⟩
  · have hS2 : va_S A H0 H (locs ++ L) := ⟨hS.1, hS.2.1, hLA⟩
    exact ow_catch X' h0 hal0 e1 hex (hthr x rfl) hP hS2 hown htab hx hct hlink hh (fun x H1 h1 h2 => k2 hth x H1 (locs ++ L) h1 h2)
theorem ow_callCR {r : Int32} (hr : ow_Run p l e R s m args below meth c H locs cells slots mc ms (F0 m pc ls st0) rest (ow_Q E thr (QcRead r) av) (fun _ => False))
    (hP : va_P D cl ws H) (hS : va_S A H0 H locs)
    (hown : s.vm.findClass own = some m.cls) (htab : c.exceptionTable.toList = [q0]) (hx : covers q0 pc = true) (hct : q0.catchType ≠ 0) (hlink : (Cond.classLink own q0.catchType E).before args s = true) (hh : q0.handlerPc = hpc)
    (k1 : ¬ thr → W p l e R s m args below meth c H locs cells slots Q (F0 m (pc + 3) ls (.int r :: rest)))
    (k2 : thr → ∀ (x : Nat) (H1 : Heap), va_P D cl ws H1 → va_S A H0 H1 locs → W p l e R s m args below meth c H1 locs (cells + mc) (slots + ms) Q (F0 m hpc ls [.ref x])) : W p l e R s m args below meth c H locs cells slots Q (F0 m pc ls st0) := by
  intro T hT X
  obtain ⟨o, st₀, t, T', L, h0, hal0, X0, X', hL, e1, hal, hq, hret, hthr⟩ := hr T hT X
  have X2 : Stand p l e R s m args below meth c T' locs (cells + mc) (slots + ms) := Stand.forget X' (fun q h => (hL q h).elim)
  rcases hq with ⟨⟨v, rfl⟩, hnt, hv, hhe⟩ | ⟨hth, x, rfl, hex⟩
  · cases hv
    obtain ⟨t2, a1, b1⟩ := k1 hnt T' (by rw [e1, hhe, h0]) (Stand.forget (X0 ⟨_, rfl⟩) (fun q h => (hL q h).elim))
    exact ⟨t2, hret _ rfl t2 a1, b1⟩
  · exact ow_catch X2 h0 hal0 e1 hex (hthr x rfl) hP hS hown htab hx hct hlink hh (k2 hth)
end OC
/-! WORLDS OF METHODS THAT MAY THROW: two statics of what is thrown hold references, nobody asks which -/
abbrev ow_IAE : String := "java/lang/IllegalArgumentException"
def ow_B4 : List Cond := [.castable ow_IAE ow_IAE, .declares (Bundle.initS "java/lang/RuntimeException"), .declares (Bundle.initS "java/lang/Exception"), .declares (Bundle.initS "java/lang/Throwable")]
def ow_Z (U : State) : Prop := vx_Zq Bundle.tN "UNASSIGNED_STACK" Bundle.steD (fun _ => False) U U.heap ∧ vx_Zq Bundle.tN "SUPPRESSED_SENTINEL" Bundle.listD (fun _ => False) U U.heap ∧ (∀ w ∈ ow_B4, va_Nw w U) ∧ ∃ sa : Nat, vk_R RX0 55 "there is no such stamp" sa U
theorem ow_B4_warm {s U : State} (hW : s.WarmedH U.vm) (h : ∀ w ∈ ow_B4, va_Nw w s) : ∀ w ∈ ow_B4, va_Nw w U := by
  intro w hw
  have h1 := h w hw
  simp only [ow_B4, List.mem_cons, List.not_mem_nil, or_false] at hw
  rcases hw with rfl | rfl | rfl | rfl
  · exact va_Nw.warmC hW h1
  · exact va_Nw.warmD hW h1
  · exact va_Nw.warmD hW h1
  · exact va_Nw.warmD hW h1
theorem ow_Z.moved {u U : State} (hW : u.WarmedH U.vm) (hh : U.heap = u.heap) (h : ow_Z u) : ow_Z U := by
  obtain ⟨h1, h2, h3, sa, h4⟩ := h
  unfold ow_Z
  rw [hh]
  exact ⟨vx_Zq.moved hW.alike h1, vx_Zq.moved hW.alike h2, ow_B4_warm hW h3, sa, vk_R.warm hW h4⟩
theorem ow_Z.same {u U : State} (hv : U.vm = u.vm) (hh : U.heap = u.heap) (h : ow_Z u) : ow_Z U := ow_Z.moved (by rw [hv]; exact State.WarmedH.refl u) hh h
def ow_Px (D : va_G) (cl : List vw_C) (tys : List (ClassId × FieldType)) (ws : va_W) (sz : Nat) (av : List Value) : Array Value → State → Prop := va_Pc av (fun U => U.heap.size = sz ∧ va_P D cl ws U.heap ∧ va_K D cl tys U ∧ va_D (fun _ => True) ws ∧ ow_Z U)
def ow_Rx (D : va_G) (cl : List vw_C) (tys : List (ClassId × FieldType)) (ws : va_W) (av : List Value) : Array Value → State → Prop := va_Pc av (fun U => va_P D cl ws U.heap ∧ va_K D cl tys U ∧ ow_Z U)
theorem ow_Px_bl {D : va_G} {cl : List vw_C} {tys : List (ClassId × FieldType)} {ws : va_W} {sz : Nat} {av : List Value} : FrameBlind (ow_Px D cl tys ws sz av) := fun a U g mk q => by
  obtain ⟨q0, q1, qP, qK, qD, qZ⟩ := q
  exact ⟨q0, q1, qP, va_K.moved (u := U) (U := U.calling g mk a) (Vm.Alike.refl U.vm) qK, qD, ow_Z.same (u := U) (U := U.calling g mk a) rfl rfl qZ⟩
theorem ow_Rx_bl {D : va_G} {cl : List vw_C} {tys : List (ClassId × FieldType)} {ws : va_W} {av : List Value} : FrameBlind (ow_Rx D cl tys ws av) := fun a U g mk q => by
  obtain ⟨q0, qP, qK, qZ⟩ := q
  exact ⟨q0, qP, va_K.moved (u := U) (U := U.calling g mk a) (Vm.Alike.refl U.vm) qK, ow_Z.same (u := U) (U := U.calling g mk a) rfl rfl qZ⟩
section OV
variable {s : State} {H : Heap} {D : va_G} {cl : List vw_C} {A : Nat → Prop} {tys : List (ClassId × FieldType)} {ws : va_W} {As : List Value}
theorem ow_PreRx (hK : va_K D cl tys s) (hP : va_P D cl ws s.heap) (hZ : ow_Z s) {q : vw_C} {ci q0 b : Nat} {fs : List Value} (hc : cl[ci]? = some q) (he : ws[q0]? = some (b, .inr (ci, fs))) : PreV s s.heap q.1 b (ow_Rx D cl tys ws (.ref b :: As)) As :=
  ⟨ow_Rx_bl, va_recv hK hP hc he, fun U hU hW => ⟨rfl, by rw [hU]; exact hP, va_K.moved hW.alike hK, ow_Z.moved hW hU hZ⟩⟩
theorem ow_PrePx (hK : va_K D cl tys s) (hP : va_P D cl ws s.heap) (hD : va_D A ws) (hZ : ow_Z s) {q : vw_C} {ci q0 b : Nat} {fs : List Value} (hc : cl[ci]? = some q) (he : ws[q0]? = some (b, .inr (ci, fs))) : PreV s s.heap q.1 b (ow_Px D cl tys ws s.heap.size (.ref b :: As)) As :=
  ⟨ow_Px_bl, va_recv hK hP hc he, fun U hU hW => ⟨rfl, by rw [hU], by rw [hU]; exact hP, va_K.moved hW.alike hK, hD.weaken (fun _ _ _ _ => trivial), ow_Z.moved hW hU hZ⟩⟩
end OV
/-! THE THROW: 'throw new IllegalArgumentException("there is no such stamp")' -/
theorem ow_nt {l : Launch} (hf : l.flags = flags0) : l.stackTraces = false := by
  unfold Launch.stackTraces
  rw [hf]
  decide +kernel
theorem ow_B4_use {s : State} {args : Array Value} (h : ∀ w ∈ ow_B4, va_Nw w s) : ∀ w ∈ ow_B4, w.before args s = true := by
  intro w hw
  have h1 := h w hw
  simp only [ow_B4, List.mem_cons, List.not_mem_nil, or_false] at hw
  rcases hw with rfl | rfl | rfl | rfl
  · exact va_Nw.use rfl h1
  · exact va_Nw.use rfl h1
  · exact va_Nw.use rfl h1
  · exact va_Nw.use rfl h1
abbrev ow_at : List Cond := vx_atS RX0 57 "java/lang/IllegalArgumentException" ["java/lang/RuntimeException", "java/lang/Exception"]
theorem ow_at_rest : ∀ w ∈ ow_at.filter (fun w => !goodWord w), w ∈ ow_B4 := by decide +kernel
theorem ow_at_ot : ∀ w ∈ Cond.classLink RX0 53 "java/lang/IllegalArgumentException" :: Cond.initialized "java/lang/IllegalArgumentException" :: ow_at, vx_ot w = true := by decide +kernel
section OTH
variable {p : Program} {l : Launch} {e : Env} {R : Room} {s : State} {m : MethodId} {args : Array Value} {below : List Frame} {meth : Method} {c : Code} {H : Heap} {locs : List Loc} {cells slots : Nat}
variable {cc : ByteArray} {pc : Nat} {ls : Array Slot} {thr : Prop} {ok' : Array Value → State → Outcome → State → Prop}
theorem ow_throw (hexec : p.tables.exec = Jvm.exec) (hb : c.code = cc) (hf : l.flags = flags0) (hown : s.vm.findClass RX0 = some m.cls)
    (hk : (Cond.classLink RX0 53 "java/lang/IllegalArgumentException").before args s = true) (hini : (Cond.initialized "java/lang/IllegalArgumentException").before args s = true) (hg : ∀ w ∈ ow_at.filter goodWord, w.before args s = true) (hZ : ow_Z s) (hsize : ls.size = c.maxLocals)
    (d0 : decode cc pc = .ok (.new 53, 3)) (d3 : decode cc (pc + 3) = .ok (.dup, 1)) (d4 : decode cc (pc + 4) = .ok (.ldc 55, 2)) (d6 : decode cc (pc + 6) = .ok (.invokespecial 57, 3)) (d9 : decode cc (pc + 9) = .ok (.athrow, 1))
    (hemp : c.exceptionTable.isEmpty = true) (hlocks : meth.locks = false) (hRf : 5 < R.frames) (hRl : 82 ≤ R.locals) (hRc : 1 ≤ R.cells) (hRs : 6 ≤ R.slots) (hthr : thr) :
    W p l e R s m args below meth c s.heap [] 0 0 (ow_MQ below (ow_Q ow_IAE thr ok') args s 1 6 (fun _ => False)) (F0 m pc ls []) := by
  obtain ⟨hU, hN, hB, sa, hstr⟩ := hZ
  refine ow_imp (fun t ht => ?_) (vx_throwS (Qc := fun _ _ _ _ => False) (XC := fun E st t => E = ow_IAE ∧ st.heap.size ≤ t.heap.size ∧ ∀ q : Nat, q < st.heap.size → t.heap[q]? = st.heap[q]?) (free := fun _ => False) (mc := 1) (ms := 6)
    hexec hb (ow_nt hf) (own := RX0) (cls := "java/lang/IllegalArgumentException") (text := "there is no such stamp") (names := ["java/lang/RuntimeException", "java/lang/Exception"]) (ik := 53) (is := 55) (ic := 57) (sa := sa) (A := fun _ => False)
    hown (by decide) (by decide) hk hini hstr (vx_hat hg ow_at_rest (ow_B4_use hB)) ow_at_ot hU hN va_S.rf hsize d0 d3 d4 d6 d9 (ow_emp hemp _) hRf (by simpa using hRl) (by omega) (by omega) hlocks
    (fun t _ h2 h3 => ⟨rfl, h2, h3⟩) (fun z h => by cases h) (by decide) (by decide))
  obtain ⟨o, h1, h2, h3⟩ := ht
  rcases h3 with ⟨hf, _⟩ | ⟨q, rfl, E, ce, L, ⟨rfl, hz, hk2⟩, hce, hcv, hcl, hW, hs, hL⟩
  · exact hf.elim
  · exact ⟨.threw q, h1, h2, Or.inr ⟨hthr, q, rfl, ⟨ce, hce, by rw [hcv]; rfl, hcl⟩, hz, hk2⟩, L, ⟨hW, hs, fun ⟨v, hv⟩ => by (cases hv)⟩, hL⟩
end OTH
