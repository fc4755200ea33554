/-! FOR EVERY CALL there is an answer, and a line behind it -/
theorem ol_ok_1 {N : Nat} {L : Nat → Nat} (ok : ol_ok N L) : ol_ok 1 L := ⟨Nat.le_refl 1, by decide, ok.2.2.1, fun p hp => ok.2.2.2.1 p (by have := ok.1; omega), fun p q hp hq _ => by omega⟩
theorem ol_ok_0 : ol_ok 1 (fun _ => 0) := ⟨Nat.le_refl 1, by decide, rfl, fun _ _ => (by decide : 0 < 1000), fun p q hp hq _ => by omega⟩
theorem ol_f_0 : ol_f 1 (fun _ => 0) (fun _ => 0) := fun _ _ => nI_0.symm
theorem ex_behind {N : Nat} {L : Nat → Nat} (ok : ol_ok N L) (x : Int32) : ∃ (tt r : Int32) (N' : Nat) (L' : Nat → Nat), ((ol_no N L x ∧ tt = 1 ∧ r = 0 ∧ N' = N ∧ L' = L) ∨ (tt = 0 ∧ ∃ p, ol_at N L x p ∧ sp_bh N L p r N' L')) ∧ ol_ok N' L' := by
  rcases ol_dec N L x with ⟨p, hp⟩ | hno
  · have hpN := hp.1
    have hN := ok.2.1
    by_cases h : N < 1000
    · exact ⟨0, nI (ol_fr N L), N + 1, ol_many N L (p + 1) 1, Or.inr ⟨rfl, p, hp, Or.inl ⟨h, rfl, rfl, rfl⟩⟩, ol_ok_many ok (by omega) (by omega) 1 (by omega)⟩
    · exact ⟨0, -1, N, L, Or.inr ⟨rfl, p, hp, Or.inr ⟨by omega, rfl, rfl, rfl⟩⟩, ok⟩
  · exact ⟨1, 0, N, L, Or.inl ⟨hno, rfl, rfl, rfl, rfl⟩, ok⟩
theorem ex_several {N : Nat} {L : Nat → Nat} (ok : ol_ok N L) (x z : Int32) : ∃ (tt r : Int32) (N' : Nat) (L' : Nat → Nat), ((ol_no N L x ∧ tt = 1 ∧ r = 0 ∧ N' = N ∧ L' = L) ∨ (tt = 0 ∧ ∃ p, ol_at N L x p ∧ sp_sv N L p z r N' L')) ∧ ol_ok N' L' := by
  rcases ol_dec N L x with ⟨p, hp⟩ | hno
  · have hpN := hp.1
    by_cases h : ∃ w, 2 ≤ w ∧ w ≤ 64 ∧ z = nI w ∧ N + w ≤ 1000
    · obtain ⟨w, a1, a2, a3, a4⟩ := h
      exact ⟨0, nI (ol_fr N L), N + w, ol_many N L (p + 1) w, Or.inr ⟨rfl, p, hp, Or.inl ⟨w, a1, a2, a3, a4, rfl, rfl, rfl⟩⟩, ol_ok_many ok (by omega) (by omega) w (by omega)⟩
    · exact ⟨0, -1, N, L, Or.inr ⟨rfl, p, hp, Or.inr ⟨fun w a1 a2 a3 e => h ⟨w, a1, a2, e, a3⟩, rfl, rfl, rfl⟩⟩, ok⟩
  · exact ⟨1, 0, N, L, Or.inl ⟨hno, rfl, rfl, rfl, rfl⟩, ok⟩
theorem ol_dec2 (N : Nat) (L : Nat → Nat) (x y : Int32) : (∃ p q, ol_at N L x p ∧ ol_at N L y q) ∨ (ol_no N L x ∨ ol_no N L y) := by
  rcases ol_dec N L x with ⟨p, hp⟩ | hno
  · rcases ol_dec N L y with ⟨q, hq⟩ | hno
    · exact Or.inl ⟨p, q, hp, hq⟩
    · exact Or.inr (Or.inr hno)
  · exact Or.inr (Or.inl hno)
theorem ol_dec3 (N : Nat) (L : Nat → Nat) (x y z : Int32) : (∃ p q o', ol_at N L x p ∧ ol_at N L y q ∧ ol_at N L z o') ∨ (ol_no N L x ∨ ol_no N L y ∨ ol_no N L z) := by
  rcases ol_dec2 N L x y with ⟨p, q, hp, hq⟩ | h
  · rcases ol_dec N L z with ⟨o', ho⟩ | hno
    · exact Or.inl ⟨p, q, o', hp, hq, ho⟩
    · exact Or.inr (Or.inr (Or.inr hno))
  · exact Or.inr (h.elim Or.inl (fun h => Or.inr (Or.inl h)))
theorem ex_clear {N : Nat} {L : Nat → Nat} (ok : ol_ok N L) (x y : Int32) : ∃ (tt r : Int32) (N' : Nat) (L' : Nat → Nat), (((ol_no N L x ∨ ol_no N L y) ∧ tt = 1 ∧ r = 0 ∧ N' = N ∧ L' = L) ∨ (tt = 0 ∧ ∃ p q, ol_at N L x p ∧ ol_at N L y q ∧ sp_cl N L p q r N' L')) ∧ ol_ok N' L' := by
  rcases ol_dec2 N L x y with ⟨p, q, hp, hq⟩ | hno
  · have hpN := hp.1
    have hqN := hq.1
    exact ⟨0, nI (q - (p + 1)), N - (q - (p + 1)), ol_rem L (p + 1) (q - (p + 1)), Or.inr ⟨rfl, p, q, hp, hq, rfl, rfl, rfl⟩, ol_ok_rem ok (by omega) (by omega)⟩
  · exact ⟨1, 0, N, L, Or.inl ⟨hno, rfl, rfl, rfl, rfl⟩, ok⟩
theorem ex_carry {N : Nat} {L : Nat → Nat} (ok : ol_ok N L) (x y z : Int32) : ∃ (tt r : Int32) (N' : Nat) (L' : Nat → Nat), (((ol_no N L x ∨ ol_no N L y ∨ ol_no N L z) ∧ tt = 1 ∧ r = 0 ∧ N' = N ∧ L' = L) ∨ (tt = 0 ∧ ∃ p q o', ol_at N L x p ∧ ol_at N L y q ∧ ol_at N L z o' ∧ sp_cr N L p q o' r N' L')) ∧ ol_ok N' L' := by
  rcases ol_dec3 N L x y z with ⟨p, q, o', hp, hq, ho⟩ | hno
  · have hpN := hp.1
    have hqN := hq.1
    have hoN := ho.1
    by_cases h : q ≤ p ∨ (p < o' ∧ o' < q)
    · exact ⟨0, -1, N, L, Or.inr ⟨rfl, p, q, o', hp, hq, ho, rfl, Or.inl ⟨h, rfl, rfl⟩⟩, ok⟩
    · rcases Nat.lt_or_ge p o' with c | c
      · exact ⟨0, nI (q - p - 1), N, ol_swp L (p + 1) q (o' + 1), Or.inr ⟨rfl, p, q, o', hp, hq, ho, rfl, Or.inr (Or.inr ⟨by omega, by omega, rfl, rfl⟩)⟩, ol_ok_swp ok (by omega) (by omega) (by omega) (by omega)⟩
      · exact ⟨0, nI (q - p - 1), N, ol_swp L (o' + 1) (p + 1) q, Or.inr ⟨rfl, p, q, o', hp, hq, ho, rfl, Or.inr (Or.inl ⟨by omega, by omega, rfl, rfl⟩)⟩, ol_ok_swp ok (by omega) (by omega) (by omega) (by omega)⟩
  · exact ⟨1, 0, N, L, Or.inl ⟨hno, rfl, rfl, rfl, rfl⟩, ok⟩
theorem ex_compare {N : Nat} {L : Nat → Nat} (ok : ol_ok N L) (x y : Int32) : ∃ (tt r : Int32) (N' : Nat) (L' : Nat → Nat), (((ol_no N L x ∨ ol_no N L y) ∧ tt = 1 ∧ r = 0 ∧ N' = N ∧ L' = L) ∨ (tt = 0 ∧ ∃ p q, ol_at N L x p ∧ ol_at N L y q ∧ r = ol_cmp p q ∧ N' = N ∧ L' = L)) ∧ ol_ok N' L' := by
  rcases ol_dec2 N L x y with ⟨p, q, hp, hq⟩ | hno
  · exact ⟨0, _, N, L, Or.inr ⟨rfl, p, q, hp, hq, rfl, rfl, rfl⟩, ok⟩
  · exact ⟨1, 0, N, L, Or.inl ⟨hno, rfl, rfl, rfl, rfl⟩, ok⟩
theorem ex_greatest {N : Nat} {L : Nat → Nat} (ok : ol_ok N L) (x y : Int32) : ∃ (tt r : Int32) (N' : Nat) (L' : Nat → Nat), (((ol_no N L x ∨ ol_no N L y) ∧ tt = 1 ∧ r = 0 ∧ N' = N ∧ L' = L) ∨ (tt = 0 ∧ ∃ p q, ol_at N L x p ∧ ol_at N L y q ∧ r = ol_top L p (q + 1 - p) ∧ N' = N ∧ L' = L)) ∧ ol_ok N' L' := by
  rcases ol_dec2 N L x y with ⟨p, q, hp, hq⟩ | hno
  · exact ⟨0, _, N, L, Or.inr ⟨rfl, p, q, hp, hq, rfl, rfl, rfl⟩, ok⟩
  · exact ⟨1, 0, N, L, Or.inl ⟨hno, rfl, rfl, rfl, rfl⟩, ok⟩
theorem ex_place {N : Nat} {L : Nat → Nat} (ok : ol_ok N L) (x : Int32) : ∃ (tt r : Int32) (N' : Nat) (L' : Nat → Nat), ((ol_no N L x ∧ tt = 1 ∧ r = 0 ∧ N' = N ∧ L' = L) ∨ (tt = 0 ∧ ∃ p, ol_at N L x p ∧ r = nI p ∧ N' = N ∧ L' = L)) ∧ ol_ok N' L' := by
  rcases ol_dec N L x with ⟨p, hp⟩ | hno
  · exact ⟨0, _, N, L, Or.inr ⟨rfl, p, hp, rfl, rfl, rfl⟩, ok⟩
  · exact ⟨1, 0, N, L, Or.inl ⟨hno, rfl, rfl, rfl, rfl⟩, ok⟩
theorem ex_next {N : Nat} {L : Nat → Nat} (ok : ol_ok N L) (x z : Int32) : ∃ (tt r : Int32) (N' : Nat) (L' : Nat → Nat), ((ol_no N L x ∧ tt = 1 ∧ r = 0 ∧ N' = N ∧ L' = L) ∨ (tt = 0 ∧ ∃ p, ol_at N L x p ∧ ol_ps N L (if z = 0 then nI p - 1 else nI p + 1) r ∧ N' = N ∧ L' = L)) ∧ ol_ok N' L' := by
  rcases ol_dec N L x with ⟨p, hp⟩ | hno
  · obtain ⟨r, hr⟩ := ol_ps_ex ok.2.1 L (if z = 0 then nI p - 1 else nI p + 1)
    exact ⟨0, r, N, L, Or.inr ⟨rfl, p, hp, hr, rfl, rfl⟩, ok⟩
  · exact ⟨1, 0, N, L, Or.inl ⟨hno, rfl, rfl, rfl, rfl⟩, ok⟩
theorem ex_remove {N : Nat} {L : Nat → Nat} (ok : ol_ok N L) (x : Int32) : ∃ (r : Int32) (N' : Nat) (L' : Nat → Nat), sp_rm N L x r N' L' ∧ ol_ok N' L' := by
  rcases ol_dec N L x with ⟨p, hp⟩ | hno
  · have hpN := hp.1
    by_cases h : 1 ≤ p
    · exact ⟨1, N - 1, ol_rem L p 1, Or.inl ⟨p, hp, h, rfl, rfl, rfl⟩, ol_ok_rem ok h (by omega)⟩
    · have e : p = 0 := by omega
      subst e
      exact ⟨0, N, L, Or.inr ⟨Or.inr hp, rfl, rfl, rfl⟩, ok⟩
  · exact ⟨0, N, L, Or.inr ⟨Or.inl hno, rfl, rfl, rfl⟩, ok⟩
theorem ol_lh {LN i : Nat} (hL : LN ≤ 2048) (hi : i < 2 ^ 30) (h : ¬ nI LN - nI 4 < nI i) : i + 4 ≤ LN := by
  have h1 : (nI LN - nI 4).toInt = (LN : Int) - (4 : Nat) := pk_sub_toInt (by omega) (by omega)
  have h2 : (nI i).toInt = (i : Int) := nI_toInt (by omega)
  rw [Int32.lt_iff_toInt_lt, h1, h2] at h
  omega
section VXS
variable {p : Program} {l : Launch} {e : Env} {R : Room} {s : State} {m : MethodId} {args : Array Value} {below : List Frame} {meth : Method} {c : Code} {T : State} {H : Heap} {locs : List Loc} {cells slots : Nat}
abbrev vx_CSW (R : Room) (s : State) (args : Array Value) (own : String) (index : Nat) (y : MethodName) (bytes : ByteArray) (maxL : Nat) (ret : Option FieldType) (hh : List (Nat × Nat × Nat × Nat)) (ws : List Cond) (rm : Room) (mc ms n : Nat) : Prop :=
  (rm.cells = mc ∧ rm.slots = ms ∧ rm.frames + 1 ≤ R.frames ∧ 8 + (maxL + 11) + rm.locals ≤ R.locals ∧ (∀ w ∈ ws, ∀ (a' : Array Value) (U : State), s.WarmedH U.vm → w.before a' U = true) ∧ Cond.codeWith y bytes maxL ret hh ∈ ws) ∧
  (Cond.codeWith y bytes maxL ret hh).before args s = true ∧ (Cond.initialized y.cls).before args s = true ∧ (y.cls ≠ "java/lang/invoke/MethodHandle" ∧ y.cls ≠ "java/lang/invoke/VarHandle") ∧
  (∀ sig, parseMethodDescriptor y.desc = some sig → n = sig.parameters.length) ∧ (Cond.methodLink own index y).before args s = true ∧ (Cond.static y).before args s = true
theorem vx_cwSW {own : String} {index maxL mc ms : Nat} {y : MethodName} {bytes : ByteArray} {ret : Option FieldType} {hh : List (Nat × Nat × Nat × Nat)} {Ts ws ws' : List Cond} {rm : Room} (n : Nat) (ht : ∀ w ∈ Ts, w.before args s = true) (hT : GoodIn Ts (va_wsS own index y ws)) (hw : ws = Cond.codeWith y bytes maxL ret hh :: ws') (hrc : rm.cells = mc) (hrs : rm.slots = ms)
    (hd : y.cls ≠ "java/lang/invoke/MethodHandle" ∧ y.cls ≠ "java/lang/invoke/VarHandle" ∧ (parseMethodDescriptor y.desc).map (fun d => d.parameters.length) = some n) (hR : rm.frames + 1 ≤ R.frames ∧ 8 + (maxL + 11) + rm.locals ≤ R.locals) :
    vx_CSW R s args own index y bytes maxL ret hh ws rm mc ms n := by
  have ok : ∀ w ∈ va_wsS own index y ws, w.before args s = true := fun w h => ht w (hT w h).1
  have hG : GoodIn Ts ws := fun w h => hT w (by unfold va_wsS; exact List.mem_append_right _ h)
  have hc : Cond.codeWith y bytes maxL ret hh ∈ ws := by rw [hw]; exact List.mem_cons_self
  refine ⟨⟨hrc, hrs, hR.1, hR.2, pay_in ht hG, hc⟩, ht _ (hG _ hc).1, ok _ (by simp [va_wsS]), ⟨hd.1, hd.2.1⟩, fun sig h => ?_, ok _ (by simp [va_wsS]), ok _ (by simp [va_wsS])⟩
  have h2 := hd.2.2
  rw [h] at h2
  exact (Option.some.inj h2).symm
theorem vx_callSW (X : Stand p l e R s m args below meth c T locs cells slots) (hexec : p.tables.exec = Jvm.exec) {own : String} {index : Nat} {y : MethodName} {bytes : ByteArray} {maxL : Nat} {ret : Option FieldType} {hh : List (Nat × Nat × Nat × Nat)}
    (hown : s.vm.findClass own = some m.cls) (hlink : (Cond.methodLink own index y).before args s = true) (hstat : (Cond.static y).before args s = true) (hinit : (Cond.initialized y.cls).before args s = true)
    (hcode : (Cond.codeWith y bytes maxL ret hh).before args s = true) (hy : y.cls ≠ "java/lang/invoke/MethodHandle" ∧ y.cls ≠ "java/lang/invoke/VarHandle")
    {W9 : Nat} {Pre : Pt → Array Value → Prop} {Post : Pt → Array Value → Option Value → Pt → Prop} (hK : Back l R p e below s args y 3 W9 Pre Post)
    {g : JFrame} (hg : g.method = m) (hsize : g.locals.size = c.maxLocals) {argsL rest : List Value} (hlen : ∀ sig, parseMethodDescriptor y.desc = some sig → argsL.length = sig.parameters.length)
    (hstack : g.stack = argsL.reverse ++ rest) (hW : 2 * g.monitorRoom + (rest.map fun v => v.category).sum ≤ W9) (hdg : decode c.code g.pc = .ok (.invokestatic index, 3))
    (hpre : ∀ vm₁, s.WarmedH vm₁ → Pre ⟨T.setVm vm₁, locs, cells, slots⟩ argsL.toArray) :
    ∃ (v : Option Value) (vm₁ : Vm) (B : Pt), s.WarmedH vm₁ ∧ Stand p l e R s m args below meth c B.U B.locs B.cells B.slots ∧ Post ⟨T.setVm vm₁, locs, cells, slots⟩ argsL.toArray v B ∧
      ∀ target, Steps p.tables e below (B.U.setTop { g with pc := g.pc + 3, stack := v.toList ++ rest }) target → Steps p.tables e below (T.setTop g) target := by
  obtain ⟨mk, methM, cM, hnamed, hmethM, -, -, -, -, -, -, hsigM⟩ := Cond.codeWith_spec hcode
  have hstatic : methM.isStatic = true := Cond.static_spec hnamed hmethM hstat
  obtain ⟨kP, hkP, -⟩ := className_of_methodNamed hnamed
  have hinitP : kP.init = .initialized := Cond.initialized_spec (findClass_of_methodNamed hnamed) hkP hinit
  obtain ⟨vm₁, X₁, hstep₁⟩ := X.invokestatic hexec hown hlink hnamed hmethM hstatic hkP hinitP hy (g := g) hg (argsL := argsL) (rest := rest) (hlen _ hsigM) hstack hdg
  obtain ⟨v, B, X', hpost, hsteps⟩ := hK m meth c ⟨T.setVm vm₁, locs, cells, slots⟩ { g with stack := rest } (.invokestatic index) mk argsL.toArray X₁ hg hsize hdg hW (X₁.named hnamed) (hpre vm₁ X₁.warmed)
  exact ⟨v, vm₁, B, X₁.warmed, X', hpost, fun target h => hstep₁ _ fun acts => by rw [doInvoke_state]; exact hsteps.trans h⟩
theorem vx_runSW {y : MethodName} {bytes cc : ByteArray} {maxL nL mc ms n index : Nat} {ret : Option FieldType} {hh : List (Nat × Nat × Nat × Nat)} {ws : List Cond} {rm : Room} {Pc : Array Value → State → Prop} {Qc : Array Value → State → Outcome → State → Prop} {free : Addr → Prop} {Ts : List Cond} {own : String} {As rest : List Value} {g : JFrame}
    (S : CallFix p m c cc nL s args Ts own) (hM : Met l y ws rm Pc Qc mc ms free) (cw : vx_CSW R s args own index y bytes maxL ret hh ws rm mc ms n) (hp : PreS s H Pc As)
    (hg : g.method = m) (hn : As.length = n) (hsize : g.locals.size = nL) (hstack : g.stack = As.reverse ++ rest) (hW : 2 * g.monitorRoom + (rest.map fun v => v.category).sum ≤ 8) (hdg : decode cc g.pc = .ok (.invokestatic index, 3)) (hf : cells + mc ≤ R.cells ∧ slots + ms ≤ R.slots) :
    va_Run p l e R s m args below meth c H locs cells slots mc ms g rest (Qc As.toArray) (free) := by
  obtain ⟨⟨hrc, hrs, hfr, hlo, hws, hcw⟩, hcode, hini, hy, hlen, hl, hstt⟩ := cw
  have hK : Back l R p e below s args y 3 8 (PreOf R mc ms Pc) (PostOf Qc mc ms free) := va_backW (hh := hh) (bytes := bytes) (maxL := maxL) (ret := ret) hM hp.1 hrc hrs hfr hlo hws hcw (fun a' U hW => word_at hW (Or.inl (by first | rfl | simp [Cond.onTables, Cond.keeps, Cond.steady])) hini)
  obtain ⟨hx, hb, hml, ho, -⟩ := S
  intro T hT X
  obtain ⟨v, vm₁, ⟨U', l2, c2, s2⟩, hW₁, X', ⟨g', mk, t, L, e1, e2, hq, h1, hL, h2, h3⟩, st⟩ := vx_callSW X hx (hh := hh) (bytes := bytes) (maxL := maxL) (ret := ret) ho hl hstt hini hcode hy hK hg (hsize.trans hml.symm) (argsL := As) (rest := rest) (fun sig h => hn.trans (hlen sig h)) hstack hW (by rw [hb]; exact hdg)
    (fun vm₁ hW₁ => ⟨hf.1, hf.2, hp.2 (T.setVm vm₁) hT hW₁⟩)
  dsimp only [Pt.U, Pt.locs, Pt.cells, Pt.slots] at X' e1 e2 h1 h2 h3 st
  subst h1; subst h2; subst h3
  exact ⟨v, (T.setVm vm₁).calling g' mk As.toArray, t, U', L, hT, X', hL, e1, e2, hq, st⟩
end VXS
/-! ROWS FOR THE LAW'S WALK -/
section LR
variable {p : Program} {l : Launch} {e : Env} {R : Room} {s : State} {m : MethodId} {args : Array Value} {below : List Frame} {meth : Method} {c : Code} {H : Heap} {locs : List Loc} {cells slots : Nat} {Q : State → Prop}
variable {cc : ByteArray} {pc : Nat} {ls : Array Slot} {rest : List Value} {D : va_G} {cl : List vw_C} {A : Nat → Prop} {tys : List (ClassId × FieldType)} {ws : va_W} {H0 : Heap} {As : List Value}
theorem ow_sld (hexec : p.tables.exec = Jvm.exec) (hb : c.code = cc) {b L : Nat} {xs : Nat → Int32} (hX : va_X b L xs s H0) (hbl : b < H0.size) (hbA : ¬ A b) (hS : va_S A H0 H locs) {k : Nat} (hk : k < L) (hL : L < 2 ^ 31) (hdg : decode cc pc = .ok (.iaload, 1))
    (kk : W p l e R s m args below meth c H locs cells slots Q (F0 m (pc + 1) ls (.int (xs k) :: rest))) : W p l e R s m args below meth c H locs cells slots Q (F0 m pc ls (.int (nI k) :: .ref b :: rest)) := by
  refine va_sld hexec hb hX hbl hbA hS (vp_in_nI hk hL) hdg ?_
  rw [nI_clamp (by omega)]
  exact kk
/-- what the law knows of what is thrown, at its start -/
def lw_Zs (A : Nat → Prop) (s : State) : Prop := vx_Zq Bundle.tN "UNASSIGNED_STACK" Bundle.steD A s s.heap ∧ vx_Zq Bundle.tN "SUPPRESSED_SENTINEL" Bundle.listD A s s.heap ∧ (∀ w ∈ ow_B4, va_Nw w s) ∧ ∃ sa : Nat, vk_R RX0 55 "there is no such stamp" sa s
theorem lw_Zs.at (h : lw_Zs A s) (hS : va_S A s.heap H locs) {U : State} (hU : U.heap = H) (hW : s.WarmedH U.vm) : ow_Z U := by
  obtain ⟨h1, h2, h3, sa, h4⟩ := h
  unfold ow_Z
  rw [hU]
  exact ⟨vx_Zq.moved hW.alike ((h1.kept hS.2.1).narrow (fun _ h => h.elim)), vx_Zq.moved hW.alike ((h2.kept hS.2.1).narrow (fun _ h => h.elim)), ow_B4_warm hW h3, sa, vk_R.warm hW h4⟩
theorem ow_PreSx (hK : va_K D cl tys s) (hP : va_P D cl ws H) (hD : va_D A ws) (hZ : lw_Zs A s) (hS : va_S A s.heap H locs) : PreS s H (ow_Px D cl tys ws H.size As) As :=
  ⟨ow_Px_bl, fun U hU hW => ⟨rfl, by rw [hU], by rw [hU]; exact hP, va_K.moved hW.alike hK, hD.weaken (fun _ _ _ _ => trivial), hZ.at hS hU hW⟩⟩
end LR
set_option maxRecDepth 20000 in
theorem gT_law_X1_behind : GoodIn lw_tbl (wsV RL 48 RX1 yX1_behind wsX1_behind) := goodIn_p _ [252, 256, 260, 264, 268] (by decide +kernel) (by decide +kernel)
set_option maxRecDepth 20000 in
theorem gT_law_X1_several : GoodIn lw_tbl (wsV RL 56 RX1 yX1_several wsX1_several) := goodIn_p _ [272, 256, 260, 264, 268] (by decide +kernel) (by decide +kernel)
set_option maxRecDepth 20000 in
theorem gT_law_X1_remove : GoodIn lw_tbl (wsV RL 61 RX1 yX1_remove wsX1_remove) := goodIn_p _ [276, 260, 280] (by decide +kernel) (by decide +kernel)
set_option maxRecDepth 20000 in
theorem gT_law_X1_clear : GoodIn lw_tbl (wsV RL 64 RX1 yX1_clear wsX1_clear) := goodIn_p _ [284, 256, 260, 280] (by decide +kernel) (by decide +kernel)
set_option maxRecDepth 20000 in
theorem gT_law_X1_carry : GoodIn lw_tbl (wsV RL 68 RX1 yX1_carry wsX1_carry) := goodIn_p _ [288, 256, 260, 280, 268] (by decide +kernel) (by decide +kernel)
set_option maxRecDepth 20000 in
theorem gT_law_X1_compare : GoodIn lw_tbl (wsV RL 71 RX1 yX1_compare wsX1_compare) := goodIn_p _ [292, 256, 260] (by decide +kernel) (by decide +kernel)
set_option maxRecDepth 20000 in
theorem gT_law_X1_next : GoodIn lw_tbl (wsV RL 75 RX1 yX1_next wsX1_next) := goodIn_p _ [296, 256, 260] (by decide +kernel) (by decide +kernel)
set_option maxRecDepth 20000 in
theorem gT_law_X1_has : GoodIn lw_tbl (wsV RL 79 RX1 yX1_has wsX1_has) := goodIn_p _ [300, 260] (by decide +kernel) (by decide +kernel)
set_option maxRecDepth 20000 in
theorem gT_law_X1_place : GoodIn lw_tbl (wsV RL 82 RX1 yX1_place wsX1_place) := goodIn_p _ [304, 256, 260] (by decide +kernel) (by decide +kernel)
set_option maxRecDepth 20000 in
theorem gT_law_X1_at : GoodIn lw_tbl (wsV RL 86 RX1 yX1_at wsX1_at) := goodIn_p _ [308] (by decide +kernel) (by decide +kernel)
set_option maxRecDepth 20000 in
theorem gT_law_X1_greatest : GoodIn lw_tbl (wsV RL 89 RX1 yX1_greatest wsX1_greatest) := goodIn_p _ [312, 256, 260] (by decide +kernel) (by decide +kernel)
set_option maxRecDepth 20000 in
theorem gT_law_X1_wipe : GoodIn lw_tbl (wsV RL 93 RX1 yX1_wipe wsX1_wipe) := goodIn_p _ [316] (by decide +kernel) (by decide +kernel)
set_option maxRecDepth 20000 in
theorem gT_law_X1_look : GoodIn lw_tbl (wsV RL 97 RX1 yX1_look wsX1_look) := goodIn_p _ [320, 264, 260] (by decide +kernel) (by decide +kernel)
/-! THE CLAIM OUT OF ONE WALK OF THE LAW'S BODY. Your part is whole_start (and what it stands on); all else here is the same for every law, but numbers. -/
def R_law : String := "OrderLineLaw"
def lw_P (b : Addr) (xs : List Int32) (args : Array Value) (s : State) : Prop := args = #[.ref b] ∧ s.IntsAt b xs ∧ xs.length ≤ 2048 ∧ (Jvm.Cond.and given_1 narrow_1).before args s = true
def lw_Q (_ : Array Value) (s : State) (o : Outcome) (t : State) : Prop := o = .returned (some (.int 1)) ∧ Framed s o t [] 1032 12206
def lw_Z (below : List Frame) (a : Array Value) (s : State) : State → Prop := fun t => ∃ o, t.status = .running ∧ Ended t below o ∧ lw_Q a s o t
/-- the law's own end, with 1 on the stack, nothing written that was there before, its room as the claim has it -/
theorem lw_ret {p : Program} {l : Launch} {e : Env} {s : State} {m : MethodId} {below : List Frame} {meth : Method} {c : Code} {b : Nat} (hx : p.tables.exec = Jvm.exec) (hb : c.code = code) (hr : meth.sig.returnType = ret) (hlocks : meth.locks = false) {pc : Nat} {H : Heap} {ls : Array Slot} (hdg : decode code pc = .ok (.ireturn, 1)) : W p l e room_1 s m #[Value.ref b] below meth c H [] 1032 12206 (lw_Z below #[Value.ref b] s) (F0 m pc ls [.int 1]) := by
  intro T hT X
  obtain ⟨fs, hret, hrun, hended, hW, hframe⟩ := X.leave (v := some (.int 1)) (hlocks := hlocks) (fun h => by rw [hr] at h; cases h)
  have hmeth' : T.vm.method? m = some meth := X.method'
  refine ⟨T.setFrames fs, ?_, .returned (some (.int 1)), hrun, hended, rfl, ⟨_, rfl⟩, hW, hframe⟩
  jvm_step X.here [X.here.top, hx, hb, hdg, hmeth', hr, ret, narrow_b1]
  (try refine ⟨rfl, ?_⟩); (try refine ⟨rfl, ?_⟩)
  first | (intro acts; rw [hret _ acts rfl rfl rfl]) | rw [hret _ _ rfl rfl rfl]
  exact Steps.refl _
/-- what holds at the law's entry: the machine, the code, the tables' words (any of lw_tbl by 'hts w (by decide +kernel)'), the script of L ints xs at the cell b, what the Statement gives of the start (any of its parts by flat_of_before) -/
def lw_At (p : Program) (s : State) (m : MethodId) (meth : Method) (c : Code) (b L : Nat) (xs : Nat → Int32) : Prop :=
  p.tables.exec = Jvm.exec ∧ c.code = code ∧ meth.sig.returnType = ret ∧ c.maxLocals = 7 ∧ s.vm.findClass R_law = some m.cls ∧ (∀ w ∈ lw_tbl, w.before #[Value.ref b] s = true) ∧ va_X b L xs s s.heap ∧ b < s.heap.size ∧ meth.locks = false ∧ (Jvm.Cond.and given_1 narrow_1).before #[Value.ref b] s = true
/-- the law at a place of its loop: both sides hold one line -/
abbrev lw_inv (pg : Program) (l : Launch) (ev : Env) (s : State) (m : MethodId) (below : List Frame) (meth : Method) (cd : Code) (b : Nat) (dC : Nat → ClassId) (dI : Nat → Nat → Nat) (A : Nat → Prop) (hX aX bX o hM aM bM : Nat) (cA cB cO cC cD : ClassId) (q pc cells slots : Nat) : Prop :=
  ∀ (N : Nat) (L : Nat → Nat) (f g f2 as : Nat → Int32) (th : Int32) (oo : Nat → Int64) (H : Heap) (locs : List Loc) (ls : Array Slot), ol_ok N L → ol_f N L f → ol_g N L g → ol_f N L f2 → va_P (dC, dI) vwCl [(hX, .inr (0, [.ref aX, .ref bX, .int (nI N)])), (aX, .inl (cA, 1000, .inl f)), (bX, .inl (cB, 1000, .inl g)), (o, .inl (cO, 1, .inr (.inl oo))), (hM, .inr (1, [.int th, .ref aM, .int (nI N), .ref bM])), (aM, .inl (cC, 1000, .inl f2)), (bM, .inl (cD, 1000, .inl as))] H → va_D A [(hX, .inr (0, [.ref aX, .ref bX, .int (nI N)])), (aX, .inl (cA, 1000, .inl f)), (bX, .inl (cB, 1000, .inl g)), (o, .inl (cO, 1, .inr (.inl oo))), (hM, .inr (1, [.int th, .ref aM, .int (nI N), .ref bM])), (aM, .inl (cC, 1000, .inl f2)), (bM, .inl (cD, 1000, .inl as))] → va_S A s.heap H locs → lv_has ls 7 [(0, .ref b), (1, .ref hX), (2, .ref hM), (3, .ref o), (4, .int (nI (4 * q)))] →
    W pg l ev room_1 s m #[Value.ref b] below meth cd H locs cells slots (lw_Z below #[Value.ref b] s) (F0 m pc ls [])
