set_option maxHeartbeats 4000000 in
set_option maxRecDepth 100000 in
/-- a new line: the first stamp alone -/
theorem c_X_init (l : Launch) (dC : Nat → ClassId) (dI : Nat → Nat → Nat) (h sz : Nat) : Met l yX0_init wsX0_init ({ frames := 1, cells := 2, slots := 2000, locals := 12 }) (ow_Pc (dC, dI) vwCl [] [(h, .inr (0, [.null, .null, .int 0]))] sz [.ref h]) (va_Qv (fun u : Nat × Nat × ClassId × ClassId × (Nat → Int32) => ol_g 1 (fun _ => 0) u.2.2.2.2) (fun (u : Nat × Nat × ClassId × ClassId × (Nat → Int32)) (t : State) => va_P (dC, dI) vwCl (wX h u.1 u.2.1 u.2.2.1 u.2.2.2.1 (nI 1, (fun _ => 0), u.2.2.2.2)) t.heap ∧ va_K (dC, dI) vwCl [(u.2.2.1, .int), (u.2.2.2.1, .int)] t ∧ va_D (va_A [(h, .inr (0, [.null, .null, .int 0]))] sz) (wX h u.1 u.2.1 u.2.2.1 u.2.2.2.1 (nI 1, (fun _ => 0), u.2.2.2.2))) (va_A [(h, .inr (0, [.null, .null, .int 0]))] sz)) 2 2000 (va_A [(h, .inr (0, [.null, .null, .int 0]))] sz) := by
  refine Met.ofW (cc := cX0_init) (maxL := 2) (ret := none) (by decide) rfl ?_
  intro pg ev s m args below meth cd s₁ B hml hv
  obtain ⟨rfl, hsz, hP, hK, hD0⟩ := hv
  have hx := B.exec
  have hb := B.bytes
  have hr := B.returns
  have hts := atoms_spec (ws := wsX0_init) B.pre
  have hown : s.vm.findClass RX0 = some m.cls := findClass_of_methodNamed B.named
  have hlocks := B.notSynchronized
  have hin : meth.name = "<init>" := (name_of_methodNamed B.named B.method).1
  subst hsz
  have hD := hD0.self (sz := s.heap.size)
  generalize hAe : va_A [(h, .inr (0, [.null, .null, .int 0]))] s.heap.size = A at hD ⊢
  have hA : ∀ q : Nat, s.heap.size ≤ q → A q := fun q h => by rw [← hAe]; exact Or.inr h
  have hS : va_S A s.heap s.heap [] := va_S.rf
  have hD : va_D A [(h, .inr (0, [.null, .null, .int 0]))] := hD
  have hP : va_P (dC, dI) vwCl [(h, .inr (0, [.null, .null, .int 0]))] s.heap := hP
  have hl := lv_entry ([.ref h]) (n := 2) (Nat.le_of_ble_eq_true rfl)
  rw [lg_entry_eq]
  generalize (lg_sl ([.ref h]) ++ List.replicate (2 - (lg_sl ([.ref h])).length) Slot.unset).toArray = ls at hl ⊢
  have hl : lv_has ls 2 [(0, .ref h)] := hl
  refine lv_aload_n hx hb dX0_init_0 rfl (lv_at hl 0 rfl) ?_
  refine W.objInit hx hb hown (hts (.methodLink RX0 1 objectInit) (by decide +kernel)) (hts (.instanceMethod objectInit) (by decide +kernel)) (hts (.code objectInit ⟨#[0xb1]⟩ 1 none) (by decide +kernel)) rfl (by rw [hml]; exact hl.1) rfl dX0_init_1 (Nat.le_of_ble_eq_true rfl) (Nat.le_of_ble_eq_true rfl) ?_
  refine W.eq (g2 := F0 m 4 ls []) rfl ?_
  refine lv_aload_n hx hb dX0_init_4 rfl (lv_at hl 0 rfl) ?_
  refine lv_sipush (v := nI 1000) hx hb dX0_init_5 (by decide +kernel) ?_
  refine va_newa (atype := .int) (ty := .int) (N' := 1000) (a0 := (1000, .inl (fun _ => 0))) hx hb (hts (.arrayClass .int) (by decide +kernel)) rfl hK hP hD hS hA (fun _ => rfl) (by decide +kernel) (by decide +kernel) (by decide) (Nat.le_of_ble_eq_true rfl) (Nat.le_of_ble_eq_true rfl) dX0_init_8 (fun a cA H hK hP hD hS => ?_)
  have hP : va_P (dC, dI) vwCl [(h, .inr (0, [.null, .null, .int 0])), (a, .inl (cA, 1000, .inl (fun _ => 0)))] H := hP
  have hD : va_D A [(h, .inr (0, [.null, .null, .int 0])), (a, .inl (cA, 1000, .inl (fun _ => 0)))] := hD
  have hK : va_K (dC, dI) vwCl [(cA, .int)] s := hK
  refine W.widen (k := 1) (n := 1000) (by omega) (by omega) ?_
  refine va_putF (D := (dC, dI)) (ci := 0) (v := .ref a) (ty := (.array .int)) (C := RX0) (T := TX0) (N := 3) hx hb hts (by decide +kernel) tyX0 tyX0_ok nmX0 hown hK hP hD hS 0 rfl rfl 0 (by decide) (hts (.fieldLink RX0 9 "OrderLine" "line" "[I") (by decide +kernel)) (fun _ h9 => h9) rfl hin rfl (by decide +kernel) rfl rfl (Nat.le_of_ble_eq_true rfl) dX0_init_10 (fun H locs hP hD hS => ?_)
  have hP : va_P (dC, dI) vwCl [(h, .inr (0, [.ref a, .null, .int 0])), (a, .inl (cA, 1000, .inl (fun _ => 0)))] H := hP
  have hD : va_D A [(h, .inr (0, [.ref a, .null, .int 0])), (a, .inl (cA, 1000, .inl (fun _ => 0)))] := hD
  refine lv_aload_n hx hb dX0_init_13 rfl (lv_at hl 0 rfl) ?_
  refine lv_sipush (v := nI 1000) hx hb dX0_init_14 (by decide +kernel) ?_
  refine va_newa (atype := .int) (ty := .int) (N' := 1000) (a0 := (1000, .inl (fun _ => 0))) hx hb (hts (.arrayClass .int) (by decide +kernel)) rfl hK hP hD hS hA (fun _ => rfl) (by decide +kernel) (by decide +kernel) (by decide) (Nat.le_of_ble_eq_true rfl) (Nat.le_of_ble_eq_true rfl) dX0_init_17 (fun b cB H hK hP hD hS => ?_)
  have hP : va_P (dC, dI) vwCl [(h, .inr (0, [.ref a, .null, .int 0])), (a, .inl (cA, 1000, .inl (fun _ => 0))), (b, .inl (cB, 1000, .inl (fun _ => 0)))] H := hP
  have hD : va_D A [(h, .inr (0, [.ref a, .null, .int 0])), (a, .inl (cA, 1000, .inl (fun _ => 0))), (b, .inl (cB, 1000, .inl (fun _ => 0)))] := hD
  have hK : va_K (dC, dI) vwCl [(cA, .int), (cB, .int)] s := hK
  refine W.widen (k := 2) (n := 2000) (by omega) (by omega) ?_
  refine va_putF (D := (dC, dI)) (ci := 0) (v := .ref b) (ty := (.array .int)) (C := RX0) (T := TX0) (N := 3) hx hb hts (by decide +kernel) tyX0 tyX0_ok nmX0 hown hK hP hD hS 0 rfl rfl 1 (by decide) (hts (.fieldLink RX0 13 "OrderLine" "places" "[I") (by decide +kernel)) (fun _ h9 => h9) rfl hin rfl (by decide +kernel) rfl rfl (Nat.le_of_ble_eq_true rfl) dX0_init_19 (fun H locs hP hD hS => ?_)
  have hP : va_P (dC, dI) vwCl [(h, .inr (0, [.ref a, .ref b, .int 0])), (a, .inl (cA, 1000, .inl (fun _ => 0))), (b, .inl (cB, 1000, .inl (fun _ => 0)))] H := hP
  have hD : va_D A [(h, .inr (0, [.ref a, .ref b, .int 0])), (a, .inl (cA, 1000, .inl (fun _ => 0))), (b, .inl (cB, 1000, .inl (fun _ => 0)))] := hD
  refine lv_iconst (v := nI 1) hx hb dX0_init_22 (by decide +kernel) ?_
  refine lv_istore_n (lv' := [(1, .int (nI 1)), (0, .ref h)]) hx hb dX0_init_23 rfl hl (by decide) rfl (fun ls hl => ?_)
  have loop : ∀ (k : Nat) (i : Nat) (g1 : Nat → Int32), 1000 < i + k → 1 ≤ i → i ≤ 1000 → g1 0 = nI 0 → (∀ v, 1 ≤ v → v < i → g1 v = -1) → ∀ (H : Heap) (locs : List Loc), va_P (dC, dI) vwCl [(h, .inr (0, [.ref a, .ref b, .int 0])), (a, .inl (cA, 1000, .inl (fun _ => 0))), (b, .inl (cB, 1000, .inl g1))] H → va_D A [(h, .inr (0, [.ref a, .ref b, .int 0])), (a, .inl (cA, 1000, .inl (fun _ => 0))), (b, .inl (cB, 1000, .inl g1))] → va_S A s.heap H locs → ∀ ls : Array Slot, lv_has ls 2 [(0, .ref h), (1, .int (nI i))] → W pg l ev (headSpec wsX0_init ({ frames := 1, cells := 2, slots := 2000, locals := 12 })).room s m ([.ref h] : List Value).toArray below meth cd H locs 2 2000 (MQ below (va_Qv (fun u : Nat × Nat × ClassId × ClassId × (Nat → Int32) => ol_g 1 (fun _ => 0) u.2.2.2.2) (fun (u : Nat × Nat × ClassId × ClassId × (Nat → Int32)) (t : State) => va_P (dC, dI) vwCl (wX h u.1 u.2.1 u.2.2.1 u.2.2.2.1 (nI 1, (fun _ => 0), u.2.2.2.2)) t.heap ∧ va_K (dC, dI) vwCl [(u.2.2.1, .int), (u.2.2.2.1, .int)] t ∧ va_D A (wX h u.1 u.2.1 u.2.2.1 u.2.2.2.1 (nI 1, (fun _ => 0), u.2.2.2.2))) A) ([.ref h] : List Value).toArray s 2 2000 A) (F0 m 24 ls []) := by
    intro k
    induction k with
    | zero =>
      intro i g1 h1 h2 h3
      exact absurd h1 (by omega)
    | succ k ih =>
      intro i g1 hk hi hi2 h0 h1 H locs hP hD hS ls hl
      refine lv_iload_n hx hb dX0_init_24 rfl (lv_at hl 1 rfl) ?_
      refine lv_sipush (v := nI 1000) hx hb dX0_init_25 (by decide +kernel) ?_
      refine lv_icmp_ge (tgt := 44) hx hb dX0_init_28 (by decide) (fun c_28 => ?_) (fun c_28 => ?_)
      · have hc := ol_le (by omega) (by omega) c_28
        refine lv_aload_n hx hb dX0_init_44 rfl (lv_at hl 0 rfl) ?_
        refine lv_iconst (v := nI 1) hx hb dX0_init_45 (by decide +kernel) ?_
        refine va_put (D := (dC, dI)) (ci := 0) (v := .int (nI 1)) (ty := (.int)) (C := RX0) (T := TX0) (N := 3) hx hb hts (by decide +kernel) tyX0 tyX0_ok nmX0 hown hK hP hD hS 0 rfl rfl 2 (by decide) (hts (.fieldLink RX0 16 "OrderLine" "count" "I") (by decide +kernel)) (fun _ h9 => h9) rfl (by decide +kernel) rfl rfl (Nat.le_of_ble_eq_true rfl) dX0_init_46 (fun H locs hP hD hS => ?_)
        have hP : va_P (dC, dI) vwCl [(h, .inr (0, [.ref a, .ref b, .int (nI 1)])), (a, .inl (cA, 1000, .inl (fun _ => 0))), (b, .inl (cB, 1000, .inl g1))] H := hP
        have hD : va_D A [(h, .inr (0, [.ref a, .ref b, .int (nI 1)])), (a, .inl (cA, 1000, .inl (fun _ => 0))), (b, .inl (cB, 1000, .inl g1))] := hD
        have hg9 : ol_g 1 (fun _ => 0) g1 := ⟨fun p hp => by rw [show p = 0 by omega]; exact h0, fun v hv hn => h1 v (Nat.one_le_iff_ne_zero.mpr (fun e9 => hn 0 (by omega) e9.symm)) (by omega)⟩
        have hP9 := hP.sub [0, 1, 2] rfl
        have hD9 := hD.sub (ws' := wX h a b cA cB (nI 1, (fun _ => 0), g1)) [0, 1, 2] (by decide) rfl
        exact W.vret hx hb hr (fun t ht hW => ⟨⟨(a, b, cA, cB, g1), rfl, hg9, by rw [ht]; exact hP9, va_K.moved hW.alike hK, hD9⟩, hS.F ht⟩) hS.2.2 dX0_init_49
      · have hc := ol_nle (by omega) (by omega) c_28
        refine lv_aload_n hx hb dX0_init_31 rfl (lv_at hl 0 rfl) ?_
        refine va_get (D := (dC, dI)) (ci := 0) (v := .ref b) (C := RX0) (T := TX0) (N := 3) hx hb hts (by decide +kernel) hown hK hP 0 rfl rfl 1 (by decide) (hts (.fieldLink RX0 13 "OrderLine" "places" "[I") (by decide +kernel)) (fun _ h9 => h9) rfl dX0_init_32 ?_
        refine lv_iload_n hx hb dX0_init_35 rfl (lv_at hl 1 rfl) ?_
        refine lv_iconst (v := (-1)) hx hb dX0_init_36 (by decide +kernel) ?_
        refine ow_iast (k := i) hx hb hK hP hD hS 2 1 rfl rfl (by omega) (by decide) dX0_init_37 (fun H locs hP hD hS => ?_)
        have hP : va_P (dC, dI) vwCl [(h, .inr (0, [.ref a, .ref b, .int 0])), (a, .inl (cA, 1000, .inl (fun _ => 0))), (b, .inl (cB, 1000, .inl (upd g1 i (((-1))))))] H := hP
        have hD : va_D A [(h, .inr (0, [.ref a, .ref b, .int 0])), (a, .inl (cA, 1000, .inl (fun _ => 0))), (b, .inl (cB, 1000, .inl (upd g1 i (((-1))))))] := hD
        refine lv_iinc (v := nI (i + 1)) (lv' := [(1, .int (nI (i + 1))), (0, .ref h)]) hx hb dX0_init_38 hl (k := 1) rfl (nI_1 i) (by decide) rfl (fun ls hl => ?_)
        refine lv_goto (tgt := 24) hx hb dX0_init_41 (by decide) ?_
        exact ih (i + 1) _ (by omega) (by omega) (by omega) ((pk_un (by omega)).trans h0) (fun v c1 c2 => (Decidable.em (v = i)).elim (fun e9 => by subst e9; exact pk_us) (fun e9 => (pk_un e9).trans (h1 v c1 (by omega)))) H locs hP hD hS ls (lv_sub hl [1, 0] rfl)
  exact loop 1001 1 (fun _ => 0) (by omega) (by omega) (by omega) nI_0.symm (fun v c1 c2 => by omega) _ _ hP hD hS ls (lv_sub hl [1, 0] rfl)
set_option maxHeartbeats 4000000 in
set_option maxRecDepth 100000 in
/-- a new reference -/
theorem c_M_init (l : Launch) (dC : Nat → ClassId) (dI : Nat → Nat → Nat) (h sz : Nat) : Met l yX1_init wsX1_init ({ frames := 1, cells := 2, slots := 2000, locals := 12 }) (ow_Pc (dC, dI) vwCl [] [(h, .inr (1, [.int 0, .null, .int 0, .null]))] sz [.ref h]) (va_Qv (fun _ : Nat × Nat × ClassId × ClassId => True) (fun (u : Nat × Nat × ClassId × ClassId) (t : State) => va_P (dC, dI) vwCl (wM h u.1 u.2.1 u.2.2.1 u.2.2.2 (0, nI 1, (fun _ => 0), (fun _ => 0))) t.heap ∧ va_K (dC, dI) vwCl [(u.2.2.1, .int), (u.2.2.2, .int)] t ∧ va_D (va_A [(h, .inr (1, [.int 0, .null, .int 0, .null]))] sz) (wM h u.1 u.2.1 u.2.2.1 u.2.2.2 (0, nI 1, (fun _ => 0), (fun _ => 0)))) (va_A [(h, .inr (1, [.int 0, .null, .int 0, .null]))] sz)) 2 2000 (va_A [(h, .inr (1, [.int 0, .null, .int 0, .null]))] sz) := by
  refine Met.ofW (cc := cX1_init) (maxL := 1) (ret := none) (by decide) rfl ?_
  intro pg ev s m args below meth cd s₁ B hml hv
  obtain ⟨rfl, hsz, hP, hK, hD0⟩ := hv
  have hx := B.exec
  have hb := B.bytes
  have hr := B.returns
  have hts := atoms_spec (ws := wsX1_init) B.pre
  have hown : s.vm.findClass RX1 = some m.cls := findClass_of_methodNamed B.named
  have hlocks := B.notSynchronized
  have hin : meth.name = "<init>" := (name_of_methodNamed B.named B.method).1
  subst hsz
  have hD := hD0.self (sz := s.heap.size)
  generalize hAe : va_A [(h, .inr (1, [.int 0, .null, .int 0, .null]))] s.heap.size = A at hD ⊢
  have hA : ∀ q : Nat, s.heap.size ≤ q → A q := fun q h => by rw [← hAe]; exact Or.inr h
  have hS : va_S A s.heap s.heap [] := va_S.rf
  have hD : va_D A [(h, .inr (1, [.int 0, .null, .int 0, .null]))] := hD
  have hP : va_P (dC, dI) vwCl [(h, .inr (1, [.int 0, .null, .int 0, .null]))] s.heap := hP
  have hl := lv_entry ([.ref h]) (n := 1) (Nat.le_of_ble_eq_true rfl)
  rw [lg_entry_eq]
  generalize (lg_sl ([.ref h]) ++ List.replicate (1 - (lg_sl ([.ref h])).length) Slot.unset).toArray = ls at hl ⊢
  have hl : lv_has ls 1 [(0, .ref h)] := hl
  refine lv_aload_n hx hb dX1_init_0 rfl (lv_at hl 0 rfl) ?_
  refine W.objInit hx hb hown (hts (.methodLink RX1 1 objectInit) (by decide +kernel)) (hts (.instanceMethod objectInit) (by decide +kernel)) (hts (.code objectInit ⟨#[0xb1]⟩ 1 none) (by decide +kernel)) rfl (by rw [hml]; exact hl.1) rfl dX1_init_1 (Nat.le_of_ble_eq_true rfl) (Nat.le_of_ble_eq_true rfl) ?_
  refine W.eq (g2 := F0 m 4 ls []) rfl ?_
  refine lv_aload_n hx hb dX1_init_4 rfl (lv_at hl 0 rfl) ?_
  refine lv_sipush (v := nI 1000) hx hb dX1_init_5 (by decide +kernel) ?_
  refine va_newa (atype := .int) (ty := .int) (N' := 1000) (a0 := (1000, .inl (fun _ => 0))) hx hb (hts (.arrayClass .int) (by decide +kernel)) rfl hK hP hD hS hA (fun _ => rfl) (by decide +kernel) (by decide +kernel) (by decide) (Nat.le_of_ble_eq_true rfl) (Nat.le_of_ble_eq_true rfl) dX1_init_8 (fun a cA H hK hP hD hS => ?_)
  have hP : va_P (dC, dI) vwCl [(h, .inr (1, [.int 0, .null, .int 0, .null])), (a, .inl (cA, 1000, .inl (fun _ => 0)))] H := hP
  have hD : va_D A [(h, .inr (1, [.int 0, .null, .int 0, .null])), (a, .inl (cA, 1000, .inl (fun _ => 0)))] := hD
  have hK : va_K (dC, dI) vwCl [(cA, .int)] s := hK
  refine W.widen (k := 1) (n := 1000) (by omega) (by omega) ?_
  refine va_putF (D := (dC, dI)) (ci := 1) (v := .ref a) (ty := (.array .int)) (C := RX1) (T := TX1) (N := 4) hx hb hts (by decide +kernel) tyX1 tyX1_ok nmX1 hown hK hP hD hS 0 rfl rfl 1 (by decide) (hts (.fieldLink RX1 7 "OrderLineModel" "line" "[I") (by decide +kernel)) (fun _ h9 => h9) rfl hin rfl (by decide +kernel) rfl rfl (Nat.le_of_ble_eq_true rfl) dX1_init_10 (fun H locs hP hD hS => ?_)
  have hP : va_P (dC, dI) vwCl [(h, .inr (1, [.int 0, .ref a, .int 0, .null])), (a, .inl (cA, 1000, .inl (fun _ => 0)))] H := hP
  have hD : va_D A [(h, .inr (1, [.int 0, .ref a, .int 0, .null])), (a, .inl (cA, 1000, .inl (fun _ => 0)))] := hD
  refine lv_aload_n hx hb dX1_init_13 rfl (lv_at hl 0 rfl) ?_
  refine lv_iconst (v := nI 1) hx hb dX1_init_14 (by decide +kernel) ?_
  refine va_put (D := (dC, dI)) (ci := 1) (v := .int (nI 1)) (ty := (.int)) (C := RX1) (T := TX1) (N := 4) hx hb hts (by decide +kernel) tyX1 tyX1_ok nmX1 hown hK hP hD hS 0 rfl rfl 2 (by decide) (hts (.fieldLink RX1 13 "OrderLineModel" "many" "I") (by decide +kernel)) (fun _ h9 => h9) rfl (by decide +kernel) rfl rfl (Nat.le_of_ble_eq_true rfl) dX1_init_15 (fun H locs hP hD hS => ?_)
  have hP : va_P (dC, dI) vwCl [(h, .inr (1, [.int 0, .ref a, .int (nI 1), .null])), (a, .inl (cA, 1000, .inl (fun _ => 0)))] H := hP
  have hD : va_D A [(h, .inr (1, [.int 0, .ref a, .int (nI 1), .null])), (a, .inl (cA, 1000, .inl (fun _ => 0)))] := hD
  refine lv_aload_n hx hb dX1_init_18 rfl (lv_at hl 0 rfl) ?_
  refine lv_sipush (v := nI 1000) hx hb dX1_init_19 (by decide +kernel) ?_
  refine va_newa (atype := .int) (ty := .int) (N' := 1000) (a0 := (1000, .inl (fun _ => 0))) hx hb (hts (.arrayClass .int) (by decide +kernel)) rfl hK hP hD hS hA (fun _ => rfl) (by decide +kernel) (by decide +kernel) (by decide) (Nat.le_of_ble_eq_true rfl) (Nat.le_of_ble_eq_true rfl) dX1_init_22 (fun b cB H hK hP hD hS => ?_)
  have hP : va_P (dC, dI) vwCl [(h, .inr (1, [.int 0, .ref a, .int (nI 1), .null])), (a, .inl (cA, 1000, .inl (fun _ => 0))), (b, .inl (cB, 1000, .inl (fun _ => 0)))] H := hP
  have hD : va_D A [(h, .inr (1, [.int 0, .ref a, .int (nI 1), .null])), (a, .inl (cA, 1000, .inl (fun _ => 0))), (b, .inl (cB, 1000, .inl (fun _ => 0)))] := hD
  have hK : va_K (dC, dI) vwCl [(cA, .int), (cB, .int)] s := hK
  refine W.widen (k := 2) (n := 2000) (by omega) (by omega) ?_
  refine va_putF (D := (dC, dI)) (ci := 1) (v := .ref b) (ty := (.array .int)) (C := RX1) (T := TX1) (N := 4) hx hb hts (by decide +kernel) tyX1 tyX1_ok nmX1 hown hK hP hD hS 0 rfl rfl 3 (by decide) (hts (.fieldLink RX1 17 "OrderLineModel" "aside" "[I") (by decide +kernel)) (fun _ h9 => h9) rfl hin rfl (by decide +kernel) rfl rfl (Nat.le_of_ble_eq_true rfl) dX1_init_24 (fun H locs hP hD hS => ?_)
  have hP : va_P (dC, dI) vwCl [(h, .inr (1, [.int 0, .ref a, .int (nI 1), .ref b])), (a, .inl (cA, 1000, .inl (fun _ => 0))), (b, .inl (cB, 1000, .inl (fun _ => 0)))] H := hP
  have hD : va_D A [(h, .inr (1, [.int 0, .ref a, .int (nI 1), .ref b])), (a, .inl (cA, 1000, .inl (fun _ => 0))), (b, .inl (cB, 1000, .inl (fun _ => 0)))] := hD
  have hP9 := hP.sub [0, 1, 2] rfl
  have hD9 := hD.sub (ws' := wM h a b cA cB (0, nI 1, (fun _ => 0), (fun _ => 0))) [0, 1, 2] (by decide) rfl
  exact W.vret hx hb hr (fun t ht hW => ⟨⟨(a, b, cA, cB), rfl, trivial, by rw [ht]; exact hP9, va_K.moved hW.alike hK, hD9⟩, hS.F ht⟩) hS.2.2 dX1_init_27
