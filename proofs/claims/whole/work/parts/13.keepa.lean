set_option maxHeartbeats 4000000 in
set_option maxRecDepth 100000 in
/-- put(v, q): both rows say that v is at q -/
theorem c_X_put (l : Launch) (dC : Nat → ClassId) (dI : Nat → Nat → Nat) (h a b : Nat) (cA cB : ClassId) (n : Int32) (f g : Nat → Int32) (v q sz : Nat) (hv : v < 1000) (hq : q < 1000) : Met l yX0_put wsX0_put ({ frames := 0, cells := 0, slots := 0, locals := 0 }) (ow_Pc (dC, dI) vwCl [(cA, .int), (cB, .int)] (wX h a b cA cB (n, f, g)) sz [.ref h, .int (nI v), .int (nI q)]) (va_Qv (fun u : Int32 × (Nat → Int32) × (Nat → Int32) => u = (n, upd f q (nI v), upd g v (nI q))) (ow_B (dC, dI) vwCl (wX h a b cA cB) (va_A (wX h a b cA cB (n, f, g)) sz)) (va_A (wX h a b cA cB (n, f, g)) sz)) 0 0 (va_A (wX h a b cA cB (n, f, g)) sz) := by
  refine Met.ofW (cc := cX0_put) (maxL := 3) (ret := none) (by decide) rfl ?_
  intro pg ev s m args below meth cd s₁ B hml hv
  obtain ⟨rfl, hsz, hP, hK, hD0⟩ := hv
  have hx := B.exec
  have hb := B.bytes
  have hr := B.returns
  have hts := atoms_spec (ws := wsX0_put) B.pre
  have hown : s.vm.findClass RX0 = some m.cls := findClass_of_methodNamed B.named
  have hlocks := B.notSynchronized
  subst hsz
  have hD := hD0.self (sz := s.heap.size)
  generalize hAe : va_A (wX h a b cA cB (n, f, g)) s.heap.size = A at hD ⊢
  have hA : ∀ q : Nat, s.heap.size ≤ q → A q := fun q h => by rw [← hAe]; exact Or.inr h
  have hS : va_S A s.heap s.heap [] := va_S.rf
  have hD : va_D A [(h, .inr (0, [.ref a, .ref b, .int n])), (a, .inl (cA, 1000, .inl f)), (b, .inl (cB, 1000, .inl g))] := hD
  have hP : va_P (dC, dI) vwCl [(h, .inr (0, [.ref a, .ref b, .int n])), (a, .inl (cA, 1000, .inl f)), (b, .inl (cB, 1000, .inl g))] s.heap := hP
  have hl := lv_entry ([.ref h, .int (nI v), .int (nI q)]) (n := 3) (Nat.le_of_ble_eq_true rfl)
  rw [lg_entry_eq]
  generalize (lg_sl ([.ref h, .int (nI v), .int (nI q)]) ++ List.replicate (3 - (lg_sl ([.ref h, .int (nI v), .int (nI q)])).length) Slot.unset).toArray = ls at hl ⊢
  have hl : lv_has ls 3 [(0, .ref h), (1, .int (nI v)), (2, .int (nI q))] := hl
  refine lv_aload_n hx hb dX0_put_0 rfl (lv_at hl 0 rfl) ?_
  refine va_get (D := (dC, dI)) (ci := 0) (v := .ref a) (C := RX0) (T := TX0) (N := 3) hx hb hts (by decide +kernel) hown hK hP 0 rfl rfl 0 (by decide) (hts (.fieldLink RX0 9 "OrderLine" "line" "[I") (by decide +kernel)) (fun _ h9 => h9) rfl dX0_put_1 ?_
  refine lv_iload_n hx hb dX0_put_4 rfl (lv_at hl 2 rfl) ?_
  refine lv_iload_n hx hb dX0_put_5 rfl (lv_at hl 1 rfl) ?_
  refine ow_iast (k := q) hx hb hK hP hD hS 1 0 rfl rfl hq (by decide) dX0_put_6 (fun H locs hP hD hS => ?_)
  have hP : va_P (dC, dI) vwCl [(h, .inr (0, [.ref a, .ref b, .int n])), (a, .inl (cA, 1000, .inl (upd f q ((nI v))))), (b, .inl (cB, 1000, .inl g))] H := hP
  have hD : va_D A [(h, .inr (0, [.ref a, .ref b, .int n])), (a, .inl (cA, 1000, .inl (upd f q ((nI v))))), (b, .inl (cB, 1000, .inl g))] := hD
  refine lv_aload_n hx hb dX0_put_7 rfl (lv_at hl 0 rfl) ?_
  refine va_get (D := (dC, dI)) (ci := 0) (v := .ref b) (C := RX0) (T := TX0) (N := 3) hx hb hts (by decide +kernel) hown hK hP 0 rfl rfl 1 (by decide) (hts (.fieldLink RX0 13 "OrderLine" "places" "[I") (by decide +kernel)) (fun _ h9 => h9) rfl dX0_put_8 ?_
  refine lv_iload_n hx hb dX0_put_11 rfl (lv_at hl 1 rfl) ?_
  refine lv_iload_n hx hb dX0_put_12 rfl (lv_at hl 2 rfl) ?_
  refine ow_iast (k := v) hx hb hK hP hD hS 2 1 rfl rfl hv (by decide) dX0_put_13 (fun H locs hP hD hS => ?_)
  have hP : va_P (dC, dI) vwCl [(h, .inr (0, [.ref a, .ref b, .int n])), (a, .inl (cA, 1000, .inl (upd f q ((nI v))))), (b, .inl (cB, 1000, .inl (upd g v ((nI q)))))] H := hP
  have hD : va_D A [(h, .inr (0, [.ref a, .ref b, .int n])), (a, .inl (cA, 1000, .inl (upd f q ((nI v))))), (b, .inl (cB, 1000, .inl (upd g v ((nI q)))))] := hD
  exact W.vret hx hb hr (fun t ht hW => ⟨⟨(n, upd f q (nI v), upd g v (nI q)), rfl, rfl, by rw [ht]; exact hP, hD⟩, hS.F ht⟩) hS.2.2 dX0_put_14
set_option maxHeartbeats 4000000 in
set_option maxRecDepth 100000 in
/-- has(x) -/
theorem c_X_has (l : Launch) (dC : Nat → ClassId) (dI : Nat → Nat → Nat) (h a b : Nat) (cA cB : ClassId) (N : Nat) (L : Nat → Nat) (f g : Nat → Int32) (x r : Int32) (ok : ol_ok N L) (hg : ol_g N L g) (hh : ol_hs N L x r) : Met l yX0_has wsX0_has ({ frames := 0, cells := 0, slots := 0, locals := 0 }) (ow_Rc (dC, dI) vwCl [(cA, .int), (cB, .int)] (wX h a b cA cB (nI N, f, g)) [.ref h, .int x]) (QcRead r) 0 0 (fun _ => False) := by
  refine Met.ofW (cc := cX0_has) (maxL := 2) (ret := (some .boolean)) (by decide) rfl ?_
  intro pg ev s m args below meth cd s₁ B hml hv
  obtain ⟨rfl, hP, hK⟩ := hv
  have hx := B.exec
  have hb := B.bytes
  have hr := B.returns
  have hts := atoms_spec (ws := wsX0_has) B.pre
  have hown : s.vm.findClass RX0 = some m.cls := findClass_of_methodNamed B.named
  have hlocks := B.notSynchronized
  have hP : va_P (dC, dI) vwCl [(h, .inr (0, [.ref a, .ref b, .int (nI N)])), (a, .inl (cA, 1000, .inl f)), (b, .inl (cB, 1000, .inl g))] s.heap := hP
  have hl := lv_entry ([.ref h, .int x]) (n := 2) (Nat.le_of_ble_eq_true rfl)
  rw [lg_entry_eq]
  generalize (lg_sl ([.ref h, .int x]) ++ List.replicate (2 - (lg_sl ([.ref h, .int x])).length) Slot.unset).toArray = ls at hl ⊢
  have hl : lv_has ls 2 [(0, .ref h), (1, .int x)] := hl
  have hN := ok.2.1
  refine lv_iload_n hx hb dX0_has_0 rfl (lv_at hl 1 rfl) ?_
  refine lv_if_lt (tgt := 25) hx hb dX0_has_1 (by decide) (fun c_1 => ?_) (fun c_1 => ?_)
  · have hr0 : r = 0 := hh.2 (fun p hp e => nI_pos (by have := ok.2.2.2.1 p hp; omega) (e ▸ c_1))
    refine lv_iconst (v := 0) hx hb dX0_has_25 (by decide +kernel) ?_
    exact W.zret (v := 0) hx hb hr rfl (fun t ht hW => ⟨by rw [hr0], ht⟩) (fun q h => by cases h) dX0_has_26
  · obtain ⟨j, hj, ej⟩ := nI_of c_1
    refine lv_iload_n hx hb dX0_has_4 rfl (lv_at hl 1 rfl) ?_
    refine lv_sipush (v := nI 1000) hx hb dX0_has_5 (by decide +kernel) ?_
    refine lv_icmp_ge (tgt := 25) hx hb dX0_has_8 (by decide) (fun c_8 => ?_) (fun c_8 => ?_)
    · have hr0 : r = 0 := hh.2 (fun p hp e => by have h9 := ol_le (by omega) (by have := ok.2.2.2.1 p hp; omega) (e ▸ c_8); have := ok.2.2.2.1 p hp; omega)
      refine lv_iconst (v := 0) hx hb dX0_has_25 (by decide +kernel) ?_
      exact W.zret (v := 0) hx hb hr rfl (fun t ht hW => ⟨by rw [hr0], ht⟩) (fun q h => by cases h) dX0_has_26
    · have hc := ol_nle (by omega) hj (ej ▸ c_8)
      refine lv_aload_n hx hb dX0_has_11 rfl (lv_at hl 0 rfl) ?_
      refine va_get (D := (dC, dI)) (ci := 0) (v := .ref b) (C := RX0) (T := TX0) (N := 3) hx hb hts (by decide +kernel) hown hK hP 0 rfl rfl 1 (by decide) (hts (.fieldLink RX0 13 "OrderLine" "places" "[I") (by decide +kernel)) (fun _ h9 => h9) rfl dX0_has_12 ?_
      refine lv_iload_n hx hb dX0_has_15 rfl (lv_at hl 1 rfl) ?_
      refine ow_top (z := nI j) ej ?_
      refine ow_iald (k := j) (v := g j) hx hb hK hP 2 1 rfl rfl hc (by decide) rfl dX0_has_16 ?_
      refine lv_iconst (v := (-1)) hx hb dX0_has_17 (by decide +kernel) ?_
      refine lv_icmp_eq (tgt := 25) hx hb dX0_has_18 (by decide) (fun c_18 => ?_) (fun c_18 => ?_)
      · have hr0 : r = 0 := hh.2 (fun p hp e => by
          have h8 := ok.2.2.2.1 p hp
          have h9 := ol_eq hj (by omega) (ej.symm.trans e)
          rw [h9, hg.1 p hp] at c_18
          exact ol_m1 (by omega) c_18)
        refine lv_iconst (v := 0) hx hb dX0_has_25 (by decide +kernel) ?_
        exact W.zret (v := 0) hx hb hr rfl (fun t ht hW => ⟨by rw [hr0], ht⟩) (fun q h => by cases h) dX0_has_26
      · have hr0 : r = 1 := hh.1 (by
          by_cases h9 : ∃ p, p < N ∧ L p = j
          · obtain ⟨p, hp, e⟩ := h9
            exact ⟨p, hp, by rw [e]; exact ej⟩
          · exact absurd (hg.2 j hc (fun p hp e => h9 ⟨p, hp, e⟩)) c_18)
        refine lv_iconst (v := 1) hx hb dX0_has_21 (by decide +kernel) ?_
        refine lv_goto (tgt := 26) hx hb dX0_has_22 (by decide) ?_
        exact W.zret (v := 1) hx hb hr rfl (fun t ht hW => ⟨by rw [hr0], ht⟩) (fun q h => by cases h) dX0_has_26
set_option maxHeartbeats 4000000 in
set_option maxRecDepth 100000 in
/-- at(x) -/
theorem c_X_at (l : Launch) (dC : Nat → ClassId) (dI : Nat → Nat → Nat) (h a b : Nat) (cA cB : ClassId) (N : Nat) (L : Nat → Nat) (f g : Nat → Int32) (x r : Int32) (ok : ol_ok N L) (hf : ol_f N L f) (hh : ol_ps N L x r) : Met l yX0_at wsX0_at ({ frames := 0, cells := 0, slots := 0, locals := 0 }) (ow_Rc (dC, dI) vwCl [(cA, .int), (cB, .int)] (wX h a b cA cB (nI N, f, g)) [.ref h, .int x]) (QcRead r) 0 0 (fun _ => False) := by
  refine Met.ofW (cc := cX0_at) (maxL := 2) (ret := (some .int)) (by decide) rfl ?_
  intro pg ev s m args below meth cd s₁ B hml hv
  obtain ⟨rfl, hP, hK⟩ := hv
  have hx := B.exec
  have hb := B.bytes
  have hr := B.returns
  have hts := atoms_spec (ws := wsX0_at) B.pre
  have hown : s.vm.findClass RX0 = some m.cls := findClass_of_methodNamed B.named
  have hlocks := B.notSynchronized
  have hP : va_P (dC, dI) vwCl [(h, .inr (0, [.ref a, .ref b, .int (nI N)])), (a, .inl (cA, 1000, .inl f)), (b, .inl (cB, 1000, .inl g))] s.heap := hP
  have hl := lv_entry ([.ref h, .int x]) (n := 2) (Nat.le_of_ble_eq_true rfl)
  rw [lg_entry_eq]
  generalize (lg_sl ([.ref h, .int x]) ++ List.replicate (2 - (lg_sl ([.ref h, .int x])).length) Slot.unset).toArray = ls at hl ⊢
  have hl : lv_has ls 2 [(0, .ref h), (1, .int x)] := hl
  have hN := ok.2.1
  refine lv_iload_n hx hb dX0_at_0 rfl (lv_at hl 1 rfl) ?_
  refine lv_if_lt (tgt := 21) hx hb dX0_at_1 (by decide) (fun c_1 => ?_) (fun c_1 => ?_)
  · have hr0 : r = -1 := hh.2 (fun q hq e => nI_pos (by omega) (e ▸ c_1))
    refine lv_iconst (v := (-1)) hx hb dX0_at_21 (by decide +kernel) ?_
    exact W.iret (v := ((-1))) hx hb hr (fun t ht hW => ⟨by rw [hr0], ht⟩) (fun q h => by cases h) dX0_at_22
  · obtain ⟨j, hj, ej⟩ := nI_of c_1
    refine lv_iload_n hx hb dX0_at_4 rfl (lv_at hl 1 rfl) ?_
    refine lv_aload_n hx hb dX0_at_5 rfl (lv_at hl 0 rfl) ?_
    refine va_get (D := (dC, dI)) (ci := 0) (v := .int (nI N)) (C := RX0) (T := TX0) (N := 3) hx hb hts (by decide +kernel) hown hK hP 0 rfl rfl 2 (by decide) (hts (.fieldLink RX0 16 "OrderLine" "count" "I") (by decide +kernel)) (fun _ h9 => h9) rfl dX0_at_6 ?_
    refine lv_icmp_ge (tgt := 21) hx hb dX0_at_9 (by decide) (fun c_9 => ?_) (fun c_9 => ?_)
    · have hc := ol_le (by omega) hj (ej ▸ c_9)
      have hr0 : r = -1 := hh.2 (fun q hq e => by have := ol_eq hj (by omega) (ej.symm.trans e); omega)
      refine lv_iconst (v := (-1)) hx hb dX0_at_21 (by decide +kernel) ?_
      exact W.iret (v := ((-1))) hx hb hr (fun t ht hW => ⟨by rw [hr0], ht⟩) (fun q h => by cases h) dX0_at_22
    · have hc := ol_nle (by omega) hj (ej ▸ c_9)
      have hr0 : r = nI (L j) := hh.1 j hc ej
      refine lv_aload_n hx hb dX0_at_12 rfl (lv_at hl 0 rfl) ?_
      refine va_get (D := (dC, dI)) (ci := 0) (v := .ref a) (C := RX0) (T := TX0) (N := 3) hx hb hts (by decide +kernel) hown hK hP 0 rfl rfl 0 (by decide) (hts (.fieldLink RX0 9 "OrderLine" "line" "[I") (by decide +kernel)) (fun _ h9 => h9) rfl dX0_at_13 ?_
      refine lv_iload_n hx hb dX0_at_16 rfl (lv_at hl 1 rfl) ?_
      refine ow_top (z := nI j) ej ?_
      refine ow_iald (k := j) (v := nI (L j)) hx hb hK hP 1 0 rfl rfl (by omega) (by decide) (hf j hc) dX0_at_17 ?_
      refine lv_goto (tgt := 22) hx hb dX0_at_18 (by decide) ?_
      exact W.iret (v := (nI (L j))) hx hb hr (fun t ht hW => ⟨by rw [hr0], ht⟩) (fun q h => by cases h) dX0_at_22
set_option maxHeartbeats 4000000 in
set_option maxRecDepth 100000 in
/-- leastFree(): the least number that none has, or -1 -/
theorem c_X_leastFree (l : Launch) (dC : Nat → ClassId) (dI : Nat → Nat → Nat) (h a b : Nat) (cA cB : ClassId) (N : Nat) (L : Nat → Nat) (f g : Nat → Int32) (ok : ol_ok N L) (hg : ol_g N L g) : Met l yX0_leastFree wsX0_leastFree ({ frames := 0, cells := 0, slots := 0, locals := 0 }) (ow_Rc (dC, dI) vwCl [(cA, .int), (cB, .int)] (wX h a b cA cB (nI N, f, g)) [.ref h]) (QcRead (ol_fi N L)) 0 0 (fun _ => False) := by
  refine Met.ofW (cc := cX0_leastFree) (maxL := 2) (ret := (some .int)) (by decide) rfl ?_
  intro pg ev s m args below meth cd s₁ B hml hv
  obtain ⟨rfl, hP, hK⟩ := hv
  have hx := B.exec
  have hb := B.bytes
  have hr := B.returns
  have hts := atoms_spec (ws := wsX0_leastFree) B.pre
  have hown : s.vm.findClass RX0 = some m.cls := findClass_of_methodNamed B.named
  have hlocks := B.notSynchronized
  have hP : va_P (dC, dI) vwCl [(h, .inr (0, [.ref a, .ref b, .int (nI N)])), (a, .inl (cA, 1000, .inl f)), (b, .inl (cB, 1000, .inl g))] s.heap := hP
  have hl := lv_entry ([.ref h]) (n := 2) (Nat.le_of_ble_eq_true rfl)
  rw [lg_entry_eq]
  generalize (lg_sl ([.ref h]) ++ List.replicate (2 - (lg_sl ([.ref h])).length) Slot.unset).toArray = ls at hl ⊢
  have hl : lv_has ls 2 [(0, .ref h)] := hl
  have hN := ok.2.1
  refine lv_iconst (v := nI 0) hx hb dX0_leastFree_0 (by decide +kernel) ?_
  refine lv_istore_n (lv' := [(1, .int (nI 0)), (0, .ref h)]) hx hb dX0_leastFree_1 rfl hl (by decide) rfl (fun ls hl => ?_)
  have loop : ∀ (k : Nat) (v : Nat), 1000 < v + k → v ≤ 1000 → (∀ u, u < v → ∃ p, p < N ∧ L p = u) → ∀ ls : Array Slot, lv_has ls 2 [(0, .ref h), (1, .int (nI v))] → W pg l ev (headSpec wsX0_leastFree ({ frames := 0, cells := 0, slots := 0, locals := 0 })).room s m ([.ref h] : List Value).toArray below meth cd s.heap [] 0 0 (MQ below (QcRead (ol_fi N L)) ([.ref h] : List Value).toArray s 0 0 (fun _ => False)) (F0 m 2 ls []) := by
    intro k
    induction k with
    | zero =>
      intro v h1 h2 h3
      exact absurd h1 (by omega)
    | succ k ih =>
      intro v hk hv hus ls hl
      refine lv_iload_n hx hb dX0_leastFree_2 rfl (lv_at hl 1 rfl) ?_
      refine lv_sipush (v := nI 1000) hx hb dX0_leastFree_3 (by decide +kernel) ?_
      refine lv_icmp_ge (tgt := 27) hx hb dX0_leastFree_6 (by decide) (fun c_6 => ?_) (fun c_6 => ?_)
      · have hv2 := ol_le (by omega) (by omega) c_6
        have hfi : ol_fi N L = -1 := ol_fi_ge (by rw [ol_fr_of (k := 1000) ⟨by omega, fun u hu => hus u (by omega), fun h9 => absurd h9 (by omega)⟩]; omega)
        refine lv_iconst (v := (-1)) hx hb dX0_leastFree_27 (by decide +kernel) ?_
        exact W.iret (v := ((-1))) hx hb hr (fun t ht hW => ⟨by rw [hfi], ht⟩) (fun q h => by cases h) dX0_leastFree_28
      · have hlt := ol_nle (by omega) (by omega) c_6
        refine lv_aload_n hx hb dX0_leastFree_9 rfl (lv_at hl 0 rfl) ?_
        refine va_get (D := (dC, dI)) (ci := 0) (v := .ref b) (C := RX0) (T := TX0) (N := 3) hx hb hts (by decide +kernel) hown hK hP 0 rfl rfl 1 (by decide) (hts (.fieldLink RX0 13 "OrderLine" "places" "[I") (by decide +kernel)) (fun _ h9 => h9) rfl dX0_leastFree_10 ?_
        refine lv_iload_n hx hb dX0_leastFree_13 rfl (lv_at hl 1 rfl) ?_
        refine ow_iald (k := v) (v := g v) hx hb hK hP 2 1 rfl rfl (by omega) (by decide) rfl dX0_leastFree_14 ?_
        refine lv_iconst (v := (-1)) hx hb dX0_leastFree_15 (by decide +kernel) ?_
        refine lv_icmp_ne (tgt := 21) hx hb dX0_leastFree_16 (by decide) (fun c_16 => ?_) (fun c_16 => ?_)
        · have hus1 : ∃ p, p < N ∧ L p = v := by
            by_cases h9 : ∃ p, p < N ∧ L p = v
            · exact h9
            · exact absurd (hg.2 v hlt (fun p hp e => h9 ⟨p, hp, e⟩)) c_16
          refine lv_iinc (v := nI (v + 1)) (lv' := [(1, .int (nI (v + 1))), (0, .ref h)]) hx hb dX0_leastFree_21 hl (k := 1) rfl (nI_1 v) (by decide) rfl (fun ls hl => ?_)
          refine lv_goto (tgt := 2) hx hb dX0_leastFree_24 (by decide) ?_
          exact ih (v + 1) (by omega) (by omega) (fun u hu => (Nat.lt_or_ge u v).elim (fun h9 => hus u h9) (fun h9 => by rw [show u = v by omega]; exact hus1)) ls (lv_sub hl [1, 0] rfl)
        · have hfr : ol_fr N L = v := ol_fr_of ⟨by omega, hus, fun _ p hp e => by
            have h9 := hg.1 p hp
            rw [e, c_16] at h9
            exact ol_m1 (by omega) h9.symm⟩
          have hfi : ol_fi N L = nI v := by rw [ol_fi_lt (by omega), hfr]
          refine lv_iload_n hx hb dX0_leastFree_19 rfl (lv_at hl 1 rfl) ?_
          exact W.iret (v := (nI v)) hx hb hr (fun t ht hW => ⟨by rw [hfi], ht⟩) (fun q h => by cases h) dX0_leastFree_20
  exact loop 1001 0 (by omega) (by omega) (fun u hu => absurd hu (Nat.not_lt_zero u)) ls (lv_sub hl [1, 0] rfl)
set_option maxHeartbeats 4000000 in
set_option maxRecDepth 100000 in
/-- openGap(s0, w): what stands from place s0 on has moved by w -/
theorem c_X_openGap (l : Launch) (dC : Nat → ClassId) (dI : Nat → Nat → Nat) (h a b : Nat) (cA cB : ClassId) (N : Nat) (L : Nat → Nat) (f g : Nat → Int32) (s0 w sz : Nat) (ok : ol_ok N L) (hf : ol_f N L f) (hg : ol_g N L g) (h1s : 1 ≤ s0) (hs : s0 ≤ N) (hw : N + w ≤ 1000) : Met l yX0_openGap wsX0_openGap ({ frames := 1, cells := 0, slots := 0, locals := 22 }) (ow_Pc (dC, dI) vwCl [(cA, .int), (cB, .int)] (wX h a b cA cB (nI N, f, g)) sz [.ref h, .int (nI s0), .int (nI w)]) (va_Qv (fun u : Int32 × (Nat → Int32) × (Nat → Int32) => u.1 = nI (N + w) ∧ ol_o N L w s0 u.2.1 u.2.2) (ow_B (dC, dI) vwCl (wX h a b cA cB) (va_A (wX h a b cA cB (nI N, f, g)) sz)) (va_A (wX h a b cA cB (nI N, f, g)) sz)) 0 0 (va_A (wX h a b cA cB (nI N, f, g)) sz) := by
  refine Met.ofW (cc := cX0_openGap) (maxL := 4) (ret := none) (by decide) rfl ?_
  intro pg ev s m args below meth cd s₁ B hml hv
  obtain ⟨rfl, hsz, hP, hK, hD0⟩ := hv
  have hx := B.exec
  have hb := B.bytes
  have hr := B.returns
  have hts := atoms_spec (ws := wsX0_openGap) B.pre
  have hown : s.vm.findClass RX0 = some m.cls := findClass_of_methodNamed B.named
  have hlocks := B.notSynchronized
  subst hsz
  have hD := hD0.self (sz := s.heap.size)
  generalize hAe : va_A (wX h a b cA cB (nI N, f, g)) s.heap.size = A at hD ⊢
  have hA : ∀ q : Nat, s.heap.size ≤ q → A q := fun q h => by rw [← hAe]; exact Or.inr h
  have hS : va_S A s.heap s.heap [] := va_S.rf
  have hD : va_D A [(h, .inr (0, [.ref a, .ref b, .int (nI N)])), (a, .inl (cA, 1000, .inl f)), (b, .inl (cB, 1000, .inl g))] := hD
  have hP : va_P (dC, dI) vwCl [(h, .inr (0, [.ref a, .ref b, .int (nI N)])), (a, .inl (cA, 1000, .inl f)), (b, .inl (cB, 1000, .inl g))] s.heap := hP
  have hl := lv_entry ([.ref h, .int (nI s0), .int (nI w)]) (n := 4) (Nat.le_of_ble_eq_true rfl)
  rw [lg_entry_eq]
  generalize (lg_sl ([.ref h, .int (nI s0), .int (nI w)]) ++ List.replicate (4 - (lg_sl ([.ref h, .int (nI s0), .int (nI w)])).length) Slot.unset).toArray = ls at hl ⊢
  have hl : lv_has ls 4 [(0, .ref h), (1, .int (nI s0)), (2, .int (nI w))] := hl
  have h1N := ok.1
  refine lv_aload_n hx hb dX0_openGap_0 rfl (lv_at hl 0 rfl) ?_
  refine va_get (D := (dC, dI)) (ci := 0) (v := .int (nI N)) (C := RX0) (T := TX0) (N := 3) hx hb hts (by decide +kernel) hown hK hP 0 rfl rfl 2 (by decide) (hts (.fieldLink RX0 16 "OrderLine" "count" "I") (by decide +kernel)) (fun _ h9 => h9) rfl dX0_openGap_1 ?_
  refine lv_iconst (v := 1) hx hb dX0_openGap_4 (by decide +kernel) ?_
  refine lv_isub hx hb dX0_openGap_5 ?_
  refine ow_top (z := nI (N - 1)) (nI_m1 (by omega)) ?_
  refine lv_istore_n (lv' := [(3, .int (nI (N - 1))), (0, .ref h), (1, .int (nI s0)), (2, .int (nI w))]) hx hb dX0_openGap_6 rfl hl (by decide) rfl (fun ls hl => ?_)
  have loop : ∀ (k : Nat) (i : Nat) (f1 g1 : Nat → Int32), i + 1 < s0 + k → s0 ≤ i + 1 → i < N → ol_o N L w (i + 1) f1 g1 → ∀ (H : Heap) (locs : List Loc), va_P (dC, dI) vwCl [(h, .inr (0, [.ref a, .ref b, .int (nI N)])), (a, .inl (cA, 1000, .inl f1)), (b, .inl (cB, 1000, .inl g1))] H → va_D A [(h, .inr (0, [.ref a, .ref b, .int (nI N)])), (a, .inl (cA, 1000, .inl f1)), (b, .inl (cB, 1000, .inl g1))] → va_S A s.heap H locs → ∀ ls : Array Slot, lv_has ls 4 [(0, .ref h), (1, .int (nI s0)), (2, .int (nI w)), (3, .int (nI i))] → W pg l ev (headSpec wsX0_openGap ({ frames := 1, cells := 0, slots := 0, locals := 22 })).room s m ([.ref h, .int (nI s0), .int (nI w)] : List Value).toArray below meth cd H locs 0 0 (MQ below (va_Qv (fun u : Int32 × (Nat → Int32) × (Nat → Int32) => u.1 = nI (N + w) ∧ ol_o N L w s0 u.2.1 u.2.2) (ow_B (dC, dI) vwCl (wX h a b cA cB) A) A) ([.ref h, .int (nI s0), .int (nI w)] : List Value).toArray s 0 0 A) (F0 m 7 ls []) := by
    intro k
    induction k with
    | zero =>
      intro i f1 g1 h1 h2 h3
      exact absurd h1 (by omega)
    | succ k ih =>
      intro i f1 g1 hk hi hiN ho H locs hP hD hS ls hl
      refine lv_iload_n hx hb dX0_openGap_7 rfl (lv_at hl 3 rfl) ?_
      refine lv_iload_n hx hb dX0_openGap_8 rfl (lv_at hl 1 rfl) ?_
      refine lv_icmp_lt (tgt := 31) hx hb dX0_openGap_9 (by decide) (fun c_9 => ?_) (fun c_9 => ?_)
      · have hc := ol_lt (by omega) (by omega) c_9
        have ho2 : ol_o N L w s0 f1 g1 := by rw [show s0 = i + 1 by omega]; exact ho
        refine lv_aload_n hx hb dX0_openGap_31 rfl (lv_at hl 0 rfl) ?_
        refine lv_dup hx hb dX0_openGap_32 rfl ?_
        refine va_get (D := (dC, dI)) (ci := 0) (v := .int (nI N)) (C := RX0) (T := TX0) (N := 3) hx hb hts (by decide +kernel) hown hK hP 0 rfl rfl 2 (by decide) (hts (.fieldLink RX0 16 "OrderLine" "count" "I") (by decide +kernel)) (fun _ h9 => h9) rfl dX0_openGap_33 ?_
        refine lv_iload_n hx hb dX0_openGap_36 rfl (lv_at hl 2 rfl) ?_
        refine lv_iadd hx hb dX0_openGap_37 ?_
        refine ow_top (z := nI (N + w)) (nI_add N w) ?_
        refine va_put (D := (dC, dI)) (ci := 0) (v := .int (nI (N + w))) (ty := (.int)) (C := RX0) (T := TX0) (N := 3) hx hb hts (by decide +kernel) tyX0 tyX0_ok nmX0 hown hK hP hD hS 0 rfl rfl 2 (by decide) (hts (.fieldLink RX0 16 "OrderLine" "count" "I") (by decide +kernel)) (fun _ h9 => h9) rfl (by decide +kernel) rfl rfl (Nat.le_of_ble_eq_true rfl) dX0_openGap_38 (fun H locs hP hD hS => ?_)
        have hP : va_P (dC, dI) vwCl [(h, .inr (0, [.ref a, .ref b, .int (nI (N + w))])), (a, .inl (cA, 1000, .inl f1)), (b, .inl (cB, 1000, .inl g1))] H := hP
        have hD : va_D A [(h, .inr (0, [.ref a, .ref b, .int (nI (N + w))])), (a, .inl (cA, 1000, .inl f1)), (b, .inl (cB, 1000, .inl g1))] := hD
        exact W.vret hx hb hr (fun t ht hW => ⟨⟨(nI (N + w), f1, g1), rfl, ⟨rfl, ho2⟩, by rw [ht]; exact hP, hD⟩, hS.F ht⟩) hS.2.2 dX0_openGap_41
      · have hc := ol_nlt (by omega) (by omega) c_9
        refine lv_aload_n hx hb dX0_openGap_12 rfl (lv_at hl 0 rfl) ?_
        refine lv_aload_n hx hb dX0_openGap_13 rfl (lv_at hl 0 rfl) ?_
        refine va_get (D := (dC, dI)) (ci := 0) (v := .ref a) (C := RX0) (T := TX0) (N := 3) hx hb hts (by decide +kernel) hown hK hP 0 rfl rfl 0 (by decide) (hts (.fieldLink RX0 9 "OrderLine" "line" "[I") (by decide +kernel)) (fun _ h9 => h9) rfl dX0_openGap_14 ?_
        refine lv_iload_n hx hb dX0_openGap_17 rfl (lv_at hl 3 rfl) ?_
        refine ow_iald (k := i) (v := nI (L i)) hx hb hK hP 1 0 rfl rfl (by omega) (by decide) ((ho.1 i (by omega)).1) dX0_openGap_18 ?_
        refine lv_iload_n hx hb dX0_openGap_19 rfl (lv_at hl 3 rfl) ?_
        refine lv_iload_n hx hb dX0_openGap_20 rfl (lv_at hl 2 rfl) ?_
        refine lv_iadd hx hb dX0_openGap_21 ?_
        refine ow_top (z := nI (i + w)) (nI_add i w) ?_
        refine ow_callv (wr := []) (va_runV (As := [.int (nI (L i)), .int (nI (i + w))]) (rest := []) ⟨hx, hb, hml, hown, hts⟩ (c_X_put l dC dI h a b cA cB (nI N) f1 g1 (L i) (i + w) _ (ok.2.2.2.1 i (by omega)) (by omega)) (cwV 2 hts gX0_openGap_X0_put rfl rfl rfl (by decide +kernel) ⟨Nat.le_of_ble_eq_true rfl, Nat.le_of_ble_eq_true rfl⟩) (ow_PreV hK hP hD (ci := 0) (q0 := 0) rfl rfl) rfl rfl hl.1 rfl (lv_room (Nat.le_of_ble_eq_true rfl)) dX0_openGap_22 ⟨Nat.le_of_ble_eq_true rfl, Nat.le_of_ble_eq_true rfl⟩) hP hD hS hA [0, 1, 2] [] rfl rfl (by decide) (by decide) (fun u H locs hw hP hD hS => ?_)
        subst hw
        have hP : va_P (dC, dI) vwCl [(h, .inr (0, [.ref a, .ref b, .int (nI N)])), (a, .inl (cA, 1000, .inl (upd f1 (i + w) (nI (L i))))), (b, .inl (cB, 1000, .inl (upd g1 (L i) (nI (i + w)))))] H := hP
        have hD : va_D A [(h, .inr (0, [.ref a, .ref b, .int (nI N)])), (a, .inl (cA, 1000, .inl (upd f1 (i + w) (nI (L i))))), (b, .inl (cB, 1000, .inl (upd g1 (L i) (nI (i + w)))))] := hD
        refine lv_iinc (v := nI (i - 1)) (lv' := [(3, .int (nI (i - 1))), (0, .ref h), (1, .int (nI s0)), (2, .int (nI w))]) hx hb dX0_openGap_25 hl (k := 3) rfl (sb_m1 (by omega)) (by decide) rfl (fun ls hl => ?_)
        refine lv_goto (tgt := 7) hx hb dX0_openGap_28 (by decide) ?_
        exact ih (i - 1) _ _ (by omega) (by omega) (by omega) (by rw [show i - 1 + 1 = i by omega]; exact ol_o_s ok ho hiN) H locs hP hD hS ls (lv_sub hl [1, 2, 3, 0] rfl)
  exact loop (N + 1) (N - 1) f g (by omega) (by omega) (by omega) (by rw [show N - 1 + 1 = N by omega]; exact ol_o_0 hf hg) _ _ hP hD hS ls (lv_sub hl [1, 2, 3, 0] rfl)
set_option maxHeartbeats 4000000 in
set_option maxRecDepth 100000 in
/-- fillGap(s0, s0 + w): the least numbers that none has come there -/
theorem c_X_fillGap (l : Launch) (dC : Nat → ClassId) (dI : Nat → Nat → Nat) (h a b : Nat) (cA cB : ClassId) (n : Int32) (N : Nat) (L : Nat → Nat) (f g : Nat → Int32) (s0 w sz : Nat) (ok : ol_ok N L) (ho : ol_o N L w s0 f g) (h1s : 1 ≤ s0) (hs : s0 ≤ N) (hw : N + w ≤ 1000) : Met l yX0_fillGap wsX0_fillGap ({ frames := 1, cells := 0, slots := 0, locals := 22 }) (ow_Pc (dC, dI) vwCl [(cA, .int), (cB, .int)] (wX h a b cA cB (n, f, g)) sz [.ref h, .int (nI s0), .int (nI (s0 + w))]) (va_Qv (fun u : Int32 × (Nat → Int32) × (Nat → Int32) => u.1 = n ∧ ol_f (N + w) (ol_many N L s0 w) u.2.1 ∧ ol_g (N + w) (ol_many N L s0 w) u.2.2) (ow_B (dC, dI) vwCl (wX h a b cA cB) (va_A (wX h a b cA cB (n, f, g)) sz)) (va_A (wX h a b cA cB (n, f, g)) sz)) 0 0 (va_A (wX h a b cA cB (n, f, g)) sz) := by
  refine Met.ofW (cc := cX0_fillGap) (maxL := 5) (ret := none) (by decide) rfl ?_
  intro pg ev s m args below meth cd s₁ B hml hv
  obtain ⟨rfl, hsz, hP, hK, hD0⟩ := hv
  have hx := B.exec
  have hb := B.bytes
  have hr := B.returns
  have hts := atoms_spec (ws := wsX0_fillGap) B.pre
  have hown : s.vm.findClass RX0 = some m.cls := findClass_of_methodNamed B.named
  have hlocks := B.notSynchronized
  subst hsz
  have hD := hD0.self (sz := s.heap.size)
  generalize hAe : va_A (wX h a b cA cB (n, f, g)) s.heap.size = A at hD ⊢
  have hA : ∀ q : Nat, s.heap.size ≤ q → A q := fun q h => by rw [← hAe]; exact Or.inr h
  have hS : va_S A s.heap s.heap [] := va_S.rf
  have hD : va_D A [(h, .inr (0, [.ref a, .ref b, .int n])), (a, .inl (cA, 1000, .inl f)), (b, .inl (cB, 1000, .inl g))] := hD
  have hP : va_P (dC, dI) vwCl [(h, .inr (0, [.ref a, .ref b, .int n])), (a, .inl (cA, 1000, .inl f)), (b, .inl (cB, 1000, .inl g))] s.heap := hP
  have hl := lv_entry ([.ref h, .int (nI s0), .int (nI (s0 + w))]) (n := 5) (Nat.le_of_ble_eq_true rfl)
  rw [lg_entry_eq]
  generalize (lg_sl ([.ref h, .int (nI s0), .int (nI (s0 + w))]) ++ List.replicate (5 - (lg_sl ([.ref h, .int (nI s0), .int (nI (s0 + w))])).length) Slot.unset).toArray = ls at hl ⊢
  have hl : lv_has ls 5 [(0, .ref h), (1, .int (nI s0)), (2, .int (nI (s0 + w)))] := hl
  refine lv_iload_n hx hb dX0_fillGap_0 rfl (lv_at hl 1 rfl) ?_
  refine lv_istore_n (lv' := [(3, .int (nI s0)), (0, .ref h), (1, .int (nI s0)), (2, .int (nI (s0 + w)))]) hx hb dX0_fillGap_1 rfl hl (by decide) rfl (fun ls hl => ?_)
  refine lv_iconst (v := nI 0) hx hb dX0_fillGap_2 (by decide +kernel) ?_
  refine lv_istore (lv' := [(4, .int (nI 0)), (3, .int (nI s0)), (0, .ref h), (1, .int (nI s0)), (2, .int (nI (s0 + w)))]) hx hb dX0_fillGap_3 hl (by decide) rfl (fun ls hl => ?_)
  have loop : ∀ (k : Nat) (v j : Nat) (f1 g1 : Nat → Int32), 1000 < v + k → v ≤ 1000 → j ≤ w → ol_w N L s0 w j v f1 g1 → ∀ (H : Heap) (locs : List Loc), va_P (dC, dI) vwCl [(h, .inr (0, [.ref a, .ref b, .int n])), (a, .inl (cA, 1000, .inl f1)), (b, .inl (cB, 1000, .inl g1))] H → va_D A [(h, .inr (0, [.ref a, .ref b, .int n])), (a, .inl (cA, 1000, .inl f1)), (b, .inl (cB, 1000, .inl g1))] → va_S A s.heap H locs → ∀ ls : Array Slot, lv_has ls 5 [(0, .ref h), (1, .int (nI s0)), (2, .int (nI (s0 + w))), (3, .int (nI (s0 + j))), (4, .int (nI v))] → W pg l ev (headSpec wsX0_fillGap ({ frames := 1, cells := 0, slots := 0, locals := 22 })).room s m ([.ref h, .int (nI s0), .int (nI (s0 + w))] : List Value).toArray below meth cd H locs 0 0 (MQ below (va_Qv (fun u : Int32 × (Nat → Int32) × (Nat → Int32) => u.1 = n ∧ ol_f (N + w) (ol_many N L s0 w) u.2.1 ∧ ol_g (N + w) (ol_many N L s0 w) u.2.2) (ow_B (dC, dI) vwCl (wX h a b cA cB) A) A) ([.ref h, .int (nI s0), .int (nI (s0 + w))] : List Value).toArray s 0 0 A) (F0 m 5 ls []) := by
    intro k
    induction k with
    | zero =>
      intro v j f1 g1 h1 h2 h3
      exact absurd h1 (by omega)
    | succ k ih =>
      intro v j f1 g1 hk hv hj hi H locs hP hD hS ls hl
      refine lv_iload hx hb dX0_fillGap_5 (lv_at hl 4 rfl) ?_
      refine lv_sipush (v := nI 1000) hx hb dX0_fillGap_7 (by decide +kernel) ?_
      refine lv_icmp_ge (tgt := 45) hx hb dX0_fillGap_10 (by decide) (fun c_10 => ?_) (fun c_10 => ?_)
      · have hv2 := ol_le (by omega) (by omega) c_10
        obtain rfl : 1000 = v := by omega
        have hjw : j = w := by
          rcases Nat.lt_or_ge j w with h9 | h9
          · exact (ol_w_all ok h1s hi hs hw h9).elim
          · omega
        obtain rfl : j = w := hjw
        obtain ⟨hf9, hg9⟩ := ol_w_e hi hs
        exact W.vret hx hb hr (fun t ht hW => ⟨⟨(n, f1, g1), rfl, ⟨rfl, hf9, hg9⟩, by rw [ht]; exact hP, hD⟩, hS.F ht⟩) hS.2.2 dX0_fillGap_45
      · have hv2 := ol_nle (by omega) (by omega) c_10
        refine lv_iload_n hx hb dX0_fillGap_13 rfl (lv_at hl 3 rfl) ?_
        refine lv_iload_n hx hb dX0_fillGap_14 rfl (lv_at hl 2 rfl) ?_
        refine lv_icmp_ge (tgt := 45) hx hb dX0_fillGap_15 (by decide) (fun c_15 => ?_) (fun c_15 => ?_)
        · have hj2 := ol_le (by omega) (by omega) c_15
          obtain rfl : j = w := by omega
          obtain ⟨hf9, hg9⟩ := ol_w_e hi hs
          exact W.vret hx hb hr (fun t ht hW => ⟨⟨(n, f1, g1), rfl, ⟨rfl, hf9, hg9⟩, by rw [ht]; exact hP, hD⟩, hS.F ht⟩) hS.2.2 dX0_fillGap_45
        · have hj2 := ol_nle (by omega) (by omega) c_15
          refine lv_aload_n hx hb dX0_fillGap_18 rfl (lv_at hl 0 rfl) ?_
          refine va_get (D := (dC, dI)) (ci := 0) (v := .ref b) (C := RX0) (T := TX0) (N := 3) hx hb hts (by decide +kernel) hown hK hP 0 rfl rfl 1 (by decide) (hts (.fieldLink RX0 13 "OrderLine" "places" "[I") (by decide +kernel)) (fun _ h9 => h9) rfl dX0_fillGap_19 ?_
          refine lv_iload hx hb dX0_fillGap_22 (lv_at hl 4 rfl) ?_
          refine ow_iald (k := v) (v := g1 v) hx hb hK hP 2 1 rfl rfl hv2 (by decide) rfl dX0_fillGap_24 ?_
          refine lv_iconst (v := (-1)) hx hb dX0_fillGap_25 (by decide +kernel) ?_
          refine lv_icmp_ne (tgt := 39) hx hb dX0_fillGap_26 (by decide) (fun c_26 => ?_) (fun c_26 => ?_)
          · have hi2 := ol_w_skip hi hv2 c_26
            refine lv_iinc (v := nI (v + 1)) (lv' := [(4, .int (nI (v + 1))), (0, .ref h), (1, .int (nI s0)), (2, .int (nI (s0 + w))), (3, .int (nI (s0 + j)))]) hx hb dX0_fillGap_39 hl (k := 4) rfl (nI_1 v) (by decide) rfl (fun ls hl => ?_)
            refine lv_goto (tgt := 5) hx hb dX0_fillGap_42 (by decide) ?_
            exact ih (v + 1) _ _ _ (by omega) (by omega) (by omega) hi2 H locs hP hD hS ls (lv_sub hl [1, 2, 3, 4, 0] rfl)
          · have hi2 := ol_w_put ok h1s hi hs (by omega) hw hv2 c_26
            refine lv_aload_n hx hb dX0_fillGap_29 rfl (lv_at hl 0 rfl) ?_
            refine lv_iload hx hb dX0_fillGap_30 (lv_at hl 4 rfl) ?_
            refine lv_iload_n hx hb dX0_fillGap_32 rfl (lv_at hl 3 rfl) ?_
            refine ow_callv (wr := []) (va_runV (As := [.int (nI v), .int (nI (s0 + j))]) (rest := []) ⟨hx, hb, hml, hown, hts⟩ (c_X_put l dC dI h a b cA cB (n) f1 g1 v (s0 + j) _ (hv2) (by omega)) (cwV 2 hts gX0_fillGap_X0_put rfl rfl rfl (by decide +kernel) ⟨Nat.le_of_ble_eq_true rfl, Nat.le_of_ble_eq_true rfl⟩) (ow_PreV hK hP hD (ci := 0) (q0 := 0) rfl rfl) rfl rfl hl.1 rfl (lv_room (Nat.le_of_ble_eq_true rfl)) dX0_fillGap_33 ⟨Nat.le_of_ble_eq_true rfl, Nat.le_of_ble_eq_true rfl⟩) hP hD hS hA [0, 1, 2] [] rfl rfl (by decide) (by decide) (fun u H locs hw hP hD hS => ?_)
            subst hw
            have hP : va_P (dC, dI) vwCl [(h, .inr (0, [.ref a, .ref b, .int n])), (a, .inl (cA, 1000, .inl (upd f1 (s0 + j) (nI v)))), (b, .inl (cB, 1000, .inl (upd g1 v (nI (s0 + j)))))] H := hP
            have hD : va_D A [(h, .inr (0, [.ref a, .ref b, .int n])), (a, .inl (cA, 1000, .inl (upd f1 (s0 + j) (nI v)))), (b, .inl (cB, 1000, .inl (upd g1 v (nI (s0 + j)))))] := hD
            refine lv_iinc (v := nI (s0 + (j + 1))) (lv' := [(3, .int (nI (s0 + (j + 1)))), (0, .ref h), (1, .int (nI s0)), (2, .int (nI (s0 + w))), (4, .int (nI v))]) hx hb dX0_fillGap_36 hl (k := 3) rfl (nI_1 (s0 + j)) (by decide) rfl (fun ls hl => ?_)
            refine lv_iinc (v := nI (v + 1)) (lv' := [(4, .int (nI (v + 1))), (3, .int (nI (s0 + (j + 1)))), (0, .ref h), (1, .int (nI s0)), (2, .int (nI (s0 + w)))]) hx hb dX0_fillGap_39 hl (k := 4) rfl (nI_1 v) (by decide) rfl (fun ls hl => ?_)
            refine lv_goto (tgt := 5) hx hb dX0_fillGap_42 (by decide) ?_
            exact ih (v + 1) _ _ _ (by omega) (by omega) (by omega) hi2 H locs hP hD hS ls (lv_sub hl [2, 3, 4, 1, 0] rfl)
  exact loop 1001 0 0 f g (by omega) (by omega) (by omega) (ol_w_0 ho) _ _ hP hD hS ls (lv_sub hl [2, 3, 4, 1, 0] rfl)
set_option maxHeartbeats 4000000 in
set_option maxRecDepth 100000 in
/-- addBehind(x, w): w more behind x -/
theorem c_X_addBehind (l : Launch) (dC : Nat → ClassId) (dI : Nat → Nat → Nat) (h a b : Nat) (cA cB : ClassId) (N : Nat) (L : Nat → Nat) (f g : Nat → Int32) (x : Int32) (p w sz : Nat) (ok : ol_ok N L) (hf : ol_f N L f) (hg : ol_g N L g) (hp : ol_at N L x p) (h1w : 1 ≤ w) (hwN : N + w ≤ 1000) : Met l yX0_addBehind wsX0_addBehind ({ frames := 2, cells := 0, slots := 0, locals := 46 }) (ow_Pc (dC, dI) vwCl [(cA, .int), (cB, .int)] (wX h a b cA cB (nI N, f, g)) sz [.ref h, .int x, .int (nI w)]) (va_Qi (fun (r : Int32) (u : Int32 × (Nat → Int32) × (Nat → Int32)) => r = nI (ol_fr N L) ∧ u.1 = nI (N + w) ∧ ol_f (N + w) (ol_many N L (p + 1) w) u.2.1 ∧ ol_g (N + w) (ol_many N L (p + 1) w) u.2.2) (ow_B (dC, dI) vwCl (wX h a b cA cB) (va_A (wX h a b cA cB (nI N, f, g)) sz)) (va_A (wX h a b cA cB (nI N, f, g)) sz)) 0 0 (va_A (wX h a b cA cB (nI N, f, g)) sz) := by
  refine Met.ofW (cc := cX0_addBehind) (maxL := 4) (ret := (some .int)) (by decide) rfl ?_
  intro pg ev s m args below meth cd s₁ B hml hv
  obtain ⟨rfl, hsz, hP, hK, hD0⟩ := hv
  have hx := B.exec
  have hb := B.bytes
  have hr := B.returns
  have hts := atoms_spec (ws := wsX0_addBehind) B.pre
  have hown : s.vm.findClass RX0 = some m.cls := findClass_of_methodNamed B.named
  have hlocks := B.notSynchronized
  subst hsz
  have hD := hD0.self (sz := s.heap.size)
  generalize hAe : va_A (wX h a b cA cB (nI N, f, g)) s.heap.size = A at hD ⊢
  have hA : ∀ q : Nat, s.heap.size ≤ q → A q := fun q h => by rw [← hAe]; exact Or.inr h
  have hS : va_S A s.heap s.heap [] := va_S.rf
  have hD : va_D A [(h, .inr (0, [.ref a, .ref b, .int (nI N)])), (a, .inl (cA, 1000, .inl f)), (b, .inl (cB, 1000, .inl g))] := hD
  have hP : va_P (dC, dI) vwCl [(h, .inr (0, [.ref a, .ref b, .int (nI N)])), (a, .inl (cA, 1000, .inl f)), (b, .inl (cB, 1000, .inl g))] s.heap := hP
  have hl := lv_entry ([.ref h, .int x, .int (nI w)]) (n := 4) (Nat.le_of_ble_eq_true rfl)
  rw [lg_entry_eq]
  generalize (lg_sl ([.ref h, .int x, .int (nI w)]) ++ List.replicate (4 - (lg_sl ([.ref h, .int x, .int (nI w)])).length) Slot.unset).toArray = ls at hl ⊢
  have hl : lv_has ls 4 [(0, .ref h), (1, .int x), (2, .int (nI w))] := hl
  have hpN : p < N := hp.1
  refine lv_aload_n hx hb dX0_addBehind_0 rfl (lv_at hl 0 rfl) ?_
  refine va_get (D := (dC, dI)) (ci := 0) (v := .ref b) (C := RX0) (T := TX0) (N := 3) hx hb hts (by decide +kernel) hown hK hP 0 rfl rfl 1 (by decide) (hts (.fieldLink RX0 13 "OrderLine" "places" "[I") (by decide +kernel)) (fun _ h9 => h9) rfl dX0_addBehind_1 ?_
  refine lv_iload_n hx hb dX0_addBehind_4 rfl (lv_at hl 1 rfl) ?_
  refine ow_top (z := nI (L p)) hp.2 ?_
  refine ow_iald (k := L p) (v := nI p) hx hb hK hP 2 1 rfl rfl (ok.2.2.2.1 p hp.1) (by decide) (hg.1 p hp.1) dX0_addBehind_5 ?_
  refine lv_iconst (v := 1) hx hb dX0_addBehind_6 (by decide +kernel) ?_
  refine lv_iadd hx hb dX0_addBehind_7 ?_
  refine ow_top (z := nI (p + 1)) (nI_1 p) ?_
  refine lv_istore_n (lv' := [(3, .int (nI (p + 1))), (0, .ref h), (1, .int x), (2, .int (nI w))]) hx hb dX0_addBehind_8 rfl hl (by decide) rfl (fun ls hl => ?_)
  refine lv_aload_n hx hb dX0_addBehind_9 rfl (lv_at hl 1 rfl) ?_
  refine lv_iload_n hx hb dX0_addBehind_10 rfl (lv_at hl 0 rfl) ?_
  refine lv_iload_n hx hb dX0_addBehind_11 rfl (lv_at hl 3 rfl) ?_
  refine ow_callv (wr := []) (va_runV (As := [.int (nI (p + 1)), .int (nI w)]) (rest := []) ⟨hx, hb, hml, hown, hts⟩ (c_X_openGap l dC dI h a b cA cB N L f g (p + 1) w _ ok hf hg (by omega) (by omega) hwN) (cwV 2 hts gX0_addBehind_X0_openGap rfl rfl rfl (by decide +kernel) ⟨Nat.le_of_ble_eq_true rfl, Nat.le_of_ble_eq_true rfl⟩) (ow_PreV hK hP hD (ci := 0) (q0 := 0) rfl rfl) rfl rfl hl.1 rfl (lv_room (Nat.le_of_ble_eq_true rfl)) dX0_addBehind_12 ⟨Nat.le_of_ble_eq_true rfl, Nat.le_of_ble_eq_true rfl⟩) hP hD hS hA [0, 1, 2] [] rfl rfl (by decide) (by decide) (fun u H locs hw hP hD hS => ?_)
  obtain ⟨u1, u2, u3⟩ := u
  obtain ⟨e1, ho⟩ := hw
  obtain rfl : nI (N + w) = u1 := e1.symm
  have hP : va_P (dC, dI) vwCl [(h, .inr (0, [.ref a, .ref b, .int (nI (N + w))])), (a, .inl (cA, 1000, .inl u2)), (b, .inl (cB, 1000, .inl u3))] H := hP
  have hD : va_D A [(h, .inr (0, [.ref a, .ref b, .int (nI (N + w))])), (a, .inl (cA, 1000, .inl u2)), (b, .inl (cB, 1000, .inl u3))] := hD
  refine lv_aload_n hx hb dX0_addBehind_15 rfl (lv_at hl 1 rfl) ?_
  refine lv_iload_n hx hb dX0_addBehind_16 rfl (lv_at hl 0 rfl) ?_
  refine lv_iload_n hx hb dX0_addBehind_17 rfl (lv_at hl 0 rfl) ?_
  refine lv_iload_n hx hb dX0_addBehind_18 rfl (lv_at hl 3 rfl) ?_
  refine lv_iadd hx hb dX0_addBehind_19 ?_
  refine ow_top (z := nI (p + 1 + w)) (nI_add (p + 1) w) ?_
  refine ow_callv (wr := []) (va_runV (As := [.int (nI (p + 1)), .int (nI (p + 1 + w))]) (rest := []) ⟨hx, hb, hml, hown, hts⟩ (c_X_fillGap l dC dI h a b cA cB (nI (N + w)) N L u2 u3 (p + 1) w _ ok ho (by omega) (by omega) hwN) (cwV 2 hts gX0_addBehind_X0_fillGap rfl rfl rfl (by decide +kernel) ⟨Nat.le_of_ble_eq_true rfl, Nat.le_of_ble_eq_true rfl⟩) (ow_PreV hK hP hD (ci := 0) (q0 := 0) rfl rfl) rfl rfl hl.1 rfl (lv_room (Nat.le_of_ble_eq_true rfl)) dX0_addBehind_20 ⟨Nat.le_of_ble_eq_true rfl, Nat.le_of_ble_eq_true rfl⟩) hP hD hS hA [0, 1, 2] [] rfl rfl (by decide) (by decide) (fun u H locs hw hP hD hS => ?_)
  obtain ⟨v1, v2, v3⟩ := u
  obtain ⟨e1, hf9, hg9⟩ := hw
  obtain rfl : nI (N + w) = v1 := e1.symm
  have hP : va_P (dC, dI) vwCl [(h, .inr (0, [.ref a, .ref b, .int (nI (N + w))])), (a, .inl (cA, 1000, .inl v2)), (b, .inl (cB, 1000, .inl v3))] H := hP
  have hD : va_D A [(h, .inr (0, [.ref a, .ref b, .int (nI (N + w))])), (a, .inl (cA, 1000, .inl v2)), (b, .inl (cB, 1000, .inl v3))] := hD
  refine lv_aload_n hx hb dX0_addBehind_23 rfl (lv_at hl 1 rfl) ?_
  refine va_get (D := (dC, dI)) (ci := 0) (v := .ref a) (C := RX0) (T := TX0) (N := 3) hx hb hts (by decide +kernel) hown hK hP 0 rfl rfl 0 (by decide) (hts (.fieldLink RX0 9 "OrderLine" "line" "[I") (by decide +kernel)) (fun _ h9 => h9) rfl dX0_addBehind_24 ?_
  refine lv_iload_n hx hb dX0_addBehind_27 rfl (lv_at hl 0 rfl) ?_
  refine ow_iald (k := p + 1) (v := nI (ol_fr N L)) hx hb hK hP 1 0 rfl rfl (by omega) (by decide) ((hf9 (p + 1) (by omega)).trans (congrArg nI (ol_many_keep (i := 0) w (by omega)))) dX0_addBehind_28 ?_
  exact W.iret (v := (nI (ol_fr N L))) hx hb hr (fun t ht hW => ⟨⟨(nI (ol_fr N L)), (nI (N + w), v2, v3), rfl, ⟨rfl, rfl, hf9, hg9⟩, by rw [ht]; exact hP, hD⟩, hS.F ht⟩) hS.2.2 dX0_addBehind_29
set_option maxHeartbeats 4000000 in
set_option maxRecDepth 100000 in
/-- takeOut(s0, s0 + w): these go -/
theorem c_X_takeOut (l : Launch) (dC : Nat → ClassId) (dI : Nat → Nat → Nat) (h a b : Nat) (cA cB : ClassId) (N : Nat) (L : Nat → Nat) (f g : Nat → Int32) (s0 w sz : Nat) (ok : ol_ok N L) (hf : ol_f N L f) (hg : ol_g N L g) (h1s : 1 ≤ s0) (hs : s0 + w ≤ N) : Met l yX0_takeOut wsX0_takeOut ({ frames := 1, cells := 0, slots := 0, locals := 22 }) (ow_Pc (dC, dI) vwCl [(cA, .int), (cB, .int)] (wX h a b cA cB (nI N, f, g)) sz [.ref h, .int (nI s0), .int (nI (s0 + w))]) (va_Qv (fun u : Int32 × (Nat → Int32) × (Nat → Int32) => u.1 = nI (N - w) ∧ ol_f (N - w) (ol_rem L s0 w) u.2.1 ∧ ol_g (N - w) (ol_rem L s0 w) u.2.2) (ow_B (dC, dI) vwCl (wX h a b cA cB) (va_A (wX h a b cA cB (nI N, f, g)) sz)) (va_A (wX h a b cA cB (nI N, f, g)) sz)) 0 0 (va_A (wX h a b cA cB (nI N, f, g)) sz) := by
  refine Met.ofW (cc := cX0_takeOut) (maxL := 5) (ret := none) (by decide) rfl ?_
  intro pg ev s m args below meth cd s₁ B hml hv
  obtain ⟨rfl, hsz, hP, hK, hD0⟩ := hv
  have hx := B.exec
  have hb := B.bytes
  have hr := B.returns
  have hts := atoms_spec (ws := wsX0_takeOut) B.pre
  have hown : s.vm.findClass RX0 = some m.cls := findClass_of_methodNamed B.named
  have hlocks := B.notSynchronized
  subst hsz
  have hD := hD0.self (sz := s.heap.size)
  generalize hAe : va_A (wX h a b cA cB (nI N, f, g)) s.heap.size = A at hD ⊢
  have hA : ∀ q : Nat, s.heap.size ≤ q → A q := fun q h => by rw [← hAe]; exact Or.inr h
  have hS : va_S A s.heap s.heap [] := va_S.rf
  have hD : va_D A [(h, .inr (0, [.ref a, .ref b, .int (nI N)])), (a, .inl (cA, 1000, .inl f)), (b, .inl (cB, 1000, .inl g))] := hD
  have hP : va_P (dC, dI) vwCl [(h, .inr (0, [.ref a, .ref b, .int (nI N)])), (a, .inl (cA, 1000, .inl f)), (b, .inl (cB, 1000, .inl g))] s.heap := hP
  have hl := lv_entry ([.ref h, .int (nI s0), .int (nI (s0 + w))]) (n := 5) (Nat.le_of_ble_eq_true rfl)
  rw [lg_entry_eq]
  generalize (lg_sl ([.ref h, .int (nI s0), .int (nI (s0 + w))]) ++ List.replicate (5 - (lg_sl ([.ref h, .int (nI s0), .int (nI (s0 + w))])).length) Slot.unset).toArray = ls at hl ⊢
  have hl : lv_has ls 5 [(0, .ref h), (1, .int (nI s0)), (2, .int (nI (s0 + w)))] := hl
  have hN := ok.2.1
  refine lv_iload_n hx hb dX0_takeOut_0 rfl (lv_at hl 1 rfl) ?_
  refine lv_istore_n (lv' := [(3, .int (nI s0)), (0, .ref h), (1, .int (nI s0)), (2, .int (nI (s0 + w)))]) hx hb dX0_takeOut_1 rfl hl (by decide) rfl (fun ls hl => ?_)
  have loop1 : ∀ (k : Nat) (i : Nat) (g1 : Nat → Int32), w < i + k → i ≤ w → ol_t1 N L s0 i g1 → ∀ (H : Heap) (locs : List Loc), va_P (dC, dI) vwCl [(h, .inr (0, [.ref a, .ref b, .int (nI N)])), (a, .inl (cA, 1000, .inl f)), (b, .inl (cB, 1000, .inl g1))] H → va_D A [(h, .inr (0, [.ref a, .ref b, .int (nI N)])), (a, .inl (cA, 1000, .inl f)), (b, .inl (cB, 1000, .inl g1))] → va_S A s.heap H locs → ∀ ls : Array Slot, lv_has ls 5 [(0, .ref h), (1, .int (nI s0)), (2, .int (nI (s0 + w))), (3, .int (nI (s0 + i)))] → W pg l ev (headSpec wsX0_takeOut ({ frames := 1, cells := 0, slots := 0, locals := 22 })).room s m ([.ref h, .int (nI s0), .int (nI (s0 + w))] : List Value).toArray below meth cd H locs 0 0 (MQ below (va_Qv (fun u : Int32 × (Nat → Int32) × (Nat → Int32) => u.1 = nI (N - w) ∧ ol_f (N - w) (ol_rem L s0 w) u.2.1 ∧ ol_g (N - w) (ol_rem L s0 w) u.2.2) (ow_B (dC, dI) vwCl (wX h a b cA cB) A) A) ([.ref h, .int (nI s0), .int (nI (s0 + w))] : List Value).toArray s 0 0 A) (F0 m 2 ls []) := by
    intro k
    induction k with
    | zero =>
      intro i g1 h1 h2 h3
      exact absurd h1 (by omega)
    | succ k ih =>
      intro i g1 hk hi h1 H locs hP hD hS ls hl
      refine lv_iload_n hx hb dX0_takeOut_2 rfl (lv_at hl 3 rfl) ?_
      refine lv_iload_n hx hb dX0_takeOut_3 rfl (lv_at hl 2 rfl) ?_
      refine lv_icmp_ge (tgt := 25) hx hb dX0_takeOut_4 (by decide) (fun c_4 => ?_) (fun c_4 => ?_)
      · have hc := ol_le (by omega) (by omega) c_4
        obtain rfl : w = i := by omega
        refine lv_iload_n hx hb dX0_takeOut_25 rfl (lv_at hl 2 rfl) ?_
        refine lv_iload_n hx hb dX0_takeOut_26 rfl (lv_at hl 1 rfl) ?_
        refine lv_isub hx hb dX0_takeOut_27 ?_
        refine ow_top (z := nI w) (by rw [pk_sub (by omega), show s0 + w - s0 = w by omega]) ?_
        refine lv_istore_n (lv' := [(3, .int (nI w)), (0, .ref h), (1, .int (nI s0)), (2, .int (nI (s0 + w)))]) hx hb dX0_takeOut_28 rfl hl (by decide) rfl (fun ls hl => ?_)
        refine lv_iload_n hx hb dX0_takeOut_29 rfl (lv_at hl 3 rfl) ?_
        refine lv_istore (lv' := [(4, .int (nI (s0 + w))), (3, .int (nI w)), (0, .ref h), (1, .int (nI s0)), (2, .int (nI (s0 + w)))]) hx hb dX0_takeOut_30 hl (by decide) rfl (fun ls hl => ?_)
        have loop2 : ∀ (k : Nat) (j : Nat) (f2 g2 : Nat → Int32), N < s0 + w + j + k → s0 + w + j ≤ N → ol_t2 N L s0 w j f2 g2 → ∀ (H : Heap) (locs : List Loc), va_P (dC, dI) vwCl [(h, .inr (0, [.ref a, .ref b, .int (nI N)])), (a, .inl (cA, 1000, .inl f2)), (b, .inl (cB, 1000, .inl g2))] H → va_D A [(h, .inr (0, [.ref a, .ref b, .int (nI N)])), (a, .inl (cA, 1000, .inl f2)), (b, .inl (cB, 1000, .inl g2))] → va_S A s.heap H locs → ∀ ls : Array Slot, lv_has ls 5 [(0, .ref h), (1, .int (nI s0)), (2, .int (nI (s0 + w))), (3, .int (nI w)), (4, .int (nI (s0 + w + j)))] → W pg l ev (headSpec wsX0_takeOut ({ frames := 1, cells := 0, slots := 0, locals := 22 })).room s m ([.ref h, .int (nI s0), .int (nI (s0 + w))] : List Value).toArray below meth cd H locs 0 0 (MQ below (va_Qv (fun u : Int32 × (Nat → Int32) × (Nat → Int32) => u.1 = nI (N - w) ∧ ol_f (N - w) (ol_rem L s0 w) u.2.1 ∧ ol_g (N - w) (ol_rem L s0 w) u.2.2) (ow_B (dC, dI) vwCl (wX h a b cA cB) A) A) ([.ref h, .int (nI s0), .int (nI (s0 + w))] : List Value).toArray s 0 0 A) (F0 m 32 ls []) := by
          intro k
          induction k with
          | zero =>
            intro j f2 g2 h1 h2 h3
            exact absurd h1 (by omega)
          | succ k ih =>
            intro j f2 g2 hk2 hj h2 H locs hP hD hS ls hl
            refine lv_iload hx hb dX0_takeOut_32 (lv_at hl 4 rfl) ?_
            refine lv_aload_n hx hb dX0_takeOut_34 rfl (lv_at hl 0 rfl) ?_
            refine va_get (D := (dC, dI)) (ci := 0) (v := .int (nI N)) (C := RX0) (T := TX0) (N := 3) hx hb hts (by decide +kernel) hown hK hP 0 rfl rfl 2 (by decide) (hts (.fieldLink RX0 16 "OrderLine" "count" "I") (by decide +kernel)) (fun _ h9 => h9) rfl dX0_takeOut_35 ?_
            refine lv_icmp_ge (tgt := 62) hx hb dX0_takeOut_38 (by decide) (fun c_38 => ?_) (fun c_38 => ?_)
            · have hc2 := ol_le (by omega) (by omega) c_38
              obtain ⟨hf9, hg9⟩ := ol_t2_e (show ol_t2 N L s0 w (N - (s0 + w)) f2 g2 by rw [show N - (s0 + w) = j by omega]; exact h2) hs
              refine lv_aload_n hx hb dX0_takeOut_62 rfl (lv_at hl 0 rfl) ?_
              refine lv_dup hx hb dX0_takeOut_63 rfl ?_
              refine va_get (D := (dC, dI)) (ci := 0) (v := .int (nI N)) (C := RX0) (T := TX0) (N := 3) hx hb hts (by decide +kernel) hown hK hP 0 rfl rfl 2 (by decide) (hts (.fieldLink RX0 16 "OrderLine" "count" "I") (by decide +kernel)) (fun _ h9 => h9) rfl dX0_takeOut_64 ?_
              refine lv_iload_n hx hb dX0_takeOut_67 rfl (lv_at hl 3 rfl) ?_
              refine lv_isub hx hb dX0_takeOut_68 ?_
              refine ow_top (z := nI (N - w)) (pk_sub (by omega)) ?_
              refine va_put (D := (dC, dI)) (ci := 0) (v := .int (nI (N - w))) (ty := (.int)) (C := RX0) (T := TX0) (N := 3) hx hb hts (by decide +kernel) tyX0 tyX0_ok nmX0 hown hK hP hD hS 0 rfl rfl 2 (by decide) (hts (.fieldLink RX0 16 "OrderLine" "count" "I") (by decide +kernel)) (fun _ h9 => h9) rfl (by decide +kernel) rfl rfl (Nat.le_of_ble_eq_true rfl) dX0_takeOut_69 (fun H locs hP hD hS => ?_)
              have hP : va_P (dC, dI) vwCl [(h, .inr (0, [.ref a, .ref b, .int (nI (N - w))])), (a, .inl (cA, 1000, .inl f2)), (b, .inl (cB, 1000, .inl g2))] H := hP
              have hD : va_D A [(h, .inr (0, [.ref a, .ref b, .int (nI (N - w))])), (a, .inl (cA, 1000, .inl f2)), (b, .inl (cB, 1000, .inl g2))] := hD
              exact W.vret hx hb hr (fun t ht hW => ⟨⟨(nI (N - w), f2, g2), rfl, ⟨rfl, hf9, hg9⟩, by rw [ht]; exact hP, hD⟩, hS.F ht⟩) hS.2.2 dX0_takeOut_72
            · have hc2 := ol_nle (by omega) (by omega) c_38
              refine lv_aload_n hx hb dX0_takeOut_41 rfl (lv_at hl 0 rfl) ?_
              refine lv_aload_n hx hb dX0_takeOut_42 rfl (lv_at hl 0 rfl) ?_
              refine va_get (D := (dC, dI)) (ci := 0) (v := .ref a) (C := RX0) (T := TX0) (N := 3) hx hb hts (by decide +kernel) hown hK hP 0 rfl rfl 0 (by decide) (hts (.fieldLink RX0 9 "OrderLine" "line" "[I") (by decide +kernel)) (fun _ h9 => h9) rfl dX0_takeOut_43 ?_
              refine lv_iload hx hb dX0_takeOut_46 (lv_at hl 4 rfl) ?_
              refine ow_iald (k := s0 + w + j) (v := nI (L (s0 + w + j))) hx hb hK hP 1 0 rfl rfl (by omega) (by decide) (h2.2.2.1 (s0 + w + j) (by omega) (by omega)) dX0_takeOut_48 ?_
              refine lv_iload hx hb dX0_takeOut_49 (lv_at hl 4 rfl) ?_
              refine lv_iload_n hx hb dX0_takeOut_51 rfl (lv_at hl 3 rfl) ?_
              refine lv_isub hx hb dX0_takeOut_52 ?_
              refine ow_top (z := nI (s0 + j)) (by rw [pk_sub (by omega), show s0 + w + j - w = s0 + j by omega]) ?_
              refine ow_callv (wr := []) (va_runV (As := [.int (nI (L (s0 + w + j))), .int (nI (s0 + j))]) (rest := []) ⟨hx, hb, hml, hown, hts⟩ (c_X_put l dC dI h a b cA cB (nI N) f2 g2 (L (s0 + w + j)) (s0 + j) _ (ok.2.2.2.1 _ (by omega)) (by omega)) (cwV 2 hts gX0_takeOut_X0_put rfl rfl rfl (by decide +kernel) ⟨Nat.le_of_ble_eq_true rfl, Nat.le_of_ble_eq_true rfl⟩) (ow_PreV hK hP hD (ci := 0) (q0 := 0) rfl rfl) rfl rfl hl.1 rfl (lv_room (Nat.le_of_ble_eq_true rfl)) dX0_takeOut_53 ⟨Nat.le_of_ble_eq_true rfl, Nat.le_of_ble_eq_true rfl⟩) hP hD hS hA [0, 1, 2] [] rfl rfl (by decide) (by decide) (fun u H locs hw hP hD hS => ?_)
              subst hw
              have hP : va_P (dC, dI) vwCl [(h, .inr (0, [.ref a, .ref b, .int (nI N)])), (a, .inl (cA, 1000, .inl (upd f2 (s0 + j) (nI (L (s0 + w + j)))))), (b, .inl (cB, 1000, .inl (upd g2 (L (s0 + w + j)) (nI (s0 + j)))))] H := hP
              have hD : va_D A [(h, .inr (0, [.ref a, .ref b, .int (nI N)])), (a, .inl (cA, 1000, .inl (upd f2 (s0 + j) (nI (L (s0 + w + j)))))), (b, .inl (cB, 1000, .inl (upd g2 (L (s0 + w + j)) (nI (s0 + j)))))] := hD
              refine lv_iinc (v := nI (s0 + w + (j + 1))) (lv' := [(4, .int (nI (s0 + w + (j + 1)))), (0, .ref h), (1, .int (nI s0)), (2, .int (nI (s0 + w))), (3, .int (nI w))]) hx hb dX0_takeOut_56 hl (k := 4) rfl (nI_1 (s0 + w + j)) (by decide) rfl (fun ls hl => ?_)
              refine lv_goto (tgt := 32) hx hb dX0_takeOut_59 (by decide) ?_
              exact ih (j + 1) _ _ (by omega) (by omega) (ol_t2_s ok h2 (by omega)) H locs hP hD hS ls (lv_sub hl [1, 2, 3, 4, 0] rfl)
        exact loop2 (N + 1) 0 f g1 (by omega) (by omega) (ol_t2_0 hf h1 hs) _ _ hP hD hS ls (lv_sub hl [2, 3, 4, 1, 0] rfl)
      · have hc := ol_nle (by omega) (by omega) c_4
        refine lv_aload_n hx hb dX0_takeOut_7 rfl (lv_at hl 0 rfl) ?_
        refine va_get (D := (dC, dI)) (ci := 0) (v := .ref b) (C := RX0) (T := TX0) (N := 3) hx hb hts (by decide +kernel) hown hK hP 0 rfl rfl 1 (by decide) (hts (.fieldLink RX0 13 "OrderLine" "places" "[I") (by decide +kernel)) (fun _ h9 => h9) rfl dX0_takeOut_8 ?_
        refine lv_aload_n hx hb dX0_takeOut_11 rfl (lv_at hl 0 rfl) ?_
        refine va_get (D := (dC, dI)) (ci := 0) (v := .ref a) (C := RX0) (T := TX0) (N := 3) hx hb hts (by decide +kernel) hown hK hP 0 rfl rfl 0 (by decide) (hts (.fieldLink RX0 9 "OrderLine" "line" "[I") (by decide +kernel)) (fun _ h9 => h9) rfl dX0_takeOut_12 ?_
        refine lv_iload_n hx hb dX0_takeOut_15 rfl (lv_at hl 3 rfl) ?_
        refine ow_iald (k := s0 + i) (v := nI (L (s0 + i))) hx hb hK hP 1 0 rfl rfl (by omega) (by decide) (hf (s0 + i) (by omega)) dX0_takeOut_16 ?_
        refine lv_iconst (v := (-1)) hx hb dX0_takeOut_17 (by decide +kernel) ?_
        refine ow_iast (k := L (s0 + i)) hx hb hK hP hD hS 2 1 rfl rfl (ok.2.2.2.1 (s0 + i) (by omega)) (by decide) dX0_takeOut_18 (fun H locs hP hD hS => ?_)
        have hP : va_P (dC, dI) vwCl [(h, .inr (0, [.ref a, .ref b, .int (nI N)])), (a, .inl (cA, 1000, .inl f)), (b, .inl (cB, 1000, .inl (upd g1 (L (s0 + i)) (((-1))))))] H := hP
        have hD : va_D A [(h, .inr (0, [.ref a, .ref b, .int (nI N)])), (a, .inl (cA, 1000, .inl f)), (b, .inl (cB, 1000, .inl (upd g1 (L (s0 + i)) (((-1))))))] := hD
        refine lv_iinc (v := nI (s0 + (i + 1))) (lv' := [(3, .int (nI (s0 + (i + 1)))), (0, .ref h), (1, .int (nI s0)), (2, .int (nI (s0 + w)))]) hx hb dX0_takeOut_19 hl (k := 3) rfl (nI_1 (s0 + i)) (by decide) rfl (fun ls hl => ?_)
        refine lv_goto (tgt := 2) hx hb dX0_takeOut_22 (by decide) ?_
        exact ih (i + 1) _ (by omega) (by omega) (ol_t1_s ok h1 (by omega)) H locs hP hD hS ls (lv_sub hl [1, 2, 3, 0] rfl)
  exact loop1 (w + 1) 0 g (by omega) (by omega) (ol_t1_0 hg) _ _ hP hD hS ls (lv_sub hl [1, 2, 3, 0] rfl)
set_option maxHeartbeats 4000000 in
set_option maxRecDepth 100000 in
/-- turn(s0, e0): the other way round -/
theorem c_X_turn (l : Launch) (dC : Nat → ClassId) (dI : Nat → Nat → Nat) (h a b : Nat) (cA cB : ClassId) (N : Nat) (L : Nat → Nat) (f g : Nat → Int32) (s0 e0 sz : Nat) (ok : ol_ok N L) (hf : ol_f N L f) (hg : ol_g N L g) (h1s : 1 ≤ s0) (hse : s0 ≤ e0) (he : e0 ≤ N) : Met l yX0_turn wsX0_turn ({ frames := 1, cells := 0, slots := 0, locals := 22 }) (ow_Pc (dC, dI) vwCl [(cA, .int), (cB, .int)] (wX h a b cA cB (nI N, f, g)) sz [.ref h, .int (nI s0), .int (nI e0)]) (va_Qv (fun u : Int32 × (Nat → Int32) × (Nat → Int32) => u.1 = nI N ∧ ol_f N (ol_rev L s0 e0) u.2.1 ∧ ol_g N (ol_rev L s0 e0) u.2.2) (ow_B (dC, dI) vwCl (wX h a b cA cB) (va_A (wX h a b cA cB (nI N, f, g)) sz)) (va_A (wX h a b cA cB (nI N, f, g)) sz)) 0 0 (va_A (wX h a b cA cB (nI N, f, g)) sz) := by
  refine Met.ofW (cc := cX0_turn) (maxL := 6) (ret := none) (by decide) rfl ?_
  intro pg ev s m args below meth cd s₁ B hml hv
  obtain ⟨rfl, hsz, hP, hK, hD0⟩ := hv
  have hx := B.exec
  have hb := B.bytes
  have hr := B.returns
  have hts := atoms_spec (ws := wsX0_turn) B.pre
  have hown : s.vm.findClass RX0 = some m.cls := findClass_of_methodNamed B.named
  have hlocks := B.notSynchronized
  subst hsz
  have hD := hD0.self (sz := s.heap.size)
  generalize hAe : va_A (wX h a b cA cB (nI N, f, g)) s.heap.size = A at hD ⊢
  have hA : ∀ q : Nat, s.heap.size ≤ q → A q := fun q h => by rw [← hAe]; exact Or.inr h
  have hS : va_S A s.heap s.heap [] := va_S.rf
  have hD : va_D A [(h, .inr (0, [.ref a, .ref b, .int (nI N)])), (a, .inl (cA, 1000, .inl f)), (b, .inl (cB, 1000, .inl g))] := hD
  have hP : va_P (dC, dI) vwCl [(h, .inr (0, [.ref a, .ref b, .int (nI N)])), (a, .inl (cA, 1000, .inl f)), (b, .inl (cB, 1000, .inl g))] s.heap := hP
  have hl := lv_entry ([.ref h, .int (nI s0), .int (nI e0)]) (n := 6) (Nat.le_of_ble_eq_true rfl)
  rw [lg_entry_eq]
  generalize (lg_sl ([.ref h, .int (nI s0), .int (nI e0)]) ++ List.replicate (6 - (lg_sl ([.ref h, .int (nI s0), .int (nI e0)])).length) Slot.unset).toArray = ls at hl ⊢
  have hl : lv_has ls 6 [(0, .ref h), (1, .int (nI s0)), (2, .int (nI e0))] := hl
  have hN := ok.2.1
  refine lv_iload_n hx hb dX0_turn_0 rfl (lv_at hl 2 rfl) ?_
  refine lv_iconst (v := 1) hx hb dX0_turn_1 (by decide +kernel) ?_
  refine lv_isub hx hb dX0_turn_2 ?_
  refine ow_top (z := nI (e0 - 1)) (nI_m1 (by omega)) ?_
  refine lv_istore_n (lv' := [(3, .int (nI (e0 - 1))), (0, .ref h), (1, .int (nI s0)), (2, .int (nI e0))]) hx hb dX0_turn_3 rfl hl (by decide) rfl (fun ls hl => ?_)
  refine lv_iload_n hx hb dX0_turn_4 rfl (lv_at hl 2 rfl) ?_
  refine lv_istore (lv' := [(4, .int (nI s0)), (3, .int (nI (e0 - 1))), (0, .ref h), (1, .int (nI s0)), (2, .int (nI e0))]) hx hb dX0_turn_5 hl (by decide) rfl (fun ls hl => ?_)
  have loop : ∀ (k : Nat) (i : Nat) (f1 g1 : Nat → Int32), e0 < i + k → (i = 0 ∨ s0 + i + i ≤ e0) → ol_ok N (ol_rv L s0 e0 i) → ol_f N (ol_rv L s0 e0 i) f1 → ol_g N (ol_rv L s0 e0 i) g1 → ∀ (H : Heap) (locs : List Loc), va_P (dC, dI) vwCl [(h, .inr (0, [.ref a, .ref b, .int (nI N)])), (a, .inl (cA, 1000, .inl f1)), (b, .inl (cB, 1000, .inl g1))] H → va_D A [(h, .inr (0, [.ref a, .ref b, .int (nI N)])), (a, .inl (cA, 1000, .inl f1)), (b, .inl (cB, 1000, .inl g1))] → va_S A s.heap H locs → ∀ ls : Array Slot, lv_has ls 6 [(0, .ref h), (1, .int (nI s0)), (2, .int (nI e0)), (3, .int (nI (e0 - 1 - i))), (4, .int (nI (s0 + i)))] → W pg l ev (headSpec wsX0_turn ({ frames := 1, cells := 0, slots := 0, locals := 22 })).room s m ([.ref h, .int (nI s0), .int (nI e0)] : List Value).toArray below meth cd H locs 0 0 (MQ below (va_Qv (fun u : Int32 × (Nat → Int32) × (Nat → Int32) => u.1 = nI N ∧ ol_f N (ol_rev L s0 e0) u.2.1 ∧ ol_g N (ol_rev L s0 e0) u.2.2) (ow_B (dC, dI) vwCl (wX h a b cA cB) A) A) ([.ref h, .int (nI s0), .int (nI e0)] : List Value).toArray s 0 0 A) (F0 m 7 ls []) := by
    intro k
    induction k with
    | zero =>
      intro i f1 g1 h1 h2 h3
      exact absurd h1 (by omega)
    | succ k ih =>
      intro i f1 g1 hk hi ok1 hf1 hg1 H locs hP hD hS ls hl
      refine lv_iload hx hb dX0_turn_7 (lv_at hl 4 rfl) ?_
      refine lv_iload_n hx hb dX0_turn_9 rfl (lv_at hl 3 rfl) ?_
      refine lv_icmp_ge (tgt := 50) hx hb dX0_turn_10 (by decide) (fun c_10 => ?_) (fun c_10 => ?_)
      · have hc := ol_le (by omega) (by omega) c_10
        have erv : ol_rv L s0 e0 i = ol_rev L s0 e0 := ol_rv_e L (by omega) (by omega)
        exact W.vret hx hb hr (fun t ht hW => ⟨⟨(nI N, f1, g1), rfl, ⟨rfl, erv ▸ hf1, erv ▸ hg1⟩, by rw [ht]; exact hP, hD⟩, hS.F ht⟩) hS.2.2 dX0_turn_50
      · have hc := ol_nle (by omega) (by omega) c_10
        obtain ⟨hf2, hg2⟩ := ol_sw_rep ok1 hf1 hg1 (a := s0 + i) (b := e0 - 1 - i) (by omega) (by omega) (by omega)
        rw [ol_rv_s L (by omega)] at hf2 hg2
        have ok2 := ol_ok_sw ok1 (a := s0 + i) (b := e0 - 1 - i) (by omega) (by omega) (by omega) (by omega)
        rw [ol_rv_s L (by omega)] at ok2
        refine lv_aload_n hx hb dX0_turn_13 rfl (lv_at hl 0 rfl) ?_
        refine va_get (D := (dC, dI)) (ci := 0) (v := .ref a) (C := RX0) (T := TX0) (N := 3) hx hb hts (by decide +kernel) hown hK hP 0 rfl rfl 0 (by decide) (hts (.fieldLink RX0 9 "OrderLine" "line" "[I") (by decide +kernel)) (fun _ h9 => h9) rfl dX0_turn_14 ?_
        refine lv_iload hx hb dX0_turn_17 (lv_at hl 4 rfl) ?_
        refine ow_iald (k := s0 + i) (v := nI ((ol_rv L s0 e0 i) (s0 + i))) hx hb hK hP 1 0 rfl rfl (by omega) (by decide) (hf1 (s0 + i) (by omega)) dX0_turn_19 ?_
        refine lv_istore (lv' := [(5, .int (nI ((ol_rv L s0 e0 i) (s0 + i)))), (0, .ref h), (1, .int (nI s0)), (2, .int (nI e0)), (3, .int (nI (e0 - 1 - i))), (4, .int (nI (s0 + i)))]) hx hb dX0_turn_20 hl (by decide) rfl (fun ls hl => ?_)
        refine lv_aload_n hx hb dX0_turn_22 rfl (lv_at hl 1 rfl) ?_
        refine lv_aload_n hx hb dX0_turn_23 rfl (lv_at hl 1 rfl) ?_
        refine va_get (D := (dC, dI)) (ci := 0) (v := .ref a) (C := RX0) (T := TX0) (N := 3) hx hb hts (by decide +kernel) hown hK hP 0 rfl rfl 0 (by decide) (hts (.fieldLink RX0 9 "OrderLine" "line" "[I") (by decide +kernel)) (fun _ h9 => h9) rfl dX0_turn_24 ?_
        refine lv_iload_n hx hb dX0_turn_27 rfl (lv_at hl 4 rfl) ?_
        refine ow_iald (k := e0 - 1 - i) (v := nI ((ol_rv L s0 e0 i) (e0 - 1 - i))) hx hb hK hP 1 0 rfl rfl (by omega) (by decide) (hf1 (e0 - 1 - i) (by omega)) dX0_turn_28 ?_
        refine lv_iload hx hb dX0_turn_29 (lv_at hl 5 rfl) ?_
        refine ow_callv (wr := []) (va_runV (As := [.int (nI ((ol_rv L s0 e0 i) (e0 - 1 - i))), .int (nI (s0 + i))]) (rest := []) ⟨hx, hb, hml, hown, hts⟩ (c_X_put l dC dI h a b cA cB (nI N) f1 g1 ((ol_rv L s0 e0 i) (e0 - 1 - i)) (s0 + i) _ (ok1.2.2.2.1 _ (by omega)) (by omega)) (cwV 2 hts gX0_turn_X0_put rfl rfl rfl (by decide +kernel) ⟨Nat.le_of_ble_eq_true rfl, Nat.le_of_ble_eq_true rfl⟩) (ow_PreV hK hP hD (ci := 0) (q0 := 0) rfl rfl) rfl rfl hl.1 rfl (lv_room (Nat.le_of_ble_eq_true rfl)) dX0_turn_31 ⟨Nat.le_of_ble_eq_true rfl, Nat.le_of_ble_eq_true rfl⟩) hP hD hS hA [0, 1, 2] [] rfl rfl (by decide) (by decide) (fun u H locs hw hP hD hS => ?_)
        subst hw
        have hP : va_P (dC, dI) vwCl [(h, .inr (0, [.ref a, .ref b, .int (nI N)])), (a, .inl (cA, 1000, .inl (upd f1 (s0 + i) (nI ((ol_rv L s0 e0 i) (e0 - 1 - i)))))), (b, .inl (cB, 1000, .inl (upd g1 ((ol_rv L s0 e0 i) (e0 - 1 - i)) (nI (s0 + i)))))] H := hP
        have hD : va_D A [(h, .inr (0, [.ref a, .ref b, .int (nI N)])), (a, .inl (cA, 1000, .inl (upd f1 (s0 + i) (nI ((ol_rv L s0 e0 i) (e0 - 1 - i)))))), (b, .inl (cB, 1000, .inl (upd g1 ((ol_rv L s0 e0 i) (e0 - 1 - i)) (nI (s0 + i)))))] := hD
        refine lv_aload_n hx hb dX0_turn_34 rfl (lv_at hl 1 rfl) ?_
        refine lv_iload hx hb dX0_turn_35 (lv_at hl 0 rfl) ?_
        refine lv_iload_n hx hb dX0_turn_37 rfl (lv_at hl 4 rfl) ?_
        refine ow_callv (wr := []) (va_runV (As := [.int (nI ((ol_rv L s0 e0 i) (s0 + i))), .int (nI (e0 - 1 - i))]) (rest := []) ⟨hx, hb, hml, hown, hts⟩ (c_X_put l dC dI h a b cA cB (nI N) (upd f1 (s0 + i) (nI ((ol_rv L s0 e0 i) (e0 - 1 - i)))) (upd g1 ((ol_rv L s0 e0 i) (e0 - 1 - i)) (nI (s0 + i))) ((ol_rv L s0 e0 i) (s0 + i)) (e0 - 1 - i) _ (ok1.2.2.2.1 _ (by omega)) (by omega)) (cwV 2 hts gX0_turn_X0_put rfl rfl rfl (by decide +kernel) ⟨Nat.le_of_ble_eq_true rfl, Nat.le_of_ble_eq_true rfl⟩) (ow_PreV hK hP hD (ci := 0) (q0 := 0) rfl rfl) rfl rfl hl.1 rfl (lv_room (Nat.le_of_ble_eq_true rfl)) dX0_turn_38 ⟨Nat.le_of_ble_eq_true rfl, Nat.le_of_ble_eq_true rfl⟩) hP hD hS hA [0, 1, 2] [] rfl rfl (by decide) (by decide) (fun u H locs hw hP hD hS => ?_)
        subst hw
        have hP : va_P (dC, dI) vwCl [(h, .inr (0, [.ref a, .ref b, .int (nI N)])), (a, .inl (cA, 1000, .inl (upd (upd f1 (s0 + i) (nI ((ol_rv L s0 e0 i) (e0 - 1 - i)))) (e0 - 1 - i) (nI ((ol_rv L s0 e0 i) (s0 + i)))))), (b, .inl (cB, 1000, .inl (upd (upd g1 ((ol_rv L s0 e0 i) (e0 - 1 - i)) (nI (s0 + i))) ((ol_rv L s0 e0 i) (s0 + i)) (nI (e0 - 1 - i)))))] H := hP
        have hD : va_D A [(h, .inr (0, [.ref a, .ref b, .int (nI N)])), (a, .inl (cA, 1000, .inl (upd (upd f1 (s0 + i) (nI ((ol_rv L s0 e0 i) (e0 - 1 - i)))) (e0 - 1 - i) (nI ((ol_rv L s0 e0 i) (s0 + i)))))), (b, .inl (cB, 1000, .inl (upd (upd g1 ((ol_rv L s0 e0 i) (e0 - 1 - i)) (nI (s0 + i))) ((ol_rv L s0 e0 i) (s0 + i)) (nI (e0 - 1 - i)))))] := hD
        refine lv_iinc (v := nI (e0 - 1 - (i + 1))) (lv' := [(3, .int (nI (e0 - 1 - (i + 1)))), (5, .int (nI ((ol_rv L s0 e0 i) (s0 + i)))), (0, .ref h), (1, .int (nI s0)), (2, .int (nI e0)), (4, .int (nI (s0 + i)))]) hx hb dX0_turn_41 hl (k := 4) rfl (by rw [show e0 - 1 - (i + 1) = e0 - 1 - i - 1 by omega]; exact sb_m1 (by omega)) (by decide) rfl (fun ls hl => ?_)
        refine lv_iinc (v := nI (s0 + (i + 1))) (lv' := [(4, .int (nI (s0 + (i + 1)))), (3, .int (nI (e0 - 1 - (i + 1)))), (5, .int (nI ((ol_rv L s0 e0 i) (s0 + i)))), (0, .ref h), (1, .int (nI s0)), (2, .int (nI e0))]) hx hb dX0_turn_44 hl (k := 5) rfl (nI_1 (s0 + i)) (by decide) rfl (fun ls hl => ?_)
        refine lv_goto (tgt := 7) hx hb dX0_turn_47 (by decide) ?_
        exact ih (i + 1) _ _ (by omega) (by omega) ok2 hf2 hg2 H locs hP hD hS ls (lv_sub hl [3, 4, 5, 1, 0] rfl)
  exact loop (e0 + 1) 0 f g (by omega) (by omega) (by rw [ol_rv_0]; exact ok) (by rw [ol_rv_0]; exact hf) (by rw [ol_rv_0]; exact hg) _ _ hP hD hS ls (lv_sub hl [2, 3, 4, 1, 0] rfl)
set_option maxHeartbeats 4000000 in
set_option maxRecDepth 100000 in
/-- swapBlocks(s0, m0, e0): two runs change sides -/
theorem c_X_swapBlocks (l : Launch) (dC : Nat → ClassId) (dI : Nat → Nat → Nat) (h a b : Nat) (cA cB : ClassId) (N : Nat) (L : Nat → Nat) (f g : Nat → Int32) (s0 m0 e0 sz : Nat) (ok : ol_ok N L) (hf : ol_f N L f) (hg : ol_g N L g) (h1s : 1 ≤ s0) (hsm : s0 ≤ m0) (hme : m0 ≤ e0) (he : e0 ≤ N) : Met l yX0_swapBlocks wsX0_swapBlocks ({ frames := 2, cells := 0, slots := 0, locals := 47 }) (ow_Pc (dC, dI) vwCl [(cA, .int), (cB, .int)] (wX h a b cA cB (nI N, f, g)) sz [.ref h, .int (nI s0), .int (nI m0), .int (nI e0)]) (va_Qv (fun u : Int32 × (Nat → Int32) × (Nat → Int32) => u.1 = nI N ∧ ol_f N (ol_swp L s0 m0 e0) u.2.1 ∧ ol_g N (ol_swp L s0 m0 e0) u.2.2) (ow_B (dC, dI) vwCl (wX h a b cA cB) (va_A (wX h a b cA cB (nI N, f, g)) sz)) (va_A (wX h a b cA cB (nI N, f, g)) sz)) 0 0 (va_A (wX h a b cA cB (nI N, f, g)) sz) := by
  refine Met.ofW (cc := cX0_swapBlocks) (maxL := 4) (ret := none) (by decide) rfl ?_
  intro pg ev s m args below meth cd s₁ B hml hv
  obtain ⟨rfl, hsz, hP, hK, hD0⟩ := hv
  have hx := B.exec
  have hb := B.bytes
  have hr := B.returns
  have hts := atoms_spec (ws := wsX0_swapBlocks) B.pre
  have hown : s.vm.findClass RX0 = some m.cls := findClass_of_methodNamed B.named
  have hlocks := B.notSynchronized
  subst hsz
  have hD := hD0.self (sz := s.heap.size)
  generalize hAe : va_A (wX h a b cA cB (nI N, f, g)) s.heap.size = A at hD ⊢
  have hA : ∀ q : Nat, s.heap.size ≤ q → A q := fun q h => by rw [← hAe]; exact Or.inr h
  have hS : va_S A s.heap s.heap [] := va_S.rf
  have hD : va_D A [(h, .inr (0, [.ref a, .ref b, .int (nI N)])), (a, .inl (cA, 1000, .inl f)), (b, .inl (cB, 1000, .inl g))] := hD
  have hP : va_P (dC, dI) vwCl [(h, .inr (0, [.ref a, .ref b, .int (nI N)])), (a, .inl (cA, 1000, .inl f)), (b, .inl (cB, 1000, .inl g))] s.heap := hP
  have hl := lv_entry ([.ref h, .int (nI s0), .int (nI m0), .int (nI e0)]) (n := 4) (Nat.le_of_ble_eq_true rfl)
  rw [lg_entry_eq]
  generalize (lg_sl ([.ref h, .int (nI s0), .int (nI m0), .int (nI e0)]) ++ List.replicate (4 - (lg_sl ([.ref h, .int (nI s0), .int (nI m0), .int (nI e0)])).length) Slot.unset).toArray = ls at hl ⊢
  have hl : lv_has ls 4 [(0, .ref h), (1, .int (nI s0)), (2, .int (nI m0)), (3, .int (nI e0))] := hl
  have ok1 : ol_ok N (ol_rev L s0 m0) := ol_ok_rev ok h1s (by omega)
  have ok2 : ol_ok N (ol_rev (ol_rev L s0 m0) m0 e0) := ol_ok_rev ok1 (by omega) he
  refine lv_aload_n hx hb dX0_swapBlocks_0 rfl (lv_at hl 0 rfl) ?_
  refine lv_iload_n hx hb dX0_swapBlocks_1 rfl (lv_at hl 1 rfl) ?_
  refine lv_iload_n hx hb dX0_swapBlocks_2 rfl (lv_at hl 2 rfl) ?_
  refine ow_callv (wr := []) (va_runV (As := [.int (nI s0), .int (nI m0)]) (rest := []) ⟨hx, hb, hml, hown, hts⟩ (c_X_turn l dC dI h a b cA cB N L f g s0 m0 _ ok hf hg h1s hsm (by omega)) (cwV 2 hts gX0_swapBlocks_X0_turn rfl rfl rfl (by decide +kernel) ⟨Nat.le_of_ble_eq_true rfl, Nat.le_of_ble_eq_true rfl⟩) (ow_PreV hK hP hD (ci := 0) (q0 := 0) rfl rfl) rfl rfl hl.1 rfl (lv_room (Nat.le_of_ble_eq_true rfl)) dX0_swapBlocks_3 ⟨Nat.le_of_ble_eq_true rfl, Nat.le_of_ble_eq_true rfl⟩) hP hD hS hA [0, 1, 2] [] rfl rfl (by decide) (by decide) (fun u H locs hw hP hD hS => ?_)
  obtain ⟨a1, f1, g1⟩ := u
  obtain ⟨e1, hf1, hg1⟩ := hw
  obtain rfl : nI N = a1 := e1.symm
  have hP : va_P (dC, dI) vwCl [(h, .inr (0, [.ref a, .ref b, .int (nI N)])), (a, .inl (cA, 1000, .inl f1)), (b, .inl (cB, 1000, .inl g1))] H := hP
  have hD : va_D A [(h, .inr (0, [.ref a, .ref b, .int (nI N)])), (a, .inl (cA, 1000, .inl f1)), (b, .inl (cB, 1000, .inl g1))] := hD
  refine lv_aload_n hx hb dX0_swapBlocks_6 rfl (lv_at hl 0 rfl) ?_
  refine lv_iload_n hx hb dX0_swapBlocks_7 rfl (lv_at hl 2 rfl) ?_
  refine lv_iload_n hx hb dX0_swapBlocks_8 rfl (lv_at hl 3 rfl) ?_
  refine ow_callv (wr := []) (va_runV (As := [.int (nI m0), .int (nI e0)]) (rest := []) ⟨hx, hb, hml, hown, hts⟩ (c_X_turn l dC dI h a b cA cB N (ol_rev L s0 m0) f1 g1 m0 e0 _ ok1 hf1 hg1 (by omega) hme he) (cwV 2 hts gX0_swapBlocks_X0_turn rfl rfl rfl (by decide +kernel) ⟨Nat.le_of_ble_eq_true rfl, Nat.le_of_ble_eq_true rfl⟩) (ow_PreV hK hP hD (ci := 0) (q0 := 0) rfl rfl) rfl rfl hl.1 rfl (lv_room (Nat.le_of_ble_eq_true rfl)) dX0_swapBlocks_9 ⟨Nat.le_of_ble_eq_true rfl, Nat.le_of_ble_eq_true rfl⟩) hP hD hS hA [0, 1, 2] [] rfl rfl (by decide) (by decide) (fun u H locs hw hP hD hS => ?_)
  obtain ⟨a2, f2, g2⟩ := u
  obtain ⟨e1, hf2, hg2⟩ := hw
  obtain rfl : nI N = a2 := e1.symm
  have hP : va_P (dC, dI) vwCl [(h, .inr (0, [.ref a, .ref b, .int (nI N)])), (a, .inl (cA, 1000, .inl f2)), (b, .inl (cB, 1000, .inl g2))] H := hP
  have hD : va_D A [(h, .inr (0, [.ref a, .ref b, .int (nI N)])), (a, .inl (cA, 1000, .inl f2)), (b, .inl (cB, 1000, .inl g2))] := hD
  refine lv_aload_n hx hb dX0_swapBlocks_12 rfl (lv_at hl 0 rfl) ?_
  refine lv_iload_n hx hb dX0_swapBlocks_13 rfl (lv_at hl 1 rfl) ?_
  refine lv_iload_n hx hb dX0_swapBlocks_14 rfl (lv_at hl 3 rfl) ?_
  refine ow_callv (wr := []) (va_runV (As := [.int (nI s0), .int (nI e0)]) (rest := []) ⟨hx, hb, hml, hown, hts⟩ (c_X_turn l dC dI h a b cA cB N (ol_rev (ol_rev L s0 m0) m0 e0) f2 g2 s0 e0 _ ok2 hf2 hg2 h1s (by omega) he) (cwV 2 hts gX0_swapBlocks_X0_turn rfl rfl rfl (by decide +kernel) ⟨Nat.le_of_ble_eq_true rfl, Nat.le_of_ble_eq_true rfl⟩) (ow_PreV hK hP hD (ci := 0) (q0 := 0) rfl rfl) rfl rfl hl.1 rfl (lv_room (Nat.le_of_ble_eq_true rfl)) dX0_swapBlocks_15 ⟨Nat.le_of_ble_eq_true rfl, Nat.le_of_ble_eq_true rfl⟩) hP hD hS hA [0, 1, 2] [] rfl rfl (by decide) (by decide) (fun u H locs hw hP hD hS => ?_)
  obtain ⟨a3, f3, g3⟩ := u
  obtain ⟨e1, hf3, hg3⟩ := hw
  obtain rfl : nI N = a3 := e1.symm
  have hP : va_P (dC, dI) vwCl [(h, .inr (0, [.ref a, .ref b, .int (nI N)])), (a, .inl (cA, 1000, .inl f3)), (b, .inl (cB, 1000, .inl g3))] H := hP
  have hD : va_D A [(h, .inr (0, [.ref a, .ref b, .int (nI N)])), (a, .inl (cA, 1000, .inl f3)), (b, .inl (cB, 1000, .inl g3))] := hD
  exact W.vret hx hb hr (fun t ht hW => ⟨⟨(nI N, f3, g3), rfl, ⟨rfl, ol_rev3 L hsm hme ▸ hf3, ol_rev3 L hsm hme ▸ hg3⟩, by rw [ht]; exact hP, hD⟩, hS.F ht⟩) hS.2.2 dX0_swapBlocks_18
set_option maxHeartbeats 4000000 in
set_option maxRecDepth 100000 in
/-- wipe(): all but the first go -/
theorem c_X_wipe (l : Launch) (dC : Nat → ClassId) (dI : Nat → Nat → Nat) (h a b : Nat) (cA cB : ClassId) (N : Nat) (L : Nat → Nat) (f g : Nat → Int32) (sz : Nat) (ok : ol_ok N L) (hf : ol_f N L f) (hg : ol_g N L g) : Met l yX0_wipe wsX0_wipe ({ frames := 2, cells := 0, slots := 0, locals := 46 }) (ow_Pc (dC, dI) vwCl [(cA, .int), (cB, .int)] (wX h a b cA cB (nI N, f, g)) sz [.ref h]) (va_Qv (fun u : Int32 × (Nat → Int32) × (Nat → Int32) => u.1 = nI 1 ∧ ol_f 1 L u.2.1 ∧ ol_g 1 L u.2.2) (ow_B (dC, dI) vwCl (wX h a b cA cB) (va_A (wX h a b cA cB (nI N, f, g)) sz)) (va_A (wX h a b cA cB (nI N, f, g)) sz)) 0 0 (va_A (wX h a b cA cB (nI N, f, g)) sz) := by
  refine Met.ofW (cc := cX0_wipe) (maxL := 1) (ret := none) (by decide) rfl ?_
  intro pg ev s m args below meth cd s₁ B hml hv
  obtain ⟨rfl, hsz, hP, hK, hD0⟩ := hv
  have hx := B.exec
  have hb := B.bytes
  have hr := B.returns
  have hts := atoms_spec (ws := wsX0_wipe) B.pre
  have hown : s.vm.findClass RX0 = some m.cls := findClass_of_methodNamed B.named
  have hlocks := B.notSynchronized
  subst hsz
  have hD := hD0.self (sz := s.heap.size)
  generalize hAe : va_A (wX h a b cA cB (nI N, f, g)) s.heap.size = A at hD ⊢
  have hA : ∀ q : Nat, s.heap.size ≤ q → A q := fun q h => by rw [← hAe]; exact Or.inr h
  have hS : va_S A s.heap s.heap [] := va_S.rf
  have hD : va_D A [(h, .inr (0, [.ref a, .ref b, .int (nI N)])), (a, .inl (cA, 1000, .inl f)), (b, .inl (cB, 1000, .inl g))] := hD
  have hP : va_P (dC, dI) vwCl [(h, .inr (0, [.ref a, .ref b, .int (nI N)])), (a, .inl (cA, 1000, .inl f)), (b, .inl (cB, 1000, .inl g))] s.heap := hP
  have hl := lv_entry ([.ref h]) (n := 1) (Nat.le_of_ble_eq_true rfl)
  rw [lg_entry_eq]
  generalize (lg_sl ([.ref h]) ++ List.replicate (1 - (lg_sl ([.ref h])).length) Slot.unset).toArray = ls at hl ⊢
  have hl : lv_has ls 1 [(0, .ref h)] := hl
  have h1N := ok.1
  have eN : N = 1 + (N - 1) := by omega
  refine lv_aload_n hx hb dX0_wipe_0 rfl (lv_at hl 0 rfl) ?_
  refine lv_iconst (v := nI 1) hx hb dX0_wipe_1 (by decide +kernel) ?_
  refine lv_aload_n hx hb dX0_wipe_2 rfl (lv_at hl 0 rfl) ?_
  refine va_get (D := (dC, dI)) (ci := 0) (v := .int (nI N)) (C := RX0) (T := TX0) (N := 3) hx hb hts (by decide +kernel) hown hK hP 0 rfl rfl 2 (by decide) (hts (.fieldLink RX0 16 "OrderLine" "count" "I") (by decide +kernel)) (fun _ h9 => h9) rfl dX0_wipe_3 ?_
  refine ow_top (z := nI (1 + (N - 1))) (by rw [← eN]) ?_
  refine ow_callv (wr := []) (va_runV (As := [.int (nI 1), .int (nI (1 + (N - 1)))]) (rest := []) ⟨hx, hb, hml, hown, hts⟩ (c_X_takeOut l dC dI h a b cA cB N L f g 1 (N - 1) _ ok hf hg (by omega) (by omega)) (cwV 2 hts gX0_wipe_X0_takeOut rfl rfl rfl (by decide +kernel) ⟨Nat.le_of_ble_eq_true rfl, Nat.le_of_ble_eq_true rfl⟩) (ow_PreV hK hP hD (ci := 0) (q0 := 0) rfl rfl) rfl rfl hl.1 rfl (lv_room (Nat.le_of_ble_eq_true rfl)) dX0_wipe_6 ⟨Nat.le_of_ble_eq_true rfl, Nat.le_of_ble_eq_true rfl⟩) hP hD hS hA [0, 1, 2] [] rfl rfl (by decide) (by decide) (fun u H locs hw hP hD hS => ?_)
  obtain ⟨a1, f1, g1⟩ := u
  obtain ⟨e1, hf1, hg1⟩ := hw
  obtain rfl : nI (N - (N - 1)) = a1 := e1.symm
  have hP : va_P (dC, dI) vwCl [(h, .inr (0, [.ref a, .ref b, .int (nI (N - (N - 1)))])), (a, .inl (cA, 1000, .inl f1)), (b, .inl (cB, 1000, .inl g1))] H := hP
  have hD : va_D A [(h, .inr (0, [.ref a, .ref b, .int (nI (N - (N - 1)))])), (a, .inl (cA, 1000, .inl f1)), (b, .inl (cB, 1000, .inl g1))] := hD
  have e9 : N - (N - 1) = 1 := by omega
  rw [e9] at hf1 hg1
  have hf9 : ol_f 1 L f1 := fun p hp => (hf1 p hp).trans (by rw [ol_rem_lo hp])
  have hg9 : ol_g 1 L g1 := ⟨fun p hp => by have h9 := hg1.1 p hp; rwa [ol_rem_lo hp] at h9, fun v hv hn => hg1.2 v hv (fun p hp => by rw [ol_rem_lo hp]; exact hn p hp)⟩
  exact W.vret hx hb hr (fun t ht hW => ⟨⟨(nI (N - (N - 1)), f1, g1), rfl, ⟨by rw [e9], hf9, hg9⟩, by rw [ht]; exact hP, hD⟩, hS.F ht⟩) hS.2.2 dX0_wipe_9
set_option maxHeartbeats 4000000 in
set_option maxRecDepth 100000 in
/-- look(x) -/
theorem c_X_look (l : Launch) (dC : Nat → ClassId) (dI : Nat → Nat → Nat) (h a b : Nat) (cA cB : ClassId) (N : Nat) (L : Nat → Nat) (f g : Nat → Int32) (x : Int32) (ok : ol_ok N L) (hf : ol_f N L f) (hg : ol_g N L g) : Met l yX0_look wsX0_look ({ frames := 1, cells := 0, slots := 0, locals := 21 }) (ow_Rc (dC, dI) vwCl [(cA, .int), (cB, .int)] (wX h a b cA cB (nI N, f, g)) [.ref h, .int x]) (QcRead (ol_lk N L x)) 0 0 (fun _ => False) := by
  refine Met.ofW (cc := cX0_look) (maxL := 2) (ret := (some .int)) (by decide) rfl ?_
  intro pg ev s m args below meth cd s₁ B hml hv
  obtain ⟨rfl, hP, hK⟩ := hv
  have hx := B.exec
  have hb := B.bytes
  have hr := B.returns
  have hts := atoms_spec (ws := wsX0_look) B.pre
  have hown : s.vm.findClass RX0 = some m.cls := findClass_of_methodNamed B.named
  have hlocks := B.notSynchronized
  have hP : va_P (dC, dI) vwCl [(h, .inr (0, [.ref a, .ref b, .int (nI N)])), (a, .inl (cA, 1000, .inl f)), (b, .inl (cB, 1000, .inl g))] s.heap := hP
  have hl := lv_entry ([.ref h, .int x]) (n := 2) (Nat.le_of_ble_eq_true rfl)
  rw [lg_entry_eq]
  generalize (lg_sl ([.ref h, .int x]) ++ List.replicate (2 - (lg_sl ([.ref h, .int x])).length) Slot.unset).toArray = ls at hl ⊢
  have hl : lv_has ls 2 [(0, .ref h), (1, .int x)] := hl
  have h1N := ok.1
  have hN := ok.2.1
  refine lv_iload_n hx hb dX0_look_0 rfl (lv_at hl 1 rfl) ?_
  by_cases hx0 : x = 0
  · refine lv_tableIn (off := 27) (tgt := 28) hx hb dX0_look_1 (by rw [hx0]; decide) (by rw [hx0]; decide) (by rw [hx0]; rfl) (by decide) ?_
    have hr0 : ol_lk N L x = nI N := by unfold ol_lk; rw [if_pos hx0]
    refine lv_aload_n hx hb dX0_look_28 rfl (lv_at hl 0 rfl) ?_
    refine va_get (D := (dC, dI)) (ci := 0) (v := .int (nI N)) (C := RX0) (T := TX0) (N := 3) hx hb hts (by decide +kernel) hown hK hP 0 rfl rfl 2 (by decide) (hts (.fieldLink RX0 16 "OrderLine" "count" "I") (by decide +kernel)) (fun _ h9 => h9) rfl dX0_look_29 ?_
    exact W.iret (v := (nI N)) hx hb hr (fun t ht hW => ⟨by rw [hr0], ht⟩) (fun q h => by cases h) dX0_look_32
  · by_cases hx1 : x = 1
    · refine lv_tableIn (off := 32) (tgt := 33) hx hb dX0_look_1 (by rw [hx1]; decide) (by rw [hx1]; decide) (by rw [hx1]; rfl) (by decide) ?_
      have hr0 : ol_lk N L x = nI (L (N - 1)) := by unfold ol_lk; rw [if_neg hx0, if_pos hx1]
      refine lv_aload_n hx hb dX0_look_33 rfl (lv_at hl 0 rfl) ?_
      refine lv_aload_n hx hb dX0_look_34 rfl (lv_at hl 0 rfl) ?_
      refine va_get (D := (dC, dI)) (ci := 0) (v := .int (nI N)) (C := RX0) (T := TX0) (N := 3) hx hb hts (by decide +kernel) hown hK hP 0 rfl rfl 2 (by decide) (hts (.fieldLink RX0 16 "OrderLine" "count" "I") (by decide +kernel)) (fun _ h9 => h9) rfl dX0_look_35 ?_
      refine lv_iconst (v := 1) hx hb dX0_look_38 (by decide +kernel) ?_
      refine lv_isub hx hb dX0_look_39 ?_
      refine ow_top (z := nI (N - 1)) (nI_m1 h1N) ?_
      refine ow_callR (r := nI (L (N - 1))) (W.runV (As := [.int (nI (N - 1))]) (rest := []) ⟨hx, hb, hml, hown, hts⟩ (c_X_at l dC dI h a b cA cB N L f g (nI (N - 1)) (nI (L (N - 1))) ok hf (ol_ps_at hN (by omega))) (cwV 1 hts gX0_look_X0_at rfl rfl rfl (by decide +kernel) ⟨Nat.le_of_ble_eq_true rfl, Nat.le_of_ble_eq_true rfl⟩) (ow_PreR hK hP (ci := 0) (q0 := 0) rfl rfl) rfl rfl hl.1 rfl (lv_room (Nat.le_of_ble_eq_true rfl)) dX0_look_40 ⟨Nat.le_of_ble_eq_true rfl, Nat.le_of_ble_eq_true rfl⟩) ?_
      exact W.iret (v := (nI (L (N - 1)))) hx hb hr (fun t ht hW => ⟨by rw [hr0], ht⟩) (fun q h => by cases h) dX0_look_43
    · by_cases hx2 : x = 2
      · refine lv_tableIn (off := 43) (tgt := 44) hx hb dX0_look_1 (by rw [hx2]; decide) (by rw [hx2]; decide) (by rw [hx2]; rfl) (by decide) ?_
        have hr0 : ol_lk N L x = ol_fi N L := by unfold ol_lk; rw [if_neg hx0, if_neg hx1, if_pos hx2]
        refine lv_aload_n hx hb dX0_look_44 rfl (lv_at hl 0 rfl) ?_
        refine ow_callR (r := ol_fi N L) (W.runV (As := []) (rest := []) ⟨hx, hb, hml, hown, hts⟩ (c_X_leastFree l dC dI h a b cA cB N L f g ok hg) (cwV 0 hts gX0_look_X0_leastFree rfl rfl rfl (by decide +kernel) ⟨Nat.le_of_ble_eq_true rfl, Nat.le_of_ble_eq_true rfl⟩) (ow_PreR hK hP (ci := 0) (q0 := 0) rfl rfl) rfl rfl hl.1 rfl (lv_room (Nat.le_of_ble_eq_true rfl)) dX0_look_45 ⟨Nat.le_of_ble_eq_true rfl, Nat.le_of_ble_eq_true rfl⟩) ?_
        exact W.iret (v := (ol_fi N L)) hx hb hr (fun t ht hW => ⟨by rw [hr0], ht⟩) (fun q h => by cases h) dX0_look_48
      · refine lv_tableOut (tgt := 49) hx hb dX0_look_1 (ol_sw3 hx0 hx1 hx2) (by decide) ?_
        have hr0 : ol_lk N L x = -1 := by unfold ol_lk; rw [if_neg hx0, if_neg hx1, if_neg hx2]
        refine lv_iconst (v := (-1)) hx hb dX0_look_49 (by decide +kernel) ?_
        exact W.iret (v := ((-1))) hx hb hr (fun t ht hW => ⟨by rw [hr0], ht⟩) (fun q h => by cases h) dX0_look_50
set_option maxHeartbeats 4000000 in
set_option maxRecDepth 100000 in
/-- remove(x) -/
theorem c_X_remove (l : Launch) (dC : Nat → ClassId) (dI : Nat → Nat → Nat) (h a b : Nat) (cA cB : ClassId) (N : Nat) (L : Nat → Nat) (f g : Nat → Int32) (x r : Int32) (N' : Nat) (L' : Nat → Nat) (sz : Nat) (ok : ol_ok N L) (hf : ol_f N L f) (hg : ol_g N L g) (hsp : sp_rm N L x r N' L') : Met l yX0_remove wsX0_remove ({ frames := 2, cells := 0, slots := 0, locals := 46 }) (ow_Pc (dC, dI) vwCl [(cA, .int), (cB, .int)] (wX h a b cA cB (nI N, f, g)) sz [.ref h, .int x]) (va_Qi (fun (r' : Int32) (u : Int32 × (Nat → Int32) × (Nat → Int32)) => r' = r ∧ u.1 = nI N' ∧ ol_f N' L' u.2.1 ∧ ol_g N' L' u.2.2) (ow_B (dC, dI) vwCl (wX h a b cA cB) (va_A (wX h a b cA cB (nI N, f, g)) sz)) (va_A (wX h a b cA cB (nI N, f, g)) sz)) 0 0 (va_A (wX h a b cA cB (nI N, f, g)) sz) := by
  refine Met.ofW (cc := cX0_remove) (maxL := 3) (ret := (some .boolean)) (by decide) rfl ?_
  intro pg ev s m args below meth cd s₁ B hml hv
  obtain ⟨rfl, hsz, hP, hK, hD0⟩ := hv
  have hx := B.exec
  have hb := B.bytes
  have hr := B.returns
  have hts := atoms_spec (ws := wsX0_remove) B.pre
  have hown : s.vm.findClass RX0 = some m.cls := findClass_of_methodNamed B.named
  have hlocks := B.notSynchronized
  subst hsz
  have hD := hD0.self (sz := s.heap.size)
  generalize hAe : va_A (wX h a b cA cB (nI N, f, g)) s.heap.size = A at hD ⊢
  have hA : ∀ q : Nat, s.heap.size ≤ q → A q := fun q h => by rw [← hAe]; exact Or.inr h
  have hS : va_S A s.heap s.heap [] := va_S.rf
  have hD : va_D A [(h, .inr (0, [.ref a, .ref b, .int (nI N)])), (a, .inl (cA, 1000, .inl f)), (b, .inl (cB, 1000, .inl g))] := hD
  have hP : va_P (dC, dI) vwCl [(h, .inr (0, [.ref a, .ref b, .int (nI N)])), (a, .inl (cA, 1000, .inl f)), (b, .inl (cB, 1000, .inl g))] s.heap := hP
  have hl := lv_entry ([.ref h, .int x]) (n := 3) (Nat.le_of_ble_eq_true rfl)
  rw [lg_entry_eq]
  generalize (lg_sl ([.ref h, .int x]) ++ List.replicate (3 - (lg_sl ([.ref h, .int x])).length) Slot.unset).toArray = ls at hl ⊢
  have hl : lv_has ls 3 [(0, .ref h), (1, .int x)] := hl
  have hN := ok.2.1
  refine lv_iload_n hx hb dX0_remove_0 rfl (lv_at hl 1 rfl) ?_
  refine lv_if_eq (tgt := 12) hx hb dX0_remove_1 (by decide) (fun c_1 => ?_) (fun c_1 => ?_)
  · obtain ⟨hr0, hN0, hL0⟩ : r = 0 ∧ N' = N ∧ L' = L := by
      rcases hsp with ⟨q, hq, h1, _⟩ | ⟨_, h2⟩
      · have := ol_at_un ok hq (c_1 ▸ ol_at0 ok); omega
      · exact h2
    refine lv_iconst (v := 0) hx hb dX0_remove_12 (by decide +kernel) ?_
    exact W.zret (v := 0) hx hb hr narrow_b0 (fun t ht hW => ⟨⟨0, (nI N, f, g), rfl, ⟨hr0.symm, by rw [hN0], by rw [hN0, hL0]; exact hf, by rw [hN0, hL0]; exact hg⟩, by rw [ht]; exact hP, hD⟩, hS.F ht⟩) hS.2.2 dX0_remove_13
  · refine lv_aload_n hx hb dX0_remove_4 rfl (lv_at hl 0 rfl) ?_
    refine lv_iload_n hx hb dX0_remove_5 rfl (lv_at hl 1 rfl) ?_
    obtain ⟨r1, hh1, hc1⟩ := ol_hs_ex N L x
    refine ow_callR (r := r1) (W.runV (As := [.int x]) (rest := []) ⟨hx, hb, hml, hown, hts⟩ (c_X_has l dC dI h a b cA cB N L f g x r1 ok hg hh1) (cwV 1 hts gX0_remove_X0_has rfl rfl rfl (by decide +kernel) ⟨Nat.le_of_ble_eq_true rfl, Nat.le_of_ble_eq_true rfl⟩) (ow_PreR hK hP (ci := 0) (q0 := 0) rfl rfl) rfl rfl hl.1 rfl (lv_room (Nat.le_of_ble_eq_true rfl)) dX0_remove_6 ⟨Nat.le_of_ble_eq_true rfl, Nat.le_of_ble_eq_true rfl⟩) ?_
    refine lv_if_ne (tgt := 14) hx hb dX0_remove_9 (by decide) (fun c_9 => ?_) (fun c_9 => ?_)
    · obtain ⟨p, hp, hp1, hr0, hN0, hL0⟩ : ∃ p, ol_at N L x p ∧ 1 ≤ p ∧ r = 1 ∧ N' = N - 1 ∧ L' = ol_rem L p 1 := by
        rcases hsp with h1 | ⟨h1 | h1, _⟩
        · exact h1
        · exact absurd (hh1.2 h1) c_9
        · exact absurd (h1.2.trans (by rw [ok.2.2.1]; exact nI_0)) c_1
      have hpN := hp.1
      refine lv_aload_n hx hb dX0_remove_14 rfl (lv_at hl 0 rfl) ?_
      refine va_get (D := (dC, dI)) (ci := 0) (v := .ref b) (C := RX0) (T := TX0) (N := 3) hx hb hts (by decide +kernel) hown hK hP 0 rfl rfl 1 (by decide) (hts (.fieldLink RX0 13 "OrderLine" "places" "[I") (by decide +kernel)) (fun _ h9 => h9) rfl dX0_remove_15 ?_
      refine lv_iload_n hx hb dX0_remove_18 rfl (lv_at hl 1 rfl) ?_
      refine ow_top (z := nI (L p)) hp.2 ?_
      refine ow_iald (k := L p) (v := nI p) hx hb hK hP 2 1 rfl rfl (ok.2.2.2.1 p hp.1) (by decide) (hg.1 p hp.1) dX0_remove_19 ?_
      refine lv_istore_n (lv' := [(2, .int (nI p)), (0, .ref h), (1, .int x)]) hx hb dX0_remove_20 rfl hl (by decide) rfl (fun ls hl => ?_)
      refine lv_aload_n hx hb dX0_remove_21 rfl (lv_at hl 1 rfl) ?_
      refine lv_iload_n hx hb dX0_remove_22 rfl (lv_at hl 0 rfl) ?_
      refine lv_iload_n hx hb dX0_remove_23 rfl (lv_at hl 0 rfl) ?_
      refine lv_iconst (v := 1) hx hb dX0_remove_24 (by decide +kernel) ?_
      refine lv_iadd hx hb dX0_remove_25 ?_
      refine ow_top (z := nI (p + 1)) (nI_1 p) ?_
      refine ow_callv (wr := []) (va_runV (As := [.int (nI p), .int (nI (p + 1))]) (rest := []) ⟨hx, hb, hml, hown, hts⟩ (c_X_takeOut l dC dI h a b cA cB N L f g p 1 _ ok hf hg hp1 (by omega)) (cwV 2 hts gX0_remove_X0_takeOut rfl rfl rfl (by decide +kernel) ⟨Nat.le_of_ble_eq_true rfl, Nat.le_of_ble_eq_true rfl⟩) (ow_PreV hK hP hD (ci := 0) (q0 := 0) rfl rfl) rfl rfl hl.1 rfl (lv_room (Nat.le_of_ble_eq_true rfl)) dX0_remove_26 ⟨Nat.le_of_ble_eq_true rfl, Nat.le_of_ble_eq_true rfl⟩) hP hD hS hA [0, 1, 2] [] rfl rfl (by decide) (by decide) (fun u H locs hw hP hD hS => ?_)
      obtain ⟨a1, f1, g1⟩ := u
      obtain ⟨e1, hf1, hg1⟩ := hw
      obtain rfl : nI (N - 1) = a1 := e1.symm
      have hP : va_P (dC, dI) vwCl [(h, .inr (0, [.ref a, .ref b, .int (nI (N - 1))])), (a, .inl (cA, 1000, .inl f1)), (b, .inl (cB, 1000, .inl g1))] H := hP
      have hD : va_D A [(h, .inr (0, [.ref a, .ref b, .int (nI (N - 1))])), (a, .inl (cA, 1000, .inl f1)), (b, .inl (cB, 1000, .inl g1))] := hD
      refine lv_iconst (v := 1) hx hb dX0_remove_29 (by decide +kernel) ?_
      exact W.zret (v := 1) hx hb hr narrow_b1 (fun t ht hW => ⟨⟨1, (nI (N - 1), f1, g1), rfl, ⟨hr0.symm, by rw [hN0], by rw [hN0, hL0]; exact hf1, by rw [hN0, hL0]; exact hg1⟩, by rw [ht]; exact hP, hD⟩, hS.F ht⟩) hS.2.2 dX0_remove_30
    · obtain ⟨hr0, hN0, hL0⟩ : r = 0 ∧ N' = N ∧ L' = L := by
        rcases hsp with ⟨q, hq, h1, _⟩ | ⟨_, h2⟩
        · exact absurd ((hh1.1 ⟨q, hq⟩).symm.trans c_9) (by decide)
        · exact h2
      refine lv_iconst (v := 0) hx hb dX0_remove_12 (by decide +kernel) ?_
      exact W.zret (v := 0) hx hb hr narrow_b0 (fun t ht hW => ⟨⟨0, (nI N, f, g), rfl, ⟨hr0.symm, by rw [hN0], by rw [hN0, hL0]; exact hf, by rw [hN0, hL0]; exact hg⟩, by rw [ht]; exact hP, hD⟩, hS.F ht⟩) hS.2.2 dX0_remove_13
