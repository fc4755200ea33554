set_option maxHeartbeats 4000000 in
set_option maxRecDepth 100000 in
/-- thrown(): what the field holds -/
theorem c_M_thrown (l : Launch) (dC : Nat → ClassId) (dI : Nat → Nat → Nat) (h a b : Nat) (cA cB : ClassId) (th n : Int32) (f as : Nat → Int32) : Met l yX1_thrown wsX1_thrown ({ frames := 0, cells := 0, slots := 0, locals := 0 }) (ow_Rc (dC, dI) vwCl [(cA, .int), (cB, .int)] (wM h a b cA cB (th, n, f, as)) [.ref h]) (QcRead th) 0 0 (fun _ => False) := by
  refine Met.ofW (cc := cX1_thrown) (maxL := 1) (ret := (some .int)) (by decide) rfl ?_
  intro pg ev s m args below meth cd s₁ B hml hv
  obtain ⟨rfl, hP, hK⟩ := hv
  have hx := B.exec
  have hb := B.bytes
  have hr := B.returns
  have hts := atoms_spec (ws := wsX1_thrown) B.pre
  have hown : s.vm.findClass RX1 = some m.cls := findClass_of_methodNamed B.named
  have hlocks := B.notSynchronized
  have hP : va_P (dC, dI) vwCl [(h, .inr (1, [.int th, .ref a, .int n, .ref b])), (a, .inl (cA, 1000, .inl f)), (b, .inl (cB, 1000, .inl as))] s.heap := hP
  have hl := lv_entry ([.ref h]) (n := 1) (Nat.le_of_ble_eq_true rfl)
  rw [lg_entry_eq]
  generalize (lg_sl ([.ref h]) ++ List.replicate (1 - (lg_sl ([.ref h])).length) Slot.unset).toArray = ls at hl ⊢
  have hl : lv_has ls 1 [(0, .ref h)] := hl
  refine lv_aload_n hx hb dX1_thrown_0 rfl (lv_at hl 0 rfl) ?_
  refine va_get (D := (dC, dI)) (ci := 1) (v := .int th) (C := RX1) (T := TX1) (N := 4) hx hb hts (by decide +kernel) hown hK hP 0 rfl rfl 0 (by decide) (hts (.fieldLink RX1 20 "OrderLineModel" "thrown" "I") (by decide +kernel)) (fun _ h9 => h9) rfl dX1_thrown_1 ?_
  exact W.iret (v := th) hx hb hr (fun t ht hW => ⟨by rw [show th = th from rfl], ht⟩) (fun q h => by cases h) dX1_thrown_4
set_option maxHeartbeats 4000000 in
set_option maxRecDepth 100000 in
/-- find(x): its place, or -1 -/
theorem c_M_find (l : Launch) (dC : Nat → ClassId) (dI : Nat → Nat → Nat) (h a b : Nat) (cA cB : ClassId) (th : Int32) (N : Nat) (L : Nat → Nat) (f as : Nat → Int32) (x r : Int32) (hN : N ≤ 1000) (hf : ol_f N L f) (hfd : ol_fd N L x r) : Met l yX1_find wsX1_find ({ frames := 0, cells := 0, slots := 0, locals := 0 }) (ow_Rc (dC, dI) vwCl [(cA, .int), (cB, .int)] (wM h a b cA cB (th, nI N, f, as)) [.ref h, .int x]) (QcRead r) 0 0 (fun _ => False) := by
  refine Met.ofW (cc := cX1_find) (maxL := 3) (ret := (some .int)) (by decide) rfl ?_
  intro pg ev s m args below meth cd s₁ B hml hv
  obtain ⟨rfl, hP, hK⟩ := hv
  have hx := B.exec
  have hb := B.bytes
  have hr := B.returns
  have hts := atoms_spec (ws := wsX1_find) B.pre
  have hown : s.vm.findClass RX1 = some m.cls := findClass_of_methodNamed B.named
  have hlocks := B.notSynchronized
  have hP : va_P (dC, dI) vwCl [(h, .inr (1, [.int th, .ref a, .int (nI N), .ref b])), (a, .inl (cA, 1000, .inl f)), (b, .inl (cB, 1000, .inl as))] s.heap := hP
  have hl := lv_entry ([.ref h, .int x]) (n := 3) (Nat.le_of_ble_eq_true rfl)
  rw [lg_entry_eq]
  generalize (lg_sl ([.ref h, .int x]) ++ List.replicate (3 - (lg_sl ([.ref h, .int x])).length) Slot.unset).toArray = ls at hl ⊢
  have hl : lv_has ls 3 [(0, .ref h), (1, .int x)] := hl
  refine lv_iconst (v := nI 0) hx hb dX1_find_0 (by decide +kernel) ?_
  refine lv_istore_n (lv' := [(2, .int (nI 0)), (0, .ref h), (1, .int x)]) hx hb dX1_find_1 rfl hl (by decide) rfl (fun ls hl => ?_)
  have loop : ∀ (k : Nat) (i : Nat), N < i + k → i ≤ N → (∀ q, q < i → x ≠ nI (L q)) → ∀ ls : Array Slot, lv_has ls 3 [(0, .ref h), (1, .int x), (2, .int (nI i))] → W pg l ev (headSpec wsX1_find ({ frames := 0, cells := 0, slots := 0, locals := 0 })).room s m ([.ref h, .int x] : List Value).toArray below meth cd s.heap [] 0 0 (MQ below (QcRead r) ([.ref h, .int x] : List Value).toArray s 0 0 (fun _ => False)) (F0 m 2 ls []) := by
    intro k
    induction k with
    | zero =>
      intro i h1 h2 h3
      exact absurd h1 (by omega)
    | succ k ih =>
      intro i hk hi hno ls hl
      refine lv_iload_n hx hb dX1_find_2 rfl (lv_at hl 2 rfl) ?_
      refine lv_aload_n hx hb dX1_find_3 rfl (lv_at hl 0 rfl) ?_
      refine va_get (D := (dC, dI)) (ci := 1) (v := .int (nI N)) (C := RX1) (T := TX1) (N := 4) hx hb hts (by decide +kernel) hown hK hP 0 rfl rfl 2 (by decide) (hts (.fieldLink RX1 13 "OrderLineModel" "many" "I") (by decide +kernel)) (fun _ h9 => h9) rfl dX1_find_4 ?_
      refine lv_icmp_ge (tgt := 28) hx hb dX1_find_7 (by decide) (fun c_7 => ?_) (fun c_7 => ?_)
      · have hc := ol_le (by omega) (by omega) c_7
        refine lv_iconst (v := (-1)) hx hb dX1_find_28 (by decide +kernel) ?_
        exact W.iret (v := ((-1))) hx hb hr (fun t ht hW => ⟨by rw [hfd.2 (fun q hq => hno q (by omega))], ht⟩) (fun q h => by cases h) dX1_find_29
      · have hc := ol_nle (by omega) (by omega) c_7
        refine lv_aload_n hx hb dX1_find_10 rfl (lv_at hl 0 rfl) ?_
        refine va_get (D := (dC, dI)) (ci := 1) (v := .ref a) (C := RX1) (T := TX1) (N := 4) hx hb hts (by decide +kernel) hown hK hP 0 rfl rfl 1 (by decide) (hts (.fieldLink RX1 7 "OrderLineModel" "line" "[I") (by decide +kernel)) (fun _ h9 => h9) rfl dX1_find_11 ?_
        refine lv_iload_n hx hb dX1_find_14 rfl (lv_at hl 2 rfl) ?_
        refine ow_iald (k := i) (v := nI (L i)) hx hb hK hP 1 0 rfl rfl (by omega) (by decide) (hf i hc) dX1_find_15 ?_
        refine lv_iload_n hx hb dX1_find_16 rfl (lv_at hl 1 rfl) ?_
        refine lv_icmp_ne (tgt := 22) hx hb dX1_find_17 (by decide) (fun c_17 => ?_) (fun c_17 => ?_)
        · have hne : x ≠ nI (L i) := fun e => c_17 e.symm
          refine lv_iinc (v := nI (i + 1)) (lv' := [(2, .int (nI (i + 1))), (0, .ref h), (1, .int x)]) hx hb dX1_find_22 hl (k := 2) rfl (nI_1 i) (by decide) rfl (fun ls hl => ?_)
          refine lv_goto (tgt := 2) hx hb dX1_find_25 (by decide) ?_
          exact ih (i + 1) (by omega) (by omega) (fun q hq => (Nat.lt_or_ge q i).elim (fun h9 => hno q h9) (fun h9 => by rw [show q = i by omega]; exact hne)) ls (lv_sub hl [1, 2, 0] rfl)
        · refine lv_iload_n hx hb dX1_find_20 rfl (lv_at hl 2 rfl) ?_
          exact W.iret (v := (nI i)) hx hb hr (fun t ht hW => ⟨by rw [hfd.1 i ⟨hc, c_17.symm⟩], ht⟩) (fun q h => by cases h) dX1_find_21
  exact loop (N + 1) 0 (by omega) (by omega) (fun q hq => absurd hq (Nat.not_lt_zero q)) ls (lv_sub hl [1, 2, 0] rfl)
set_option maxHeartbeats 4000000 in
set_option maxRecDepth 100000 in
/-- free(): the least number that none has, or -1 -/
theorem c_M_free (l : Launch) (dC : Nat → ClassId) (dI : Nat → Nat → Nat) (h a b : Nat) (cA cB : ClassId) (th : Int32) (N : Nat) (L : Nat → Nat) (f as : Nat → Int32) (ok : ol_ok N L) (hf : ol_f N L f) : Met l yX1_free wsX1_free ({ frames := 1, cells := 0, slots := 0, locals := 22 }) (ow_Rc (dC, dI) vwCl [(cA, .int), (cB, .int)] (wM h a b cA cB (th, nI N, f, as)) [.ref h]) (QcRead (ol_fi N L)) 0 0 (fun _ => False) := by
  refine Met.ofW (cc := cX1_free) (maxL := 2) (ret := (some .int)) (by decide) rfl ?_
  intro pg ev s m args below meth cd s₁ B hml hv
  obtain ⟨rfl, hP, hK⟩ := hv
  have hx := B.exec
  have hb := B.bytes
  have hr := B.returns
  have hts := atoms_spec (ws := wsX1_free) B.pre
  have hown : s.vm.findClass RX1 = some m.cls := findClass_of_methodNamed B.named
  have hlocks := B.notSynchronized
  have hP : va_P (dC, dI) vwCl [(h, .inr (1, [.int th, .ref a, .int (nI N), .ref b])), (a, .inl (cA, 1000, .inl f)), (b, .inl (cB, 1000, .inl as))] s.heap := hP
  have hl := lv_entry ([.ref h]) (n := 2) (Nat.le_of_ble_eq_true rfl)
  rw [lg_entry_eq]
  generalize (lg_sl ([.ref h]) ++ List.replicate (2 - (lg_sl ([.ref h])).length) Slot.unset).toArray = ls at hl ⊢
  have hl : lv_has ls 2 [(0, .ref h)] := hl
  refine lv_iconst (v := nI 0) hx hb dX1_free_0 (by decide +kernel) ?_
  refine lv_istore_n (lv' := [(1, .int (nI 0)), (0, .ref h)]) hx hb dX1_free_1 rfl hl (by decide) rfl (fun ls hl => ?_)
  have loop : ∀ (k : Nat) (v : Nat), 1000 < v + k → v ≤ 1000 → (∀ u, u < v → ∃ p, p < N ∧ L p = u) → ∀ ls : Array Slot, lv_has ls 2 [(0, .ref h), (1, .int (nI v))] → W pg l ev (headSpec wsX1_free ({ frames := 1, cells := 0, slots := 0, locals := 22 })).room s m ([.ref h] : List Value).toArray below meth cd s.heap [] 0 0 (MQ below (QcRead (ol_fi N L)) ([.ref h] : List Value).toArray s 0 0 (fun _ => False)) (F0 m 2 ls []) := by
    intro k
    induction k with
    | zero =>
      intro v h1 h2 h3
      exact absurd h1 (by omega)
    | succ k ih =>
      intro v hk hv hus ls hl
      refine lv_iload_n hx hb dX1_free_2 rfl (lv_at hl 1 rfl) ?_
      refine lv_sipush (v := nI 1000) hx hb dX1_free_3 (by decide +kernel) ?_
      refine lv_icmp_ge (tgt := 23) hx hb dX1_free_6 (by decide) (fun c_6 => ?_) (fun c_6 => ?_)
      · have hd : (v < 1000 ∧ ol_no N L (nI v)) ∨ v = 1000 := Or.inr (by have := ol_le (by omega) (by omega) c_6; omega)
        refine lv_iload_n hx hb dX1_free_23 rfl (lv_at hl 1 rfl) ?_
        refine lv_sipush (v := nI 1000) hx hb dX1_free_24 (by decide +kernel) ?_
        refine lv_icmp_ge (tgt := 34) hx hb dX1_free_27 (by decide) (fun c_27 => ?_) (fun c_27 => ?_)
        · have hv2 := ol_le (by omega) (by omega) c_27
          have hfi : ol_fi N L = -1 := ol_fi_ge (by rw [ol_fr_of (k := 1000) ⟨by omega, fun u hu => hus u (by omega), fun h9 => absurd h9 (by omega)⟩]; omega)
          refine lv_iconst (v := (-1)) hx hb dX1_free_34 (by decide +kernel) ?_
          exact W.iret (v := ((-1))) hx hb hr (fun t ht hW => ⟨by rw [hfi], ht⟩) (fun q h => by cases h) dX1_free_35
        · have hv2 := ol_nle (by omega) (by omega) c_27
          have hfr : ol_fr N L = v := by
            rcases hd with ⟨_, hno⟩ | h9
            · exact ol_fr_of ⟨by omega, hus, fun _ p hp e => hno p hp (by rw [e])⟩
            · omega
          have hfi : ol_fi N L = nI v := by rw [ol_fi_lt (by omega), hfr]
          refine lv_iload_n hx hb dX1_free_30 rfl (lv_at hl 1 rfl) ?_
          refine lv_goto (tgt := 35) hx hb dX1_free_31 (by decide) ?_
          exact W.iret (v := (nI v)) hx hb hr (fun t ht hW => ⟨by rw [hfi], ht⟩) (fun q h => by cases h) dX1_free_35
      · have hlt := ol_nle (by omega) (by omega) c_6
        refine lv_aload_n hx hb dX1_free_9 rfl (lv_at hl 0 rfl) ?_
        refine lv_iload_n hx hb dX1_free_10 rfl (lv_at hl 1 rfl) ?_
        obtain ⟨r1, hfd1, hc1⟩ := ol_fd_ex ok (nI v)
        refine ow_callR (r := r1) (W.runV (As := [.int (nI v)]) (rest := []) ⟨hx, hb, hml, hown, hts⟩ (c_M_find l dC dI h a b cA cB th N L f as (nI v) r1 ok.2.1 hf hfd1) (cwV 1 hts gX1_free_X1_find rfl rfl rfl (by decide +kernel) ⟨Nat.le_of_ble_eq_true rfl, Nat.le_of_ble_eq_true rfl⟩) (ow_PreR hK hP (ci := 1) (q0 := 0) rfl rfl) rfl rfl hl.1 rfl (lv_room (Nat.le_of_ble_eq_true rfl)) dX1_free_11 ⟨Nat.le_of_ble_eq_true rfl, Nat.le_of_ble_eq_true rfl⟩) ?_
        refine lv_if_lt (tgt := 23) hx hb dX1_free_14 (by decide) (fun c_14 => ?_) (fun c_14 => ?_)
        · have hno : ol_no N L (nI v) := by
            rcases hc1 with ⟨p1, hp1, e1⟩ | ⟨h1, e1⟩
            · exact absurd (e1 ▸ c_14) (nI_pos (by have := hp1.1; have := ok.2.1; omega))
            · exact h1
          have hd : (v < 1000 ∧ ol_no N L (nI v)) ∨ v = 1000 := Or.inl ⟨hlt, hno⟩
          refine lv_iload_n hx hb dX1_free_23 rfl (lv_at hl 1 rfl) ?_
          refine lv_sipush (v := nI 1000) hx hb dX1_free_24 (by decide +kernel) ?_
          refine lv_icmp_ge (tgt := 34) hx hb dX1_free_27 (by decide) (fun c_27 => ?_) (fun c_27 => ?_)
          · have hv2 := ol_le (by omega) (by omega) c_27
            have hfi : ol_fi N L = -1 := ol_fi_ge (by rw [ol_fr_of (k := 1000) ⟨by omega, fun u hu => hus u (by omega), fun h9 => absurd h9 (by omega)⟩]; omega)
            refine lv_iconst (v := (-1)) hx hb dX1_free_34 (by decide +kernel) ?_
            exact W.iret (v := ((-1))) hx hb hr (fun t ht hW => ⟨by rw [hfi], ht⟩) (fun q h => by cases h) dX1_free_35
          · have hv2 := ol_nle (by omega) (by omega) c_27
            have hfr : ol_fr N L = v := by
              rcases hd with ⟨_, hno⟩ | h9
              · exact ol_fr_of ⟨by omega, hus, fun _ p hp e => hno p hp (by rw [e])⟩
              · omega
            have hfi : ol_fi N L = nI v := by rw [ol_fi_lt (by omega), hfr]
            refine lv_iload_n hx hb dX1_free_30 rfl (lv_at hl 1 rfl) ?_
            refine lv_goto (tgt := 35) hx hb dX1_free_31 (by decide) ?_
            exact W.iret (v := (nI v)) hx hb hr (fun t ht hW => ⟨by rw [hfi], ht⟩) (fun q h => by cases h) dX1_free_35
        · have hus1 : ∃ p, p < N ∧ L p = v := by
            rcases hc1 with ⟨p1, hp1, e1⟩ | ⟨h1, e1⟩
            · exact ⟨p1, hp1.1, (ol_eq (by omega) (by have := ok.2.2.2.1 p1 hp1.1; omega) hp1.2).symm⟩
            · exact absurd (by rw [e1]; decide) c_14
          refine lv_iinc (v := nI (v + 1)) (lv' := [(1, .int (nI (v + 1))), (0, .ref h)]) hx hb dX1_free_17 hl (k := 1) rfl (nI_1 v) (by decide) rfl (fun ls hl => ?_)
          refine lv_goto (tgt := 2) hx hb dX1_free_20 (by decide) ?_
          exact ih (v + 1) (by omega) (by omega) (fun u hu => (Nat.lt_or_ge u v).elim (fun h9 => hus u h9) (fun h9 => by rw [show u = v by omega]; exact hus1)) ls (lv_sub hl [1, 0] rfl)
  exact loop 1001 0 (by omega) (by omega) (fun u hu => absurd hu (Nat.not_lt_zero u)) ls (lv_sub hl [1, 0] rfl)
set_option maxHeartbeats 4000000 in
set_option maxRecDepth 100000 in
/-- put(v, q): one more, v at place q -/
theorem c_M_put (l : Launch) (dC : Nat → ClassId) (dI : Nat → Nat → Nat) (h a b : Nat) (cA cB : ClassId) (th : Int32) (N : Nat) (L : Nat → Nat) (f as : Nat → Int32) (v q sz : Nat) (hf : ol_f N L f) (hN : N < 1000) (hq : q ≤ N) : Met l yX1_put wsX1_put ({ frames := 0, cells := 0, slots := 0, locals := 0 }) (ow_Pc (dC, dI) vwCl [(cA, .int), (cB, .int)] (wM h a b cA cB (th, nI N, f, as)) sz [.ref h, .int (nI v), .int (nI q)]) (va_Qv (fun u : Int32 × Int32 × (Nat → Int32) × (Nat → Int32) => u.1 = th ∧ u.2.1 = nI (N + 1) ∧ ol_f (N + 1) (ol_ins L q v) u.2.2.1 ∧ u.2.2.2 = as) (ow_B (dC, dI) vwCl (wM h a b cA cB) (va_A (wM h a b cA cB (th, nI N, f, as)) sz)) (va_A (wM h a b cA cB (th, nI N, f, as)) sz)) 0 0 (va_A (wM h a b cA cB (th, nI N, f, as)) sz) := by
  refine Met.ofW (cc := cX1_put) (maxL := 4) (ret := none) (by decide) rfl ?_
  intro pg ev s m args below meth cd s₁ B hml hv
  obtain ⟨rfl, hsz, hP, hK, hD0⟩ := hv
  have hx := B.exec
  have hb := B.bytes
  have hr := B.returns
  have hts := atoms_spec (ws := wsX1_put) B.pre
  have hown : s.vm.findClass RX1 = some m.cls := findClass_of_methodNamed B.named
  have hlocks := B.notSynchronized
  subst hsz
  have hD := hD0.self (sz := s.heap.size)
  generalize hAe : va_A (wM h a b cA cB (th, nI N, f, as)) s.heap.size = A at hD ⊢
  have hA : ∀ q : Nat, s.heap.size ≤ q → A q := fun q h => by rw [← hAe]; exact Or.inr h
  have hS : va_S A s.heap s.heap [] := va_S.rf
  have hD : va_D A [(h, .inr (1, [.int th, .ref a, .int (nI N), .ref b])), (a, .inl (cA, 1000, .inl f)), (b, .inl (cB, 1000, .inl as))] := hD
  have hP : va_P (dC, dI) vwCl [(h, .inr (1, [.int th, .ref a, .int (nI N), .ref b])), (a, .inl (cA, 1000, .inl f)), (b, .inl (cB, 1000, .inl as))] s.heap := hP
  have hl := lv_entry ([.ref h, .int (nI v), .int (nI q)]) (n := 4) (Nat.le_of_ble_eq_true rfl)
  rw [lg_entry_eq]
  generalize (lg_sl ([.ref h, .int (nI v), .int (nI q)]) ++ List.replicate (4 - (lg_sl ([.ref h, .int (nI v), .int (nI q)])).length) Slot.unset).toArray = ls at hl ⊢
  have hl : lv_has ls 4 [(0, .ref h), (1, .int (nI v)), (2, .int (nI q))] := hl
  refine lv_aload_n hx hb dX1_put_0 rfl (lv_at hl 0 rfl) ?_
  refine va_get (D := (dC, dI)) (ci := 1) (v := .int (nI N)) (C := RX1) (T := TX1) (N := 4) hx hb hts (by decide +kernel) hown hK hP 0 rfl rfl 2 (by decide) (hts (.fieldLink RX1 13 "OrderLineModel" "many" "I") (by decide +kernel)) (fun _ h9 => h9) rfl dX1_put_1 ?_
  refine lv_istore_n (lv' := [(3, .int (nI N)), (0, .ref h), (1, .int (nI v)), (2, .int (nI q))]) hx hb dX1_put_4 rfl hl (by decide) rfl (fun ls hl => ?_)
  have loop : ∀ (k : Nat) (i : Nat) (f1 : Nat → Int32), i < q + k → q ≤ i → i ≤ N → (∀ p, i < p → p ≤ N → f1 p = f (p - 1)) → (∀ p, p ≤ i → p < N → f1 p = f p) → ∀ (H : Heap) (locs : List Loc), va_P (dC, dI) vwCl [(h, .inr (1, [.int th, .ref a, .int (nI N), .ref b])), (a, .inl (cA, 1000, .inl f1)), (b, .inl (cB, 1000, .inl as))] H → va_D A [(h, .inr (1, [.int th, .ref a, .int (nI N), .ref b])), (a, .inl (cA, 1000, .inl f1)), (b, .inl (cB, 1000, .inl as))] → va_S A s.heap H locs → ∀ ls : Array Slot, lv_has ls 4 [(0, .ref h), (1, .int (nI v)), (2, .int (nI q)), (3, .int (nI i))] → W pg l ev (headSpec wsX1_put ({ frames := 0, cells := 0, slots := 0, locals := 0 })).room s m ([.ref h, .int (nI v), .int (nI q)] : List Value).toArray below meth cd H locs 0 0 (MQ below (va_Qv (fun u : Int32 × Int32 × (Nat → Int32) × (Nat → Int32) => u.1 = th ∧ u.2.1 = nI (N + 1) ∧ ol_f (N + 1) (ol_ins L q v) u.2.2.1 ∧ u.2.2.2 = as) (ow_B (dC, dI) vwCl (wM h a b cA cB) A) A) ([.ref h, .int (nI v), .int (nI q)] : List Value).toArray s 0 0 A) (F0 m 5 ls []) := by
    intro k
    induction k with
    | zero =>
      intro i f1 h1 h2 h3
      exact absurd h1 (by omega)
    | succ k ih =>
      intro i f1 hk hi hiN h1 h2 H locs hP hD hS ls hl
      refine lv_iload_n hx hb dX1_put_5 rfl (lv_at hl 3 rfl) ?_
      refine lv_iload_n hx hb dX1_put_6 rfl (lv_at hl 2 rfl) ?_
      refine lv_icmp_le (tgt := 30) hx hb dX1_put_7 (by decide) (fun c_7 => ?_) (fun c_7 => ?_)
      · have hc := ol_le (by omega) (by omega) c_7
        refine lv_aload_n hx hb dX1_put_30 rfl (lv_at hl 0 rfl) ?_
        refine va_get (D := (dC, dI)) (ci := 1) (v := .ref a) (C := RX1) (T := TX1) (N := 4) hx hb hts (by decide +kernel) hown hK hP 0 rfl rfl 1 (by decide) (hts (.fieldLink RX1 7 "OrderLineModel" "line" "[I") (by decide +kernel)) (fun _ h9 => h9) rfl dX1_put_31 ?_
        refine lv_iload_n hx hb dX1_put_34 rfl (lv_at hl 2 rfl) ?_
        refine lv_iload_n hx hb dX1_put_35 rfl (lv_at hl 1 rfl) ?_
        refine ow_iast (k := q) hx hb hK hP hD hS 1 0 rfl rfl (by omega) (by decide) dX1_put_36 (fun H locs hP hD hS => ?_)
        have hP : va_P (dC, dI) vwCl [(h, .inr (1, [.int th, .ref a, .int (nI N), .ref b])), (a, .inl (cA, 1000, .inl (upd f1 q ((nI v))))), (b, .inl (cB, 1000, .inl as))] H := hP
        have hD : va_D A [(h, .inr (1, [.int th, .ref a, .int (nI N), .ref b])), (a, .inl (cA, 1000, .inl (upd f1 q ((nI v))))), (b, .inl (cB, 1000, .inl as))] := hD
        refine lv_aload_n hx hb dX1_put_37 rfl (lv_at hl 0 rfl) ?_
        refine lv_dup hx hb dX1_put_38 rfl ?_
        refine va_get (D := (dC, dI)) (ci := 1) (v := .int (nI N)) (C := RX1) (T := TX1) (N := 4) hx hb hts (by decide +kernel) hown hK hP 0 rfl rfl 2 (by decide) (hts (.fieldLink RX1 13 "OrderLineModel" "many" "I") (by decide +kernel)) (fun _ h9 => h9) rfl dX1_put_39 ?_
        refine lv_iconst (v := 1) hx hb dX1_put_42 (by decide +kernel) ?_
        refine lv_iadd hx hb dX1_put_43 ?_
        refine ow_top (z := nI (N + 1)) (nI_1 N) ?_
        refine va_put (D := (dC, dI)) (ci := 1) (v := .int (nI (N + 1))) (ty := (.int)) (C := RX1) (T := TX1) (N := 4) hx hb hts (by decide +kernel) tyX1 tyX1_ok nmX1 hown hK hP hD hS 0 rfl rfl 2 (by decide) (hts (.fieldLink RX1 13 "OrderLineModel" "many" "I") (by decide +kernel)) (fun _ h9 => h9) rfl (by decide +kernel) rfl rfl (Nat.le_of_ble_eq_true rfl) dX1_put_44 (fun H locs hP hD hS => ?_)
        have hP : va_P (dC, dI) vwCl [(h, .inr (1, [.int th, .ref a, .int (nI (N + 1)), .ref b])), (a, .inl (cA, 1000, .inl (upd f1 q ((nI v))))), (b, .inl (cB, 1000, .inl as))] H := hP
        have hD : va_D A [(h, .inr (1, [.int th, .ref a, .int (nI (N + 1)), .ref b])), (a, .inl (cA, 1000, .inl (upd f1 q ((nI v))))), (b, .inl (cB, 1000, .inl as))] := hD
        have hpost : ol_f (N + 1) (ol_ins L q v) (upd f1 q (nI v)) := by
          intro p hp
          rcases Nat.lt_trichotomy p q with h9 | h9 | h9
          · rw [ol_ins_lo h9]; exact (pk_un (by omega)).trans ((h2 p (by omega) (by omega)).trans (hf p (by omega)))
          · subst h9; rw [ol_ins_at]; exact pk_us
          · rw [ol_ins_hi h9]; exact (pk_un (by omega)).trans ((h1 p (by omega) (by omega)).trans (hf (p - 1) (by omega)))
        exact W.vret hx hb hr (fun t ht hW => ⟨⟨(th, nI (N + 1), upd f1 q (nI v), as), rfl, ⟨rfl, rfl, hpost, rfl⟩, by rw [ht]; exact hP, hD⟩, hS.F ht⟩) hS.2.2 dX1_put_47
      · have hc := ol_nle (by omega) (by omega) c_7
        refine lv_aload_n hx hb dX1_put_10 rfl (lv_at hl 0 rfl) ?_
        refine va_get (D := (dC, dI)) (ci := 1) (v := .ref a) (C := RX1) (T := TX1) (N := 4) hx hb hts (by decide +kernel) hown hK hP 0 rfl rfl 1 (by decide) (hts (.fieldLink RX1 7 "OrderLineModel" "line" "[I") (by decide +kernel)) (fun _ h9 => h9) rfl dX1_put_11 ?_
        refine lv_iload_n hx hb dX1_put_14 rfl (lv_at hl 3 rfl) ?_
        refine lv_aload_n hx hb dX1_put_15 rfl (lv_at hl 0 rfl) ?_
        refine va_get (D := (dC, dI)) (ci := 1) (v := .ref a) (C := RX1) (T := TX1) (N := 4) hx hb hts (by decide +kernel) hown hK hP 0 rfl rfl 1 (by decide) (hts (.fieldLink RX1 7 "OrderLineModel" "line" "[I") (by decide +kernel)) (fun _ h9 => h9) rfl dX1_put_16 ?_
        refine lv_iload_n hx hb dX1_put_19 rfl (lv_at hl 3 rfl) ?_
        refine lv_iconst (v := 1) hx hb dX1_put_20 (by decide +kernel) ?_
        refine lv_isub hx hb dX1_put_21 ?_
        refine ow_top (z := nI (i - 1)) (nI_m1 (by omega)) ?_
        refine ow_iald (k := i - 1) (v := f (i - 1)) hx hb hK hP 1 0 rfl rfl (by omega) (by decide) (h2 (i - 1) (by omega) (by omega)) dX1_put_22 ?_
        refine ow_iast (k := i) hx hb hK hP hD hS 1 0 rfl rfl (by omega) (by decide) dX1_put_23 (fun H locs hP hD hS => ?_)
        have hP : va_P (dC, dI) vwCl [(h, .inr (1, [.int th, .ref a, .int (nI N), .ref b])), (a, .inl (cA, 1000, .inl (upd f1 i ((f (i - 1)))))), (b, .inl (cB, 1000, .inl as))] H := hP
        have hD : va_D A [(h, .inr (1, [.int th, .ref a, .int (nI N), .ref b])), (a, .inl (cA, 1000, .inl (upd f1 i ((f (i - 1)))))), (b, .inl (cB, 1000, .inl as))] := hD
        refine lv_iinc (v := nI (i - 1)) (lv' := [(3, .int (nI (i - 1))), (0, .ref h), (1, .int (nI v)), (2, .int (nI q))]) hx hb dX1_put_24 hl (k := 3) rfl (sb_m1 (by omega)) (by decide) rfl (fun ls hl => ?_)
        refine lv_goto (tgt := 5) hx hb dX1_put_27 (by decide) ?_
        exact ih (i - 1) (upd f1 i (f (i - 1))) (by omega) (by omega) (by omega) (fun p c1 c2 => (Decidable.em (p = i)).elim (fun e9 => by subst e9; exact pk_us) (fun e9 => (pk_un e9).trans (h1 p (by omega) c2))) (fun p c1 c2 => (pk_un (by omega)).trans (h2 p (by omega) c2)) H locs hP hD hS ls (lv_sub hl [1, 2, 3, 0] rfl)
  exact loop (N + 1) N f (by omega) (by omega) (by omega) (fun p c1 c2 => by omega) (fun p c1 c2 => rfl) _ _ hP hD hS ls (lv_sub hl [1, 2, 3, 0] rfl)
set_option maxHeartbeats 4000000 in
set_option maxRecDepth 100000 in
/-- drop(q): the one at place q goes -/
theorem c_M_drop (l : Launch) (dC : Nat → ClassId) (dI : Nat → Nat → Nat) (h a b : Nat) (cA cB : ClassId) (th : Int32) (N : Nat) (L : Nat → Nat) (f as : Nat → Int32) (q sz : Nat) (hf : ol_f N L f) (hN : N ≤ 1000) (hq : q < N) : Met l yX1_drop wsX1_drop ({ frames := 0, cells := 0, slots := 0, locals := 0 }) (ow_Pc (dC, dI) vwCl [(cA, .int), (cB, .int)] (wM h a b cA cB (th, nI N, f, as)) sz [.ref h, .int (nI q)]) (va_Qv (fun u : Int32 × Int32 × (Nat → Int32) × (Nat → Int32) => u.1 = th ∧ u.2.1 = nI (N - 1) ∧ ol_f (N - 1) (ol_rem L q 1) u.2.2.1 ∧ u.2.2.2 = as) (ow_B (dC, dI) vwCl (wM h a b cA cB) (va_A (wM h a b cA cB (th, nI N, f, as)) sz)) (va_A (wM h a b cA cB (th, nI N, f, as)) sz)) 0 0 (va_A (wM h a b cA cB (th, nI N, f, as)) sz) := by
  refine Met.ofW (cc := cX1_drop) (maxL := 3) (ret := none) (by decide) rfl ?_
  intro pg ev s m args below meth cd s₁ B hml hv
  obtain ⟨rfl, hsz, hP, hK, hD0⟩ := hv
  have hx := B.exec
  have hb := B.bytes
  have hr := B.returns
  have hts := atoms_spec (ws := wsX1_drop) B.pre
  have hown : s.vm.findClass RX1 = some m.cls := findClass_of_methodNamed B.named
  have hlocks := B.notSynchronized
  subst hsz
  have hD := hD0.self (sz := s.heap.size)
  generalize hAe : va_A (wM h a b cA cB (th, nI N, f, as)) s.heap.size = A at hD ⊢
  have hA : ∀ q : Nat, s.heap.size ≤ q → A q := fun q h => by rw [← hAe]; exact Or.inr h
  have hS : va_S A s.heap s.heap [] := va_S.rf
  have hD : va_D A [(h, .inr (1, [.int th, .ref a, .int (nI N), .ref b])), (a, .inl (cA, 1000, .inl f)), (b, .inl (cB, 1000, .inl as))] := hD
  have hP : va_P (dC, dI) vwCl [(h, .inr (1, [.int th, .ref a, .int (nI N), .ref b])), (a, .inl (cA, 1000, .inl f)), (b, .inl (cB, 1000, .inl as))] s.heap := hP
  have hl := lv_entry ([.ref h, .int (nI q)]) (n := 3) (Nat.le_of_ble_eq_true rfl)
  rw [lg_entry_eq]
  generalize (lg_sl ([.ref h, .int (nI q)]) ++ List.replicate (3 - (lg_sl ([.ref h, .int (nI q)])).length) Slot.unset).toArray = ls at hl ⊢
  have hl : lv_has ls 3 [(0, .ref h), (1, .int (nI q))] := hl
  refine lv_aload_n hx hb dX1_drop_0 rfl (lv_at hl 0 rfl) ?_
  refine lv_dup hx hb dX1_drop_1 rfl ?_
  refine va_get (D := (dC, dI)) (ci := 1) (v := .int (nI N)) (C := RX1) (T := TX1) (N := 4) hx hb hts (by decide +kernel) hown hK hP 0 rfl rfl 2 (by decide) (hts (.fieldLink RX1 13 "OrderLineModel" "many" "I") (by decide +kernel)) (fun _ h9 => h9) rfl dX1_drop_2 ?_
  refine lv_iconst (v := 1) hx hb dX1_drop_5 (by decide +kernel) ?_
  refine lv_isub hx hb dX1_drop_6 ?_
  refine ow_top (z := nI (N - 1)) (nI_m1 (by omega)) ?_
  refine va_put (D := (dC, dI)) (ci := 1) (v := .int (nI (N - 1))) (ty := (.int)) (C := RX1) (T := TX1) (N := 4) hx hb hts (by decide +kernel) tyX1 tyX1_ok nmX1 hown hK hP hD hS 0 rfl rfl 2 (by decide) (hts (.fieldLink RX1 13 "OrderLineModel" "many" "I") (by decide +kernel)) (fun _ h9 => h9) rfl (by decide +kernel) rfl rfl (Nat.le_of_ble_eq_true rfl) dX1_drop_7 (fun H locs hP hD hS => ?_)
  have hP : va_P (dC, dI) vwCl [(h, .inr (1, [.int th, .ref a, .int (nI (N - 1)), .ref b])), (a, .inl (cA, 1000, .inl f)), (b, .inl (cB, 1000, .inl as))] H := hP
  have hD : va_D A [(h, .inr (1, [.int th, .ref a, .int (nI (N - 1)), .ref b])), (a, .inl (cA, 1000, .inl f)), (b, .inl (cB, 1000, .inl as))] := hD
  refine lv_iload_n hx hb dX1_drop_10 rfl (lv_at hl 1 rfl) ?_
  refine lv_istore_n (lv' := [(2, .int (nI q)), (0, .ref h), (1, .int (nI q))]) hx hb dX1_drop_11 rfl hl (by decide) rfl (fun ls hl => ?_)
  have loop : ∀ (k : Nat) (i : Nat) (f1 : Nat → Int32), N - 1 < i + k → q ≤ i → i ≤ N - 1 → (∀ p, p < i → f1 p = nI (ol_rem L q 1 p)) → (∀ p, i ≤ p → p < N → f1 p = nI (L p)) → ∀ (H : Heap) (locs : List Loc), va_P (dC, dI) vwCl [(h, .inr (1, [.int th, .ref a, .int (nI (N - 1)), .ref b])), (a, .inl (cA, 1000, .inl f1)), (b, .inl (cB, 1000, .inl as))] H → va_D A [(h, .inr (1, [.int th, .ref a, .int (nI (N - 1)), .ref b])), (a, .inl (cA, 1000, .inl f1)), (b, .inl (cB, 1000, .inl as))] → va_S A s.heap H locs → ∀ ls : Array Slot, lv_has ls 3 [(0, .ref h), (1, .int (nI q)), (2, .int (nI i))] → W pg l ev (headSpec wsX1_drop ({ frames := 0, cells := 0, slots := 0, locals := 0 })).room s m ([.ref h, .int (nI q)] : List Value).toArray below meth cd H locs 0 0 (MQ below (va_Qv (fun u : Int32 × Int32 × (Nat → Int32) × (Nat → Int32) => u.1 = th ∧ u.2.1 = nI (N - 1) ∧ ol_f (N - 1) (ol_rem L q 1) u.2.2.1 ∧ u.2.2.2 = as) (ow_B (dC, dI) vwCl (wM h a b cA cB) A) A) ([.ref h, .int (nI q)] : List Value).toArray s 0 0 A) (F0 m 12 ls []) := by
    intro k
    induction k with
    | zero =>
      intro i f1 h1 h2 h3
      exact absurd h1 (by omega)
    | succ k ih =>
      intro i f1 hk hi hiN h1 h2 H locs hP hD hS ls hl
      refine lv_iload_n hx hb dX1_drop_12 rfl (lv_at hl 2 rfl) ?_
      refine lv_aload_n hx hb dX1_drop_13 rfl (lv_at hl 0 rfl) ?_
      refine va_get (D := (dC, dI)) (ci := 1) (v := .int (nI (N - 1))) (C := RX1) (T := TX1) (N := 4) hx hb hts (by decide +kernel) hown hK hP 0 rfl rfl 2 (by decide) (hts (.fieldLink RX1 13 "OrderLineModel" "many" "I") (by decide +kernel)) (fun _ h9 => h9) rfl dX1_drop_14 ?_
      refine lv_icmp_ge (tgt := 40) hx hb dX1_drop_17 (by decide) (fun c_17 => ?_) (fun c_17 => ?_)
      · have hc := ol_le (by omega) (by omega) c_17
        exact W.vret hx hb hr (fun t ht hW => ⟨⟨(th, nI (N - 1), f1, as), rfl, ⟨rfl, rfl, fun p hp => h1 p (by omega), rfl⟩, by rw [ht]; exact hP, hD⟩, hS.F ht⟩) hS.2.2 dX1_drop_40
      · have hc := ol_nle (by omega) (by omega) c_17
        refine lv_aload_n hx hb dX1_drop_20 rfl (lv_at hl 0 rfl) ?_
        refine va_get (D := (dC, dI)) (ci := 1) (v := .ref a) (C := RX1) (T := TX1) (N := 4) hx hb hts (by decide +kernel) hown hK hP 0 rfl rfl 1 (by decide) (hts (.fieldLink RX1 7 "OrderLineModel" "line" "[I") (by decide +kernel)) (fun _ h9 => h9) rfl dX1_drop_21 ?_
        refine lv_iload_n hx hb dX1_drop_24 rfl (lv_at hl 2 rfl) ?_
        refine lv_aload_n hx hb dX1_drop_25 rfl (lv_at hl 0 rfl) ?_
        refine va_get (D := (dC, dI)) (ci := 1) (v := .ref a) (C := RX1) (T := TX1) (N := 4) hx hb hts (by decide +kernel) hown hK hP 0 rfl rfl 1 (by decide) (hts (.fieldLink RX1 7 "OrderLineModel" "line" "[I") (by decide +kernel)) (fun _ h9 => h9) rfl dX1_drop_26 ?_
        refine lv_iload_n hx hb dX1_drop_29 rfl (lv_at hl 2 rfl) ?_
        refine lv_iconst (v := 1) hx hb dX1_drop_30 (by decide +kernel) ?_
        refine lv_iadd hx hb dX1_drop_31 ?_
        refine ow_top (z := nI (i + 1)) (nI_1 i) ?_
        refine ow_iald (k := i + 1) (v := nI (L (i + 1))) hx hb hK hP 1 0 rfl rfl (by omega) (by decide) (h2 (i + 1) (by omega) (by omega)) dX1_drop_32 ?_
        refine ow_iast (k := i) hx hb hK hP hD hS 1 0 rfl rfl (by omega) (by decide) dX1_drop_33 (fun H locs hP hD hS => ?_)
        have hP : va_P (dC, dI) vwCl [(h, .inr (1, [.int th, .ref a, .int (nI (N - 1)), .ref b])), (a, .inl (cA, 1000, .inl (upd f1 i ((nI (L (i + 1))))))), (b, .inl (cB, 1000, .inl as))] H := hP
        have hD : va_D A [(h, .inr (1, [.int th, .ref a, .int (nI (N - 1)), .ref b])), (a, .inl (cA, 1000, .inl (upd f1 i ((nI (L (i + 1))))))), (b, .inl (cB, 1000, .inl as))] := hD
        refine lv_iinc (v := nI (i + 1)) (lv' := [(2, .int (nI (i + 1))), (0, .ref h), (1, .int (nI q))]) hx hb dX1_drop_34 hl (k := 2) rfl (nI_1 i) (by decide) rfl (fun ls hl => ?_)
        refine lv_goto (tgt := 12) hx hb dX1_drop_37 (by decide) ?_
        exact ih (i + 1) (upd f1 i (nI (L (i + 1)))) (by omega) (by omega) (by omega) (fun p c1 => (Decidable.em (p = i)).elim (fun e9 => by subst e9; rw [ol_rem_hi (by omega)]; exact pk_us) (fun e9 => (pk_un e9).trans (h1 p (by omega)))) (fun p c1 c2 => (pk_un (by omega)).trans (h2 p (by omega) c2)) H locs hP hD hS ls (lv_sub hl [1, 2, 0] rfl)
  exact loop (N + 1) q f (by omega) (by omega) (by omega) (fun p c1 => by rw [ol_rem_lo c1]; exact hf p (by omega)) (fun p c1 c2 => hf p c2) _ _ hP hD hS ls (lv_sub hl [1, 2, 0] rfl)
set_option maxHeartbeats 4000000 in
set_option maxRecDepth 100000 in
/-- lacks(x, y, z): 1 if one of them isn't there, and the field says so -/
theorem c_M_lacks (l : Launch) (dC : Nat → ClassId) (dI : Nat → Nat → Nat) (h a b : Nat) (cA cB : ClassId) (th : Int32) (N : Nat) (L : Nat → Nat) (f as : Nat → Int32) (x y z tt : Int32) (sz : Nat) (ok : ol_ok N L) (hf : ol_f N L f) (hlc : ol_lc N L x y z tt) : Met l yX1_lacks wsX1_lacks ({ frames := 1, cells := 0, slots := 0, locals := 22 }) (ow_Pc (dC, dI) vwCl [(cA, .int), (cB, .int)] (wM h a b cA cB (th, nI N, f, as)) sz [.ref h, .int x, .int y, .int z]) (va_Qi (fun (r : Int32) (u : Int32 × Int32 × (Nat → Int32) × (Nat → Int32)) => r = tt ∧ u = (tt, nI N, f, as)) (ow_B (dC, dI) vwCl (wM h a b cA cB) (va_A (wM h a b cA cB (th, nI N, f, as)) sz)) (va_A (wM h a b cA cB (th, nI N, f, as)) sz)) 0 0 (va_A (wM h a b cA cB (th, nI N, f, as)) sz) := by
  refine Met.ofW (cc := cX1_lacks) (maxL := 4) (ret := (some .boolean)) (by decide) rfl ?_
  intro pg ev s m args below meth cd s₁ B hml hv
  obtain ⟨rfl, hsz, hP, hK, hD0⟩ := hv
  have hx := B.exec
  have hb := B.bytes
  have hr := B.returns
  have hts := atoms_spec (ws := wsX1_lacks) B.pre
  have hown : s.vm.findClass RX1 = some m.cls := findClass_of_methodNamed B.named
  have hlocks := B.notSynchronized
  subst hsz
  have hD := hD0.self (sz := s.heap.size)
  generalize hAe : va_A (wM h a b cA cB (th, nI N, f, as)) s.heap.size = A at hD ⊢
  have hA : ∀ q : Nat, s.heap.size ≤ q → A q := fun q h => by rw [← hAe]; exact Or.inr h
  have hS : va_S A s.heap s.heap [] := va_S.rf
  have hD : va_D A [(h, .inr (1, [.int th, .ref a, .int (nI N), .ref b])), (a, .inl (cA, 1000, .inl f)), (b, .inl (cB, 1000, .inl as))] := hD
  have hP : va_P (dC, dI) vwCl [(h, .inr (1, [.int th, .ref a, .int (nI N), .ref b])), (a, .inl (cA, 1000, .inl f)), (b, .inl (cB, 1000, .inl as))] s.heap := hP
  have hl := lv_entry ([.ref h, .int x, .int y, .int z]) (n := 4) (Nat.le_of_ble_eq_true rfl)
  rw [lg_entry_eq]
  generalize (lg_sl ([.ref h, .int x, .int y, .int z]) ++ List.replicate (4 - (lg_sl ([.ref h, .int x, .int y, .int z])).length) Slot.unset).toArray = ls at hl ⊢
  have hl : lv_has ls 4 [(0, .ref h), (1, .int x), (2, .int y), (3, .int z)] := hl
  refine lv_aload_n hx hb dX1_lacks_0 rfl (lv_at hl 0 rfl) ?_
  refine lv_aload_n hx hb dX1_lacks_1 rfl (lv_at hl 0 rfl) ?_
  refine lv_iload_n hx hb dX1_lacks_2 rfl (lv_at hl 1 rfl) ?_
  obtain ⟨r1, hfd1, hc1⟩ := ol_fd_ex ok x
  refine ow_callR (r := r1) (W.runV (As := [.int x]) (rest := [.ref h]) ⟨hx, hb, hml, hown, hts⟩ (c_M_find l dC dI h a b cA cB th N L f as x r1 ok.2.1 hf hfd1) (cwV 1 hts gX1_lacks_X1_find rfl rfl rfl (by decide +kernel) ⟨Nat.le_of_ble_eq_true rfl, Nat.le_of_ble_eq_true rfl⟩) (ow_PreR hK hP (ci := 1) (q0 := 0) rfl rfl) rfl rfl hl.1 rfl (lv_room (Nat.le_of_ble_eq_true rfl)) dX1_lacks_3 ⟨Nat.le_of_ble_eq_true rfl, Nat.le_of_ble_eq_true rfl⟩) ?_
  refine lv_if_lt (tgt := 29) hx hb dX1_lacks_6 (by decide) (fun c_6 => ?_) (fun c_6 => ?_)
  · have htt : tt = 1 := hlc.2 (by
      rcases hc1 with ⟨p9, hp9, e9⟩ | ⟨h9, e9⟩
      · exact absurd (e9 ▸ c_6) (nI_pos (by have := hp9.1; have := ok.2.1; omega))
      · exact Or.inl h9)
    refine lv_iconst (v := 1) hx hb dX1_lacks_29 (by decide +kernel) ?_
    refine va_put (D := (dC, dI)) (ci := 1) (v := .int 1) (ty := (.int)) (C := RX1) (T := TX1) (N := 4) hx hb hts (by decide +kernel) tyX1 tyX1_ok nmX1 hown hK hP hD hS 0 rfl rfl 0 (by decide) (hts (.fieldLink RX1 20 "OrderLineModel" "thrown" "I") (by decide +kernel)) (fun _ h9 => h9) rfl (by decide +kernel) rfl rfl (Nat.le_of_ble_eq_true rfl) dX1_lacks_30 (fun H locs hP hD hS => ?_)
    have hP : va_P (dC, dI) vwCl [(h, .inr (1, [.int 1, .ref a, .int (nI N), .ref b])), (a, .inl (cA, 1000, .inl f)), (b, .inl (cB, 1000, .inl as))] H := hP
    have hD : va_D A [(h, .inr (1, [.int 1, .ref a, .int (nI N), .ref b])), (a, .inl (cA, 1000, .inl f)), (b, .inl (cB, 1000, .inl as))] := hD
    refine lv_aload_n hx hb dX1_lacks_33 rfl (lv_at hl 0 rfl) ?_
    refine va_get (D := (dC, dI)) (ci := 1) (v := .int 1) (C := RX1) (T := TX1) (N := 4) hx hb hts (by decide +kernel) hown hK hP 0 rfl rfl 0 (by decide) (hts (.fieldLink RX1 20 "OrderLineModel" "thrown" "I") (by decide +kernel)) (fun _ h9 => h9) rfl dX1_lacks_34 ?_
    refine lv_if_le (tgt := 44) hx hb dX1_lacks_37 (by decide) (fun c_37 => ((by decide : ¬ (1 : Int32) ≤ 0) c_37).elim) (fun c_37 => ?_)
    refine lv_iconst (v := 1) hx hb dX1_lacks_40 (by decide +kernel) ?_
    refine lv_goto (tgt := 45) hx hb dX1_lacks_41 (by decide) ?_
    exact W.zret (v := 1) hx hb hr narrow_b1 (fun t ht hW => ⟨⟨1, (1, nI N, f, as), rfl, ⟨htt.symm, by rw [htt]⟩, by rw [ht]; exact hP, hD⟩, hS.F ht⟩) hS.2.2 dX1_lacks_45
  · have ha1 : ∃ p, ol_at N L x p := by
      rcases hc1 with ⟨p9, hp9, e9⟩ | ⟨h9, e9⟩
      · exact ⟨p9, hp9⟩
      · exact absurd (by rw [e9]; decide) c_6
    refine lv_aload_n hx hb dX1_lacks_9 rfl (lv_at hl 0 rfl) ?_
    refine lv_iload_n hx hb dX1_lacks_10 rfl (lv_at hl 2 rfl) ?_
    obtain ⟨r2, hfd2, hc2⟩ := ol_fd_ex ok y
    refine ow_callR (r := r2) (W.runV (As := [.int y]) (rest := [.ref h]) ⟨hx, hb, hml, hown, hts⟩ (c_M_find l dC dI h a b cA cB th N L f as y r2 ok.2.1 hf hfd2) (cwV 1 hts gX1_lacks_X1_find rfl rfl rfl (by decide +kernel) ⟨Nat.le_of_ble_eq_true rfl, Nat.le_of_ble_eq_true rfl⟩) (ow_PreR hK hP (ci := 1) (q0 := 0) rfl rfl) rfl rfl hl.1 rfl (lv_room (Nat.le_of_ble_eq_true rfl)) dX1_lacks_11 ⟨Nat.le_of_ble_eq_true rfl, Nat.le_of_ble_eq_true rfl⟩) ?_
    refine lv_if_lt (tgt := 29) hx hb dX1_lacks_14 (by decide) (fun c_14 => ?_) (fun c_14 => ?_)
    · have htt : tt = 1 := hlc.2 (by
        rcases hc2 with ⟨p9, hp9, e9⟩ | ⟨h9, e9⟩
        · exact absurd (e9 ▸ c_14) (nI_pos (by have := hp9.1; have := ok.2.1; omega))
        · exact Or.inr (Or.inl h9))
      refine lv_iconst (v := 1) hx hb dX1_lacks_29 (by decide +kernel) ?_
      refine va_put (D := (dC, dI)) (ci := 1) (v := .int 1) (ty := (.int)) (C := RX1) (T := TX1) (N := 4) hx hb hts (by decide +kernel) tyX1 tyX1_ok nmX1 hown hK hP hD hS 0 rfl rfl 0 (by decide) (hts (.fieldLink RX1 20 "OrderLineModel" "thrown" "I") (by decide +kernel)) (fun _ h9 => h9) rfl (by decide +kernel) rfl rfl (Nat.le_of_ble_eq_true rfl) dX1_lacks_30 (fun H locs hP hD hS => ?_)
      have hP : va_P (dC, dI) vwCl [(h, .inr (1, [.int 1, .ref a, .int (nI N), .ref b])), (a, .inl (cA, 1000, .inl f)), (b, .inl (cB, 1000, .inl as))] H := hP
      have hD : va_D A [(h, .inr (1, [.int 1, .ref a, .int (nI N), .ref b])), (a, .inl (cA, 1000, .inl f)), (b, .inl (cB, 1000, .inl as))] := hD
      refine lv_aload_n hx hb dX1_lacks_33 rfl (lv_at hl 0 rfl) ?_
      refine va_get (D := (dC, dI)) (ci := 1) (v := .int 1) (C := RX1) (T := TX1) (N := 4) hx hb hts (by decide +kernel) hown hK hP 0 rfl rfl 0 (by decide) (hts (.fieldLink RX1 20 "OrderLineModel" "thrown" "I") (by decide +kernel)) (fun _ h9 => h9) rfl dX1_lacks_34 ?_
      refine lv_if_le (tgt := 44) hx hb dX1_lacks_37 (by decide) (fun c_37 => ((by decide : ¬ (1 : Int32) ≤ 0) c_37).elim) (fun c_37 => ?_)
      refine lv_iconst (v := 1) hx hb dX1_lacks_40 (by decide +kernel) ?_
      refine lv_goto (tgt := 45) hx hb dX1_lacks_41 (by decide) ?_
      exact W.zret (v := 1) hx hb hr narrow_b1 (fun t ht hW => ⟨⟨1, (1, nI N, f, as), rfl, ⟨htt.symm, by rw [htt]⟩, by rw [ht]; exact hP, hD⟩, hS.F ht⟩) hS.2.2 dX1_lacks_45
    · have ha2 : ∃ p, ol_at N L y p := by
        rcases hc2 with ⟨p9, hp9, e9⟩ | ⟨h9, e9⟩
        · exact ⟨p9, hp9⟩
        · exact absurd (by rw [e9]; decide) c_14
      refine lv_aload_n hx hb dX1_lacks_17 rfl (lv_at hl 0 rfl) ?_
      refine lv_iload_n hx hb dX1_lacks_18 rfl (lv_at hl 3 rfl) ?_
      obtain ⟨r3, hfd3, hc3⟩ := ol_fd_ex ok z
      refine ow_callR (r := r3) (W.runV (As := [.int z]) (rest := [.ref h]) ⟨hx, hb, hml, hown, hts⟩ (c_M_find l dC dI h a b cA cB th N L f as z r3 ok.2.1 hf hfd3) (cwV 1 hts gX1_lacks_X1_find rfl rfl rfl (by decide +kernel) ⟨Nat.le_of_ble_eq_true rfl, Nat.le_of_ble_eq_true rfl⟩) (ow_PreR hK hP (ci := 1) (q0 := 0) rfl rfl) rfl rfl hl.1 rfl (lv_room (Nat.le_of_ble_eq_true rfl)) dX1_lacks_19 ⟨Nat.le_of_ble_eq_true rfl, Nat.le_of_ble_eq_true rfl⟩) ?_
      refine lv_if_lt (tgt := 29) hx hb dX1_lacks_22 (by decide) (fun c_22 => ?_) (fun c_22 => ?_)
      · have htt : tt = 1 := hlc.2 (by
          rcases hc3 with ⟨p9, hp9, e9⟩ | ⟨h9, e9⟩
          · exact absurd (e9 ▸ c_22) (nI_pos (by have := hp9.1; have := ok.2.1; omega))
          · exact Or.inr (Or.inr h9))
        refine lv_iconst (v := 1) hx hb dX1_lacks_29 (by decide +kernel) ?_
        refine va_put (D := (dC, dI)) (ci := 1) (v := .int 1) (ty := (.int)) (C := RX1) (T := TX1) (N := 4) hx hb hts (by decide +kernel) tyX1 tyX1_ok nmX1 hown hK hP hD hS 0 rfl rfl 0 (by decide) (hts (.fieldLink RX1 20 "OrderLineModel" "thrown" "I") (by decide +kernel)) (fun _ h9 => h9) rfl (by decide +kernel) rfl rfl (Nat.le_of_ble_eq_true rfl) dX1_lacks_30 (fun H locs hP hD hS => ?_)
        have hP : va_P (dC, dI) vwCl [(h, .inr (1, [.int 1, .ref a, .int (nI N), .ref b])), (a, .inl (cA, 1000, .inl f)), (b, .inl (cB, 1000, .inl as))] H := hP
        have hD : va_D A [(h, .inr (1, [.int 1, .ref a, .int (nI N), .ref b])), (a, .inl (cA, 1000, .inl f)), (b, .inl (cB, 1000, .inl as))] := hD
        refine lv_aload_n hx hb dX1_lacks_33 rfl (lv_at hl 0 rfl) ?_
        refine va_get (D := (dC, dI)) (ci := 1) (v := .int 1) (C := RX1) (T := TX1) (N := 4) hx hb hts (by decide +kernel) hown hK hP 0 rfl rfl 0 (by decide) (hts (.fieldLink RX1 20 "OrderLineModel" "thrown" "I") (by decide +kernel)) (fun _ h9 => h9) rfl dX1_lacks_34 ?_
        refine lv_if_le (tgt := 44) hx hb dX1_lacks_37 (by decide) (fun c_37 => ((by decide : ¬ (1 : Int32) ≤ 0) c_37).elim) (fun c_37 => ?_)
        refine lv_iconst (v := 1) hx hb dX1_lacks_40 (by decide +kernel) ?_
        refine lv_goto (tgt := 45) hx hb dX1_lacks_41 (by decide) ?_
        exact W.zret (v := 1) hx hb hr narrow_b1 (fun t ht hW => ⟨⟨1, (1, nI N, f, as), rfl, ⟨htt.symm, by rw [htt]⟩, by rw [ht]; exact hP, hD⟩, hS.F ht⟩) hS.2.2 dX1_lacks_45
      · have ha3 : ∃ p, ol_at N L z p := by
          rcases hc3 with ⟨p9, hp9, e9⟩ | ⟨h9, e9⟩
          · exact ⟨p9, hp9⟩
          · exact absurd (by rw [e9]; decide) c_22
        have htt : tt = 0 := hlc.1 ha1 ha2 ha3
        refine lv_iconst (v := 0) hx hb dX1_lacks_25 (by decide +kernel) ?_
        refine lv_goto (tgt := 30) hx hb dX1_lacks_26 (by decide) ?_
        refine va_put (D := (dC, dI)) (ci := 1) (v := .int 0) (ty := (.int)) (C := RX1) (T := TX1) (N := 4) hx hb hts (by decide +kernel) tyX1 tyX1_ok nmX1 hown hK hP hD hS 0 rfl rfl 0 (by decide) (hts (.fieldLink RX1 20 "OrderLineModel" "thrown" "I") (by decide +kernel)) (fun _ h9 => h9) rfl (by decide +kernel) rfl rfl (Nat.le_of_ble_eq_true rfl) dX1_lacks_30 (fun H locs hP hD hS => ?_)
        have hP : va_P (dC, dI) vwCl [(h, .inr (1, [.int 0, .ref a, .int (nI N), .ref b])), (a, .inl (cA, 1000, .inl f)), (b, .inl (cB, 1000, .inl as))] H := hP
        have hD : va_D A [(h, .inr (1, [.int 0, .ref a, .int (nI N), .ref b])), (a, .inl (cA, 1000, .inl f)), (b, .inl (cB, 1000, .inl as))] := hD
        refine lv_aload_n hx hb dX1_lacks_33 rfl (lv_at hl 0 rfl) ?_
        refine va_get (D := (dC, dI)) (ci := 1) (v := .int 0) (C := RX1) (T := TX1) (N := 4) hx hb hts (by decide +kernel) hown hK hP 0 rfl rfl 0 (by decide) (hts (.fieldLink RX1 20 "OrderLineModel" "thrown" "I") (by decide +kernel)) (fun _ h9 => h9) rfl dX1_lacks_34 ?_
        refine lv_if_le (tgt := 44) hx hb dX1_lacks_37 (by decide) (fun c_37 => ?_) (fun c_37 => (c_37 (by decide)).elim)
        refine lv_iconst (v := 0) hx hb dX1_lacks_44 (by decide +kernel) ?_
        exact W.zret (v := 0) hx hb hr narrow_b0 (fun t ht hW => ⟨⟨0, (0, nI N, f, as), rfl, ⟨htt.symm, by rw [htt]⟩, by rw [ht]; exact hP, hD⟩, hS.F ht⟩) hS.2.2 dX1_lacks_45
