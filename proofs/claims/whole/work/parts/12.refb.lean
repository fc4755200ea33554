set_option maxHeartbeats 4000000 in
set_option maxRecDepth 100000 in
/-- behind(x) -/
theorem c_M_behind (l : Launch) (dC : Nat → ClassId) (dI : Nat → Nat → Nat) (h a b : Nat) (cA cB : ClassId) (th : Int32) (N : Nat) (L : Nat → Nat) (f as : Nat → Int32) (tt r : Int32) (N' : Nat) (L' : Nat → Nat) (sz : Nat) (ok : ol_ok N L) (hf : ol_f N L f) (x : Int32) (hsp : (ol_no N L x ∧ tt = 1 ∧ r = 0 ∧ N' = N ∧ L' = L) ∨ (tt = 0 ∧ ∃ p, ol_at N L x p ∧ sp_bh N L p r N' L')) : Met l yX1_behind wsX1_behind ({ frames := 2, cells := 0, slots := 0, locals := 45 }) (ow_Pc (dC, dI) vwCl [(cA, .int), (cB, .int)] (wM h a b cA cB (th, nI N, f, as)) sz [.ref h, .int x]) (va_Qi (fun (r' : Int32) (u : Int32 × Int32 × (Nat → Int32) × (Nat → Int32)) => r' = r ∧ u.1 = tt ∧ u.2.1 = nI N' ∧ ol_f N' L' u.2.2.1) (ow_B (dC, dI) vwCl (wM h a b cA cB) (va_A (wM h a b cA cB (th, nI N, f, as)) sz)) (va_A (wM h a b cA cB (th, nI N, f, as)) sz)) 0 0 (va_A (wM h a b cA cB (th, nI N, f, as)) sz) := by
  refine Met.ofW (cc := cX1_behind) (maxL := 3) (ret := (some .int)) (by decide) rfl ?_
  intro pg ev s m args below meth cd s₁ B hml hv
  obtain ⟨rfl, hsz, hP, hK, hD0⟩ := hv
  have hx := B.exec
  have hb := B.bytes
  have hr := B.returns
  have hts := atoms_spec (ws := wsX1_behind) B.pre
  have hown : s.vm.findClass RX1 = some m.cls := findClass_of_methodNamed B.named
  have hlocks := B.notSynchronized
  subst hsz
  have hD := hD0.self (sz := s.heap.size)
  generalize hAe : va_A (wM h a b cA cB (th, nI N, f, as)) s.heap.size = A at hD ⊢
  have hA : ∀ q : Nat, s.heap.size ≤ q → A q := fun q h => by rw [← hAe]; exact Or.inr h
  have hS : va_S A s.heap s.heap [] := va_S.rf
  have hD : va_D A [(h, .inr (1, [.int th, .ref a, .int (nI N), .ref b])), (a, .inl (cA, 1000, .inl f)), (b, .inl (cB, 1000, .inl as))] := hD
  have hP : va_P (dC, dI) vwCl [(h, .inr (1, [.int th, .ref a, .int (nI N), .ref b])), (a, .inl (cA, 1000, .inl f)), (b, .inl (cB, 1000, .inl as))] s.heap := hP
  have hl := lv_entry ([.ref h, .int x]) (n := 3) (Nat.le_of_ble_eq_true rfl)
  rw [lg_entry_eq]
  generalize (lg_sl ([.ref h, .int x]) ++ List.replicate (3 - (lg_sl ([.ref h, .int x])).length) Slot.unset).toArray = ls at hl ⊢
  have hl : lv_has ls 3 [(0, .ref h), (1, .int x)] := hl
  have hlc : ol_lc N L x 0 0 tt := by
    rcases hsp with ⟨h1, h2, _⟩ | ⟨h2, p, h1, _⟩
    · rw [h2]; exact ol_lc_no (Or.inl h1)
    · rw [h2]; exact ol_lc_at h1 (ol_at0 ok) (ol_at0 ok)
  refine lv_aload_n hx hb dX1_behind_0 rfl (lv_at hl 0 rfl) ?_
  refine lv_iload_n hx hb dX1_behind_1 rfl (lv_at hl 1 rfl) ?_
  refine lv_iconst (v := 0) hx hb dX1_behind_2 (by decide +kernel) ?_
  refine lv_iconst (v := 0) hx hb dX1_behind_3 (by decide +kernel) ?_
  refine ow_calli (wr := []) (va_runV (As := [.int x, .int 0, .int 0]) (rest := []) ⟨hx, hb, hml, hown, hts⟩ (c_M_lacks l dC dI h a b cA cB th N L f as x 0 0 tt _ ok hf hlc) (cwV 3 hts gX1_behind_X1_lacks rfl rfl rfl (by decide +kernel) ⟨Nat.le_of_ble_eq_true rfl, Nat.le_of_ble_eq_true rfl⟩) (ow_PreV hK hP hD (ci := 1) (q0 := 0) rfl rfl) rfl rfl hl.1 rfl (lv_room (Nat.le_of_ble_eq_true rfl)) dX1_behind_4 ⟨Nat.le_of_ble_eq_true rfl, Nat.le_of_ble_eq_true rfl⟩) hP hD hS hA [0, 1, 2] [] rfl rfl (by decide) (by decide) (fun r0 u H locs hw hP hD hS => ?_)
  obtain ⟨er, eu⟩ := hw
  subst eu
  refine ow_top (z := tt) er ?_
  have hP : va_P (dC, dI) vwCl [(h, .inr (1, [.int tt, .ref a, .int (nI N), .ref b])), (a, .inl (cA, 1000, .inl f)), (b, .inl (cB, 1000, .inl as))] H := hP
  have hD : va_D A [(h, .inr (1, [.int tt, .ref a, .int (nI N), .ref b])), (a, .inl (cA, 1000, .inl f)), (b, .inl (cB, 1000, .inl as))] := hD
  refine lv_if_eq (tgt := 12) hx hb dX1_behind_7 (by decide) (fun c_7 => ?_) (fun c_7 => ?_)
  · have hs : ∃ p, ol_at N L x p ∧ sp_bh N L p r N' L' := by
      rcases hsp with ⟨_, e9, _⟩ | ⟨_, h9⟩
      · exact absurd (e9.symm.trans c_7) (by decide)
      · exact h9
    refine lv_aload_n hx hb dX1_behind_12 rfl (lv_at hl 0 rfl) ?_
    obtain ⟨p, hp, hs⟩ := hs
    refine ow_callR (r := ol_fi N L) (W.runV (As := []) (rest := []) ⟨hx, hb, hml, hown, hts⟩ (c_M_free l dC dI h a b cA cB tt N L f as ok hf) (cwV 0 hts gX1_behind_X1_free rfl rfl rfl (by decide +kernel) ⟨Nat.le_of_ble_eq_true rfl, Nat.le_of_ble_eq_true rfl⟩) (ow_PreR hK hP (ci := 1) (q0 := 0) rfl rfl) rfl rfl hl.1 rfl (lv_room (Nat.le_of_ble_eq_true rfl)) dX1_behind_13 ⟨Nat.le_of_ble_eq_true rfl, Nat.le_of_ble_eq_true rfl⟩) ?_
    refine lv_istore_n (lv' := [(2, .int (ol_fi N L)), (0, .ref h), (1, .int x)]) hx hb dX1_behind_16 rfl hl (by decide) rfl (fun ls hl => ?_)
    refine lv_iload_n hx hb dX1_behind_17 rfl (lv_at hl 0 rfl) ?_
    have hs2 := hs
    refine lv_if_lt (tgt := 33) hx hb dX1_behind_18 (by decide) (fun c_18 => ?_) (fun c_18 => ?_)
    · obtain ⟨hr0, hN0, hL0⟩ : r = -1 ∧ N' = N ∧ L' = L := by
        rcases hs with ⟨h1, _⟩ | ⟨_, h2⟩
        · exact absurd (ol_fi_lt (ol_fr_lt ok h1) ▸ c_18) (nI_pos (by have := ol_fr_lt ok h1; omega))
        · exact h2
      have hfi : ol_fi N L = -1 := by
        rcases hs2 with ⟨h1, h2, _⟩ | ⟨h1, _⟩
        · exact absurd (h2.symm.trans hr0) (ol_m1 (by have := ol_fr_lt ok h1; omega))
        · subst h1; exact ol_fi_ge (by rw [ol_fr_full ok]; omega)
      refine lv_iload_n hx hb dX1_behind_33 rfl (lv_at hl 0 rfl) ?_
      exact W.iret (v := (ol_fi N L)) hx hb hr (fun t ht hW => ⟨⟨(ol_fi N L), (tt, nI N, f, as), rfl, ⟨by rw [hr0]; exact hfi, rfl, by rw [hN0], by rw [hN0, hL0]; exact hf⟩, by rw [ht]; exact hP, hD⟩, hS.F ht⟩) hS.2.2 dX1_behind_34
    · obtain ⟨hlt, hr0, hN0, hL0⟩ : N < 1000 ∧ r = nI (ol_fr N L) ∧ N' = N + 1 ∧ L' = ol_many N L (p + 1) 1 := by
        rcases hs with h1 | ⟨h1, _⟩
        · exact h1
        · subst h1; exact absurd (by rw [ol_fi_ge (by rw [ol_fr_full ok]; omega)]; decide) c_18
      have hfl := ol_fr_lt ok hlt
      refine lv_aload_n hx hb dX1_behind_21 rfl (lv_at hl 1 rfl) ?_
      refine lv_iload_n hx hb dX1_behind_22 rfl (lv_at hl 0 rfl) ?_
      refine ow_top (z := nI (ol_fr N L)) (ol_fi_lt hfl) ?_
      refine lv_aload_n hx hb dX1_behind_23 rfl (lv_at hl 1 rfl) ?_
      refine lv_iload_n hx hb dX1_behind_24 rfl (lv_at hl 2 rfl) ?_
      refine ow_callR (r := nI p) (W.runV (As := [.int x]) (rest := [.int (nI (ol_fr N L)), .ref h]) ⟨hx, hb, hml, hown, hts⟩ (c_M_find l dC dI h a b cA cB tt N L f as x (nI p) ok.2.1 hf (ol_fd_at ok hp)) (cwV 1 hts gX1_behind_X1_find rfl rfl rfl (by decide +kernel) ⟨Nat.le_of_ble_eq_true rfl, Nat.le_of_ble_eq_true rfl⟩) (ow_PreR hK hP (ci := 1) (q0 := 0) rfl rfl) rfl rfl hl.1 rfl (lv_room (Nat.le_of_ble_eq_true rfl)) dX1_behind_25 ⟨Nat.le_of_ble_eq_true rfl, Nat.le_of_ble_eq_true rfl⟩) ?_
      refine lv_iconst (v := 1) hx hb dX1_behind_28 (by decide +kernel) ?_
      refine lv_iadd hx hb dX1_behind_29 ?_
      refine ow_top (z := nI (p + 1)) (nI_1 p) ?_
      refine ow_callv (wr := []) (va_runV (As := [.int (nI (ol_fr N L)), .int (nI (p + 1))]) (rest := []) ⟨hx, hb, hml, hown, hts⟩ (c_M_put l dC dI h a b cA cB tt N L f as (ol_fr N L) (p + 1) _ hf hlt hp.1) (cwV 2 hts gX1_behind_X1_put rfl rfl rfl (by decide +kernel) ⟨Nat.le_of_ble_eq_true rfl, Nat.le_of_ble_eq_true rfl⟩) (ow_PreV hK hP hD (ci := 1) (q0 := 0) rfl rfl) rfl rfl hl.1 rfl (lv_room (Nat.le_of_ble_eq_true rfl)) dX1_behind_30 ⟨Nat.le_of_ble_eq_true rfl, Nat.le_of_ble_eq_true rfl⟩) hP hD hS hA [0, 1, 2] [] rfl rfl (by decide) (by decide) (fun u H locs hw hP hD hS => ?_)
      obtain ⟨u1, u2, u3, u4⟩ := u
      obtain ⟨e1, e2, hf2, e4⟩ := hw
      obtain rfl : tt = u1 := e1.symm
      obtain rfl : nI (N + 1) = u2 := e2.symm
      obtain rfl : as = u4 := e4.symm
      have hP : va_P (dC, dI) vwCl [(h, .inr (1, [.int tt, .ref a, .int (nI (N + 1)), .ref b])), (a, .inl (cA, 1000, .inl u3)), (b, .inl (cB, 1000, .inl as))] H := hP
      have hD : va_D A [(h, .inr (1, [.int tt, .ref a, .int (nI (N + 1)), .ref b])), (a, .inl (cA, 1000, .inl u3)), (b, .inl (cB, 1000, .inl as))] := hD
      refine lv_iload_n hx hb dX1_behind_33 rfl (lv_at hl 0 rfl) ?_
      exact W.iret (v := (ol_fi N L)) hx hb hr (fun t ht hW => ⟨⟨(ol_fi N L), (tt, nI (N + 1), u3, as), rfl, ⟨by rw [hr0]; exact ol_fi_lt hfl, rfl, by rw [hN0], by rw [hN0, hL0]; exact hf2⟩, by rw [ht]; exact hP, hD⟩, hS.F ht⟩) hS.2.2 dX1_behind_34
  · obtain ⟨hr0, hN0, hL0⟩ : r = 0 ∧ N' = N ∧ L' = L := by
      rcases hsp with ⟨_, _, e9⟩ | ⟨e9, _⟩
      · exact e9
      · exact absurd e9 c_7
    refine lv_iconst (v := 0) hx hb dX1_behind_10 (by decide +kernel) ?_
    exact W.iret (v := 0) hx hb hr (fun t ht hW => ⟨⟨0, (tt, nI N, f, as), rfl, ⟨hr0.symm, rfl, by rw [hN0], by rw [hN0, hL0]; exact hf⟩, by rw [ht]; exact hP, hD⟩, hS.F ht⟩) hS.2.2 dX1_behind_11
set_option maxHeartbeats 4000000 in
set_option maxRecDepth 100000 in
/-- has(x) -/
theorem c_M_has (l : Launch) (dC : Nat → ClassId) (dI : Nat → Nat → Nat) (h a b : Nat) (cA cB : ClassId) (th : Int32) (N : Nat) (L : Nat → Nat) (f as : Nat → Int32) (r : Int32) (sz : Nat) (ok : ol_ok N L) (hf : ol_f N L f) (x : Int32) (hh : ol_hs N L x r) : Met l yX1_has wsX1_has ({ frames := 1, cells := 0, slots := 0, locals := 22 }) (ow_Pc (dC, dI) vwCl [(cA, .int), (cB, .int)] (wM h a b cA cB (th, nI N, f, as)) sz [.ref h, .int x]) (va_Qi (fun (r' : Int32) (u : Int32 × Int32 × (Nat → Int32) × (Nat → Int32)) => r' = r ∧ u = (0, nI N, f, as)) (ow_B (dC, dI) vwCl (wM h a b cA cB) (va_A (wM h a b cA cB (th, nI N, f, as)) sz)) (va_A (wM h a b cA cB (th, nI N, f, as)) sz)) 0 0 (va_A (wM h a b cA cB (th, nI N, f, as)) sz) := by
  refine Met.ofW (cc := cX1_has) (maxL := 2) (ret := (some .boolean)) (by decide) rfl ?_
  intro pg ev s m args below meth cd s₁ B hml hv
  obtain ⟨rfl, hsz, hP, hK, hD0⟩ := hv
  have hx := B.exec
  have hb := B.bytes
  have hr := B.returns
  have hts := atoms_spec (ws := wsX1_has) B.pre
  have hown : s.vm.findClass RX1 = some m.cls := findClass_of_methodNamed B.named
  have hlocks := B.notSynchronized
  subst hsz
  have hD := hD0.self (sz := s.heap.size)
  generalize hAe : va_A (wM h a b cA cB (th, nI N, f, as)) s.heap.size = A at hD ⊢
  have hA : ∀ q : Nat, s.heap.size ≤ q → A q := fun q h => by rw [← hAe]; exact Or.inr h
  have hS : va_S A s.heap s.heap [] := va_S.rf
  have hD : va_D A [(h, .inr (1, [.int th, .ref a, .int (nI N), .ref b])), (a, .inl (cA, 1000, .inl f)), (b, .inl (cB, 1000, .inl as))] := hD
  have hP : va_P (dC, dI) vwCl [(h, .inr (1, [.int th, .ref a, .int (nI N), .ref b])), (a, .inl (cA, 1000, .inl f)), (b, .inl (cB, 1000, .inl as))] s.heap := hP
  have hl := lv_entry ([.ref h, .int x]) (n := 2) (Nat.le_of_ble_eq_true rfl)
  rw [lg_entry_eq]
  generalize (lg_sl ([.ref h, .int x]) ++ List.replicate (2 - (lg_sl ([.ref h, .int x])).length) Slot.unset).toArray = ls at hl ⊢
  have hl : lv_has ls 2 [(0, .ref h), (1, .int x)] := hl
  refine lv_aload_n hx hb dX1_has_0 rfl (lv_at hl 0 rfl) ?_
  refine lv_iconst (v := 0) hx hb dX1_has_1 (by decide +kernel) ?_
  refine va_put (D := (dC, dI)) (ci := 1) (v := .int 0) (ty := (.int)) (C := RX1) (T := TX1) (N := 4) hx hb hts (by decide +kernel) tyX1 tyX1_ok nmX1 hown hK hP hD hS 0 rfl rfl 0 (by decide) (hts (.fieldLink RX1 20 "OrderLineModel" "thrown" "I") (by decide +kernel)) (fun _ h9 => h9) rfl (by decide +kernel) rfl rfl (Nat.le_of_ble_eq_true rfl) dX1_has_2 (fun H locs hP hD hS => ?_)
  have hP : va_P (dC, dI) vwCl [(h, .inr (1, [.int 0, .ref a, .int (nI N), .ref b])), (a, .inl (cA, 1000, .inl f)), (b, .inl (cB, 1000, .inl as))] H := hP
  have hD : va_D A [(h, .inr (1, [.int 0, .ref a, .int (nI N), .ref b])), (a, .inl (cA, 1000, .inl f)), (b, .inl (cB, 1000, .inl as))] := hD
  refine lv_aload_n hx hb dX1_has_5 rfl (lv_at hl 0 rfl) ?_
  refine lv_iload_n hx hb dX1_has_6 rfl (lv_at hl 1 rfl) ?_
  obtain ⟨r1, hfd1, hc1⟩ := ol_fd_ex ok x
  refine ow_callR (r := r1) (W.runV (As := [.int x]) (rest := []) ⟨hx, hb, hml, hown, hts⟩ (c_M_find l dC dI h a b cA cB 0 N L f as x r1 ok.2.1 hf hfd1) (cwV 1 hts gX1_has_X1_find rfl rfl rfl (by decide +kernel) ⟨Nat.le_of_ble_eq_true rfl, Nat.le_of_ble_eq_true rfl⟩) (ow_PreR hK hP (ci := 1) (q0 := 0) rfl rfl) rfl rfl hl.1 rfl (lv_room (Nat.le_of_ble_eq_true rfl)) dX1_has_7 ⟨Nat.le_of_ble_eq_true rfl, Nat.le_of_ble_eq_true rfl⟩) ?_
  refine lv_if_lt (tgt := 17) hx hb dX1_has_10 (by decide) (fun c_10 => ?_) (fun c_10 => ?_)
  · have hr0 : r = 0 := hh.2 (by
      rcases hc1 with ⟨p9, hp9, e9⟩ | ⟨h9, e9⟩
      · exact absurd (e9 ▸ c_10) (nI_pos (by have := hp9.1; have := ok.2.1; omega))
      · exact h9)
    refine lv_iconst (v := 0) hx hb dX1_has_17 (by decide +kernel) ?_
    exact W.zret (v := 0) hx hb hr narrow_b0 (fun t ht hW => ⟨⟨0, (0, nI N, f, as), rfl, ⟨hr0.symm, rfl⟩, by rw [ht]; exact hP, hD⟩, hS.F ht⟩) hS.2.2 dX1_has_18
  · have hr0 : r = 1 := hh.1 (by
      rcases hc1 with ⟨p9, hp9, e9⟩ | ⟨h9, e9⟩
      · exact ⟨p9, hp9⟩
      · exact absurd (by rw [e9]; decide) c_10)
    refine lv_iconst (v := 1) hx hb dX1_has_13 (by decide +kernel) ?_
    refine lv_goto (tgt := 18) hx hb dX1_has_14 (by decide) ?_
    exact W.zret (v := 1) hx hb hr narrow_b1 (fun t ht hW => ⟨⟨1, (0, nI N, f, as), rfl, ⟨hr0.symm, rfl⟩, by rw [ht]; exact hP, hD⟩, hS.F ht⟩) hS.2.2 dX1_has_18
set_option maxHeartbeats 4000000 in
set_option maxRecDepth 100000 in
/-- place(x) -/
theorem c_M_place (l : Launch) (dC : Nat → ClassId) (dI : Nat → Nat → Nat) (h a b : Nat) (cA cB : ClassId) (th : Int32) (N : Nat) (L : Nat → Nat) (f as : Nat → Int32) (tt r : Int32) (N' : Nat) (L' : Nat → Nat) (sz : Nat) (ok : ol_ok N L) (hf : ol_f N L f) (x : Int32) (hsp : (ol_no N L x ∧ tt = 1 ∧ r = 0 ∧ N' = N ∧ L' = L) ∨ (tt = 0 ∧ ∃ p, ol_at N L x p ∧ r = nI p ∧ N' = N ∧ L' = L)) : Met l yX1_place wsX1_place ({ frames := 2, cells := 0, slots := 0, locals := 45 }) (ow_Pc (dC, dI) vwCl [(cA, .int), (cB, .int)] (wM h a b cA cB (th, nI N, f, as)) sz [.ref h, .int x]) (va_Qi (fun (r' : Int32) (u : Int32 × Int32 × (Nat → Int32) × (Nat → Int32)) => r' = r ∧ u.1 = tt ∧ u.2.1 = nI N' ∧ ol_f N' L' u.2.2.1) (ow_B (dC, dI) vwCl (wM h a b cA cB) (va_A (wM h a b cA cB (th, nI N, f, as)) sz)) (va_A (wM h a b cA cB (th, nI N, f, as)) sz)) 0 0 (va_A (wM h a b cA cB (th, nI N, f, as)) sz) := by
  refine Met.ofW (cc := cX1_place) (maxL := 2) (ret := (some .int)) (by decide) rfl ?_
  intro pg ev s m args below meth cd s₁ B hml hv
  obtain ⟨rfl, hsz, hP, hK, hD0⟩ := hv
  have hx := B.exec
  have hb := B.bytes
  have hr := B.returns
  have hts := atoms_spec (ws := wsX1_place) B.pre
  have hown : s.vm.findClass RX1 = some m.cls := findClass_of_methodNamed B.named
  have hlocks := B.notSynchronized
  subst hsz
  have hD := hD0.self (sz := s.heap.size)
  generalize hAe : va_A (wM h a b cA cB (th, nI N, f, as)) s.heap.size = A at hD ⊢
  have hA : ∀ q : Nat, s.heap.size ≤ q → A q := fun q h => by rw [← hAe]; exact Or.inr h
  have hS : va_S A s.heap s.heap [] := va_S.rf
  have hD : va_D A [(h, .inr (1, [.int th, .ref a, .int (nI N), .ref b])), (a, .inl (cA, 1000, .inl f)), (b, .inl (cB, 1000, .inl as))] := hD
  have hP : va_P (dC, dI) vwCl [(h, .inr (1, [.int th, .ref a, .int (nI N), .ref b])), (a, .inl (cA, 1000, .inl f)), (b, .inl (cB, 1000, .inl as))] s.heap := hP
  have hl := lv_entry ([.ref h, .int x]) (n := 2) (Nat.le_of_ble_eq_true rfl)
  rw [lg_entry_eq]
  generalize (lg_sl ([.ref h, .int x]) ++ List.replicate (2 - (lg_sl ([.ref h, .int x])).length) Slot.unset).toArray = ls at hl ⊢
  have hl : lv_has ls 2 [(0, .ref h), (1, .int x)] := hl
  have hlc : ol_lc N L x 0 0 tt := by
    rcases hsp with ⟨h1, h2, _⟩ | ⟨h2, p, h1, _⟩
    · rw [h2]; exact ol_lc_no (Or.inl h1)
    · rw [h2]; exact ol_lc_at h1 (ol_at0 ok) (ol_at0 ok)
  refine lv_aload_n hx hb dX1_place_0 rfl (lv_at hl 0 rfl) ?_
  refine lv_iload_n hx hb dX1_place_1 rfl (lv_at hl 1 rfl) ?_
  refine lv_iconst (v := 0) hx hb dX1_place_2 (by decide +kernel) ?_
  refine lv_iconst (v := 0) hx hb dX1_place_3 (by decide +kernel) ?_
  refine ow_calli (wr := []) (va_runV (As := [.int x, .int 0, .int 0]) (rest := []) ⟨hx, hb, hml, hown, hts⟩ (c_M_lacks l dC dI h a b cA cB th N L f as x 0 0 tt _ ok hf hlc) (cwV 3 hts gX1_place_X1_lacks rfl rfl rfl (by decide +kernel) ⟨Nat.le_of_ble_eq_true rfl, Nat.le_of_ble_eq_true rfl⟩) (ow_PreV hK hP hD (ci := 1) (q0 := 0) rfl rfl) rfl rfl hl.1 rfl (lv_room (Nat.le_of_ble_eq_true rfl)) dX1_place_4 ⟨Nat.le_of_ble_eq_true rfl, Nat.le_of_ble_eq_true rfl⟩) hP hD hS hA [0, 1, 2] [] rfl rfl (by decide) (by decide) (fun r0 u H locs hw hP hD hS => ?_)
  obtain ⟨er, eu⟩ := hw
  subst eu
  refine ow_top (z := tt) er ?_
  have hP : va_P (dC, dI) vwCl [(h, .inr (1, [.int tt, .ref a, .int (nI N), .ref b])), (a, .inl (cA, 1000, .inl f)), (b, .inl (cB, 1000, .inl as))] H := hP
  have hD : va_D A [(h, .inr (1, [.int tt, .ref a, .int (nI N), .ref b])), (a, .inl (cA, 1000, .inl f)), (b, .inl (cB, 1000, .inl as))] := hD
  refine lv_if_eq (tgt := 14) hx hb dX1_place_7 (by decide) (fun c_7 => ?_) (fun c_7 => ?_)
  · have hs : ∃ p, ol_at N L x p ∧ r = nI p ∧ N' = N ∧ L' = L := by
      rcases hsp with ⟨_, e9, _⟩ | ⟨_, h9⟩
      · exact absurd (e9.symm.trans c_7) (by decide)
      · exact h9
    refine lv_aload_n hx hb dX1_place_14 rfl (lv_at hl 0 rfl) ?_
    refine lv_iload_n hx hb dX1_place_15 rfl (lv_at hl 1 rfl) ?_
    obtain ⟨p, hp, hr0, hN0, hL0⟩ := hs
    refine ow_callR (r := nI p) (W.runV (As := [.int x]) (rest := []) ⟨hx, hb, hml, hown, hts⟩ (c_M_find l dC dI h a b cA cB tt N L f as x (nI p) ok.2.1 hf (ol_fd_at ok hp)) (cwV 1 hts gX1_place_X1_find rfl rfl rfl (by decide +kernel) ⟨Nat.le_of_ble_eq_true rfl, Nat.le_of_ble_eq_true rfl⟩) (ow_PreR hK hP (ci := 1) (q0 := 0) rfl rfl) rfl rfl hl.1 rfl (lv_room (Nat.le_of_ble_eq_true rfl)) dX1_place_16 ⟨Nat.le_of_ble_eq_true rfl, Nat.le_of_ble_eq_true rfl⟩) ?_
    exact W.iret (v := (nI p)) hx hb hr (fun t ht hW => ⟨⟨(nI p), (tt, nI N, f, as), rfl, ⟨hr0.symm, rfl, by rw [hN0], by rw [hN0, hL0]; exact hf⟩, by rw [ht]; exact hP, hD⟩, hS.F ht⟩) hS.2.2 dX1_place_19
  · obtain ⟨hr0, hN0, hL0⟩ : r = 0 ∧ N' = N ∧ L' = L := by
      rcases hsp with ⟨_, _, e9⟩ | ⟨e9, _⟩
      · exact e9
      · exact absurd e9 c_7
    refine lv_iconst (v := 0) hx hb dX1_place_10 (by decide +kernel) ?_
    refine lv_goto (tgt := 19) hx hb dX1_place_11 (by decide) ?_
    exact W.iret (v := 0) hx hb hr (fun t ht hW => ⟨⟨0, (tt, nI N, f, as), rfl, ⟨hr0.symm, rfl, by rw [hN0], by rw [hN0, hL0]; exact hf⟩, by rw [ht]; exact hP, hD⟩, hS.F ht⟩) hS.2.2 dX1_place_19
set_option maxHeartbeats 4000000 in
set_option maxRecDepth 100000 in
/-- at(x) -/
theorem c_M_at (l : Launch) (dC : Nat → ClassId) (dI : Nat → Nat → Nat) (h a b : Nat) (cA cB : ClassId) (th : Int32) (N : Nat) (L : Nat → Nat) (f as : Nat → Int32) (r : Int32) (sz : Nat) (ok : ol_ok N L) (hf : ol_f N L f) (x : Int32) (hh : ol_ps N L x r) : Met l yX1_at wsX1_at ({ frames := 0, cells := 0, slots := 0, locals := 0 }) (ow_Pc (dC, dI) vwCl [(cA, .int), (cB, .int)] (wM h a b cA cB (th, nI N, f, as)) sz [.ref h, .int x]) (va_Qi (fun (r' : Int32) (u : Int32 × Int32 × (Nat → Int32) × (Nat → Int32)) => r' = r ∧ u = (0, nI N, f, as)) (ow_B (dC, dI) vwCl (wM h a b cA cB) (va_A (wM h a b cA cB (th, nI N, f, as)) sz)) (va_A (wM h a b cA cB (th, nI N, f, as)) sz)) 0 0 (va_A (wM h a b cA cB (th, nI N, f, as)) sz) := by
  refine Met.ofW (cc := cX1_at) (maxL := 2) (ret := (some .int)) (by decide) rfl ?_
  intro pg ev s m args below meth cd s₁ B hml hv
  obtain ⟨rfl, hsz, hP, hK, hD0⟩ := hv
  have hx := B.exec
  have hb := B.bytes
  have hr := B.returns
  have hts := atoms_spec (ws := wsX1_at) B.pre
  have hown : s.vm.findClass RX1 = some m.cls := findClass_of_methodNamed B.named
  have hlocks := B.notSynchronized
  subst hsz
  have hD := hD0.self (sz := s.heap.size)
  generalize hAe : va_A (wM h a b cA cB (th, nI N, f, as)) s.heap.size = A at hD ⊢
  have hA : ∀ q : Nat, s.heap.size ≤ q → A q := fun q h => by rw [← hAe]; exact Or.inr h
  have hS : va_S A s.heap s.heap [] := va_S.rf
  have hD : va_D A [(h, .inr (1, [.int th, .ref a, .int (nI N), .ref b])), (a, .inl (cA, 1000, .inl f)), (b, .inl (cB, 1000, .inl as))] := hD
  have hP : va_P (dC, dI) vwCl [(h, .inr (1, [.int th, .ref a, .int (nI N), .ref b])), (a, .inl (cA, 1000, .inl f)), (b, .inl (cB, 1000, .inl as))] s.heap := hP
  have hl := lv_entry ([.ref h, .int x]) (n := 2) (Nat.le_of_ble_eq_true rfl)
  rw [lg_entry_eq]
  generalize (lg_sl ([.ref h, .int x]) ++ List.replicate (2 - (lg_sl ([.ref h, .int x])).length) Slot.unset).toArray = ls at hl ⊢
  have hl : lv_has ls 2 [(0, .ref h), (1, .int x)] := hl
  have hN := ok.2.1
  refine lv_aload_n hx hb dX1_at_0 rfl (lv_at hl 0 rfl) ?_
  refine lv_iconst (v := 0) hx hb dX1_at_1 (by decide +kernel) ?_
  refine va_put (D := (dC, dI)) (ci := 1) (v := .int 0) (ty := (.int)) (C := RX1) (T := TX1) (N := 4) hx hb hts (by decide +kernel) tyX1 tyX1_ok nmX1 hown hK hP hD hS 0 rfl rfl 0 (by decide) (hts (.fieldLink RX1 20 "OrderLineModel" "thrown" "I") (by decide +kernel)) (fun _ h9 => h9) rfl (by decide +kernel) rfl rfl (Nat.le_of_ble_eq_true rfl) dX1_at_2 (fun H locs hP hD hS => ?_)
  have hP : va_P (dC, dI) vwCl [(h, .inr (1, [.int 0, .ref a, .int (nI N), .ref b])), (a, .inl (cA, 1000, .inl f)), (b, .inl (cB, 1000, .inl as))] H := hP
  have hD : va_D A [(h, .inr (1, [.int 0, .ref a, .int (nI N), .ref b])), (a, .inl (cA, 1000, .inl f)), (b, .inl (cB, 1000, .inl as))] := hD
  refine lv_iload_n hx hb dX1_at_5 rfl (lv_at hl 1 rfl) ?_
  refine lv_if_lt (tgt := 17) hx hb dX1_at_6 (by decide) (fun c_6 => ?_) (fun c_6 => ?_)
  · have hr0 : r = -1 := hh.2 (fun q hq e => nI_pos (by omega) (e ▸ c_6))
    refine lv_iconst (v := (-1)) hx hb dX1_at_17 (by decide +kernel) ?_
    refine lv_goto (tgt := 27) hx hb dX1_at_18 (by decide) ?_
    exact W.iret (v := ((-1))) hx hb hr (fun t ht hW => ⟨⟨((-1)), (0, nI N, f, as), rfl, ⟨hr0.symm, rfl⟩, by rw [ht]; exact hP, hD⟩, hS.F ht⟩) hS.2.2 dX1_at_27
  · obtain ⟨j, hj, ej⟩ := nI_of c_6
    refine lv_iload_n hx hb dX1_at_9 rfl (lv_at hl 1 rfl) ?_
    refine lv_aload_n hx hb dX1_at_10 rfl (lv_at hl 0 rfl) ?_
    refine va_get (D := (dC, dI)) (ci := 1) (v := .int (nI N)) (C := RX1) (T := TX1) (N := 4) hx hb hts (by decide +kernel) hown hK hP 0 rfl rfl 2 (by decide) (hts (.fieldLink RX1 13 "OrderLineModel" "many" "I") (by decide +kernel)) (fun _ h9 => h9) rfl dX1_at_11 ?_
    refine lv_icmp_lt (tgt := 21) hx hb dX1_at_14 (by decide) (fun c_14 => ?_) (fun c_14 => ?_)
    · have hc := ol_lt hj (by omega) (ej ▸ c_14)
      have hr0 : r = nI (L j) := hh.1 j hc ej
      refine lv_aload_n hx hb dX1_at_21 rfl (lv_at hl 0 rfl) ?_
      refine va_get (D := (dC, dI)) (ci := 1) (v := .ref a) (C := RX1) (T := TX1) (N := 4) hx hb hts (by decide +kernel) hown hK hP 0 rfl rfl 1 (by decide) (hts (.fieldLink RX1 7 "OrderLineModel" "line" "[I") (by decide +kernel)) (fun _ h9 => h9) rfl dX1_at_22 ?_
      refine lv_iload_n hx hb dX1_at_25 rfl (lv_at hl 1 rfl) ?_
      refine ow_top (z := nI j) ej ?_
      refine ow_iald (k := j) (v := nI (L j)) hx hb hK hP 1 0 rfl rfl (by omega) (by decide) (hf j hc) dX1_at_26 ?_
      exact W.iret (v := (nI (L j))) hx hb hr (fun t ht hW => ⟨⟨(nI (L j)), (0, nI N, f, as), rfl, ⟨hr0.symm, rfl⟩, by rw [ht]; exact hP, hD⟩, hS.F ht⟩) hS.2.2 dX1_at_27
    · have hc := ol_nlt hj (by omega) (ej ▸ c_14)
      have hr0 : r = -1 := hh.2 (fun q hq e => by have := ol_eq hj (by omega) (ej.symm.trans e); omega)
      refine lv_iconst (v := (-1)) hx hb dX1_at_17 (by decide +kernel) ?_
      refine lv_goto (tgt := 27) hx hb dX1_at_18 (by decide) ?_
      exact W.iret (v := ((-1))) hx hb hr (fun t ht hW => ⟨⟨((-1)), (0, nI N, f, as), rfl, ⟨hr0.symm, rfl⟩, by rw [ht]; exact hP, hD⟩, hS.F ht⟩) hS.2.2 dX1_at_27
set_option maxHeartbeats 4000000 in
set_option maxRecDepth 100000 in
/-- compare(x, y) -/
theorem c_M_compare (l : Launch) (dC : Nat → ClassId) (dI : Nat → Nat → Nat) (h a b : Nat) (cA cB : ClassId) (th : Int32) (N : Nat) (L : Nat → Nat) (f as : Nat → Int32) (tt r : Int32) (N' : Nat) (L' : Nat → Nat) (sz : Nat) (ok : ol_ok N L) (hf : ol_f N L f) (x y : Int32) (hsp : ((ol_no N L x ∨ ol_no N L y) ∧ tt = 1 ∧ r = 0 ∧ N' = N ∧ L' = L) ∨ (tt = 0 ∧ ∃ p q, ol_at N L x p ∧ ol_at N L y q ∧ r = ol_cmp p q ∧ N' = N ∧ L' = L)) : Met l yX1_compare wsX1_compare ({ frames := 2, cells := 0, slots := 0, locals := 45 }) (ow_Pc (dC, dI) vwCl [(cA, .int), (cB, .int)] (wM h a b cA cB (th, nI N, f, as)) sz [.ref h, .int x, .int y]) (va_Qi (fun (r' : Int32) (u : Int32 × Int32 × (Nat → Int32) × (Nat → Int32)) => r' = r ∧ u.1 = tt ∧ u.2.1 = nI N' ∧ ol_f N' L' u.2.2.1) (ow_B (dC, dI) vwCl (wM h a b cA cB) (va_A (wM h a b cA cB (th, nI N, f, as)) sz)) (va_A (wM h a b cA cB (th, nI N, f, as)) sz)) 0 0 (va_A (wM h a b cA cB (th, nI N, f, as)) sz) := by
  refine Met.ofW (cc := cX1_compare) (maxL := 5) (ret := (some .int)) (by decide) rfl ?_
  intro pg ev s m args below meth cd s₁ B hml hv
  obtain ⟨rfl, hsz, hP, hK, hD0⟩ := hv
  have hx := B.exec
  have hb := B.bytes
  have hr := B.returns
  have hts := atoms_spec (ws := wsX1_compare) B.pre
  have hown : s.vm.findClass RX1 = some m.cls := findClass_of_methodNamed B.named
  have hlocks := B.notSynchronized
  subst hsz
  have hD := hD0.self (sz := s.heap.size)
  generalize hAe : va_A (wM h a b cA cB (th, nI N, f, as)) s.heap.size = A at hD ⊢
  have hA : ∀ q : Nat, s.heap.size ≤ q → A q := fun q h => by rw [← hAe]; exact Or.inr h
  have hS : va_S A s.heap s.heap [] := va_S.rf
  have hD : va_D A [(h, .inr (1, [.int th, .ref a, .int (nI N), .ref b])), (a, .inl (cA, 1000, .inl f)), (b, .inl (cB, 1000, .inl as))] := hD
  have hP : va_P (dC, dI) vwCl [(h, .inr (1, [.int th, .ref a, .int (nI N), .ref b])), (a, .inl (cA, 1000, .inl f)), (b, .inl (cB, 1000, .inl as))] s.heap := hP
  have hl := lv_entry ([.ref h, .int x, .int y]) (n := 5) (Nat.le_of_ble_eq_true rfl)
  rw [lg_entry_eq]
  generalize (lg_sl ([.ref h, .int x, .int y]) ++ List.replicate (5 - (lg_sl ([.ref h, .int x, .int y])).length) Slot.unset).toArray = ls at hl ⊢
  have hl : lv_has ls 5 [(0, .ref h), (1, .int x), (2, .int y)] := hl
  have hlc : ol_lc N L x y 0 tt := by
    rcases hsp with ⟨h1, h2, _⟩ | ⟨h2, p, q, h1, h3, _⟩
    · rw [h2]; exact ol_lc_no (h1.elim Or.inl (fun h => Or.inr (Or.inl h)))
    · rw [h2]; exact ol_lc_at h1 h3 (ol_at0 ok)
  refine lv_aload_n hx hb dX1_compare_0 rfl (lv_at hl 0 rfl) ?_
  refine lv_iload_n hx hb dX1_compare_1 rfl (lv_at hl 1 rfl) ?_
  refine lv_iload_n hx hb dX1_compare_2 rfl (lv_at hl 2 rfl) ?_
  refine lv_iconst (v := 0) hx hb dX1_compare_3 (by decide +kernel) ?_
  refine ow_calli (wr := []) (va_runV (As := [.int x, .int y, .int 0]) (rest := []) ⟨hx, hb, hml, hown, hts⟩ (c_M_lacks l dC dI h a b cA cB th N L f as x y 0 tt _ ok hf hlc) (cwV 3 hts gX1_compare_X1_lacks rfl rfl rfl (by decide +kernel) ⟨Nat.le_of_ble_eq_true rfl, Nat.le_of_ble_eq_true rfl⟩) (ow_PreV hK hP hD (ci := 1) (q0 := 0) rfl rfl) rfl rfl hl.1 rfl (lv_room (Nat.le_of_ble_eq_true rfl)) dX1_compare_4 ⟨Nat.le_of_ble_eq_true rfl, Nat.le_of_ble_eq_true rfl⟩) hP hD hS hA [0, 1, 2] [] rfl rfl (by decide) (by decide) (fun r0 u H locs hw hP hD hS => ?_)
  obtain ⟨er, eu⟩ := hw
  subst eu
  refine ow_top (z := tt) er ?_
  have hP : va_P (dC, dI) vwCl [(h, .inr (1, [.int tt, .ref a, .int (nI N), .ref b])), (a, .inl (cA, 1000, .inl f)), (b, .inl (cB, 1000, .inl as))] H := hP
  have hD : va_D A [(h, .inr (1, [.int tt, .ref a, .int (nI N), .ref b])), (a, .inl (cA, 1000, .inl f)), (b, .inl (cB, 1000, .inl as))] := hD
  refine lv_if_eq (tgt := 12) hx hb dX1_compare_7 (by decide) (fun c_7 => ?_) (fun c_7 => ?_)
  · have hs : ∃ p q, ol_at N L x p ∧ ol_at N L y q ∧ r = ol_cmp p q ∧ N' = N ∧ L' = L := by
      rcases hsp with ⟨_, e9, _⟩ | ⟨_, h9⟩
      · exact absurd (e9.symm.trans c_7) (by decide)
      · exact h9
    obtain ⟨p, q, hp, hq, hrc, hN0, hL0⟩ := hs
    have hpN : p < N := hp.1
    have hqN : q < N := hq.1
    have hN : N ≤ 1000 := ok.2.1
    refine lv_aload_n hx hb dX1_compare_12 rfl (lv_at hl 0 rfl) ?_
    refine lv_iload_n hx hb dX1_compare_13 rfl (lv_at hl 1 rfl) ?_
    refine ow_callR (r := nI p) (W.runV (As := [.int x]) (rest := []) ⟨hx, hb, hml, hown, hts⟩ (c_M_find l dC dI h a b cA cB tt N L f as x (nI p) ok.2.1 hf (ol_fd_at ok hp)) (cwV 1 hts gX1_compare_X1_find rfl rfl rfl (by decide +kernel) ⟨Nat.le_of_ble_eq_true rfl, Nat.le_of_ble_eq_true rfl⟩) (ow_PreR hK hP (ci := 1) (q0 := 0) rfl rfl) rfl rfl hl.1 rfl (lv_room (Nat.le_of_ble_eq_true rfl)) dX1_compare_14 ⟨Nat.le_of_ble_eq_true rfl, Nat.le_of_ble_eq_true rfl⟩) ?_
    refine lv_istore_n (lv' := [(3, .int (nI p)), (0, .ref h), (1, .int x), (2, .int y)]) hx hb dX1_compare_17 rfl hl (by decide) rfl (fun ls hl => ?_)
    refine lv_aload_n hx hb dX1_compare_18 rfl (lv_at hl 1 rfl) ?_
    refine lv_iload_n hx hb dX1_compare_19 rfl (lv_at hl 3 rfl) ?_
    refine ow_callR (r := nI q) (W.runV (As := [.int y]) (rest := []) ⟨hx, hb, hml, hown, hts⟩ (c_M_find l dC dI h a b cA cB tt N L f as y (nI q) ok.2.1 hf (ol_fd_at ok hq)) (cwV 1 hts gX1_compare_X1_find rfl rfl rfl (by decide +kernel) ⟨Nat.le_of_ble_eq_true rfl, Nat.le_of_ble_eq_true rfl⟩) (ow_PreR hK hP (ci := 1) (q0 := 0) rfl rfl) rfl rfl hl.1 rfl (lv_room (Nat.le_of_ble_eq_true rfl)) dX1_compare_20 ⟨Nat.le_of_ble_eq_true rfl, Nat.le_of_ble_eq_true rfl⟩) ?_
    refine lv_istore (lv' := [(4, .int (nI q)), (3, .int (nI p)), (0, .ref h), (1, .int x), (2, .int y)]) hx hb dX1_compare_23 hl (by decide) rfl (fun ls hl => ?_)
    refine lv_iload_n hx hb dX1_compare_25 rfl (lv_at hl 1 rfl) ?_
    refine lv_iload hx hb dX1_compare_26 (lv_at hl 0 rfl) ?_
    refine lv_icmp_ge (tgt := 35) hx hb dX1_compare_28 (by decide) (fun c_28 => ?_) (fun c_28 => ?_)
    · have hc := ol_le (by omega) (by omega) c_28
      refine lv_iload_n hx hb dX1_compare_35 rfl (lv_at hl 1 rfl) ?_
      refine lv_iload hx hb dX1_compare_36 (lv_at hl 0 rfl) ?_
      refine lv_icmp_le (tgt := 45) hx hb dX1_compare_38 (by decide) (fun c_38 => ?_) (fun c_38 => ?_)
      · have hc2 := ol_le (by omega) (by omega) c_38
        have hr0 : r = 0 := by rw [hrc, show p = q by omega, ol_cmp_eq]
        refine lv_iconst (v := 0) hx hb dX1_compare_45 (by decide +kernel) ?_
        exact W.iret (v := 0) hx hb hr (fun t ht hW => ⟨⟨0, (tt, nI N, f, as), rfl, ⟨hr0.symm, rfl, by rw [hN0], by rw [hN0, hL0]; exact hf⟩, by rw [ht]; exact hP, hD⟩, hS.F ht⟩) hS.2.2 dX1_compare_46
      · have hc2 := ol_nle (by omega) (by omega) c_38
        have hr0 : r = 1 := by rw [hrc, ol_cmp_gt hc2]
        refine lv_iconst (v := 1) hx hb dX1_compare_41 (by decide +kernel) ?_
        refine lv_goto (tgt := 46) hx hb dX1_compare_42 (by decide) ?_
        exact W.iret (v := 1) hx hb hr (fun t ht hW => ⟨⟨1, (tt, nI N, f, as), rfl, ⟨hr0.symm, rfl, by rw [hN0], by rw [hN0, hL0]; exact hf⟩, by rw [ht]; exact hP, hD⟩, hS.F ht⟩) hS.2.2 dX1_compare_46
    · have hc := ol_nle (by omega) (by omega) c_28
      have hr0 : r = -1 := by rw [hrc, ol_cmp_lt hc]
      refine lv_iconst (v := (-1)) hx hb dX1_compare_31 (by decide +kernel) ?_
      refine lv_goto (tgt := 46) hx hb dX1_compare_32 (by decide) ?_
      exact W.iret (v := ((-1))) hx hb hr (fun t ht hW => ⟨⟨((-1)), (tt, nI N, f, as), rfl, ⟨hr0.symm, rfl, by rw [hN0], by rw [hN0, hL0]; exact hf⟩, by rw [ht]; exact hP, hD⟩, hS.F ht⟩) hS.2.2 dX1_compare_46
  · obtain ⟨hr0, hN0, hL0⟩ : r = 0 ∧ N' = N ∧ L' = L := by
      rcases hsp with ⟨_, _, e9⟩ | ⟨e9, _⟩
      · exact e9
      · exact absurd e9 c_7
    refine lv_iconst (v := 0) hx hb dX1_compare_10 (by decide +kernel) ?_
    exact W.iret (v := 0) hx hb hr (fun t ht hW => ⟨⟨0, (tt, nI N, f, as), rfl, ⟨hr0.symm, rfl, by rw [hN0], by rw [hN0, hL0]; exact hf⟩, by rw [ht]; exact hP, hD⟩, hS.F ht⟩) hS.2.2 dX1_compare_11
set_option maxHeartbeats 4000000 in
set_option maxRecDepth 100000 in
/-- next(x, z) -/
theorem c_M_next (l : Launch) (dC : Nat → ClassId) (dI : Nat → Nat → Nat) (h a b : Nat) (cA cB : ClassId) (th : Int32) (N : Nat) (L : Nat → Nat) (f as : Nat → Int32) (tt r : Int32) (N' : Nat) (L' : Nat → Nat) (sz : Nat) (ok : ol_ok N L) (hf : ol_f N L f) (x z : Int32) (hsp : (ol_no N L x ∧ tt = 1 ∧ r = 0 ∧ N' = N ∧ L' = L) ∨ (tt = 0 ∧ ∃ p, ol_at N L x p ∧ ol_ps N L (if z = 0 then nI p - 1 else nI p + 1) r ∧ N' = N ∧ L' = L)) : Met l yX1_next wsX1_next ({ frames := 2, cells := 0, slots := 0, locals := 45 }) (ow_Pc (dC, dI) vwCl [(cA, .int), (cB, .int)] (wM h a b cA cB (th, nI N, f, as)) sz [.ref h, .int x, .int z]) (va_Qi (fun (r' : Int32) (u : Int32 × Int32 × (Nat → Int32) × (Nat → Int32)) => r' = r ∧ u.1 = tt ∧ u.2.1 = nI N' ∧ ol_f N' L' u.2.2.1) (ow_B (dC, dI) vwCl (wM h a b cA cB) (va_A (wM h a b cA cB (th, nI N, f, as)) sz)) (va_A (wM h a b cA cB (th, nI N, f, as)) sz)) 0 0 (va_A (wM h a b cA cB (th, nI N, f, as)) sz) := by
  refine Met.ofW (cc := cX1_next) (maxL := 4) (ret := (some .int)) (by decide) rfl ?_
  intro pg ev s m args below meth cd s₁ B hml hv
  obtain ⟨rfl, hsz, hP, hK, hD0⟩ := hv
  have hx := B.exec
  have hb := B.bytes
  have hr := B.returns
  have hts := atoms_spec (ws := wsX1_next) B.pre
  have hown : s.vm.findClass RX1 = some m.cls := findClass_of_methodNamed B.named
  have hlocks := B.notSynchronized
  subst hsz
  have hD := hD0.self (sz := s.heap.size)
  generalize hAe : va_A (wM h a b cA cB (th, nI N, f, as)) s.heap.size = A at hD ⊢
  have hA : ∀ q : Nat, s.heap.size ≤ q → A q := fun q h => by rw [← hAe]; exact Or.inr h
  have hS : va_S A s.heap s.heap [] := va_S.rf
  have hD : va_D A [(h, .inr (1, [.int th, .ref a, .int (nI N), .ref b])), (a, .inl (cA, 1000, .inl f)), (b, .inl (cB, 1000, .inl as))] := hD
  have hP : va_P (dC, dI) vwCl [(h, .inr (1, [.int th, .ref a, .int (nI N), .ref b])), (a, .inl (cA, 1000, .inl f)), (b, .inl (cB, 1000, .inl as))] s.heap := hP
  have hl := lv_entry ([.ref h, .int x, .int z]) (n := 4) (Nat.le_of_ble_eq_true rfl)
  rw [lg_entry_eq]
  generalize (lg_sl ([.ref h, .int x, .int z]) ++ List.replicate (4 - (lg_sl ([.ref h, .int x, .int z])).length) Slot.unset).toArray = ls at hl ⊢
  have hl : lv_has ls 4 [(0, .ref h), (1, .int x), (2, .int z)] := hl
  have hlc : ol_lc N L x 0 0 tt := by
    rcases hsp with ⟨h1, h2, _⟩ | ⟨h2, p, h1, _⟩
    · rw [h2]; exact ol_lc_no (Or.inl h1)
    · rw [h2]; exact ol_lc_at h1 (ol_at0 ok) (ol_at0 ok)
  refine lv_aload_n hx hb dX1_next_0 rfl (lv_at hl 0 rfl) ?_
  refine lv_iload_n hx hb dX1_next_1 rfl (lv_at hl 1 rfl) ?_
  refine lv_iconst (v := 0) hx hb dX1_next_2 (by decide +kernel) ?_
  refine lv_iconst (v := 0) hx hb dX1_next_3 (by decide +kernel) ?_
  refine ow_calli (wr := []) (va_runV (As := [.int x, .int 0, .int 0]) (rest := []) ⟨hx, hb, hml, hown, hts⟩ (c_M_lacks l dC dI h a b cA cB th N L f as x 0 0 tt _ ok hf hlc) (cwV 3 hts gX1_next_X1_lacks rfl rfl rfl (by decide +kernel) ⟨Nat.le_of_ble_eq_true rfl, Nat.le_of_ble_eq_true rfl⟩) (ow_PreV hK hP hD (ci := 1) (q0 := 0) rfl rfl) rfl rfl hl.1 rfl (lv_room (Nat.le_of_ble_eq_true rfl)) dX1_next_4 ⟨Nat.le_of_ble_eq_true rfl, Nat.le_of_ble_eq_true rfl⟩) hP hD hS hA [0, 1, 2] [] rfl rfl (by decide) (by decide) (fun r0 u H locs hw hP hD hS => ?_)
  obtain ⟨er, eu⟩ := hw
  subst eu
  refine ow_top (z := tt) er ?_
  have hP : va_P (dC, dI) vwCl [(h, .inr (1, [.int tt, .ref a, .int (nI N), .ref b])), (a, .inl (cA, 1000, .inl f)), (b, .inl (cB, 1000, .inl as))] H := hP
  have hD : va_D A [(h, .inr (1, [.int tt, .ref a, .int (nI N), .ref b])), (a, .inl (cA, 1000, .inl f)), (b, .inl (cB, 1000, .inl as))] := hD
  refine lv_if_eq (tgt := 12) hx hb dX1_next_7 (by decide) (fun c_7 => ?_) (fun c_7 => ?_)
  · have hs : ∃ p, ol_at N L x p ∧ ol_ps N L (if z = 0 then nI p - 1 else nI p + 1) r ∧ N' = N ∧ L' = L := by
      rcases hsp with ⟨_, e9, _⟩ | ⟨_, h9⟩
      · exact absurd (e9.symm.trans c_7) (by decide)
      · exact h9
    obtain ⟨p, hp, hps, hN0, hL0⟩ := hs
    have hpN : p < N := hp.1
    have hN : N ≤ 1000 := ok.2.1
    refine lv_aload_n hx hb dX1_next_12 rfl (lv_at hl 0 rfl) ?_
    refine lv_iload_n hx hb dX1_next_13 rfl (lv_at hl 1 rfl) ?_
    refine ow_callR (r := nI p) (W.runV (As := [.int x]) (rest := []) ⟨hx, hb, hml, hown, hts⟩ (c_M_find l dC dI h a b cA cB tt N L f as x (nI p) ok.2.1 hf (ol_fd_at ok hp)) (cwV 1 hts gX1_next_X1_find rfl rfl rfl (by decide +kernel) ⟨Nat.le_of_ble_eq_true rfl, Nat.le_of_ble_eq_true rfl⟩) (ow_PreR hK hP (ci := 1) (q0 := 0) rfl rfl) rfl rfl hl.1 rfl (lv_room (Nat.le_of_ble_eq_true rfl)) dX1_next_14 ⟨Nat.le_of_ble_eq_true rfl, Nat.le_of_ble_eq_true rfl⟩) ?_
    refine lv_iload_n hx hb dX1_next_17 rfl (lv_at hl 2 rfl) ?_
    refine lv_if_eq (tgt := 25) hx hb dX1_next_18 (by decide) (fun c_18 => ?_) (fun c_18 => ?_)
    · rw [if_pos c_18] at hps
      refine lv_iconst (v := (-1)) hx hb dX1_next_25 (by decide +kernel) ?_
      refine lv_iadd hx hb dX1_next_26 ?_
      refine ow_top (z := nI p - 1) (ol_addm1 p) ?_
      refine lv_istore_n (lv' := [(3, .int (nI p - 1)), (0, .ref h), (1, .int x), (2, .int z)]) hx hb dX1_next_27 rfl hl (by decide) rfl (fun ls hl => ?_)
      refine lv_iload_n hx hb dX1_next_28 rfl (lv_at hl 0 rfl) ?_
      refine lv_if_lt (tgt := 40) hx hb dX1_next_29 (by decide) (fun c_29 => ?_) (fun c_29 => ?_)
      · have hr0 : r = -1 := hps.2 (fun q9 hq9 e9 => nI_pos (by omega) (e9 ▸ c_29))
        refine lv_iconst (v := (-1)) hx hb dX1_next_40 (by decide +kernel) ?_
        refine lv_goto (tgt := 50) hx hb dX1_next_41 (by decide) ?_
        exact W.iret (v := ((-1))) hx hb hr (fun t ht hW => ⟨⟨((-1)), (tt, nI N, f, as), rfl, ⟨hr0.symm, rfl, by rw [hN0], by rw [hN0, hL0]; exact hf⟩, by rw [ht]; exact hP, hD⟩, hS.F ht⟩) hS.2.2 dX1_next_50
      · obtain ⟨j, hjlt, hj⟩ := nI_of c_29
        refine lv_iload_n hx hb dX1_next_32 rfl (lv_at hl 0 rfl) ?_
        refine lv_aload_n hx hb dX1_next_33 rfl (lv_at hl 1 rfl) ?_
        refine va_get (D := (dC, dI)) (ci := 1) (v := .int (nI N)) (C := RX1) (T := TX1) (N := 4) hx hb hts (by decide +kernel) hown hK hP 0 rfl rfl 2 (by decide) (hts (.fieldLink RX1 13 "OrderLineModel" "many" "I") (by decide +kernel)) (fun _ h9 => h9) rfl dX1_next_34 ?_
        refine lv_icmp_lt (tgt := 44) hx hb dX1_next_37 (by decide) (fun c_37 => ?_) (fun c_37 => ?_)
        · have hc := ol_lt hjlt (by omega) (hj ▸ c_37)
          have hr0 : r = nI (L j) := hps.1 j hc hj
          refine lv_aload_n hx hb dX1_next_44 rfl (lv_at hl 1 rfl) ?_
          refine va_get (D := (dC, dI)) (ci := 1) (v := .ref a) (C := RX1) (T := TX1) (N := 4) hx hb hts (by decide +kernel) hown hK hP 0 rfl rfl 1 (by decide) (hts (.fieldLink RX1 7 "OrderLineModel" "line" "[I") (by decide +kernel)) (fun _ h9 => h9) rfl dX1_next_45 ?_
          refine lv_iload_n hx hb dX1_next_48 rfl (lv_at hl 0 rfl) ?_
          refine ow_top (z := nI j) hj ?_
          refine ow_iald (k := j) (v := nI (L j)) hx hb hK hP 1 0 rfl rfl (by omega) (by decide) (hf j hc) dX1_next_49 ?_
          exact W.iret (v := (nI (L j))) hx hb hr (fun t ht hW => ⟨⟨(nI (L j)), (tt, nI N, f, as), rfl, ⟨hr0.symm, rfl, by rw [hN0], by rw [hN0, hL0]; exact hf⟩, by rw [ht]; exact hP, hD⟩, hS.F ht⟩) hS.2.2 dX1_next_50
        · have hc := ol_nlt hjlt (by omega) (hj ▸ c_37)
          have hr0 : r = -1 := hps.2 (fun q9 hq9 e9 => by have := ol_eq hjlt (by omega) (hj.symm.trans e9); omega)
          refine lv_iconst (v := (-1)) hx hb dX1_next_40 (by decide +kernel) ?_
          refine lv_goto (tgt := 50) hx hb dX1_next_41 (by decide) ?_
          exact W.iret (v := ((-1))) hx hb hr (fun t ht hW => ⟨⟨((-1)), (tt, nI N, f, as), rfl, ⟨hr0.symm, rfl, by rw [hN0], by rw [hN0, hL0]; exact hf⟩, by rw [ht]; exact hP, hD⟩, hS.F ht⟩) hS.2.2 dX1_next_50
    · rw [if_neg c_18] at hps
      refine lv_iconst (v := 1) hx hb dX1_next_21 (by decide +kernel) ?_
      refine lv_goto (tgt := 26) hx hb dX1_next_22 (by decide) ?_
      refine lv_iadd hx hb dX1_next_26 ?_
      refine ow_top (z := nI (p + 1)) (nI_1 p) ?_
      rw [nI_1] at hps
      have hk : nI (p + 1) = nI (p + 1) := rfl
      refine lv_istore_n (lv' := [(3, .int (nI (p + 1))), (0, .ref h), (1, .int x), (2, .int z)]) hx hb dX1_next_27 rfl hl (by decide) rfl (fun ls hl => ?_)
      refine lv_iload_n hx hb dX1_next_28 rfl (lv_at hl 0 rfl) ?_
      refine lv_if_lt (tgt := 40) hx hb dX1_next_29 (by decide) (fun c_29 => absurd c_29 (nI_pos (by omega))) (fun c_29 => ?_)
      obtain ⟨j, hj, hjlt⟩ : ∃ j, nI (p + 1) = nI j ∧ j < 2 ^ 31 := ⟨p + 1, rfl, by omega⟩
      refine lv_iload_n hx hb dX1_next_32 rfl (lv_at hl 0 rfl) ?_
      refine lv_aload_n hx hb dX1_next_33 rfl (lv_at hl 1 rfl) ?_
      refine va_get (D := (dC, dI)) (ci := 1) (v := .int (nI N)) (C := RX1) (T := TX1) (N := 4) hx hb hts (by decide +kernel) hown hK hP 0 rfl rfl 2 (by decide) (hts (.fieldLink RX1 13 "OrderLineModel" "many" "I") (by decide +kernel)) (fun _ h9 => h9) rfl dX1_next_34 ?_
      refine lv_icmp_lt (tgt := 44) hx hb dX1_next_37 (by decide) (fun c_37 => ?_) (fun c_37 => ?_)
      · have hc := ol_lt hjlt (by omega) (hj ▸ c_37)
        have hr0 : r = nI (L j) := hps.1 j hc hj
        refine lv_aload_n hx hb dX1_next_44 rfl (lv_at hl 1 rfl) ?_
        refine va_get (D := (dC, dI)) (ci := 1) (v := .ref a) (C := RX1) (T := TX1) (N := 4) hx hb hts (by decide +kernel) hown hK hP 0 rfl rfl 1 (by decide) (hts (.fieldLink RX1 7 "OrderLineModel" "line" "[I") (by decide +kernel)) (fun _ h9 => h9) rfl dX1_next_45 ?_
        refine lv_iload_n hx hb dX1_next_48 rfl (lv_at hl 0 rfl) ?_
        refine ow_top (z := nI j) hj ?_
        refine ow_iald (k := j) (v := nI (L j)) hx hb hK hP 1 0 rfl rfl (by omega) (by decide) (hf j hc) dX1_next_49 ?_
        exact W.iret (v := (nI (L j))) hx hb hr (fun t ht hW => ⟨⟨(nI (L j)), (tt, nI N, f, as), rfl, ⟨hr0.symm, rfl, by rw [hN0], by rw [hN0, hL0]; exact hf⟩, by rw [ht]; exact hP, hD⟩, hS.F ht⟩) hS.2.2 dX1_next_50
      · have hc := ol_nlt hjlt (by omega) (hj ▸ c_37)
        have hr0 : r = -1 := hps.2 (fun q9 hq9 e9 => by have := ol_eq hjlt (by omega) (hj.symm.trans e9); omega)
        refine lv_iconst (v := (-1)) hx hb dX1_next_40 (by decide +kernel) ?_
        refine lv_goto (tgt := 50) hx hb dX1_next_41 (by decide) ?_
        exact W.iret (v := ((-1))) hx hb hr (fun t ht hW => ⟨⟨((-1)), (tt, nI N, f, as), rfl, ⟨hr0.symm, rfl, by rw [hN0], by rw [hN0, hL0]; exact hf⟩, by rw [ht]; exact hP, hD⟩, hS.F ht⟩) hS.2.2 dX1_next_50
  · obtain ⟨hr0, hN0, hL0⟩ : r = 0 ∧ N' = N ∧ L' = L := by
      rcases hsp with ⟨_, _, e9⟩ | ⟨e9, _⟩
      · exact e9
      · exact absurd e9 c_7
    refine lv_iconst (v := 0) hx hb dX1_next_10 (by decide +kernel) ?_
    exact W.iret (v := 0) hx hb hr (fun t ht hW => ⟨⟨0, (tt, nI N, f, as), rfl, ⟨hr0.symm, rfl, by rw [hN0], by rw [hN0, hL0]; exact hf⟩, by rw [ht]; exact hP, hD⟩, hS.F ht⟩) hS.2.2 dX1_next_11
set_option maxHeartbeats 4000000 in
set_option maxRecDepth 100000 in
/-- remove(x) -/
theorem c_M_remove (l : Launch) (dC : Nat → ClassId) (dI : Nat → Nat → Nat) (h a b : Nat) (cA cB : ClassId) (th : Int32) (N : Nat) (L : Nat → Nat) (f as : Nat → Int32) (r : Int32) (N' : Nat) (L' : Nat → Nat) (sz : Nat) (ok : ol_ok N L) (hf : ol_f N L f) (x : Int32) (hsp : sp_rm N L x r N' L') : Met l yX1_remove wsX1_remove ({ frames := 1, cells := 0, slots := 0, locals := 22 }) (ow_Pc (dC, dI) vwCl [(cA, .int), (cB, .int)] (wM h a b cA cB (th, nI N, f, as)) sz [.ref h, .int x]) (va_Qi (fun (r' : Int32) (u : Int32 × Int32 × (Nat → Int32) × (Nat → Int32)) => r' = r ∧ u.1 = 0 ∧ u.2.1 = nI N' ∧ ol_f N' L' u.2.2.1) (ow_B (dC, dI) vwCl (wM h a b cA cB) (va_A (wM h a b cA cB (th, nI N, f, as)) sz)) (va_A (wM h a b cA cB (th, nI N, f, as)) sz)) 0 0 (va_A (wM h a b cA cB (th, nI N, f, as)) sz) := by
  refine Met.ofW (cc := cX1_remove) (maxL := 3) (ret := (some .boolean)) (by decide) rfl ?_
  intro pg ev s m args below meth cd s₁ B hml hv
  obtain ⟨rfl, hsz, hP, hK, hD0⟩ := hv
  have hx := B.exec
  have hb := B.bytes
  have hr := B.returns
  have hts := atoms_spec (ws := wsX1_remove) B.pre
  have hown : s.vm.findClass RX1 = some m.cls := findClass_of_methodNamed B.named
  have hlocks := B.notSynchronized
  subst hsz
  have hD := hD0.self (sz := s.heap.size)
  generalize hAe : va_A (wM h a b cA cB (th, nI N, f, as)) s.heap.size = A at hD ⊢
  have hA : ∀ q : Nat, s.heap.size ≤ q → A q := fun q h => by rw [← hAe]; exact Or.inr h
  have hS : va_S A s.heap s.heap [] := va_S.rf
  have hD : va_D A [(h, .inr (1, [.int th, .ref a, .int (nI N), .ref b])), (a, .inl (cA, 1000, .inl f)), (b, .inl (cB, 1000, .inl as))] := hD
  have hP : va_P (dC, dI) vwCl [(h, .inr (1, [.int th, .ref a, .int (nI N), .ref b])), (a, .inl (cA, 1000, .inl f)), (b, .inl (cB, 1000, .inl as))] s.heap := hP
  have hl := lv_entry ([.ref h, .int x]) (n := 3) (Nat.le_of_ble_eq_true rfl)
  rw [lg_entry_eq]
  generalize (lg_sl ([.ref h, .int x]) ++ List.replicate (3 - (lg_sl ([.ref h, .int x])).length) Slot.unset).toArray = ls at hl ⊢
  have hl : lv_has ls 3 [(0, .ref h), (1, .int x)] := hl
  have hN := ok.2.1
  refine lv_aload_n hx hb dX1_remove_0 rfl (lv_at hl 0 rfl) ?_
  refine lv_iconst (v := 0) hx hb dX1_remove_1 (by decide +kernel) ?_
  refine va_put (D := (dC, dI)) (ci := 1) (v := .int 0) (ty := (.int)) (C := RX1) (T := TX1) (N := 4) hx hb hts (by decide +kernel) tyX1 tyX1_ok nmX1 hown hK hP hD hS 0 rfl rfl 0 (by decide) (hts (.fieldLink RX1 20 "OrderLineModel" "thrown" "I") (by decide +kernel)) (fun _ h9 => h9) rfl (by decide +kernel) rfl rfl (Nat.le_of_ble_eq_true rfl) dX1_remove_2 (fun H locs hP hD hS => ?_)
  have hP : va_P (dC, dI) vwCl [(h, .inr (1, [.int 0, .ref a, .int (nI N), .ref b])), (a, .inl (cA, 1000, .inl f)), (b, .inl (cB, 1000, .inl as))] H := hP
  have hD : va_D A [(h, .inr (1, [.int 0, .ref a, .int (nI N), .ref b])), (a, .inl (cA, 1000, .inl f)), (b, .inl (cB, 1000, .inl as))] := hD
  refine lv_aload_n hx hb dX1_remove_5 rfl (lv_at hl 0 rfl) ?_
  refine lv_iload_n hx hb dX1_remove_6 rfl (lv_at hl 1 rfl) ?_
  obtain ⟨r1, hfd1, hc1⟩ := ol_fd_ex ok x
  refine ow_callR (r := r1) (W.runV (As := [.int x]) (rest := []) ⟨hx, hb, hml, hown, hts⟩ (c_M_find l dC dI h a b cA cB 0 N L f as x r1 ok.2.1 hf hfd1) (cwV 1 hts gX1_remove_X1_find rfl rfl rfl (by decide +kernel) ⟨Nat.le_of_ble_eq_true rfl, Nat.le_of_ble_eq_true rfl⟩) (ow_PreR hK hP (ci := 1) (q0 := 0) rfl rfl) rfl rfl hl.1 rfl (lv_room (Nat.le_of_ble_eq_true rfl)) dX1_remove_7 ⟨Nat.le_of_ble_eq_true rfl, Nat.le_of_ble_eq_true rfl⟩) ?_
  refine lv_istore_n (lv' := [(2, .int r1), (0, .ref h), (1, .int x)]) hx hb dX1_remove_10 rfl hl (by decide) rfl (fun ls hl => ?_)
  refine lv_iload_n hx hb dX1_remove_11 rfl (lv_at hl 0 rfl) ?_
  refine lv_iconst (v := 1) hx hb dX1_remove_12 (by decide +kernel) ?_
  refine lv_icmp_ge (tgt := 18) hx hb dX1_remove_13 (by decide) (fun c_13 => ?_) (fun c_13 => ?_)
  · obtain ⟨p, hp, hp1, hr1, hr0, hN0, hL0⟩ : ∃ p, ol_at N L x p ∧ 1 ≤ p ∧ r1 = nI p ∧ r = 1 ∧ N' = N - 1 ∧ L' = ol_rem L p 1 := by
      rcases hc1 with ⟨p, hp, e9⟩ | ⟨_, e9⟩
      · have hpN := hp.1
        have h9 : 1 ≤ p := ol_le (by omega) (by omega) (show nI 1 ≤ nI p from e9 ▸ c_13)
        rcases hsp with ⟨q, hq, h1, h2⟩ | ⟨h1 | h1, _⟩
        · exact ⟨p, hp, h9, e9, by rw [ol_at_un ok hp hq]; exact h2⟩
        · exact (ol_at_no hp h1).elim
        · have := ol_at_un ok hp h1; omega
      · exact absurd c_13 (by rw [e9]; decide)
    have hpN := hp.1
    refine lv_aload_n hx hb dX1_remove_18 rfl (lv_at hl 1 rfl) ?_
    refine lv_iload_n hx hb dX1_remove_19 rfl (lv_at hl 0 rfl) ?_
    refine ow_top (z := nI p) hr1 ?_
    refine ow_callv (wr := []) (va_runV (As := [.int (nI p)]) (rest := []) ⟨hx, hb, hml, hown, hts⟩ (c_M_drop l dC dI h a b cA cB 0 N L f as p _ hf hN hpN) (cwV 1 hts gX1_remove_X1_drop rfl rfl rfl (by decide +kernel) ⟨Nat.le_of_ble_eq_true rfl, Nat.le_of_ble_eq_true rfl⟩) (ow_PreV hK hP hD (ci := 1) (q0 := 0) rfl rfl) rfl rfl hl.1 rfl (lv_room (Nat.le_of_ble_eq_true rfl)) dX1_remove_20 ⟨Nat.le_of_ble_eq_true rfl, Nat.le_of_ble_eq_true rfl⟩) hP hD hS hA [0, 1, 2] [] rfl rfl (by decide) (by decide) (fun u H locs hw hP hD hS => ?_)
    obtain ⟨u1, u2, u3, u4⟩ := u
    obtain ⟨e1, e2, hf2, e4⟩ := hw
    obtain rfl : 0 = u1 := e1.symm
    obtain rfl : nI (N - 1) = u2 := e2.symm
    obtain rfl : as = u4 := e4.symm
    have hP : va_P (dC, dI) vwCl [(h, .inr (1, [.int 0, .ref a, .int (nI (N - 1)), .ref b])), (a, .inl (cA, 1000, .inl u3)), (b, .inl (cB, 1000, .inl as))] H := hP
    have hD : va_D A [(h, .inr (1, [.int 0, .ref a, .int (nI (N - 1)), .ref b])), (a, .inl (cA, 1000, .inl u3)), (b, .inl (cB, 1000, .inl as))] := hD
    refine lv_iconst (v := 1) hx hb dX1_remove_23 (by decide +kernel) ?_
    exact W.zret (v := 1) hx hb hr narrow_b1 (fun t ht hW => ⟨⟨1, (0, nI (N - 1), u3, as), rfl, ⟨hr0.symm, rfl, by rw [hN0], by rw [hN0, hL0]; exact hf2⟩, by rw [ht]; exact hP, hD⟩, hS.F ht⟩) hS.2.2 dX1_remove_24
  · obtain ⟨hr0, hN0, hL0⟩ : r = 0 ∧ N' = N ∧ L' = L := by
      rcases hsp with ⟨q, hq, h1, _⟩ | ⟨_, h2⟩
      · have hqN := hq.1
        exact absurd (show nI 1 ≤ r1 by rw [hfd1.1 q hq]; exact nI_le h1 (by omega)) c_13
      · exact h2
    refine lv_iconst (v := 0) hx hb dX1_remove_16 (by decide +kernel) ?_
    exact W.zret (v := 0) hx hb hr narrow_b0 (fun t ht hW => ⟨⟨0, (0, nI N, f, as), rfl, ⟨hr0.symm, rfl, by rw [hN0], by rw [hN0, hL0]; exact hf⟩, by rw [ht]; exact hP, hD⟩, hS.F ht⟩) hS.2.2 dX1_remove_17
set_option maxHeartbeats 4000000 in
set_option maxRecDepth 100000 in
/-- wipe() -/
theorem c_M_wipe (l : Launch) (dC : Nat → ClassId) (dI : Nat → Nat → Nat) (h a b : Nat) (cA cB : ClassId) (th : Int32) (N : Nat) (L : Nat → Nat) (f as : Nat → Int32) (sz : Nat) (ok : ol_ok N L) (hf : ol_f N L f) : Met l yX1_wipe wsX1_wipe ({ frames := 0, cells := 0, slots := 0, locals := 0 }) (ow_Pc (dC, dI) vwCl [(cA, .int), (cB, .int)] (wM h a b cA cB (th, nI N, f, as)) sz [.ref h]) (va_Qv (fun u : Int32 × Int32 × (Nat → Int32) × (Nat → Int32) => u.1 = 0 ∧ u.2.1 = nI 1 ∧ ol_f 1 L u.2.2.1) (ow_B (dC, dI) vwCl (wM h a b cA cB) (va_A (wM h a b cA cB (th, nI N, f, as)) sz)) (va_A (wM h a b cA cB (th, nI N, f, as)) sz)) 0 0 (va_A (wM h a b cA cB (th, nI N, f, as)) sz) := by
  refine Met.ofW (cc := cX1_wipe) (maxL := 1) (ret := none) (by decide) rfl ?_
  intro pg ev s m args below meth cd s₁ B hml hv
  obtain ⟨rfl, hsz, hP, hK, hD0⟩ := hv
  have hx := B.exec
  have hb := B.bytes
  have hr := B.returns
  have hts := atoms_spec (ws := wsX1_wipe) B.pre
  have hown : s.vm.findClass RX1 = some m.cls := findClass_of_methodNamed B.named
  have hlocks := B.notSynchronized
  subst hsz
  have hD := hD0.self (sz := s.heap.size)
  generalize hAe : va_A (wM h a b cA cB (th, nI N, f, as)) s.heap.size = A at hD ⊢
  have hA : ∀ q : Nat, s.heap.size ≤ q → A q := fun q h => by rw [← hAe]; exact Or.inr h
  have hS : va_S A s.heap s.heap [] := va_S.rf
  have hD : va_D A [(h, .inr (1, [.int th, .ref a, .int (nI N), .ref b])), (a, .inl (cA, 1000, .inl f)), (b, .inl (cB, 1000, .inl as))] := hD
  have hP : va_P (dC, dI) vwCl [(h, .inr (1, [.int th, .ref a, .int (nI N), .ref b])), (a, .inl (cA, 1000, .inl f)), (b, .inl (cB, 1000, .inl as))] s.heap := hP
  have hl := lv_entry ([.ref h]) (n := 1) (Nat.le_of_ble_eq_true rfl)
  rw [lg_entry_eq]
  generalize (lg_sl ([.ref h]) ++ List.replicate (1 - (lg_sl ([.ref h])).length) Slot.unset).toArray = ls at hl ⊢
  have hl : lv_has ls 1 [(0, .ref h)] := hl
  refine lv_aload_n hx hb dX1_wipe_0 rfl (lv_at hl 0 rfl) ?_
  refine lv_iconst (v := 0) hx hb dX1_wipe_1 (by decide +kernel) ?_
  refine va_put (D := (dC, dI)) (ci := 1) (v := .int 0) (ty := (.int)) (C := RX1) (T := TX1) (N := 4) hx hb hts (by decide +kernel) tyX1 tyX1_ok nmX1 hown hK hP hD hS 0 rfl rfl 0 (by decide) (hts (.fieldLink RX1 20 "OrderLineModel" "thrown" "I") (by decide +kernel)) (fun _ h9 => h9) rfl (by decide +kernel) rfl rfl (Nat.le_of_ble_eq_true rfl) dX1_wipe_2 (fun H locs hP hD hS => ?_)
  have hP : va_P (dC, dI) vwCl [(h, .inr (1, [.int 0, .ref a, .int (nI N), .ref b])), (a, .inl (cA, 1000, .inl f)), (b, .inl (cB, 1000, .inl as))] H := hP
  have hD : va_D A [(h, .inr (1, [.int 0, .ref a, .int (nI N), .ref b])), (a, .inl (cA, 1000, .inl f)), (b, .inl (cB, 1000, .inl as))] := hD
  refine lv_aload_n hx hb dX1_wipe_5 rfl (lv_at hl 0 rfl) ?_
  refine lv_iconst (v := nI 1) hx hb dX1_wipe_6 (by decide +kernel) ?_
  refine va_put (D := (dC, dI)) (ci := 1) (v := .int (nI 1)) (ty := (.int)) (C := RX1) (T := TX1) (N := 4) hx hb hts (by decide +kernel) tyX1 tyX1_ok nmX1 hown hK hP hD hS 0 rfl rfl 2 (by decide) (hts (.fieldLink RX1 13 "OrderLineModel" "many" "I") (by decide +kernel)) (fun _ h9 => h9) rfl (by decide +kernel) rfl rfl (Nat.le_of_ble_eq_true rfl) dX1_wipe_7 (fun H locs hP hD hS => ?_)
  have hP : va_P (dC, dI) vwCl [(h, .inr (1, [.int 0, .ref a, .int (nI 1), .ref b])), (a, .inl (cA, 1000, .inl f)), (b, .inl (cB, 1000, .inl as))] H := hP
  have hD : va_D A [(h, .inr (1, [.int 0, .ref a, .int (nI 1), .ref b])), (a, .inl (cA, 1000, .inl f)), (b, .inl (cB, 1000, .inl as))] := hD
  refine lv_aload_n hx hb dX1_wipe_10 rfl (lv_at hl 0 rfl) ?_
  refine va_get (D := (dC, dI)) (ci := 1) (v := .ref a) (C := RX1) (T := TX1) (N := 4) hx hb hts (by decide +kernel) hown hK hP 0 rfl rfl 1 (by decide) (hts (.fieldLink RX1 7 "OrderLineModel" "line" "[I") (by decide +kernel)) (fun _ h9 => h9) rfl dX1_wipe_11 ?_
  refine lv_iconst (v := nI 0) hx hb dX1_wipe_14 (by decide +kernel) ?_
  refine lv_iconst (v := nI 0) hx hb dX1_wipe_15 (by decide +kernel) ?_
  refine ow_iast (k := 0) hx hb hK hP hD hS 1 0 rfl rfl (by decide) (by decide) dX1_wipe_16 (fun H locs hP hD hS => ?_)
  have hP : va_P (dC, dI) vwCl [(h, .inr (1, [.int 0, .ref a, .int (nI 1), .ref b])), (a, .inl (cA, 1000, .inl (upd f 0 ((nI 0))))), (b, .inl (cB, 1000, .inl as))] H := hP
  have hD : va_D A [(h, .inr (1, [.int 0, .ref a, .int (nI 1), .ref b])), (a, .inl (cA, 1000, .inl (upd f 0 ((nI 0))))), (b, .inl (cB, 1000, .inl as))] := hD
  have hpost : ol_f 1 L (upd f 0 (nI 0)) := fun p hp => by rw [show p = 0 by omega, ok.2.2.1]; exact pk_us
  exact W.vret hx hb hr (fun t ht hW => ⟨⟨(0, nI 1, upd f 0 (nI 0), as), rfl, ⟨rfl, rfl, hpost⟩, by rw [ht]; exact hP, hD⟩, hS.F ht⟩) hS.2.2 dX1_wipe_17
set_option maxHeartbeats 4000000 in
set_option maxRecDepth 100000 in
/-- look(x) -/
theorem c_M_look (l : Launch) (dC : Nat → ClassId) (dI : Nat → Nat → Nat) (h a b : Nat) (cA cB : ClassId) (th : Int32) (N : Nat) (L : Nat → Nat) (f as : Nat → Int32) (sz : Nat) (ok : ol_ok N L) (hf : ol_f N L f) (x : Int32) : Met l yX1_look wsX1_look ({ frames := 2, cells := 0, slots := 0, locals := 43 }) (ow_Pc (dC, dI) vwCl [(cA, .int), (cB, .int)] (wM h a b cA cB (th, nI N, f, as)) sz [.ref h, .int x]) (va_Qi (fun (r' : Int32) (u : Int32 × Int32 × (Nat → Int32) × (Nat → Int32)) => r' = ol_lk N L x ∧ u = (0, nI N, f, as)) (ow_B (dC, dI) vwCl (wM h a b cA cB) (va_A (wM h a b cA cB (th, nI N, f, as)) sz)) (va_A (wM h a b cA cB (th, nI N, f, as)) sz)) 0 0 (va_A (wM h a b cA cB (th, nI N, f, as)) sz) := by
  refine Met.ofW (cc := cX1_look) (maxL := 2) (ret := (some .int)) (by decide) rfl ?_
  intro pg ev s m args below meth cd s₁ B hml hv
  obtain ⟨rfl, hsz, hP, hK, hD0⟩ := hv
  have hx := B.exec
  have hb := B.bytes
  have hr := B.returns
  have hts := atoms_spec (ws := wsX1_look) B.pre
  have hown : s.vm.findClass RX1 = some m.cls := findClass_of_methodNamed B.named
  have hlocks := B.notSynchronized
  subst hsz
  have hD := hD0.self (sz := s.heap.size)
  generalize hAe : va_A (wM h a b cA cB (th, nI N, f, as)) s.heap.size = A at hD ⊢
  have hA : ∀ q : Nat, s.heap.size ≤ q → A q := fun q h => by rw [← hAe]; exact Or.inr h
  have hS : va_S A s.heap s.heap [] := va_S.rf
  have hD : va_D A [(h, .inr (1, [.int th, .ref a, .int (nI N), .ref b])), (a, .inl (cA, 1000, .inl f)), (b, .inl (cB, 1000, .inl as))] := hD
  have hP : va_P (dC, dI) vwCl [(h, .inr (1, [.int th, .ref a, .int (nI N), .ref b])), (a, .inl (cA, 1000, .inl f)), (b, .inl (cB, 1000, .inl as))] s.heap := hP
  have hl := lv_entry ([.ref h, .int x]) (n := 2) (Nat.le_of_ble_eq_true rfl)
  rw [lg_entry_eq]
  generalize (lg_sl ([.ref h, .int x]) ++ List.replicate (2 - (lg_sl ([.ref h, .int x])).length) Slot.unset).toArray = ls at hl ⊢
  have hl : lv_has ls 2 [(0, .ref h), (1, .int x)] := hl
  have h1N := ok.1
  have hN := ok.2.1
  refine lv_aload_n hx hb dX1_look_0 rfl (lv_at hl 0 rfl) ?_
  refine lv_iconst (v := 0) hx hb dX1_look_1 (by decide +kernel) ?_
  refine va_put (D := (dC, dI)) (ci := 1) (v := .int 0) (ty := (.int)) (C := RX1) (T := TX1) (N := 4) hx hb hts (by decide +kernel) tyX1 tyX1_ok nmX1 hown hK hP hD hS 0 rfl rfl 0 (by decide) (hts (.fieldLink RX1 20 "OrderLineModel" "thrown" "I") (by decide +kernel)) (fun _ h9 => h9) rfl (by decide +kernel) rfl rfl (Nat.le_of_ble_eq_true rfl) dX1_look_2 (fun H locs hP hD hS => ?_)
  have hP : va_P (dC, dI) vwCl [(h, .inr (1, [.int 0, .ref a, .int (nI N), .ref b])), (a, .inl (cA, 1000, .inl f)), (b, .inl (cB, 1000, .inl as))] H := hP
  have hD : va_D A [(h, .inr (1, [.int 0, .ref a, .int (nI N), .ref b])), (a, .inl (cA, 1000, .inl f)), (b, .inl (cB, 1000, .inl as))] := hD
  refine lv_iload_n hx hb dX1_look_5 rfl (lv_at hl 1 rfl) ?_
  refine lv_if_ne (tgt := 16) hx hb dX1_look_6 (by decide) (fun c_6 => ?_) (fun c_6 => ?_)
  · refine lv_iload_n hx hb dX1_look_16 rfl (lv_at hl 1 rfl) ?_
    refine lv_iconst (v := 1) hx hb dX1_look_17 (by decide +kernel) ?_
    refine lv_icmp_ne (tgt := 35) hx hb dX1_look_18 (by decide) (fun c_18 => ?_) (fun c_18 => ?_)
    · refine lv_iload_n hx hb dX1_look_35 rfl (lv_at hl 1 rfl) ?_
      refine lv_iconst (v := 2) hx hb dX1_look_36 (by decide +kernel) ?_
      refine lv_icmp_ne (tgt := 47) hx hb dX1_look_37 (by decide) (fun c_37 => ?_) (fun c_37 => ?_)
      · have hr0 : -1 = ol_lk N L x := by unfold ol_lk; rw [if_neg c_6, if_neg c_18, if_neg c_37]
        refine lv_iconst (v := (-1)) hx hb dX1_look_47 (by decide +kernel) ?_
        exact W.iret (v := ((-1))) hx hb hr (fun t ht hW => ⟨⟨((-1)), (0, nI N, f, as), rfl, ⟨hr0, rfl⟩, by rw [ht]; exact hP, hD⟩, hS.F ht⟩) hS.2.2 dX1_look_48
      · have hr0 : ol_fi N L = ol_lk N L x := by unfold ol_lk; rw [if_neg c_6, if_neg c_18, if_pos c_37]
        refine lv_aload_n hx hb dX1_look_40 rfl (lv_at hl 0 rfl) ?_
        refine ow_callR (r := ol_fi N L) (W.runV (As := []) (rest := []) ⟨hx, hb, hml, hown, hts⟩ (c_M_free l dC dI h a b cA cB 0 N L f as ok hf) (cwV 0 hts gX1_look_X1_free rfl rfl rfl (by decide +kernel) ⟨Nat.le_of_ble_eq_true rfl, Nat.le_of_ble_eq_true rfl⟩) (ow_PreR hK hP (ci := 1) (q0 := 0) rfl rfl) rfl rfl hl.1 rfl (lv_room (Nat.le_of_ble_eq_true rfl)) dX1_look_41 ⟨Nat.le_of_ble_eq_true rfl, Nat.le_of_ble_eq_true rfl⟩) ?_
        refine lv_goto (tgt := 48) hx hb dX1_look_44 (by decide) ?_
        exact W.iret (v := (ol_fi N L)) hx hb hr (fun t ht hW => ⟨⟨(ol_fi N L), (0, nI N, f, as), rfl, ⟨hr0, rfl⟩, by rw [ht]; exact hP, hD⟩, hS.F ht⟩) hS.2.2 dX1_look_48
    · have hr0 : nI (L (N - 1)) = ol_lk N L x := by unfold ol_lk; rw [if_neg c_6, if_pos c_18]
      refine lv_aload_n hx hb dX1_look_21 rfl (lv_at hl 0 rfl) ?_
      refine va_get (D := (dC, dI)) (ci := 1) (v := .ref a) (C := RX1) (T := TX1) (N := 4) hx hb hts (by decide +kernel) hown hK hP 0 rfl rfl 1 (by decide) (hts (.fieldLink RX1 7 "OrderLineModel" "line" "[I") (by decide +kernel)) (fun _ h9 => h9) rfl dX1_look_22 ?_
      refine lv_aload_n hx hb dX1_look_25 rfl (lv_at hl 0 rfl) ?_
      refine va_get (D := (dC, dI)) (ci := 1) (v := .int (nI N)) (C := RX1) (T := TX1) (N := 4) hx hb hts (by decide +kernel) hown hK hP 0 rfl rfl 2 (by decide) (hts (.fieldLink RX1 13 "OrderLineModel" "many" "I") (by decide +kernel)) (fun _ h9 => h9) rfl dX1_look_26 ?_
      refine lv_iconst (v := 1) hx hb dX1_look_29 (by decide +kernel) ?_
      refine lv_isub hx hb dX1_look_30 ?_
      refine ow_top (z := nI (N - 1)) (nI_m1 h1N) ?_
      refine ow_iald (k := N - 1) (v := nI (L (N - 1))) hx hb hK hP 1 0 rfl rfl (by omega) (by decide) (hf (N - 1) (by omega)) dX1_look_31 ?_
      refine lv_goto (tgt := 48) hx hb dX1_look_32 (by decide) ?_
      exact W.iret (v := (nI (L (N - 1)))) hx hb hr (fun t ht hW => ⟨⟨(nI (L (N - 1))), (0, nI N, f, as), rfl, ⟨hr0, rfl⟩, by rw [ht]; exact hP, hD⟩, hS.F ht⟩) hS.2.2 dX1_look_48
  · have hr0 : nI N = ol_lk N L x := by unfold ol_lk; rw [if_pos c_6]
    refine lv_aload_n hx hb dX1_look_9 rfl (lv_at hl 0 rfl) ?_
    refine va_get (D := (dC, dI)) (ci := 1) (v := .int (nI N)) (C := RX1) (T := TX1) (N := 4) hx hb hts (by decide +kernel) hown hK hP 0 rfl rfl 2 (by decide) (hts (.fieldLink RX1 13 "OrderLineModel" "many" "I") (by decide +kernel)) (fun _ h9 => h9) rfl dX1_look_10 ?_
    refine lv_goto (tgt := 48) hx hb dX1_look_13 (by decide) ?_
    exact W.iret (v := (nI N)) hx hb hr (fun t ht hW => ⟨⟨(nI N), (0, nI N, f, as), rfl, ⟨hr0, rfl⟩, by rw [ht]; exact hP, hD⟩, hS.F ht⟩) hS.2.2 dX1_look_48
set_option maxHeartbeats 4000000 in
set_option maxRecDepth 100000 in
/-- greatest(x, y) -/
theorem c_M_greatest (l : Launch) (dC : Nat → ClassId) (dI : Nat → Nat → Nat) (h a b : Nat) (cA cB : ClassId) (th : Int32) (N : Nat) (L : Nat → Nat) (f as : Nat → Int32) (tt r : Int32) (N' : Nat) (L' : Nat → Nat) (sz : Nat) (ok : ol_ok N L) (hf : ol_f N L f) (x y : Int32) (hsp : ((ol_no N L x ∨ ol_no N L y) ∧ tt = 1 ∧ r = 0 ∧ N' = N ∧ L' = L) ∨ (tt = 0 ∧ ∃ p q, ol_at N L x p ∧ ol_at N L y q ∧ r = ol_top L p (q + 1 - p) ∧ N' = N ∧ L' = L)) : Met l yX1_greatest wsX1_greatest ({ frames := 2, cells := 0, slots := 0, locals := 45 }) (ow_Pc (dC, dI) vwCl [(cA, .int), (cB, .int)] (wM h a b cA cB (th, nI N, f, as)) sz [.ref h, .int x, .int y]) (va_Qi (fun (r' : Int32) (u : Int32 × Int32 × (Nat → Int32) × (Nat → Int32)) => r' = r ∧ u.1 = tt ∧ u.2.1 = nI N' ∧ ol_f N' L' u.2.2.1) (ow_B (dC, dI) vwCl (wM h a b cA cB) (va_A (wM h a b cA cB (th, nI N, f, as)) sz)) (va_A (wM h a b cA cB (th, nI N, f, as)) sz)) 0 0 (va_A (wM h a b cA cB (th, nI N, f, as)) sz) := by
  refine Met.ofW (cc := cX1_greatest) (maxL := 5) (ret := (some .int)) (by decide) rfl ?_
  intro pg ev s m args below meth cd s₁ B hml hv
  obtain ⟨rfl, hsz, hP, hK, hD0⟩ := hv
  have hx := B.exec
  have hb := B.bytes
  have hr := B.returns
  have hts := atoms_spec (ws := wsX1_greatest) B.pre
  have hown : s.vm.findClass RX1 = some m.cls := findClass_of_methodNamed B.named
  have hlocks := B.notSynchronized
  subst hsz
  have hD := hD0.self (sz := s.heap.size)
  generalize hAe : va_A (wM h a b cA cB (th, nI N, f, as)) s.heap.size = A at hD ⊢
  have hA : ∀ q : Nat, s.heap.size ≤ q → A q := fun q h => by rw [← hAe]; exact Or.inr h
  have hS : va_S A s.heap s.heap [] := va_S.rf
  have hD : va_D A [(h, .inr (1, [.int th, .ref a, .int (nI N), .ref b])), (a, .inl (cA, 1000, .inl f)), (b, .inl (cB, 1000, .inl as))] := hD
  have hP : va_P (dC, dI) vwCl [(h, .inr (1, [.int th, .ref a, .int (nI N), .ref b])), (a, .inl (cA, 1000, .inl f)), (b, .inl (cB, 1000, .inl as))] s.heap := hP
  have hl := lv_entry ([.ref h, .int x, .int y]) (n := 5) (Nat.le_of_ble_eq_true rfl)
  rw [lg_entry_eq]
  generalize (lg_sl ([.ref h, .int x, .int y]) ++ List.replicate (5 - (lg_sl ([.ref h, .int x, .int y])).length) Slot.unset).toArray = ls at hl ⊢
  have hl : lv_has ls 5 [(0, .ref h), (1, .int x), (2, .int y)] := hl
  have hlc : ol_lc N L x y 0 tt := by
    rcases hsp with ⟨h1, h2, _⟩ | ⟨h2, p, q, h1, h3, _⟩
    · rw [h2]; exact ol_lc_no (h1.elim Or.inl (fun h => Or.inr (Or.inl h)))
    · rw [h2]; exact ol_lc_at h1 h3 (ol_at0 ok)
  refine lv_aload_n hx hb dX1_greatest_0 rfl (lv_at hl 0 rfl) ?_
  refine lv_iload_n hx hb dX1_greatest_1 rfl (lv_at hl 1 rfl) ?_
  refine lv_iload_n hx hb dX1_greatest_2 rfl (lv_at hl 2 rfl) ?_
  refine lv_iconst (v := 0) hx hb dX1_greatest_3 (by decide +kernel) ?_
  refine ow_calli (wr := []) (va_runV (As := [.int x, .int y, .int 0]) (rest := []) ⟨hx, hb, hml, hown, hts⟩ (c_M_lacks l dC dI h a b cA cB th N L f as x y 0 tt _ ok hf hlc) (cwV 3 hts gX1_greatest_X1_lacks rfl rfl rfl (by decide +kernel) ⟨Nat.le_of_ble_eq_true rfl, Nat.le_of_ble_eq_true rfl⟩) (ow_PreV hK hP hD (ci := 1) (q0 := 0) rfl rfl) rfl rfl hl.1 rfl (lv_room (Nat.le_of_ble_eq_true rfl)) dX1_greatest_4 ⟨Nat.le_of_ble_eq_true rfl, Nat.le_of_ble_eq_true rfl⟩) hP hD hS hA [0, 1, 2] [] rfl rfl (by decide) (by decide) (fun r0 u H locs hw hP hD hS => ?_)
  obtain ⟨er, eu⟩ := hw
  subst eu
  refine ow_top (z := tt) er ?_
  have hP : va_P (dC, dI) vwCl [(h, .inr (1, [.int tt, .ref a, .int (nI N), .ref b])), (a, .inl (cA, 1000, .inl f)), (b, .inl (cB, 1000, .inl as))] H := hP
  have hD : va_D A [(h, .inr (1, [.int tt, .ref a, .int (nI N), .ref b])), (a, .inl (cA, 1000, .inl f)), (b, .inl (cB, 1000, .inl as))] := hD
  refine lv_if_eq (tgt := 12) hx hb dX1_greatest_7 (by decide) (fun c_7 => ?_) (fun c_7 => ?_)
  · have hs : ∃ p q, ol_at N L x p ∧ ol_at N L y q ∧ r = ol_top L p (q + 1 - p) ∧ N' = N ∧ L' = L := by
      rcases hsp with ⟨_, e9, _⟩ | ⟨_, h9⟩
      · exact absurd (e9.symm.trans c_7) (by decide)
      · exact h9
    obtain ⟨p, q, hp, hq, hrc, hN0, hL0⟩ := hs
    have hpN : p < N := hp.1
    have hqN : q < N := hq.1
    have hN : N ≤ 1000 := ok.2.1
    refine lv_iconst (v := (-1)) hx hb dX1_greatest_12 (by decide +kernel) ?_
    refine lv_istore_n (lv' := [(3, .int ((-1))), (0, .ref h), (1, .int x), (2, .int y)]) hx hb dX1_greatest_13 rfl hl (by decide) rfl (fun ls hl => ?_)
    refine lv_aload_n hx hb dX1_greatest_14 rfl (lv_at hl 1 rfl) ?_
    refine lv_iload_n hx hb dX1_greatest_15 rfl (lv_at hl 2 rfl) ?_
    refine ow_callR (r := nI p) (W.runV (As := [.int x]) (rest := []) ⟨hx, hb, hml, hown, hts⟩ (c_M_find l dC dI h a b cA cB tt N L f as x (nI p) ok.2.1 hf (ol_fd_at ok hp)) (cwV 1 hts gX1_greatest_X1_find rfl rfl rfl (by decide +kernel) ⟨Nat.le_of_ble_eq_true rfl, Nat.le_of_ble_eq_true rfl⟩) (ow_PreR hK hP (ci := 1) (q0 := 0) rfl rfl) rfl rfl hl.1 rfl (lv_room (Nat.le_of_ble_eq_true rfl)) dX1_greatest_16 ⟨Nat.le_of_ble_eq_true rfl, Nat.le_of_ble_eq_true rfl⟩) ?_
    refine lv_istore (lv' := [(4, .int (nI p)), (3, .int ((-1))), (0, .ref h), (1, .int x), (2, .int y)]) hx hb dX1_greatest_19 hl (by decide) rfl (fun ls hl => ?_)
    have loop : ∀ (k : Nat) (i : Nat), N < p + i + k → p + i ≤ N → i ≤ q + 1 - p → ∀ (H : Heap) (locs : List Loc), va_P (dC, dI) vwCl [(h, .inr (1, [.int tt, .ref a, .int (nI N), .ref b])), (a, .inl (cA, 1000, .inl f)), (b, .inl (cB, 1000, .inl as))] H → va_D A [(h, .inr (1, [.int tt, .ref a, .int (nI N), .ref b])), (a, .inl (cA, 1000, .inl f)), (b, .inl (cB, 1000, .inl as))] → va_S A s.heap H locs → ∀ ls : Array Slot, lv_has ls 5 [(0, .ref h), (1, .int x), (2, .int y), (3, .int (ol_top L p i)), (4, .int (nI (p + i)))] → W pg l ev (headSpec wsX1_greatest ({ frames := 2, cells := 0, slots := 0, locals := 45 })).room s m ([.ref h, .int x, .int y] : List Value).toArray below meth cd H locs 0 0 (MQ below (va_Qi (fun (r' : Int32) (u : Int32 × Int32 × (Nat → Int32) × (Nat → Int32)) => r' = r ∧ u.1 = tt ∧ u.2.1 = nI N' ∧ ol_f N' L' u.2.2.1) (ow_B (dC, dI) vwCl (wM h a b cA cB) A) A) ([.ref h, .int x, .int y] : List Value).toArray s 0 0 A) (F0 m 21 ls []) := by
      intro k
      induction k with
      | zero =>
        intro i h1 h2 h3
        exact absurd h1 (by omega)
      | succ k ih =>
        intro i hk hi hi2 H locs hP hD hS ls hl
        refine lv_iload hx hb dX1_greatest_21 (lv_at hl 4 rfl) ?_
        refine lv_aload_n hx hb dX1_greatest_23 rfl (lv_at hl 0 rfl) ?_
        refine lv_iload_n hx hb dX1_greatest_24 rfl (lv_at hl 2 rfl) ?_
        refine ow_callR (r := nI q) (W.runV (As := [.int y]) (rest := [.int (nI (p + i))]) ⟨hx, hb, hml, hown, hts⟩ (c_M_find l dC dI h a b cA cB tt N L f as y (nI q) ok.2.1 hf (ol_fd_at ok hq)) (cwV 1 hts gX1_greatest_X1_find rfl rfl rfl (by decide +kernel) ⟨Nat.le_of_ble_eq_true rfl, Nat.le_of_ble_eq_true rfl⟩) (ow_PreR hK hP (ci := 1) (q0 := 0) rfl rfl) rfl rfl hl.1 rfl (lv_room (Nat.le_of_ble_eq_true rfl)) dX1_greatest_25 ⟨Nat.le_of_ble_eq_true rfl, Nat.le_of_ble_eq_true rfl⟩) ?_
        refine lv_icmp_gt (tgt := 60) hx hb dX1_greatest_28 (by decide) (fun c_28 => ?_) (fun c_28 => ?_)
        · have hc := ol_lt (by omega) (by omega) c_28
          have hr0 : r = ol_top L p i := by rw [hrc, show q + 1 - p = i by omega]
          refine lv_iload_n hx hb dX1_greatest_60 rfl (lv_at hl 3 rfl) ?_
          exact W.iret (v := (ol_top L p i)) hx hb hr (fun t ht hW => ⟨⟨(ol_top L p i), (tt, nI N, f, as), rfl, ⟨hr0.symm, rfl, by rw [hN0], by rw [hN0, hL0]; exact hf⟩, by rw [ht]; exact hP, hD⟩, hS.F ht⟩) hS.2.2 dX1_greatest_61
        · have hc := ol_nlt (by omega) (by omega) c_28
          refine lv_aload_n hx hb dX1_greatest_31 rfl (lv_at hl 0 rfl) ?_
          refine va_get (D := (dC, dI)) (ci := 1) (v := .ref a) (C := RX1) (T := TX1) (N := 4) hx hb hts (by decide +kernel) hown hK hP 0 rfl rfl 1 (by decide) (hts (.fieldLink RX1 7 "OrderLineModel" "line" "[I") (by decide +kernel)) (fun _ h9 => h9) rfl dX1_greatest_32 ?_
          refine lv_iload hx hb dX1_greatest_35 (lv_at hl 4 rfl) ?_
          refine ow_iald (k := p + i) (v := nI (L (p + i))) hx hb hK hP 1 0 rfl rfl (by omega) (by decide) (hf (p + i) (by omega)) dX1_greatest_37 ?_
          refine lv_iload_n hx hb dX1_greatest_38 rfl (lv_at hl 3 rfl) ?_
          refine lv_icmp_le (tgt := 52) hx hb dX1_greatest_39 (by decide) (fun c_39 => ?_) (fun c_39 => ?_)
          · have hm : ol_top L p (i + 1) = ol_top L p i := if_neg (fun h9 => Int32.not_le.mpr h9 c_39)
            refine lv_iload_n hx hb dX1_greatest_52 rfl (lv_at hl 3 rfl) ?_
            refine ow_top (z := ol_top L p (i + 1)) hm.symm ?_
            refine lv_istore_n (lv' := [(3, .int (ol_top L p (i + 1))), (0, .ref h), (1, .int x), (2, .int y), (4, .int (nI (p + i)))]) hx hb dX1_greatest_53 rfl hl (by decide) rfl (fun ls hl => ?_)
            refine lv_iinc (v := nI (p + (i + 1))) (lv' := [(4, .int (nI (p + (i + 1)))), (3, .int (ol_top L p (i + 1))), (0, .ref h), (1, .int x), (2, .int y)]) hx hb dX1_greatest_54 hl (k := 4) rfl (nI_1 (p + i)) (by decide) rfl (fun ls hl => ?_)
            refine lv_goto (tgt := 21) hx hb dX1_greatest_57 (by decide) ?_
            exact ih (i + 1) (by omega) (by omega) (by omega) H locs hP hD hS ls (lv_sub hl [2, 3, 4, 1, 0] rfl)
          · have hm : ol_top L p (i + 1) = nI (L (p + i)) := if_pos (Int32.not_le.mp c_39)
            refine lv_aload_n hx hb dX1_greatest_42 rfl (lv_at hl 0 rfl) ?_
            refine va_get (D := (dC, dI)) (ci := 1) (v := .ref a) (C := RX1) (T := TX1) (N := 4) hx hb hts (by decide +kernel) hown hK hP 0 rfl rfl 1 (by decide) (hts (.fieldLink RX1 7 "OrderLineModel" "line" "[I") (by decide +kernel)) (fun _ h9 => h9) rfl dX1_greatest_43 ?_
            refine lv_iload hx hb dX1_greatest_46 (lv_at hl 4 rfl) ?_
            refine ow_iald (k := p + i) (v := nI (L (p + i))) hx hb hK hP 1 0 rfl rfl (by omega) (by decide) (hf (p + i) (by omega)) dX1_greatest_48 ?_
            refine lv_goto (tgt := 53) hx hb dX1_greatest_49 (by decide) ?_
            refine ow_top (z := ol_top L p (i + 1)) hm.symm ?_
            refine lv_istore_n (lv' := [(3, .int (ol_top L p (i + 1))), (0, .ref h), (1, .int x), (2, .int y), (4, .int (nI (p + i)))]) hx hb dX1_greatest_53 rfl hl (by decide) rfl (fun ls hl => ?_)
            refine lv_iinc (v := nI (p + (i + 1))) (lv' := [(4, .int (nI (p + (i + 1)))), (3, .int (ol_top L p (i + 1))), (0, .ref h), (1, .int x), (2, .int y)]) hx hb dX1_greatest_54 hl (k := 4) rfl (nI_1 (p + i)) (by decide) rfl (fun ls hl => ?_)
            refine lv_goto (tgt := 21) hx hb dX1_greatest_57 (by decide) ?_
            exact ih (i + 1) (by omega) (by omega) (by omega) H locs hP hD hS ls (lv_sub hl [2, 3, 4, 1, 0] rfl)
    exact loop (N + 2) 0 (by omega) (by omega) (by omega) _ _ hP hD hS ls (lv_sub hl [2, 3, 4, 1, 0] rfl)
  · obtain ⟨hr0, hN0, hL0⟩ : r = 0 ∧ N' = N ∧ L' = L := by
      rcases hsp with ⟨_, _, e9⟩ | ⟨e9, _⟩
      · exact e9
      · exact absurd e9 c_7
    refine lv_iconst (v := 0) hx hb dX1_greatest_10 (by decide +kernel) ?_
    exact W.iret (v := 0) hx hb hr (fun t ht hW => ⟨⟨0, (tt, nI N, f, as), rfl, ⟨hr0.symm, rfl, by rw [hN0], by rw [hN0, hL0]; exact hf⟩, by rw [ht]; exact hP, hD⟩, hS.F ht⟩) hS.2.2 dX1_greatest_11
set_option maxHeartbeats 4000000 in
set_option maxRecDepth 100000 in
/-- several(x, z) -/
theorem c_M_several (l : Launch) (dC : Nat → ClassId) (dI : Nat → Nat → Nat) (h a b : Nat) (cA cB : ClassId) (th : Int32) (N : Nat) (L : Nat → Nat) (f as : Nat → Int32) (tt r : Int32) (N' : Nat) (L' : Nat → Nat) (sz : Nat) (ok : ol_ok N L) (hf : ol_f N L f) (x z : Int32) (hsp : (ol_no N L x ∧ tt = 1 ∧ r = 0 ∧ N' = N ∧ L' = L) ∨ (tt = 0 ∧ ∃ p, ol_at N L x p ∧ sp_sv N L p z r N' L')) : Met l yX1_several wsX1_several ({ frames := 2, cells := 0, slots := 0, locals := 45 }) (ow_Pc (dC, dI) vwCl [(cA, .int), (cB, .int)] (wM h a b cA cB (th, nI N, f, as)) sz [.ref h, .int x, .int z]) (va_Qi (fun (r' : Int32) (u : Int32 × Int32 × (Nat → Int32) × (Nat → Int32)) => r' = r ∧ u.1 = tt ∧ u.2.1 = nI N' ∧ ol_f N' L' u.2.2.1) (ow_B (dC, dI) vwCl (wM h a b cA cB) (va_A (wM h a b cA cB (th, nI N, f, as)) sz)) (va_A (wM h a b cA cB (th, nI N, f, as)) sz)) 0 0 (va_A (wM h a b cA cB (th, nI N, f, as)) sz) := by
  refine Met.ofW (cc := cX1_several) (maxL := 6) (ret := (some .int)) (by decide) rfl ?_
  intro pg ev s m args below meth cd s₁ B hml hv
  obtain ⟨rfl, hsz, hP, hK, hD0⟩ := hv
  have hx := B.exec
  have hb := B.bytes
  have hr := B.returns
  have hts := atoms_spec (ws := wsX1_several) B.pre
  have hown : s.vm.findClass RX1 = some m.cls := findClass_of_methodNamed B.named
  have hlocks := B.notSynchronized
  subst hsz
  have hD := hD0.self (sz := s.heap.size)
  generalize hAe : va_A (wM h a b cA cB (th, nI N, f, as)) s.heap.size = A at hD ⊢
  have hA : ∀ q : Nat, s.heap.size ≤ q → A q := fun q h => by rw [← hAe]; exact Or.inr h
  have hS : va_S A s.heap s.heap [] := va_S.rf
  have hD : va_D A [(h, .inr (1, [.int th, .ref a, .int (nI N), .ref b])), (a, .inl (cA, 1000, .inl f)), (b, .inl (cB, 1000, .inl as))] := hD
  have hP : va_P (dC, dI) vwCl [(h, .inr (1, [.int th, .ref a, .int (nI N), .ref b])), (a, .inl (cA, 1000, .inl f)), (b, .inl (cB, 1000, .inl as))] s.heap := hP
  have hl := lv_entry ([.ref h, .int x, .int z]) (n := 6) (Nat.le_of_ble_eq_true rfl)
  rw [lg_entry_eq]
  generalize (lg_sl ([.ref h, .int x, .int z]) ++ List.replicate (6 - (lg_sl ([.ref h, .int x, .int z])).length) Slot.unset).toArray = ls at hl ⊢
  have hl : lv_has ls 6 [(0, .ref h), (1, .int x), (2, .int z)] := hl
  have hlc : ol_lc N L x 0 0 tt := by
    rcases hsp with ⟨h1, h2, _⟩ | ⟨h2, p, h1, _⟩
    · rw [h2]; exact ol_lc_no (Or.inl h1)
    · rw [h2]; exact ol_lc_at h1 (ol_at0 ok) (ol_at0 ok)
  refine lv_aload_n hx hb dX1_several_0 rfl (lv_at hl 0 rfl) ?_
  refine lv_iload_n hx hb dX1_several_1 rfl (lv_at hl 1 rfl) ?_
  refine lv_iconst (v := 0) hx hb dX1_several_2 (by decide +kernel) ?_
  refine lv_iconst (v := 0) hx hb dX1_several_3 (by decide +kernel) ?_
  refine ow_calli (wr := []) (va_runV (As := [.int x, .int 0, .int 0]) (rest := []) ⟨hx, hb, hml, hown, hts⟩ (c_M_lacks l dC dI h a b cA cB th N L f as x 0 0 tt _ ok hf hlc) (cwV 3 hts gX1_several_X1_lacks rfl rfl rfl (by decide +kernel) ⟨Nat.le_of_ble_eq_true rfl, Nat.le_of_ble_eq_true rfl⟩) (ow_PreV hK hP hD (ci := 1) (q0 := 0) rfl rfl) rfl rfl hl.1 rfl (lv_room (Nat.le_of_ble_eq_true rfl)) dX1_several_4 ⟨Nat.le_of_ble_eq_true rfl, Nat.le_of_ble_eq_true rfl⟩) hP hD hS hA [0, 1, 2] [] rfl rfl (by decide) (by decide) (fun r0 u H locs hw hP hD hS => ?_)
  obtain ⟨er, eu⟩ := hw
  subst eu
  refine ow_top (z := tt) er ?_
  have hP : va_P (dC, dI) vwCl [(h, .inr (1, [.int tt, .ref a, .int (nI N), .ref b])), (a, .inl (cA, 1000, .inl f)), (b, .inl (cB, 1000, .inl as))] H := hP
  have hD : va_D A [(h, .inr (1, [.int tt, .ref a, .int (nI N), .ref b])), (a, .inl (cA, 1000, .inl f)), (b, .inl (cB, 1000, .inl as))] := hD
  refine lv_if_eq (tgt := 12) hx hb dX1_several_7 (by decide) (fun c_7 => ?_) (fun c_7 => ?_)
  · have hs : ∃ p, ol_at N L x p ∧ sp_sv N L p z r N' L' := by
      rcases hsp with ⟨_, e9, _⟩ | ⟨_, h9⟩
      · exact absurd (e9.symm.trans c_7) (by decide)
      · exact h9
    obtain ⟨p, hp, hs⟩ := hs
    have hpN : p < N := hp.1
    have hN : N ≤ 1000 := ok.2.1
    refine lv_iload_n hx hb dX1_several_12 rfl (lv_at hl 2 rfl) ?_
    refine lv_iconst (v := nI 2) hx hb dX1_several_13 (by decide +kernel) ?_
    refine lv_icmp_lt (tgt := 35) hx hb dX1_several_14 (by decide) (fun c_14 => ?_) (fun c_14 => ?_)
    · obtain ⟨hr0, hN0, hL0⟩ : r = -1 ∧ N' = N ∧ L' = L := by
        rcases hs with ⟨w9, a1, a2, a3, a4, _⟩ | ⟨_, h2⟩
        · exact absurd (a3 ▸ c_14) (nI_nlt a1 (by omega))
        · exact h2
      refine lv_iconst (v := (-1)) hx hb dX1_several_35 (by decide +kernel) ?_
      exact W.iret (v := ((-1))) hx hb hr (fun t ht hW => ⟨⟨((-1)), (tt, nI N, f, as), rfl, ⟨hr0.symm, rfl, by rw [hN0], by rw [hN0, hL0]; exact hf⟩, by rw [ht]; exact hP, hD⟩, hS.F ht⟩) hS.2.2 dX1_several_36
    · refine lv_iload_n hx hb dX1_several_17 rfl (lv_at hl 2 rfl) ?_
      refine lv_bipush (v := nI 64) hx hb dX1_several_18 (by decide +kernel) ?_
      refine lv_icmp_gt (tgt := 35) hx hb dX1_several_20 (by decide) (fun c_20 => ?_) (fun c_20 => ?_)
      · obtain ⟨hr0, hN0, hL0⟩ : r = -1 ∧ N' = N ∧ L' = L := by
          rcases hs with ⟨w9, a1, a2, a3, a4, _⟩ | ⟨_, h2⟩
          · exact absurd (a3 ▸ c_20) (nI_nlt a2 (by omega))
          · exact h2
        refine lv_iconst (v := (-1)) hx hb dX1_several_35 (by decide +kernel) ?_
        exact W.iret (v := ((-1))) hx hb hr (fun t ht hW => ⟨⟨((-1)), (tt, nI N, f, as), rfl, ⟨hr0.symm, rfl, by rw [hN0], by rw [hN0, hL0]; exact hf⟩, by rw [ht]; exact hP, hD⟩, hS.F ht⟩) hS.2.2 dX1_several_36
      · obtain ⟨w, hw1, hw2, hz⟩ := ol_two64 c_14 c_20
        refine lv_aload_n hx hb dX1_several_23 rfl (lv_at hl 0 rfl) ?_
        refine va_get (D := (dC, dI)) (ci := 1) (v := .int (nI N)) (C := RX1) (T := TX1) (N := 4) hx hb hts (by decide +kernel) hown hK hP 0 rfl rfl 2 (by decide) (hts (.fieldLink RX1 13 "OrderLineModel" "many" "I") (by decide +kernel)) (fun _ h9 => h9) rfl dX1_several_24 ?_
        refine lv_iload_n hx hb dX1_several_27 rfl (lv_at hl 2 rfl) ?_
        refine lv_iadd hx hb dX1_several_28 ?_
        refine ow_top (z := nI (N + w)) (by rw [hz]; exact nI_add N w) ?_
        refine lv_sipush (v := nI 1000) hx hb dX1_several_29 (by decide +kernel) ?_
        refine lv_icmp_le (tgt := 37) hx hb dX1_several_32 (by decide) (fun c_32 => ?_) (fun c_32 => ?_)
        · have hc := ol_le (by omega) (by omega) c_32
          obtain ⟨hr0, hN0, hL0⟩ : r = nI (ol_fr N L) ∧ N' = N + w ∧ L' = ol_many N L (p + 1) w := by
            rcases hs with ⟨w9, a1, a2, a3, a4, a5⟩ | ⟨h9, _⟩
            · rw [ol_eq (by omega) (by omega) (hz.symm.trans a3)]; exact a5
            · exact absurd hz (h9 w hw1 hw2 hc)
          have hfl := ol_fr_lt ok (show N < 1000 by omega)
          refine lv_aload_n hx hb dX1_several_37 rfl (lv_at hl 0 rfl) ?_
          refine ow_callR (r := ol_fi N L) (W.runV (As := []) (rest := []) ⟨hx, hb, hml, hown, hts⟩ (c_M_free l dC dI h a b cA cB tt N L f as ok hf) (cwV 0 hts gX1_several_X1_free rfl rfl rfl (by decide +kernel) ⟨Nat.le_of_ble_eq_true rfl, Nat.le_of_ble_eq_true rfl⟩) (ow_PreR hK hP (ci := 1) (q0 := 0) rfl rfl) rfl rfl hl.1 rfl (lv_room (Nat.le_of_ble_eq_true rfl)) dX1_several_38 ⟨Nat.le_of_ble_eq_true rfl, Nat.le_of_ble_eq_true rfl⟩) ?_
          refine ow_top (z := nI (ol_fr N L)) (ol_fi_lt hfl) ?_
          refine lv_istore_n (lv' := [(3, .int (nI (ol_fr N L))), (0, .ref h), (1, .int x), (2, .int z)]) hx hb dX1_several_41 rfl hl (by decide) rfl (fun ls hl => ?_)
          refine lv_aload_n hx hb dX1_several_42 rfl (lv_at hl 1 rfl) ?_
          refine lv_iload_n hx hb dX1_several_43 rfl (lv_at hl 2 rfl) ?_
          refine ow_callR (r := nI p) (W.runV (As := [.int x]) (rest := []) ⟨hx, hb, hml, hown, hts⟩ (c_M_find l dC dI h a b cA cB tt N L f as x (nI p) ok.2.1 hf (ol_fd_at ok hp)) (cwV 1 hts gX1_several_X1_find rfl rfl rfl (by decide +kernel) ⟨Nat.le_of_ble_eq_true rfl, Nat.le_of_ble_eq_true rfl⟩) (ow_PreR hK hP (ci := 1) (q0 := 0) rfl rfl) rfl rfl hl.1 rfl (lv_room (Nat.le_of_ble_eq_true rfl)) dX1_several_44 ⟨Nat.le_of_ble_eq_true rfl, Nat.le_of_ble_eq_true rfl⟩) ?_
          refine lv_iconst (v := 1) hx hb dX1_several_47 (by decide +kernel) ?_
          refine lv_iadd hx hb dX1_several_48 ?_
          refine ow_top (z := nI (p + 1)) (nI_1 p) ?_
          refine lv_istore (lv' := [(4, .int (nI (p + 1))), (3, .int (nI (ol_fr N L))), (0, .ref h), (1, .int x), (2, .int z)]) hx hb dX1_several_49 hl (by decide) rfl (fun ls hl => ?_)
          refine lv_iconst (v := nI 0) hx hb dX1_several_51 (by decide +kernel) ?_
          refine lv_istore (lv' := [(5, .int (nI 0)), (4, .int (nI (p + 1))), (3, .int (nI (ol_fr N L))), (0, .ref h), (1, .int x), (2, .int z)]) hx hb dX1_several_52 hl (by decide) rfl (fun ls hl => ?_)
          have loop : ∀ (k : Nat) (i : Nat) (f1 : Nat → Int32), w < i + k → i ≤ w → ol_f (N + i) (ol_many N L (p + 1) i) f1 → ∀ (H : Heap) (locs : List Loc), va_P (dC, dI) vwCl [(h, .inr (1, [.int tt, .ref a, .int (nI (N + i)), .ref b])), (a, .inl (cA, 1000, .inl f1)), (b, .inl (cB, 1000, .inl as))] H → va_D A [(h, .inr (1, [.int tt, .ref a, .int (nI (N + i)), .ref b])), (a, .inl (cA, 1000, .inl f1)), (b, .inl (cB, 1000, .inl as))] → va_S A s.heap H locs → ∀ ls : Array Slot, lv_has ls 6 [(0, .ref h), (1, .int x), (2, .int z), (3, .int (nI (ol_fr N L))), (4, .int (nI (p + 1))), (5, .int (nI i))] → W pg l ev (headSpec wsX1_several ({ frames := 2, cells := 0, slots := 0, locals := 45 })).room s m ([.ref h, .int x, .int z] : List Value).toArray below meth cd H locs 0 0 (MQ below (va_Qi (fun (r' : Int32) (u : Int32 × Int32 × (Nat → Int32) × (Nat → Int32)) => r' = r ∧ u.1 = tt ∧ u.2.1 = nI N' ∧ ol_f N' L' u.2.2.1) (ow_B (dC, dI) vwCl (wM h a b cA cB) A) A) ([.ref h, .int x, .int z] : List Value).toArray s 0 0 A) (F0 m 54 ls []) := by
            intro k
            induction k with
            | zero =>
              intro i f1 h1 h2 h3
              exact absurd h1 (by omega)
            | succ k ih =>
              intro i f1 hk hi hf1 H locs hP hD hS ls hl
              refine lv_iload hx hb dX1_several_54 (lv_at hl 5 rfl) ?_
              refine lv_iload_n hx hb dX1_several_56 rfl (lv_at hl 2 rfl) ?_
              refine lv_icmp_ge (tgt := 79) hx hb dX1_several_57 (by decide) (fun c_57 => ?_) (fun c_57 => ?_)
              · have hi3 := ol_le (by omega) (by omega) (hz ▸ c_57)
                obtain rfl : i = w := by omega
                refine lv_iload_n hx hb dX1_several_79 rfl (lv_at hl 3 rfl) ?_
                exact W.iret (v := (nI (ol_fr N L))) hx hb hr (fun t ht hW => ⟨⟨(nI (ol_fr N L)), (tt, nI (N + i), f1, as), rfl, ⟨hr0.symm, rfl, by rw [hN0], by rw [hN0, hL0]; exact hf1⟩, by rw [ht]; exact hP, hD⟩, hS.F ht⟩) hS.2.2 dX1_several_80
              · have hi3 := ol_nle (by omega) (by omega) (hz ▸ c_57)
                have ok1 : ol_ok (N + i) (ol_many N L (p + 1) i) := ol_ok_many ok (by omega) (by omega) i (by omega)
                have hfl1 := ol_fr_lt ok1 (by omega)
                refine lv_aload_n hx hb dX1_several_60 rfl (lv_at hl 0 rfl) ?_
                refine lv_aload_n hx hb dX1_several_61 rfl (lv_at hl 0 rfl) ?_
                refine ow_callR (r := ol_fi (N + i) (ol_many N L (p + 1) i)) (W.runV (As := []) (rest := [.ref h]) ⟨hx, hb, hml, hown, hts⟩ (c_M_free l dC dI h a b cA cB tt (N + i) (ol_many N L (p + 1) i) f1 as ok1 hf1) (cwV 0 hts gX1_several_X1_free rfl rfl rfl (by decide +kernel) ⟨Nat.le_of_ble_eq_true rfl, Nat.le_of_ble_eq_true rfl⟩) (ow_PreR hK hP (ci := 1) (q0 := 0) rfl rfl) rfl rfl hl.1 rfl (lv_room (Nat.le_of_ble_eq_true rfl)) dX1_several_62 ⟨Nat.le_of_ble_eq_true rfl, Nat.le_of_ble_eq_true rfl⟩) ?_
                refine ow_top (z := nI (ol_fr (N + i) (ol_many N L (p + 1) i))) (ol_fi_lt hfl1) ?_
                refine lv_iload hx hb dX1_several_65 (lv_at hl 4 rfl) ?_
                refine lv_iload hx hb dX1_several_67 (lv_at hl 5 rfl) ?_
                refine lv_iadd hx hb dX1_several_69 ?_
                refine ow_top (z := nI (p + 1 + i)) (nI_add (p + 1) i) ?_
                refine ow_callv (wr := []) (va_runV (As := [.int (nI (ol_fr (N + i) (ol_many N L (p + 1) i))), .int (nI (p + 1 + i))]) (rest := []) ⟨hx, hb, hml, hown, hts⟩ (c_M_put l dC dI h a b cA cB tt (N + i) (ol_many N L (p + 1) i) f1 as (ol_fr (N + i) (ol_many N L (p + 1) i)) (p + 1 + i) _ hf1 (by omega) (by omega)) (cwV 2 hts gX1_several_X1_put rfl rfl rfl (by decide +kernel) ⟨Nat.le_of_ble_eq_true rfl, Nat.le_of_ble_eq_true rfl⟩) (ow_PreV hK hP hD (ci := 1) (q0 := 0) rfl rfl) rfl rfl hl.1 rfl (lv_room (Nat.le_of_ble_eq_true rfl)) dX1_several_70 ⟨Nat.le_of_ble_eq_true rfl, Nat.le_of_ble_eq_true rfl⟩) hP hD hS hA [0, 1, 2] [] rfl rfl (by decide) (by decide) (fun u H locs hw hP hD hS => ?_)
                obtain ⟨u1, u2, u3, u4⟩ := u
                obtain ⟨e1, e2, hf2, e4⟩ := hw
                obtain rfl : tt = u1 := e1.symm
                obtain rfl : nI (N + i + 1) = u2 := e2.symm
                obtain rfl : as = u4 := e4.symm
                have hP : va_P (dC, dI) vwCl [(h, .inr (1, [.int tt, .ref a, .int (nI (N + (i + 1))), .ref b])), (a, .inl (cA, 1000, .inl u3)), (b, .inl (cB, 1000, .inl as))] H := hP
                have hD : va_D A [(h, .inr (1, [.int tt, .ref a, .int (nI (N + (i + 1))), .ref b])), (a, .inl (cA, 1000, .inl u3)), (b, .inl (cB, 1000, .inl as))] := hD
                refine lv_iinc (v := nI (i + 1)) (lv' := [(5, .int (nI (i + 1))), (0, .ref h), (1, .int x), (2, .int z), (3, .int (nI (ol_fr N L))), (4, .int (nI (p + 1)))]) hx hb dX1_several_73 hl (k := 5) rfl (nI_1 i) (by decide) rfl (fun ls hl => ?_)
                refine lv_goto (tgt := 54) hx hb dX1_several_76 (by decide) ?_
                exact ih (i + 1) u3 (by omega) (by omega) hf2 H locs hP hD hS ls (lv_sub hl [1, 2, 3, 4, 5, 0] rfl)
          exact loop (w + 1) 0 f (by omega) (by omega) hf _ _ hP hD hS ls (lv_sub hl [3, 4, 5, 2, 1, 0] rfl)
        · have hc := ol_nle (by omega) (by omega) c_32
          obtain ⟨hr0, hN0, hL0⟩ : r = -1 ∧ N' = N ∧ L' = L := by
            rcases hs with ⟨w9, a1, a2, a3, a4, _⟩ | ⟨_, h2⟩
            · have := ol_eq (by omega) (by omega) (hz.symm.trans a3); omega
            · exact h2
          refine lv_iconst (v := (-1)) hx hb dX1_several_35 (by decide +kernel) ?_
          exact W.iret (v := ((-1))) hx hb hr (fun t ht hW => ⟨⟨((-1)), (tt, nI N, f, as), rfl, ⟨hr0.symm, rfl, by rw [hN0], by rw [hN0, hL0]; exact hf⟩, by rw [ht]; exact hP, hD⟩, hS.F ht⟩) hS.2.2 dX1_several_36
  · obtain ⟨hr0, hN0, hL0⟩ : r = 0 ∧ N' = N ∧ L' = L := by
      rcases hsp with ⟨_, _, e9⟩ | ⟨e9, _⟩
      · exact e9
      · exact absurd e9 c_7
    refine lv_iconst (v := 0) hx hb dX1_several_10 (by decide +kernel) ?_
    exact W.iret (v := 0) hx hb hr (fun t ht hW => ⟨⟨0, (tt, nI N, f, as), rfl, ⟨hr0.symm, rfl, by rw [hN0], by rw [hN0, hL0]; exact hf⟩, by rw [ht]; exact hP, hD⟩, hS.F ht⟩) hS.2.2 dX1_several_11
set_option maxHeartbeats 4000000 in
set_option maxRecDepth 100000 in
/-- clear(x, y) -/
theorem c_M_clear (l : Launch) (dC : Nat → ClassId) (dI : Nat → Nat → Nat) (h a b : Nat) (cA cB : ClassId) (th : Int32) (N : Nat) (L : Nat → Nat) (f as : Nat → Int32) (tt r : Int32) (N' : Nat) (L' : Nat → Nat) (sz : Nat) (ok : ol_ok N L) (hf : ol_f N L f) (x y : Int32) (hsp : ((ol_no N L x ∨ ol_no N L y) ∧ tt = 1 ∧ r = 0 ∧ N' = N ∧ L' = L) ∨ (tt = 0 ∧ ∃ p q, ol_at N L x p ∧ ol_at N L y q ∧ sp_cl N L p q r N' L')) : Met l yX1_clear wsX1_clear ({ frames := 2, cells := 0, slots := 0, locals := 45 }) (ow_Pc (dC, dI) vwCl [(cA, .int), (cB, .int)] (wM h a b cA cB (th, nI N, f, as)) sz [.ref h, .int x, .int y]) (va_Qi (fun (r' : Int32) (u : Int32 × Int32 × (Nat → Int32) × (Nat → Int32)) => r' = r ∧ u.1 = tt ∧ u.2.1 = nI N' ∧ ol_f N' L' u.2.2.1) (ow_B (dC, dI) vwCl (wM h a b cA cB) (va_A (wM h a b cA cB (th, nI N, f, as)) sz)) (va_A (wM h a b cA cB (th, nI N, f, as)) sz)) 0 0 (va_A (wM h a b cA cB (th, nI N, f, as)) sz) := by
  refine Met.ofW (cc := cX1_clear) (maxL := 4) (ret := (some .int)) (by decide) rfl ?_
  intro pg ev s m args below meth cd s₁ B hml hv
  obtain ⟨rfl, hsz, hP, hK, hD0⟩ := hv
  have hx := B.exec
  have hb := B.bytes
  have hr := B.returns
  have hts := atoms_spec (ws := wsX1_clear) B.pre
  have hown : s.vm.findClass RX1 = some m.cls := findClass_of_methodNamed B.named
  have hlocks := B.notSynchronized
  subst hsz
  have hD := hD0.self (sz := s.heap.size)
  generalize hAe : va_A (wM h a b cA cB (th, nI N, f, as)) s.heap.size = A at hD ⊢
  have hA : ∀ q : Nat, s.heap.size ≤ q → A q := fun q h => by rw [← hAe]; exact Or.inr h
  have hS : va_S A s.heap s.heap [] := va_S.rf
  have hD : va_D A [(h, .inr (1, [.int th, .ref a, .int (nI N), .ref b])), (a, .inl (cA, 1000, .inl f)), (b, .inl (cB, 1000, .inl as))] := hD
  have hP : va_P (dC, dI) vwCl [(h, .inr (1, [.int th, .ref a, .int (nI N), .ref b])), (a, .inl (cA, 1000, .inl f)), (b, .inl (cB, 1000, .inl as))] s.heap := hP
  have hl := lv_entry ([.ref h, .int x, .int y]) (n := 4) (Nat.le_of_ble_eq_true rfl)
  rw [lg_entry_eq]
  generalize (lg_sl ([.ref h, .int x, .int y]) ++ List.replicate (4 - (lg_sl ([.ref h, .int x, .int y])).length) Slot.unset).toArray = ls at hl ⊢
  have hl : lv_has ls 4 [(0, .ref h), (1, .int x), (2, .int y)] := hl
  have hlc : ol_lc N L x y 0 tt := by
    rcases hsp with ⟨h1, h2, _⟩ | ⟨h2, p, q, h1, h3, _⟩
    · rw [h2]; exact ol_lc_no (h1.elim Or.inl (fun h => Or.inr (Or.inl h)))
    · rw [h2]; exact ol_lc_at h1 h3 (ol_at0 ok)
  refine lv_aload_n hx hb dX1_clear_0 rfl (lv_at hl 0 rfl) ?_
  refine lv_iload_n hx hb dX1_clear_1 rfl (lv_at hl 1 rfl) ?_
  refine lv_iload_n hx hb dX1_clear_2 rfl (lv_at hl 2 rfl) ?_
  refine lv_iconst (v := 0) hx hb dX1_clear_3 (by decide +kernel) ?_
  refine ow_calli (wr := []) (va_runV (As := [.int x, .int y, .int 0]) (rest := []) ⟨hx, hb, hml, hown, hts⟩ (c_M_lacks l dC dI h a b cA cB th N L f as x y 0 tt _ ok hf hlc) (cwV 3 hts gX1_clear_X1_lacks rfl rfl rfl (by decide +kernel) ⟨Nat.le_of_ble_eq_true rfl, Nat.le_of_ble_eq_true rfl⟩) (ow_PreV hK hP hD (ci := 1) (q0 := 0) rfl rfl) rfl rfl hl.1 rfl (lv_room (Nat.le_of_ble_eq_true rfl)) dX1_clear_4 ⟨Nat.le_of_ble_eq_true rfl, Nat.le_of_ble_eq_true rfl⟩) hP hD hS hA [0, 1, 2] [] rfl rfl (by decide) (by decide) (fun r0 u H locs hw hP hD hS => ?_)
  obtain ⟨er, eu⟩ := hw
  subst eu
  refine ow_top (z := tt) er ?_
  have hP : va_P (dC, dI) vwCl [(h, .inr (1, [.int tt, .ref a, .int (nI N), .ref b])), (a, .inl (cA, 1000, .inl f)), (b, .inl (cB, 1000, .inl as))] H := hP
  have hD : va_D A [(h, .inr (1, [.int tt, .ref a, .int (nI N), .ref b])), (a, .inl (cA, 1000, .inl f)), (b, .inl (cB, 1000, .inl as))] := hD
  refine lv_if_eq (tgt := 12) hx hb dX1_clear_7 (by decide) (fun c_7 => ?_) (fun c_7 => ?_)
  · have hs : ∃ p q, ol_at N L x p ∧ ol_at N L y q ∧ sp_cl N L p q r N' L' := by
      rcases hsp with ⟨_, e9, _⟩ | ⟨_, h9⟩
      · exact absurd (e9.symm.trans c_7) (by decide)
      · exact h9
    obtain ⟨p, q, hp, hq, hrc, hN0, hL0⟩ := hs
    have hpN : p < N := hp.1
    have hqN : q < N := hq.1
    have hN : N ≤ 1000 := ok.2.1
    refine lv_iconst (v := nI 0) hx hb dX1_clear_12 (by decide +kernel) ?_
    refine lv_istore_n (lv' := [(3, .int (nI 0)), (0, .ref h), (1, .int x), (2, .int y)]) hx hb dX1_clear_13 rfl hl (by decide) rfl (fun ls hl => ?_)
    have loop : ∀ (k : Nat) (i : Nat) (f1 : Nat → Int32), q < i + k → i ≤ q - (p + 1) → ol_f (N - i) (ol_rem L (p + 1) i) f1 → ∀ (H : Heap) (locs : List Loc), va_P (dC, dI) vwCl [(h, .inr (1, [.int tt, .ref a, .int (nI (N - i)), .ref b])), (a, .inl (cA, 1000, .inl f1)), (b, .inl (cB, 1000, .inl as))] H → va_D A [(h, .inr (1, [.int tt, .ref a, .int (nI (N - i)), .ref b])), (a, .inl (cA, 1000, .inl f1)), (b, .inl (cB, 1000, .inl as))] → va_S A s.heap H locs → ∀ ls : Array Slot, lv_has ls 4 [(0, .ref h), (1, .int x), (2, .int y), (3, .int (nI i))] → W pg l ev (headSpec wsX1_clear ({ frames := 2, cells := 0, slots := 0, locals := 45 })).room s m ([.ref h, .int x, .int y] : List Value).toArray below meth cd H locs 0 0 (MQ below (va_Qi (fun (r' : Int32) (u : Int32 × Int32 × (Nat → Int32) × (Nat → Int32)) => r' = r ∧ u.1 = tt ∧ u.2.1 = nI N' ∧ ol_f N' L' u.2.2.1) (ow_B (dC, dI) vwCl (wM h a b cA cB) A) A) ([.ref h, .int x, .int y] : List Value).toArray s 0 0 A) (F0 m 14 ls []) := by
      intro k
      induction k with
      | zero =>
        intro i f1 h1 h2 h3
        exact absurd h1 (by omega)
      | succ k ih =>
        intro i f1 hk hi hf1 H locs hP hD hS ls hl
        have ok1 : ol_ok (N - i) (ol_rem L (p + 1) i) := ol_ok_rem ok (by omega) (by omega)
        have hp1 : ol_at (N - i) (ol_rem L (p + 1) i) x p := ⟨by omega, by rw [ol_rem_lo (by omega)]; exact hp.2⟩
        have hq1 : ol_at (N - i) (ol_rem L (p + 1) i) y (q - i) := by
          rcases Nat.lt_or_ge p q with h9 | h9
          · exact ⟨by omega, by rw [ol_rem_hi (by omega), show q - i + i = q by omega]; exact hq.2⟩
          · have e9 : i = 0 := by omega
            subst e9
            rw [ol_rem_0]; exact hq
        refine lv_aload_n hx hb dX1_clear_14 rfl (lv_at hl 0 rfl) ?_
        refine lv_iload_n hx hb dX1_clear_15 rfl (lv_at hl 1 rfl) ?_
        refine ow_callR (r := nI p) (W.runV (As := [.int x]) (rest := []) ⟨hx, hb, hml, hown, hts⟩ (c_M_find l dC dI h a b cA cB tt (N - i) (ol_rem L (p + 1) i) f1 as x (nI p) (by omega) hf1 (ol_fd_at ok1 hp1)) (cwV 1 hts gX1_clear_X1_find rfl rfl rfl (by decide +kernel) ⟨Nat.le_of_ble_eq_true rfl, Nat.le_of_ble_eq_true rfl⟩) (ow_PreR hK hP (ci := 1) (q0 := 0) rfl rfl) rfl rfl hl.1 rfl (lv_room (Nat.le_of_ble_eq_true rfl)) dX1_clear_16 ⟨Nat.le_of_ble_eq_true rfl, Nat.le_of_ble_eq_true rfl⟩) ?_
        refine lv_iconst (v := 1) hx hb dX1_clear_19 (by decide +kernel) ?_
        refine lv_iadd hx hb dX1_clear_20 ?_
        refine ow_top (z := nI (p + 1)) (nI_1 p) ?_
        refine lv_aload_n hx hb dX1_clear_21 rfl (lv_at hl 0 rfl) ?_
        refine lv_iload_n hx hb dX1_clear_22 rfl (lv_at hl 2 rfl) ?_
        refine ow_callR (r := nI (q - i)) (W.runV (As := [.int y]) (rest := [.int (nI (p + 1))]) ⟨hx, hb, hml, hown, hts⟩ (c_M_find l dC dI h a b cA cB tt (N - i) (ol_rem L (p + 1) i) f1 as y (nI (q - i)) (by omega) hf1 (ol_fd_at ok1 hq1)) (cwV 1 hts gX1_clear_X1_find rfl rfl rfl (by decide +kernel) ⟨Nat.le_of_ble_eq_true rfl, Nat.le_of_ble_eq_true rfl⟩) (ow_PreR hK hP (ci := 1) (q0 := 0) rfl rfl) rfl rfl hl.1 rfl (lv_room (Nat.le_of_ble_eq_true rfl)) dX1_clear_23 ⟨Nat.le_of_ble_eq_true rfl, Nat.le_of_ble_eq_true rfl⟩) ?_
        refine lv_icmp_ge (tgt := 46) hx hb dX1_clear_26 (by decide) (fun c_26 => ?_) (fun c_26 => ?_)
        · have hc := ol_le (by omega) (by omega) c_26
          have ei : i = q - (p + 1) := by omega
          refine lv_iload_n hx hb dX1_clear_46 rfl (lv_at hl 3 rfl) ?_
          exact W.iret (v := (nI i)) hx hb hr (fun t ht hW => ⟨⟨(nI i), (tt, nI (N - i), f1, as), rfl, ⟨by rw [hrc, ei], rfl, by rw [hN0, ei], by rw [hN0, hL0, ← ei]; exact hf1⟩, by rw [ht]; exact hP, hD⟩, hS.F ht⟩) hS.2.2 dX1_clear_47
        · have hc := ol_nle (by omega) (by omega) c_26
          refine lv_aload_n hx hb dX1_clear_29 rfl (lv_at hl 0 rfl) ?_
          refine lv_aload_n hx hb dX1_clear_30 rfl (lv_at hl 0 rfl) ?_
          refine lv_iload_n hx hb dX1_clear_31 rfl (lv_at hl 1 rfl) ?_
          refine ow_callR (r := nI p) (W.runV (As := [.int x]) (rest := [.ref h]) ⟨hx, hb, hml, hown, hts⟩ (c_M_find l dC dI h a b cA cB tt (N - i) (ol_rem L (p + 1) i) f1 as x (nI p) (by omega) hf1 (ol_fd_at ok1 hp1)) (cwV 1 hts gX1_clear_X1_find rfl rfl rfl (by decide +kernel) ⟨Nat.le_of_ble_eq_true rfl, Nat.le_of_ble_eq_true rfl⟩) (ow_PreR hK hP (ci := 1) (q0 := 0) rfl rfl) rfl rfl hl.1 rfl (lv_room (Nat.le_of_ble_eq_true rfl)) dX1_clear_32 ⟨Nat.le_of_ble_eq_true rfl, Nat.le_of_ble_eq_true rfl⟩) ?_
          refine lv_iconst (v := 1) hx hb dX1_clear_35 (by decide +kernel) ?_
          refine lv_iadd hx hb dX1_clear_36 ?_
          refine ow_top (z := nI (p + 1)) (nI_1 p) ?_
          refine ow_callv (wr := []) (va_runV (As := [.int (nI (p + 1))]) (rest := []) ⟨hx, hb, hml, hown, hts⟩ (c_M_drop l dC dI h a b cA cB tt (N - i) (ol_rem L (p + 1) i) f1 as (p + 1) _ hf1 (by omega) (by omega)) (cwV 1 hts gX1_clear_X1_drop rfl rfl rfl (by decide +kernel) ⟨Nat.le_of_ble_eq_true rfl, Nat.le_of_ble_eq_true rfl⟩) (ow_PreV hK hP hD (ci := 1) (q0 := 0) rfl rfl) rfl rfl hl.1 rfl (lv_room (Nat.le_of_ble_eq_true rfl)) dX1_clear_37 ⟨Nat.le_of_ble_eq_true rfl, Nat.le_of_ble_eq_true rfl⟩) hP hD hS hA [0, 1, 2] [] rfl rfl (by decide) (by decide) (fun u H locs hw hP hD hS => ?_)
          obtain ⟨u1, u2, u3, u4⟩ := u
          obtain ⟨e1, e2, hf2, e4⟩ := hw
          obtain rfl : tt = u1 := e1.symm
          obtain rfl : nI (N - i - 1) = u2 := e2.symm
          obtain rfl : as = u4 := e4.symm
          rw [ol_rem_1] at hf2
          have eN : N - i - 1 = N - (i + 1) := by omega
          rw [eN] at hf2 hP hD
          have hP : va_P (dC, dI) vwCl [(h, .inr (1, [.int tt, .ref a, .int (nI (N - (i + 1))), .ref b])), (a, .inl (cA, 1000, .inl u3)), (b, .inl (cB, 1000, .inl as))] H := hP
          have hD : va_D A [(h, .inr (1, [.int tt, .ref a, .int (nI (N - (i + 1))), .ref b])), (a, .inl (cA, 1000, .inl u3)), (b, .inl (cB, 1000, .inl as))] := hD
          refine lv_iinc (v := nI (i + 1)) (lv' := [(3, .int (nI (i + 1))), (0, .ref h), (1, .int x), (2, .int y)]) hx hb dX1_clear_40 hl (k := 3) rfl (nI_1 i) (by decide) rfl (fun ls hl => ?_)
          refine lv_goto (tgt := 14) hx hb dX1_clear_43 (by decide) ?_
          exact ih (i + 1) u3 (by omega) (by omega) hf2 H locs hP hD hS ls (lv_sub hl [1, 2, 3, 0] rfl)
    exact loop (q + 1) 0 f (by omega) (by omega) (by rw [ol_rem_0]; exact hf) _ _ hP hD hS ls (lv_sub hl [1, 2, 3, 0] rfl)
  · obtain ⟨hr0, hN0, hL0⟩ : r = 0 ∧ N' = N ∧ L' = L := by
      rcases hsp with ⟨_, _, e9⟩ | ⟨e9, _⟩
      · exact e9
      · exact absurd e9 c_7
    refine lv_iconst (v := 0) hx hb dX1_clear_10 (by decide +kernel) ?_
    exact W.iret (v := 0) hx hb hr (fun t ht hW => ⟨⟨0, (tt, nI N, f, as), rfl, ⟨hr0.symm, rfl, by rw [hN0], by rw [hN0, hL0]; exact hf⟩, by rw [ht]; exact hP, hD⟩, hS.F ht⟩) hS.2.2 dX1_clear_11
set_option maxHeartbeats 4000000 in
set_option maxRecDepth 100000 in
/-- carry(x, y, z) -/
theorem c_M_carry (l : Launch) (dC : Nat → ClassId) (dI : Nat → Nat → Nat) (h a b : Nat) (cA cB : ClassId) (th : Int32) (N : Nat) (L : Nat → Nat) (f as : Nat → Int32) (tt r : Int32) (N' : Nat) (L' : Nat → Nat) (sz : Nat) (ok : ol_ok N L) (hf : ol_f N L f) (x y z : Int32) (hsp : ((ol_no N L x ∨ ol_no N L y ∨ ol_no N L z) ∧ tt = 1 ∧ r = 0 ∧ N' = N ∧ L' = L) ∨ (tt = 0 ∧ ∃ p q o, ol_at N L x p ∧ ol_at N L y q ∧ ol_at N L z o ∧ sp_cr N L p q o r N' L')) : Met l yX1_carry wsX1_carry ({ frames := 2, cells := 0, slots := 0, locals := 45 }) (ow_Pc (dC, dI) vwCl [(cA, .int), (cB, .int)] (wM h a b cA cB (th, nI N, f, as)) sz [.ref h, .int x, .int y, .int z]) (va_Qi (fun (r' : Int32) (u : Int32 × Int32 × (Nat → Int32) × (Nat → Int32)) => r' = r ∧ u.1 = tt ∧ u.2.1 = nI N' ∧ ol_f N' L' u.2.2.1) (ow_B (dC, dI) vwCl (wM h a b cA cB) (va_A (wM h a b cA cB (th, nI N, f, as)) sz)) (va_A (wM h a b cA cB (th, nI N, f, as)) sz)) 0 0 (va_A (wM h a b cA cB (th, nI N, f, as)) sz) := by
  refine Met.ofW (cc := cX1_carry) (maxL := 9) (ret := (some .int)) (by decide) rfl ?_
  intro pg ev s m args below meth cd s₁ B hml hv
  obtain ⟨rfl, hsz, hP, hK, hD0⟩ := hv
  have hx := B.exec
  have hb := B.bytes
  have hr := B.returns
  have hts := atoms_spec (ws := wsX1_carry) B.pre
  have hown : s.vm.findClass RX1 = some m.cls := findClass_of_methodNamed B.named
  have hlocks := B.notSynchronized
  subst hsz
  have hD := hD0.self (sz := s.heap.size)
  generalize hAe : va_A (wM h a b cA cB (th, nI N, f, as)) s.heap.size = A at hD ⊢
  have hA : ∀ q : Nat, s.heap.size ≤ q → A q := fun q h => by rw [← hAe]; exact Or.inr h
  have hS : va_S A s.heap s.heap [] := va_S.rf
  have hD : va_D A [(h, .inr (1, [.int th, .ref a, .int (nI N), .ref b])), (a, .inl (cA, 1000, .inl f)), (b, .inl (cB, 1000, .inl as))] := hD
  have hP : va_P (dC, dI) vwCl [(h, .inr (1, [.int th, .ref a, .int (nI N), .ref b])), (a, .inl (cA, 1000, .inl f)), (b, .inl (cB, 1000, .inl as))] s.heap := hP
  have hl := lv_entry ([.ref h, .int x, .int y, .int z]) (n := 9) (Nat.le_of_ble_eq_true rfl)
  rw [lg_entry_eq]
  generalize (lg_sl ([.ref h, .int x, .int y, .int z]) ++ List.replicate (9 - (lg_sl ([.ref h, .int x, .int y, .int z])).length) Slot.unset).toArray = ls at hl ⊢
  have hl : lv_has ls 9 [(0, .ref h), (1, .int x), (2, .int y), (3, .int z)] := hl
  have hlc : ol_lc N L x y z tt := by
    rcases hsp with ⟨h1, h2, _⟩ | ⟨h2, p, q, o, h1, h3, h4, _⟩
    · rw [h2]; exact ol_lc_no h1
    · rw [h2]; exact ol_lc_at h1 h3 h4
  refine lv_aload_n hx hb dX1_carry_0 rfl (lv_at hl 0 rfl) ?_
  refine lv_iload_n hx hb dX1_carry_1 rfl (lv_at hl 1 rfl) ?_
  refine lv_iload_n hx hb dX1_carry_2 rfl (lv_at hl 2 rfl) ?_
  refine lv_iload_n hx hb dX1_carry_3 rfl (lv_at hl 3 rfl) ?_
  refine ow_calli (wr := []) (va_runV (As := [.int x, .int y, .int z]) (rest := []) ⟨hx, hb, hml, hown, hts⟩ (c_M_lacks l dC dI h a b cA cB th N L f as x y z tt _ ok hf hlc) (cwV 3 hts gX1_carry_X1_lacks rfl rfl rfl (by decide +kernel) ⟨Nat.le_of_ble_eq_true rfl, Nat.le_of_ble_eq_true rfl⟩) (ow_PreV hK hP hD (ci := 1) (q0 := 0) rfl rfl) rfl rfl hl.1 rfl (lv_room (Nat.le_of_ble_eq_true rfl)) dX1_carry_4 ⟨Nat.le_of_ble_eq_true rfl, Nat.le_of_ble_eq_true rfl⟩) hP hD hS hA [0, 1, 2] [] rfl rfl (by decide) (by decide) (fun r0 u H locs hw hP hD hS => ?_)
  obtain ⟨er, eu⟩ := hw
  subst eu
  refine ow_top (z := tt) er ?_
  have hP : va_P (dC, dI) vwCl [(h, .inr (1, [.int tt, .ref a, .int (nI N), .ref b])), (a, .inl (cA, 1000, .inl f)), (b, .inl (cB, 1000, .inl as))] H := hP
  have hD : va_D A [(h, .inr (1, [.int tt, .ref a, .int (nI N), .ref b])), (a, .inl (cA, 1000, .inl f)), (b, .inl (cB, 1000, .inl as))] := hD
  refine lv_if_eq (tgt := 12) hx hb dX1_carry_7 (by decide) (fun c_7 => ?_) (fun c_7 => ?_)
  · have hs : ∃ p q o, ol_at N L x p ∧ ol_at N L y q ∧ ol_at N L z o ∧ sp_cr N L p q o r N' L' := by
      rcases hsp with ⟨_, e9, _⟩ | ⟨_, h9⟩
      · exact absurd (e9.symm.trans c_7) (by decide)
      · exact h9
    obtain ⟨p, q, o, hp, hq, ho, hN0, hs2⟩ := hs
    have hpN : p < N := hp.1
    have hqN : q < N := hq.1
    have hoN : o < N := ho.1
    have hN : N ≤ 1000 := ok.2.1
    refine lv_aload_n hx hb dX1_carry_12 rfl (lv_at hl 0 rfl) ?_
    refine lv_iload_n hx hb dX1_carry_13 rfl (lv_at hl 1 rfl) ?_
    refine ow_callR (r := nI p) (W.runV (As := [.int x]) (rest := []) ⟨hx, hb, hml, hown, hts⟩ (c_M_find l dC dI h a b cA cB tt N L f as x (nI p) ok.2.1 hf (ol_fd_at ok hp)) (cwV 1 hts gX1_carry_X1_find rfl rfl rfl (by decide +kernel) ⟨Nat.le_of_ble_eq_true rfl, Nat.le_of_ble_eq_true rfl⟩) (ow_PreR hK hP (ci := 1) (q0 := 0) rfl rfl) rfl rfl hl.1 rfl (lv_room (Nat.le_of_ble_eq_true rfl)) dX1_carry_14 ⟨Nat.le_of_ble_eq_true rfl, Nat.le_of_ble_eq_true rfl⟩) ?_
    refine lv_istore (lv' := [(4, .int (nI p)), (0, .ref h), (1, .int x), (2, .int y), (3, .int z)]) hx hb dX1_carry_17 hl (by decide) rfl (fun ls hl => ?_)
    refine lv_aload_n hx hb dX1_carry_19 rfl (lv_at hl 1 rfl) ?_
    refine lv_iload_n hx hb dX1_carry_20 rfl (lv_at hl 3 rfl) ?_
    refine ow_callR (r := nI q) (W.runV (As := [.int y]) (rest := []) ⟨hx, hb, hml, hown, hts⟩ (c_M_find l dC dI h a b cA cB tt N L f as y (nI q) ok.2.1 hf (ol_fd_at ok hq)) (cwV 1 hts gX1_carry_X1_find rfl rfl rfl (by decide +kernel) ⟨Nat.le_of_ble_eq_true rfl, Nat.le_of_ble_eq_true rfl⟩) (ow_PreR hK hP (ci := 1) (q0 := 0) rfl rfl) rfl rfl hl.1 rfl (lv_room (Nat.le_of_ble_eq_true rfl)) dX1_carry_21 ⟨Nat.le_of_ble_eq_true rfl, Nat.le_of_ble_eq_true rfl⟩) ?_
    refine lv_istore (lv' := [(5, .int (nI q)), (4, .int (nI p)), (0, .ref h), (1, .int x), (2, .int y), (3, .int z)]) hx hb dX1_carry_24 hl (by decide) rfl (fun ls hl => ?_)
    refine lv_aload_n hx hb dX1_carry_26 rfl (lv_at hl 2 rfl) ?_
    refine lv_iload_n hx hb dX1_carry_27 rfl (lv_at hl 5 rfl) ?_
    refine ow_callR (r := nI o) (W.runV (As := [.int z]) (rest := []) ⟨hx, hb, hml, hown, hts⟩ (c_M_find l dC dI h a b cA cB tt N L f as z (nI o) ok.2.1 hf (ol_fd_at ok ho)) (cwV 1 hts gX1_carry_X1_find rfl rfl rfl (by decide +kernel) ⟨Nat.le_of_ble_eq_true rfl, Nat.le_of_ble_eq_true rfl⟩) (ow_PreR hK hP (ci := 1) (q0 := 0) rfl rfl) rfl rfl hl.1 rfl (lv_room (Nat.le_of_ble_eq_true rfl)) dX1_carry_28 ⟨Nat.le_of_ble_eq_true rfl, Nat.le_of_ble_eq_true rfl⟩) ?_
    refine lv_istore (lv' := [(6, .int (nI o)), (5, .int (nI q)), (4, .int (nI p)), (0, .ref h), (1, .int x), (2, .int y), (3, .int z)]) hx hb dX1_carry_31 hl (by decide) rfl (fun ls hl => ?_)
    refine lv_iload hx hb dX1_carry_33 (lv_at hl 2 rfl) ?_
    refine lv_iload hx hb dX1_carry_35 (lv_at hl 1 rfl) ?_
    refine lv_icmp_ge (tgt := 54) hx hb dX1_carry_37 (by decide) (fun c_37 => ?_) (fun c_37 => ?_)
    · have hpq := ol_le (by omega) (by omega) c_37
      obtain ⟨hr0, hL0⟩ : r = -1 ∧ L' = L := by
        rcases hs2 with ⟨_, h2⟩ | ⟨h1, h2, _⟩ | ⟨h1, h2, _⟩
        · exact h2
        · exact absurd h1 (by omega)
        · exact absurd h1 (by omega)
      refine lv_iconst (v := (-1)) hx hb dX1_carry_54 (by decide +kernel) ?_
      exact W.iret (v := ((-1))) hx hb hr (fun t ht hW => ⟨⟨((-1)), (tt, nI N, f, as), rfl, ⟨hr0.symm, rfl, by rw [hN0], by rw [hN0, hL0]; exact hf⟩, by rw [ht]; exact hP, hD⟩, hS.F ht⟩) hS.2.2 dX1_carry_55
    · have hpq := ol_nle (by omega) (by omega) c_37
      refine lv_iload hx hb dX1_carry_40 (lv_at hl 0 rfl) ?_
      refine lv_iload hx hb dX1_carry_42 (lv_at hl 2 rfl) ?_
      refine lv_icmp_le (tgt := 56) hx hb dX1_carry_44 (by decide) (fun c_44 => ?_) (fun c_44 => ?_)
      · have hop := ol_le (by omega) (by omega) c_44
        have hYY : o ≤ p ∨ q ≤ o := Or.inl hop
        refine lv_iload hx hb dX1_carry_56 (lv_at hl 1 rfl) ?_
        refine lv_iload hx hb dX1_carry_58 (lv_at hl 2 rfl) ?_
        have hpq2 : p < q := hpq
        obtain ⟨w, hw⟩ : ∃ w, w = q - p - 1 := ⟨_, rfl⟩
        obtain ⟨c', hcz, hcN, hr0, hL0⟩ : ∃ c', ol_at (N - w) (ol_rem L (p + 1) w) z c' ∧ c' + 1 ≤ N - w ∧ r = nI w ∧ L' = ol_blk (ol_rem L (p + 1) w) (fun j => L (p + 1 + j)) (c' + 1) w := by
          rcases hYY with h9 | h9
          · refine ⟨o, ⟨by omega, by rw [ol_rem_lo (by omega)]; exact ho.2⟩, by omega, ?_⟩
            rcases hs2 with ⟨h1, _⟩ | ⟨_, _, h2, h3⟩ | ⟨_, h1, _⟩
            · exact absurd h1 (by omega)
            · subst hw; exact ⟨h2, by rw [h3, ol_carry_lo L h9 hpq]⟩
            · exact absurd h1 (by omega)
          · refine ⟨o - w, ⟨by omega, by rw [ol_rem_hi (by omega), show o - w + w = o by omega]; exact ho.2⟩, by omega, ?_⟩
            rcases hs2 with ⟨h1, _⟩ | ⟨_, h1, _⟩ | ⟨_, _, h2, h3⟩
            · exact absurd h1 (by omega)
            · exact absurd h1 (by omega)
            · subst hw; exact ⟨h2, by rw [h3, ol_carry_hi L h9 hpq]⟩
        refine lv_isub hx hb dX1_carry_60 ?_
        refine ow_top (z := nI (q - p)) (pk_sub (by omega)) ?_
        refine lv_iconst (v := 1) hx hb dX1_carry_61 (by decide +kernel) ?_
        refine lv_isub hx hb dX1_carry_62 ?_
        refine ow_top (z := nI w) (by rw [hw]; exact nI_m1 (by omega)) ?_
        refine lv_istore (lv' := [(7, .int (nI w)), (6, .int (nI o)), (5, .int (nI q)), (4, .int (nI p)), (0, .ref h), (1, .int x), (2, .int y), (3, .int z)]) hx hb dX1_carry_63 hl (by decide) rfl (fun ls hl => ?_)
        refine lv_iconst (v := nI 0) hx hb dX1_carry_65 (by decide +kernel) ?_
        refine lv_istore (lv' := [(8, .int (nI 0)), (7, .int (nI w)), (6, .int (nI o)), (5, .int (nI q)), (4, .int (nI p)), (0, .ref h), (1, .int x), (2, .int y), (3, .int z)]) hx hb dX1_carry_66 hl (by decide) rfl (fun ls hl => ?_)
        have loop1 : ∀ (k : Nat) (i : Nat) (f1 as1 : Nat → Int32), w < i + k → i ≤ w → ol_f (N - i) (ol_rem L (p + 1) i) f1 → (∀ j, j < i → as1 j = nI (L (p + 1 + j))) → ∀ (H : Heap) (locs : List Loc), va_P (dC, dI) vwCl [(h, .inr (1, [.int tt, .ref a, .int (nI (N - i)), .ref b])), (a, .inl (cA, 1000, .inl f1)), (b, .inl (cB, 1000, .inl as1))] H → va_D A [(h, .inr (1, [.int tt, .ref a, .int (nI (N - i)), .ref b])), (a, .inl (cA, 1000, .inl f1)), (b, .inl (cB, 1000, .inl as1))] → va_S A s.heap H locs → ∀ ls : Array Slot, lv_has ls 9 [(0, .ref h), (1, .int x), (2, .int y), (3, .int z), (4, .int (nI p)), (5, .int (nI q)), (6, .int (nI o)), (7, .int (nI w)), (8, .int (nI i))] → W pg l ev (headSpec wsX1_carry ({ frames := 2, cells := 0, slots := 0, locals := 45 })).room s m ([.ref h, .int x, .int y, .int z] : List Value).toArray below meth cd H locs 0 0 (MQ below (va_Qi (fun (r' : Int32) (u : Int32 × Int32 × (Nat → Int32) × (Nat → Int32)) => r' = r ∧ u.1 = tt ∧ u.2.1 = nI N' ∧ ol_f N' L' u.2.2.1) (ow_B (dC, dI) vwCl (wM h a b cA cB) A) A) ([.ref h, .int x, .int y, .int z] : List Value).toArray s 0 0 A) (F0 m 68 ls []) := by
          intro k
          induction k with
          | zero =>
            intro i f1 as1 h1 h2 h3
            exact absurd h1 (by omega)
          | succ k ih =>
            intro i f1 as1 hk hi hf1 has H locs hP hD hS ls hl
            refine lv_iload hx hb dX1_carry_68 (lv_at hl 8 rfl) ?_
            refine lv_iload hx hb dX1_carry_70 (lv_at hl 7 rfl) ?_
            refine lv_icmp_ge (tgt := 105) hx hb dX1_carry_72 (by decide) (fun c_72 => ?_) (fun c_72 => ?_)
            · have hi3 := ol_le (by omega) (by omega) c_72
              obtain rfl : w = i := by omega
              refine lv_iconst (v := nI 0) hx hb dX1_carry_105 (by decide +kernel) ?_
              refine lv_istore (lv' := [(8, .int (nI 0)), (0, .ref h), (1, .int x), (2, .int y), (3, .int z), (4, .int (nI p)), (5, .int (nI q)), (6, .int (nI o)), (7, .int (nI w))]) hx hb dX1_carry_106 hl (by decide) rfl (fun ls hl => ?_)
              have loop2 : ∀ (k : Nat) (j : Nat) (f2 : Nat → Int32), w < j + k → j ≤ w → ol_f (N - w + j) (ol_blk (ol_rem L (p + 1) w) (fun j => L (p + 1 + j)) (c' + 1) j) f2 → ∀ (H : Heap) (locs : List Loc), va_P (dC, dI) vwCl [(h, .inr (1, [.int tt, .ref a, .int (nI (N - w + j)), .ref b])), (a, .inl (cA, 1000, .inl f2)), (b, .inl (cB, 1000, .inl as1))] H → va_D A [(h, .inr (1, [.int tt, .ref a, .int (nI (N - w + j)), .ref b])), (a, .inl (cA, 1000, .inl f2)), (b, .inl (cB, 1000, .inl as1))] → va_S A s.heap H locs → ∀ ls : Array Slot, lv_has ls 9 [(0, .ref h), (1, .int x), (2, .int y), (3, .int z), (4, .int (nI p)), (5, .int (nI q)), (6, .int (nI o)), (7, .int (nI w)), (8, .int (nI j))] → W pg l ev (headSpec wsX1_carry ({ frames := 2, cells := 0, slots := 0, locals := 45 })).room s m ([.ref h, .int x, .int y, .int z] : List Value).toArray below meth cd H locs 0 0 (MQ below (va_Qi (fun (r' : Int32) (u : Int32 × Int32 × (Nat → Int32) × (Nat → Int32)) => r' = r ∧ u.1 = tt ∧ u.2.1 = nI N' ∧ ol_f N' L' u.2.2.1) (ow_B (dC, dI) vwCl (wM h a b cA cB) A) A) ([.ref h, .int x, .int y, .int z] : List Value).toArray s 0 0 A) (F0 m 108 ls []) := by
                intro k
                induction k with
                | zero =>
                  intro j f2 h1 h2 h3
                  exact absurd h1 (by omega)
                | succ k ih =>
                  intro j f2 hk2 hj hf2 H locs hP hD hS ls hl
                  refine lv_iload hx hb dX1_carry_108 (lv_at hl 8 rfl) ?_
                  refine lv_iload hx hb dX1_carry_110 (lv_at hl 7 rfl) ?_
                  refine lv_icmp_ge (tgt := 142) hx hb dX1_carry_112 (by decide) (fun c_112 => ?_) (fun c_112 => ?_)
                  · have hj3 := ol_le (by omega) (by omega) c_112
                    obtain rfl : w = j := by omega
                    have eNw : N - w + w = N := by omega
                    refine lv_iload hx hb dX1_carry_142 (lv_at hl 7 rfl) ?_
                    exact W.iret (v := (nI w)) hx hb hr (fun t ht hW => ⟨⟨(nI w), (tt, nI (N - w + w), f2, as1), rfl, ⟨hr0.symm, rfl, by rw [hN0, eNw], by rw [hN0, hL0, ← eNw]; exact hf2⟩, by rw [ht]; exact hP, hD⟩, hS.F ht⟩) hS.2.2 dX1_carry_144
                  · have hj3 := ol_nle (by omega) (by omega) c_112
                    have ok2 : ol_ok (N - w + j) (ol_blk (ol_rem L (p + 1) w) (fun j => L (p + 1 + j)) (c' + 1) j) := ol_ok_carry ok (by omega) (by omega) j (by omega)
                    have hcz2 : ol_at (N - w + j) (ol_blk (ol_rem L (p + 1) w) (fun j => L (p + 1 + j)) (c' + 1) j) z c' := ⟨by omega, by rw [ol_blk_lo (by omega)]; exact hcz.2⟩
                    refine lv_aload_n hx hb dX1_carry_115 rfl (lv_at hl 0 rfl) ?_
                    refine lv_aload_n hx hb dX1_carry_116 rfl (lv_at hl 0 rfl) ?_
                    refine va_get (D := (dC, dI)) (ci := 1) (v := .ref b) (C := RX1) (T := TX1) (N := 4) hx hb hts (by decide +kernel) hown hK hP 0 rfl rfl 3 (by decide) (hts (.fieldLink RX1 17 "OrderLineModel" "aside" "[I") (by decide +kernel)) (fun _ h9 => h9) rfl dX1_carry_117 ?_
                    refine lv_iload hx hb dX1_carry_120 (lv_at hl 8 rfl) ?_
                    refine ow_iald (k := j) (v := nI (L (p + 1 + j))) hx hb hK hP 2 1 rfl rfl (by omega) (by decide) (has j (by omega)) dX1_carry_122 ?_
                    refine lv_aload_n hx hb dX1_carry_123 rfl (lv_at hl 0 rfl) ?_
                    refine lv_iload_n hx hb dX1_carry_124 rfl (lv_at hl 3 rfl) ?_
                    refine ow_callR (r := nI c') (W.runV (As := [.int z]) (rest := [.int (nI (L (p + 1 + j))), .ref h]) ⟨hx, hb, hml, hown, hts⟩ (c_M_find l dC dI h a b cA cB tt (N - w + j) (ol_blk (ol_rem L (p + 1) w) (fun j => L (p + 1 + j)) (c' + 1) j) f2 as1 z (nI c') (by omega) hf2 (ol_fd_at ok2 hcz2)) (cwV 1 hts gX1_carry_X1_find rfl rfl rfl (by decide +kernel) ⟨Nat.le_of_ble_eq_true rfl, Nat.le_of_ble_eq_true rfl⟩) (ow_PreR hK hP (ci := 1) (q0 := 0) rfl rfl) rfl rfl hl.1 rfl (lv_room (Nat.le_of_ble_eq_true rfl)) dX1_carry_125 ⟨Nat.le_of_ble_eq_true rfl, Nat.le_of_ble_eq_true rfl⟩) ?_
                    refine lv_iconst (v := 1) hx hb dX1_carry_128 (by decide +kernel) ?_
                    refine lv_iadd hx hb dX1_carry_129 ?_
                    refine ow_top (z := nI (c' + 1)) (nI_1 c') ?_
                    refine lv_iload hx hb dX1_carry_130 (lv_at hl 8 rfl) ?_
                    refine lv_iadd hx hb dX1_carry_132 ?_
                    refine ow_top (z := nI (c' + 1 + j)) (nI_add (c' + 1) j) ?_
                    refine ow_callv (wr := []) (va_runV (As := [.int (nI (L (p + 1 + j))), .int (nI (c' + 1 + j))]) (rest := []) ⟨hx, hb, hml, hown, hts⟩ (c_M_put l dC dI h a b cA cB tt (N - w + j) (ol_blk (ol_rem L (p + 1) w) (fun j => L (p + 1 + j)) (c' + 1) j) f2 as1 (L (p + 1 + j)) (c' + 1 + j) _ hf2 (by omega) (by omega)) (cwV 2 hts gX1_carry_X1_put rfl rfl rfl (by decide +kernel) ⟨Nat.le_of_ble_eq_true rfl, Nat.le_of_ble_eq_true rfl⟩) (ow_PreV hK hP hD (ci := 1) (q0 := 0) rfl rfl) rfl rfl hl.1 rfl (lv_room (Nat.le_of_ble_eq_true rfl)) dX1_carry_133 ⟨Nat.le_of_ble_eq_true rfl, Nat.le_of_ble_eq_true rfl⟩) hP hD hS hA [0, 1, 2] [] rfl rfl (by decide) (by decide) (fun u H locs hw hP hD hS => ?_)
                    obtain ⟨u1, u2, u3, u4⟩ := u
                    obtain ⟨e1, e2, hf3, e4⟩ := hw
                    obtain rfl : tt = u1 := e1.symm
                    obtain rfl : nI (N - w + j + 1) = u2 := e2.symm
                    obtain rfl : as1 = u4 := e4.symm
                    have e9 := ol_blk_1 (ol_rem L (p + 1) w) (fun j => L (p + 1 + j)) (c' + 1) j
                    rw [e9] at hf3
                    have hP : va_P (dC, dI) vwCl [(h, .inr (1, [.int tt, .ref a, .int (nI (N - w + (j + 1))), .ref b])), (a, .inl (cA, 1000, .inl u3)), (b, .inl (cB, 1000, .inl as1))] H := hP
                    have hD : va_D A [(h, .inr (1, [.int tt, .ref a, .int (nI (N - w + (j + 1))), .ref b])), (a, .inl (cA, 1000, .inl u3)), (b, .inl (cB, 1000, .inl as1))] := hD
                    refine lv_iinc (v := nI (j + 1)) (lv' := [(8, .int (nI (j + 1))), (0, .ref h), (1, .int x), (2, .int y), (3, .int z), (4, .int (nI p)), (5, .int (nI q)), (6, .int (nI o)), (7, .int (nI w))]) hx hb dX1_carry_136 hl (k := 8) rfl (nI_1 j) (by decide) rfl (fun ls hl => ?_)
                    refine lv_goto (tgt := 108) hx hb dX1_carry_139 (by decide) ?_
                    exact ih (j + 1) u3 (by omega) (by omega) hf3 H locs hP hD hS ls (lv_sub hl [1, 2, 3, 4, 5, 6, 7, 8, 0] rfl)
              exact loop2 (w + 1) 0 f1 (by omega) (by omega) (by rw [ol_blk_0]; exact hf1) _ _ hP hD hS ls (lv_sub hl [1, 2, 3, 4, 5, 6, 7, 8, 0] rfl)
            · have hi3 := ol_nle (by omega) (by omega) c_72
              refine lv_aload_n hx hb dX1_carry_75 rfl (lv_at hl 0 rfl) ?_
              refine va_get (D := (dC, dI)) (ci := 1) (v := .ref b) (C := RX1) (T := TX1) (N := 4) hx hb hts (by decide +kernel) hown hK hP 0 rfl rfl 3 (by decide) (hts (.fieldLink RX1 17 "OrderLineModel" "aside" "[I") (by decide +kernel)) (fun _ h9 => h9) rfl dX1_carry_76 ?_
              refine lv_iload hx hb dX1_carry_79 (lv_at hl 8 rfl) ?_
              refine lv_aload_n hx hb dX1_carry_81 rfl (lv_at hl 0 rfl) ?_
              refine va_get (D := (dC, dI)) (ci := 1) (v := .ref a) (C := RX1) (T := TX1) (N := 4) hx hb hts (by decide +kernel) hown hK hP 0 rfl rfl 1 (by decide) (hts (.fieldLink RX1 7 "OrderLineModel" "line" "[I") (by decide +kernel)) (fun _ h9 => h9) rfl dX1_carry_82 ?_
              refine lv_iload hx hb dX1_carry_85 (lv_at hl 4 rfl) ?_
              refine lv_iconst (v := 1) hx hb dX1_carry_87 (by decide +kernel) ?_
              refine lv_iadd hx hb dX1_carry_88 ?_
              refine ow_top (z := nI (p + 1)) (nI_1 p) ?_
              refine ow_iald (k := p + 1) (v := nI (L (p + 1 + i))) hx hb hK hP 1 0 rfl rfl (by omega) (by decide) (by rw [hf1 (p + 1) (by omega), ol_rem_hi (by omega)]) dX1_carry_89 ?_
              refine ow_iast (k := i) hx hb hK hP hD hS 2 1 rfl rfl (by omega) (by decide) dX1_carry_90 (fun H locs hP hD hS => ?_)
              have hP : va_P (dC, dI) vwCl [(h, .inr (1, [.int tt, .ref a, .int (nI (N - i)), .ref b])), (a, .inl (cA, 1000, .inl f1)), (b, .inl (cB, 1000, .inl (upd as1 i ((nI (L (p + 1 + i)))))))] H := hP
              have hD : va_D A [(h, .inr (1, [.int tt, .ref a, .int (nI (N - i)), .ref b])), (a, .inl (cA, 1000, .inl f1)), (b, .inl (cB, 1000, .inl (upd as1 i ((nI (L (p + 1 + i)))))))] := hD
              refine lv_aload_n hx hb dX1_carry_91 rfl (lv_at hl 0 rfl) ?_
              refine lv_iload hx hb dX1_carry_92 (lv_at hl 4 rfl) ?_
              refine lv_iconst (v := 1) hx hb dX1_carry_94 (by decide +kernel) ?_
              refine lv_iadd hx hb dX1_carry_95 ?_
              refine ow_top (z := nI (p + 1)) (nI_1 p) ?_
              refine ow_callv (wr := []) (va_runV (As := [.int (nI (p + 1))]) (rest := []) ⟨hx, hb, hml, hown, hts⟩ (c_M_drop l dC dI h a b cA cB tt (N - i) (ol_rem L (p + 1) i) f1 (upd as1 i (nI (L (p + 1 + i)))) (p + 1) _ hf1 (by omega) (by omega)) (cwV 1 hts gX1_carry_X1_drop rfl rfl rfl (by decide +kernel) ⟨Nat.le_of_ble_eq_true rfl, Nat.le_of_ble_eq_true rfl⟩) (ow_PreV hK hP hD (ci := 1) (q0 := 0) rfl rfl) rfl rfl hl.1 rfl (lv_room (Nat.le_of_ble_eq_true rfl)) dX1_carry_96 ⟨Nat.le_of_ble_eq_true rfl, Nat.le_of_ble_eq_true rfl⟩) hP hD hS hA [0, 1, 2] [] rfl rfl (by decide) (by decide) (fun u H locs hw hP hD hS => ?_)
              obtain ⟨u1, u2, u3, u4⟩ := u
              obtain ⟨e1, e2, hf2, e4⟩ := hw
              obtain rfl : tt = u1 := e1.symm
              obtain rfl : nI (N - i - 1) = u2 := e2.symm
              obtain rfl : upd as1 i (nI (L (p + 1 + i))) = u4 := e4.symm
              rw [ol_rem_1] at hf2
              have eN : N - i - 1 = N - (i + 1) := by omega
              rw [eN] at hf2 hP hD
              have hP : va_P (dC, dI) vwCl [(h, .inr (1, [.int tt, .ref a, .int (nI (N - (i + 1))), .ref b])), (a, .inl (cA, 1000, .inl u3)), (b, .inl (cB, 1000, .inl (upd as1 i (nI (L (p + 1 + i))))))] H := hP
              have hD : va_D A [(h, .inr (1, [.int tt, .ref a, .int (nI (N - (i + 1))), .ref b])), (a, .inl (cA, 1000, .inl u3)), (b, .inl (cB, 1000, .inl (upd as1 i (nI (L (p + 1 + i))))))] := hD
              refine lv_iinc (v := nI (i + 1)) (lv' := [(8, .int (nI (i + 1))), (0, .ref h), (1, .int x), (2, .int y), (3, .int z), (4, .int (nI p)), (5, .int (nI q)), (6, .int (nI o)), (7, .int (nI w))]) hx hb dX1_carry_99 hl (k := 8) rfl (nI_1 i) (by decide) rfl (fun ls hl => ?_)
              refine lv_goto (tgt := 68) hx hb dX1_carry_102 (by decide) ?_
              exact ih (i + 1) u3 (upd as1 i (nI (L (p + 1 + i)))) (by omega) (by omega) hf2 (fun j hj => (Decidable.em (j = i)).elim (fun e9 => by subst e9; exact pk_us) (fun e9 => (pk_un e9).trans (has j (by omega)))) H locs hP hD hS ls (lv_sub hl [1, 2, 3, 4, 5, 6, 7, 8, 0] rfl)
        exact loop1 (w + 1) 0 f as (by omega) (by omega) (by rw [ol_rem_0]; exact hf) (fun j hj => absurd hj (Nat.not_lt_zero j)) _ _ hP hD hS ls (lv_sub hl [5, 6, 7, 8, 4, 3, 2, 1, 0] rfl)
      · have hop := ol_nle (by omega) (by omega) c_44
        refine lv_iload hx hb dX1_carry_47 (lv_at hl 0 rfl) ?_
        refine lv_iload hx hb dX1_carry_49 (lv_at hl 1 rfl) ?_
        refine lv_icmp_ge (tgt := 56) hx hb dX1_carry_51 (by decide) (fun c_51 => ?_) (fun c_51 => ?_)
        · have hoq := ol_le (by omega) (by omega) c_51
          have hYY : o ≤ p ∨ q ≤ o := Or.inr hoq
          refine lv_iload hx hb dX1_carry_56 (lv_at hl 1 rfl) ?_
          refine lv_iload hx hb dX1_carry_58 (lv_at hl 2 rfl) ?_
          have hpq2 : p < q := hpq
          obtain ⟨w, hw⟩ : ∃ w, w = q - p - 1 := ⟨_, rfl⟩
          obtain ⟨c', hcz, hcN, hr0, hL0⟩ : ∃ c', ol_at (N - w) (ol_rem L (p + 1) w) z c' ∧ c' + 1 ≤ N - w ∧ r = nI w ∧ L' = ol_blk (ol_rem L (p + 1) w) (fun j => L (p + 1 + j)) (c' + 1) w := by
            rcases hYY with h9 | h9
            · refine ⟨o, ⟨by omega, by rw [ol_rem_lo (by omega)]; exact ho.2⟩, by omega, ?_⟩
              rcases hs2 with ⟨h1, _⟩ | ⟨_, _, h2, h3⟩ | ⟨_, h1, _⟩
              · exact absurd h1 (by omega)
              · subst hw; exact ⟨h2, by rw [h3, ol_carry_lo L h9 hpq]⟩
              · exact absurd h1 (by omega)
            · refine ⟨o - w, ⟨by omega, by rw [ol_rem_hi (by omega), show o - w + w = o by omega]; exact ho.2⟩, by omega, ?_⟩
              rcases hs2 with ⟨h1, _⟩ | ⟨_, h1, _⟩ | ⟨_, _, h2, h3⟩
              · exact absurd h1 (by omega)
              · exact absurd h1 (by omega)
              · subst hw; exact ⟨h2, by rw [h3, ol_carry_hi L h9 hpq]⟩
          refine lv_isub hx hb dX1_carry_60 ?_
          refine ow_top (z := nI (q - p)) (pk_sub (by omega)) ?_
          refine lv_iconst (v := 1) hx hb dX1_carry_61 (by decide +kernel) ?_
          refine lv_isub hx hb dX1_carry_62 ?_
          refine ow_top (z := nI w) (by rw [hw]; exact nI_m1 (by omega)) ?_
          refine lv_istore (lv' := [(7, .int (nI w)), (6, .int (nI o)), (5, .int (nI q)), (4, .int (nI p)), (0, .ref h), (1, .int x), (2, .int y), (3, .int z)]) hx hb dX1_carry_63 hl (by decide) rfl (fun ls hl => ?_)
          refine lv_iconst (v := nI 0) hx hb dX1_carry_65 (by decide +kernel) ?_
          refine lv_istore (lv' := [(8, .int (nI 0)), (7, .int (nI w)), (6, .int (nI o)), (5, .int (nI q)), (4, .int (nI p)), (0, .ref h), (1, .int x), (2, .int y), (3, .int z)]) hx hb dX1_carry_66 hl (by decide) rfl (fun ls hl => ?_)
          have loop1 : ∀ (k : Nat) (i : Nat) (f1 as1 : Nat → Int32), w < i + k → i ≤ w → ol_f (N - i) (ol_rem L (p + 1) i) f1 → (∀ j, j < i → as1 j = nI (L (p + 1 + j))) → ∀ (H : Heap) (locs : List Loc), va_P (dC, dI) vwCl [(h, .inr (1, [.int tt, .ref a, .int (nI (N - i)), .ref b])), (a, .inl (cA, 1000, .inl f1)), (b, .inl (cB, 1000, .inl as1))] H → va_D A [(h, .inr (1, [.int tt, .ref a, .int (nI (N - i)), .ref b])), (a, .inl (cA, 1000, .inl f1)), (b, .inl (cB, 1000, .inl as1))] → va_S A s.heap H locs → ∀ ls : Array Slot, lv_has ls 9 [(0, .ref h), (1, .int x), (2, .int y), (3, .int z), (4, .int (nI p)), (5, .int (nI q)), (6, .int (nI o)), (7, .int (nI w)), (8, .int (nI i))] → W pg l ev (headSpec wsX1_carry ({ frames := 2, cells := 0, slots := 0, locals := 45 })).room s m ([.ref h, .int x, .int y, .int z] : List Value).toArray below meth cd H locs 0 0 (MQ below (va_Qi (fun (r' : Int32) (u : Int32 × Int32 × (Nat → Int32) × (Nat → Int32)) => r' = r ∧ u.1 = tt ∧ u.2.1 = nI N' ∧ ol_f N' L' u.2.2.1) (ow_B (dC, dI) vwCl (wM h a b cA cB) A) A) ([.ref h, .int x, .int y, .int z] : List Value).toArray s 0 0 A) (F0 m 68 ls []) := by
            intro k
            induction k with
            | zero =>
              intro i f1 as1 h1 h2 h3
              exact absurd h1 (by omega)
            | succ k ih =>
              intro i f1 as1 hk hi hf1 has H locs hP hD hS ls hl
              refine lv_iload hx hb dX1_carry_68 (lv_at hl 8 rfl) ?_
              refine lv_iload hx hb dX1_carry_70 (lv_at hl 7 rfl) ?_
              refine lv_icmp_ge (tgt := 105) hx hb dX1_carry_72 (by decide) (fun c_72 => ?_) (fun c_72 => ?_)
              · have hi3 := ol_le (by omega) (by omega) c_72
                obtain rfl : w = i := by omega
                refine lv_iconst (v := nI 0) hx hb dX1_carry_105 (by decide +kernel) ?_
                refine lv_istore (lv' := [(8, .int (nI 0)), (0, .ref h), (1, .int x), (2, .int y), (3, .int z), (4, .int (nI p)), (5, .int (nI q)), (6, .int (nI o)), (7, .int (nI w))]) hx hb dX1_carry_106 hl (by decide) rfl (fun ls hl => ?_)
                have loop2 : ∀ (k : Nat) (j : Nat) (f2 : Nat → Int32), w < j + k → j ≤ w → ol_f (N - w + j) (ol_blk (ol_rem L (p + 1) w) (fun j => L (p + 1 + j)) (c' + 1) j) f2 → ∀ (H : Heap) (locs : List Loc), va_P (dC, dI) vwCl [(h, .inr (1, [.int tt, .ref a, .int (nI (N - w + j)), .ref b])), (a, .inl (cA, 1000, .inl f2)), (b, .inl (cB, 1000, .inl as1))] H → va_D A [(h, .inr (1, [.int tt, .ref a, .int (nI (N - w + j)), .ref b])), (a, .inl (cA, 1000, .inl f2)), (b, .inl (cB, 1000, .inl as1))] → va_S A s.heap H locs → ∀ ls : Array Slot, lv_has ls 9 [(0, .ref h), (1, .int x), (2, .int y), (3, .int z), (4, .int (nI p)), (5, .int (nI q)), (6, .int (nI o)), (7, .int (nI w)), (8, .int (nI j))] → W pg l ev (headSpec wsX1_carry ({ frames := 2, cells := 0, slots := 0, locals := 45 })).room s m ([.ref h, .int x, .int y, .int z] : List Value).toArray below meth cd H locs 0 0 (MQ below (va_Qi (fun (r' : Int32) (u : Int32 × Int32 × (Nat → Int32) × (Nat → Int32)) => r' = r ∧ u.1 = tt ∧ u.2.1 = nI N' ∧ ol_f N' L' u.2.2.1) (ow_B (dC, dI) vwCl (wM h a b cA cB) A) A) ([.ref h, .int x, .int y, .int z] : List Value).toArray s 0 0 A) (F0 m 108 ls []) := by
                  intro k
                  induction k with
                  | zero =>
                    intro j f2 h1 h2 h3
                    exact absurd h1 (by omega)
                  | succ k ih =>
                    intro j f2 hk2 hj hf2 H locs hP hD hS ls hl
                    refine lv_iload hx hb dX1_carry_108 (lv_at hl 8 rfl) ?_
                    refine lv_iload hx hb dX1_carry_110 (lv_at hl 7 rfl) ?_
                    refine lv_icmp_ge (tgt := 142) hx hb dX1_carry_112 (by decide) (fun c_112 => ?_) (fun c_112 => ?_)
                    · have hj3 := ol_le (by omega) (by omega) c_112
                      obtain rfl : w = j := by omega
                      have eNw : N - w + w = N := by omega
                      refine lv_iload hx hb dX1_carry_142 (lv_at hl 7 rfl) ?_
                      exact W.iret (v := (nI w)) hx hb hr (fun t ht hW => ⟨⟨(nI w), (tt, nI (N - w + w), f2, as1), rfl, ⟨hr0.symm, rfl, by rw [hN0, eNw], by rw [hN0, hL0, ← eNw]; exact hf2⟩, by rw [ht]; exact hP, hD⟩, hS.F ht⟩) hS.2.2 dX1_carry_144
                    · have hj3 := ol_nle (by omega) (by omega) c_112
                      have ok2 : ol_ok (N - w + j) (ol_blk (ol_rem L (p + 1) w) (fun j => L (p + 1 + j)) (c' + 1) j) := ol_ok_carry ok (by omega) (by omega) j (by omega)
                      have hcz2 : ol_at (N - w + j) (ol_blk (ol_rem L (p + 1) w) (fun j => L (p + 1 + j)) (c' + 1) j) z c' := ⟨by omega, by rw [ol_blk_lo (by omega)]; exact hcz.2⟩
                      refine lv_aload_n hx hb dX1_carry_115 rfl (lv_at hl 0 rfl) ?_
                      refine lv_aload_n hx hb dX1_carry_116 rfl (lv_at hl 0 rfl) ?_
                      refine va_get (D := (dC, dI)) (ci := 1) (v := .ref b) (C := RX1) (T := TX1) (N := 4) hx hb hts (by decide +kernel) hown hK hP 0 rfl rfl 3 (by decide) (hts (.fieldLink RX1 17 "OrderLineModel" "aside" "[I") (by decide +kernel)) (fun _ h9 => h9) rfl dX1_carry_117 ?_
                      refine lv_iload hx hb dX1_carry_120 (lv_at hl 8 rfl) ?_
                      refine ow_iald (k := j) (v := nI (L (p + 1 + j))) hx hb hK hP 2 1 rfl rfl (by omega) (by decide) (has j (by omega)) dX1_carry_122 ?_
                      refine lv_aload_n hx hb dX1_carry_123 rfl (lv_at hl 0 rfl) ?_
                      refine lv_iload_n hx hb dX1_carry_124 rfl (lv_at hl 3 rfl) ?_
                      refine ow_callR (r := nI c') (W.runV (As := [.int z]) (rest := [.int (nI (L (p + 1 + j))), .ref h]) ⟨hx, hb, hml, hown, hts⟩ (c_M_find l dC dI h a b cA cB tt (N - w + j) (ol_blk (ol_rem L (p + 1) w) (fun j => L (p + 1 + j)) (c' + 1) j) f2 as1 z (nI c') (by omega) hf2 (ol_fd_at ok2 hcz2)) (cwV 1 hts gX1_carry_X1_find rfl rfl rfl (by decide +kernel) ⟨Nat.le_of_ble_eq_true rfl, Nat.le_of_ble_eq_true rfl⟩) (ow_PreR hK hP (ci := 1) (q0 := 0) rfl rfl) rfl rfl hl.1 rfl (lv_room (Nat.le_of_ble_eq_true rfl)) dX1_carry_125 ⟨Nat.le_of_ble_eq_true rfl, Nat.le_of_ble_eq_true rfl⟩) ?_
                      refine lv_iconst (v := 1) hx hb dX1_carry_128 (by decide +kernel) ?_
                      refine lv_iadd hx hb dX1_carry_129 ?_
                      refine ow_top (z := nI (c' + 1)) (nI_1 c') ?_
                      refine lv_iload hx hb dX1_carry_130 (lv_at hl 8 rfl) ?_
                      refine lv_iadd hx hb dX1_carry_132 ?_
                      refine ow_top (z := nI (c' + 1 + j)) (nI_add (c' + 1) j) ?_
                      refine ow_callv (wr := []) (va_runV (As := [.int (nI (L (p + 1 + j))), .int (nI (c' + 1 + j))]) (rest := []) ⟨hx, hb, hml, hown, hts⟩ (c_M_put l dC dI h a b cA cB tt (N - w + j) (ol_blk (ol_rem L (p + 1) w) (fun j => L (p + 1 + j)) (c' + 1) j) f2 as1 (L (p + 1 + j)) (c' + 1 + j) _ hf2 (by omega) (by omega)) (cwV 2 hts gX1_carry_X1_put rfl rfl rfl (by decide +kernel) ⟨Nat.le_of_ble_eq_true rfl, Nat.le_of_ble_eq_true rfl⟩) (ow_PreV hK hP hD (ci := 1) (q0 := 0) rfl rfl) rfl rfl hl.1 rfl (lv_room (Nat.le_of_ble_eq_true rfl)) dX1_carry_133 ⟨Nat.le_of_ble_eq_true rfl, Nat.le_of_ble_eq_true rfl⟩) hP hD hS hA [0, 1, 2] [] rfl rfl (by decide) (by decide) (fun u H locs hw hP hD hS => ?_)
                      obtain ⟨u1, u2, u3, u4⟩ := u
                      obtain ⟨e1, e2, hf3, e4⟩ := hw
                      obtain rfl : tt = u1 := e1.symm
                      obtain rfl : nI (N - w + j + 1) = u2 := e2.symm
                      obtain rfl : as1 = u4 := e4.symm
                      have e9 := ol_blk_1 (ol_rem L (p + 1) w) (fun j => L (p + 1 + j)) (c' + 1) j
                      rw [e9] at hf3
                      have hP : va_P (dC, dI) vwCl [(h, .inr (1, [.int tt, .ref a, .int (nI (N - w + (j + 1))), .ref b])), (a, .inl (cA, 1000, .inl u3)), (b, .inl (cB, 1000, .inl as1))] H := hP
                      have hD : va_D A [(h, .inr (1, [.int tt, .ref a, .int (nI (N - w + (j + 1))), .ref b])), (a, .inl (cA, 1000, .inl u3)), (b, .inl (cB, 1000, .inl as1))] := hD
                      refine lv_iinc (v := nI (j + 1)) (lv' := [(8, .int (nI (j + 1))), (0, .ref h), (1, .int x), (2, .int y), (3, .int z), (4, .int (nI p)), (5, .int (nI q)), (6, .int (nI o)), (7, .int (nI w))]) hx hb dX1_carry_136 hl (k := 8) rfl (nI_1 j) (by decide) rfl (fun ls hl => ?_)
                      refine lv_goto (tgt := 108) hx hb dX1_carry_139 (by decide) ?_
                      exact ih (j + 1) u3 (by omega) (by omega) hf3 H locs hP hD hS ls (lv_sub hl [1, 2, 3, 4, 5, 6, 7, 8, 0] rfl)
                exact loop2 (w + 1) 0 f1 (by omega) (by omega) (by rw [ol_blk_0]; exact hf1) _ _ hP hD hS ls (lv_sub hl [1, 2, 3, 4, 5, 6, 7, 8, 0] rfl)
              · have hi3 := ol_nle (by omega) (by omega) c_72
                refine lv_aload_n hx hb dX1_carry_75 rfl (lv_at hl 0 rfl) ?_
                refine va_get (D := (dC, dI)) (ci := 1) (v := .ref b) (C := RX1) (T := TX1) (N := 4) hx hb hts (by decide +kernel) hown hK hP 0 rfl rfl 3 (by decide) (hts (.fieldLink RX1 17 "OrderLineModel" "aside" "[I") (by decide +kernel)) (fun _ h9 => h9) rfl dX1_carry_76 ?_
                refine lv_iload hx hb dX1_carry_79 (lv_at hl 8 rfl) ?_
                refine lv_aload_n hx hb dX1_carry_81 rfl (lv_at hl 0 rfl) ?_
                refine va_get (D := (dC, dI)) (ci := 1) (v := .ref a) (C := RX1) (T := TX1) (N := 4) hx hb hts (by decide +kernel) hown hK hP 0 rfl rfl 1 (by decide) (hts (.fieldLink RX1 7 "OrderLineModel" "line" "[I") (by decide +kernel)) (fun _ h9 => h9) rfl dX1_carry_82 ?_
                refine lv_iload hx hb dX1_carry_85 (lv_at hl 4 rfl) ?_
                refine lv_iconst (v := 1) hx hb dX1_carry_87 (by decide +kernel) ?_
                refine lv_iadd hx hb dX1_carry_88 ?_
                refine ow_top (z := nI (p + 1)) (nI_1 p) ?_
                refine ow_iald (k := p + 1) (v := nI (L (p + 1 + i))) hx hb hK hP 1 0 rfl rfl (by omega) (by decide) (by rw [hf1 (p + 1) (by omega), ol_rem_hi (by omega)]) dX1_carry_89 ?_
                refine ow_iast (k := i) hx hb hK hP hD hS 2 1 rfl rfl (by omega) (by decide) dX1_carry_90 (fun H locs hP hD hS => ?_)
                have hP : va_P (dC, dI) vwCl [(h, .inr (1, [.int tt, .ref a, .int (nI (N - i)), .ref b])), (a, .inl (cA, 1000, .inl f1)), (b, .inl (cB, 1000, .inl (upd as1 i ((nI (L (p + 1 + i)))))))] H := hP
                have hD : va_D A [(h, .inr (1, [.int tt, .ref a, .int (nI (N - i)), .ref b])), (a, .inl (cA, 1000, .inl f1)), (b, .inl (cB, 1000, .inl (upd as1 i ((nI (L (p + 1 + i)))))))] := hD
                refine lv_aload_n hx hb dX1_carry_91 rfl (lv_at hl 0 rfl) ?_
                refine lv_iload hx hb dX1_carry_92 (lv_at hl 4 rfl) ?_
                refine lv_iconst (v := 1) hx hb dX1_carry_94 (by decide +kernel) ?_
                refine lv_iadd hx hb dX1_carry_95 ?_
                refine ow_top (z := nI (p + 1)) (nI_1 p) ?_
                refine ow_callv (wr := []) (va_runV (As := [.int (nI (p + 1))]) (rest := []) ⟨hx, hb, hml, hown, hts⟩ (c_M_drop l dC dI h a b cA cB tt (N - i) (ol_rem L (p + 1) i) f1 (upd as1 i (nI (L (p + 1 + i)))) (p + 1) _ hf1 (by omega) (by omega)) (cwV 1 hts gX1_carry_X1_drop rfl rfl rfl (by decide +kernel) ⟨Nat.le_of_ble_eq_true rfl, Nat.le_of_ble_eq_true rfl⟩) (ow_PreV hK hP hD (ci := 1) (q0 := 0) rfl rfl) rfl rfl hl.1 rfl (lv_room (Nat.le_of_ble_eq_true rfl)) dX1_carry_96 ⟨Nat.le_of_ble_eq_true rfl, Nat.le_of_ble_eq_true rfl⟩) hP hD hS hA [0, 1, 2] [] rfl rfl (by decide) (by decide) (fun u H locs hw hP hD hS => ?_)
                obtain ⟨u1, u2, u3, u4⟩ := u
                obtain ⟨e1, e2, hf2, e4⟩ := hw
                obtain rfl : tt = u1 := e1.symm
                obtain rfl : nI (N - i - 1) = u2 := e2.symm
                obtain rfl : upd as1 i (nI (L (p + 1 + i))) = u4 := e4.symm
                rw [ol_rem_1] at hf2
                have eN : N - i - 1 = N - (i + 1) := by omega
                rw [eN] at hf2 hP hD
                have hP : va_P (dC, dI) vwCl [(h, .inr (1, [.int tt, .ref a, .int (nI (N - (i + 1))), .ref b])), (a, .inl (cA, 1000, .inl u3)), (b, .inl (cB, 1000, .inl (upd as1 i (nI (L (p + 1 + i))))))] H := hP
                have hD : va_D A [(h, .inr (1, [.int tt, .ref a, .int (nI (N - (i + 1))), .ref b])), (a, .inl (cA, 1000, .inl u3)), (b, .inl (cB, 1000, .inl (upd as1 i (nI (L (p + 1 + i))))))] := hD
                refine lv_iinc (v := nI (i + 1)) (lv' := [(8, .int (nI (i + 1))), (0, .ref h), (1, .int x), (2, .int y), (3, .int z), (4, .int (nI p)), (5, .int (nI q)), (6, .int (nI o)), (7, .int (nI w))]) hx hb dX1_carry_99 hl (k := 8) rfl (nI_1 i) (by decide) rfl (fun ls hl => ?_)
                refine lv_goto (tgt := 68) hx hb dX1_carry_102 (by decide) ?_
                exact ih (i + 1) u3 (upd as1 i (nI (L (p + 1 + i)))) (by omega) (by omega) hf2 (fun j hj => (Decidable.em (j = i)).elim (fun e9 => by subst e9; exact pk_us) (fun e9 => (pk_un e9).trans (has j (by omega)))) H locs hP hD hS ls (lv_sub hl [1, 2, 3, 4, 5, 6, 7, 8, 0] rfl)
          exact loop1 (w + 1) 0 f as (by omega) (by omega) (by rw [ol_rem_0]; exact hf) (fun j hj => absurd hj (Nat.not_lt_zero j)) _ _ hP hD hS ls (lv_sub hl [5, 6, 7, 8, 4, 3, 2, 1, 0] rfl)
        · have hoq := ol_nle (by omega) (by omega) c_51
          obtain ⟨hr0, hL0⟩ : r = -1 ∧ L' = L := by
            rcases hs2 with ⟨_, h2⟩ | ⟨h1, h2, _⟩ | ⟨h1, h2, _⟩
            · exact h2
            · exact absurd h1 (by omega)
            · exact absurd h1 (by omega)
          refine lv_iconst (v := (-1)) hx hb dX1_carry_54 (by decide +kernel) ?_
          exact W.iret (v := ((-1))) hx hb hr (fun t ht hW => ⟨⟨((-1)), (tt, nI N, f, as), rfl, ⟨hr0.symm, rfl, by rw [hN0], by rw [hN0, hL0]; exact hf⟩, by rw [ht]; exact hP, hD⟩, hS.F ht⟩) hS.2.2 dX1_carry_55
  · obtain ⟨hr0, hN0, hL0⟩ : r = 0 ∧ N' = N ∧ L' = L := by
      rcases hsp with ⟨_, _, e9⟩ | ⟨e9, _⟩
      · exact e9
      · exact absurd e9 c_7
    refine lv_iconst (v := 0) hx hb dX1_carry_10 (by decide +kernel) ?_
    exact W.iret (v := 0) hx hb hr (fun t ht hW => ⟨⟨0, (tt, nI N, f, as), rfl, ⟨hr0.symm, rfl, by rw [hN0], by rw [hN0, hL0]; exact hf⟩, by rw [ht]; exact hP, hD⟩, hS.F ht⟩) hS.2.2 dX1_carry_11
