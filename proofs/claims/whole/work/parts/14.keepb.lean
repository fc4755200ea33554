set_option maxHeartbeats 4000000 in
set_option maxRecDepth 100000 in
/-- demand(x): it is there, or a throw -/
theorem c_X_demand (l : Launch) (dC : Nat → ClassId) (dI : Nat → Nat → Nat) (hfl : l.flags = flags0) (h a b : Nat) (cA cB : ClassId) (N : Nat) (L : Nat → Nat) (f g : Nat → Int32) (x : Int32) (ok : ol_ok N L) (hg : ol_g N L g) : ow_Met l yX0_demand wsX0_demand ({ frames := 6, cells := 1, slots := 6, locals := 82 }) (ow_Rx (dC, dI) vwCl [(cA, .int), (cB, .int)] (wX h a b cA cB (nI N, f, g)) [.ref h, .int x]) (ow_Q "java/lang/IllegalArgumentException" (ol_no N L x) (fun _ st oc t => oc = .returned none ∧ t.heap = st.heap ∧ ∃ p, ol_at N L x p)) 1 6 (fun _ => False) := by
  refine ow_ofW (cc := cX0_demand) (maxL := 2) (ret := none) (by decide) rfl ?_
  intro pg ev s m args below meth cd s₁ B hml hv
  obtain ⟨rfl, hP, hK, hZ⟩ := hv
  have hx := B.exec
  have hb := B.bytes
  have hr := B.returns
  have hts := atoms_spec (ws := wsX0_demand) B.pre
  have hown : s.vm.findClass RX0 = some m.cls := findClass_of_methodNamed B.named
  have hlocks := B.notSynchronized
  have hemp := B.noHandlers (hts _ List.mem_cons_self)
  have hP : va_P (dC, dI) vwCl [(h, .inr (0, [.ref a, .ref b, .int (nI N)])), (a, .inl (cA, 1000, .inl f)), (b, .inl (cB, 1000, .inl g))] s.heap := hP
  have hl := lv_entry ([.ref h, .int x]) (n := 2) (Nat.le_of_ble_eq_true rfl)
  rw [lg_entry_eq]
  generalize (lg_sl ([.ref h, .int x]) ++ List.replicate (2 - (lg_sl ([.ref h, .int x])).length) Slot.unset).toArray = ls at hl ⊢
  have hl : lv_has ls 2 [(0, .ref h), (1, .int x)] := hl
  refine lv_aload_n hx hb dX0_demand_0 rfl (lv_at hl 0 rfl) ?_
  refine lv_iload_n hx hb dX0_demand_1 rfl (lv_at hl 1 rfl) ?_
  obtain ⟨r1, hh1, hc1⟩ := ol_hs_ex N L x
  refine ow_callR (r := r1) (W.runV (As := [.int x]) (rest := []) ⟨hx, hb, hml, hown, hts⟩ (c_X_has l dC dI h a b cA cB N L f g x r1 ok hg hh1) (cwV 1 hts gX0_demand_X0_has rfl rfl rfl (by decide +kernel) ⟨Nat.le_of_ble_eq_true rfl, Nat.le_of_ble_eq_true rfl⟩) (ow_PreR hK hP (ci := 0) (q0 := 0) rfl rfl) rfl rfl hl.1 rfl (lv_room (Nat.le_of_ble_eq_true rfl)) dX0_demand_2 ⟨Nat.le_of_ble_eq_true rfl, Nat.le_of_ble_eq_true rfl⟩) ?_
  refine lv_if_ne (tgt := 18) hx hb dX0_demand_5 (by decide) (fun c_5 => ?_) (fun c_5 => ?_)
  · have hat : ∃ p, ol_at N L x p := by
      rcases hc1 with ⟨_, h9⟩ | ⟨h9, _⟩
      · exact h9
      · exact absurd h9 c_5
    exact ow_ret (W.vret hx hb hr (fun t ht hW => Or.inl ⟨⟨_, rfl⟩, (fun h9 => hat.elim (fun p9 hp9 => ol_at_no hp9 h9)), rfl, ht, hat⟩) (fun q h => by cases h) dX0_demand_18)
  · have hno : ol_no N L x := by
      rcases hc1 with ⟨h9, _⟩ | ⟨_, h9⟩
      · exact absurd (h9.symm.trans c_5) (by decide)
      · exact h9
    exact ow_throw hx hb hfl hown (hts _ (List.mem_cons_of_mem _ (List.mem_append_left _ (List.mem_append_left _ (List.mem_of_getElem? (i := 0) rfl))))) (hts _ (List.mem_cons_of_mem _ (List.mem_append_left _ (List.mem_append_left _ (List.mem_of_getElem? (i := 1) rfl))))) (fun w9 h9 => hts w9 (List.mem_cons_of_mem _ (List.mem_append_right _ h9))) hZ (hl.1.trans hml.symm) dX0_demand_8 dX0_demand_11 dX0_demand_12 dX0_demand_14 dX0_demand_17 hemp hlocks (Nat.le_of_ble_eq_true rfl) (Nat.le_of_ble_eq_true rfl) (Nat.le_of_ble_eq_true rfl) (Nat.le_of_ble_eq_true rfl) hno
set_option maxHeartbeats 4000000 in
set_option maxRecDepth 100000 in
/-- place(x) -/
theorem c_X_place (l : Launch) (dC : Nat → ClassId) (dI : Nat → Nat → Nat) (hfl : l.flags = flags0) (h a b : Nat) (cA cB : ClassId) (N : Nat) (L : Nat → Nat) (f g : Nat → Int32) (x r : Int32) (ok : ol_ok N L) (hf : ol_f N L f) (hg : ol_g N L g) (hsp : ∀ p, ol_at N L x p → r = nI p) : ow_Met l yX0_place wsX0_place ({ frames := 7, cells := 1, slots := 6, locals := 103 }) (ow_Rx (dC, dI) vwCl [(cA, .int), (cB, .int)] (wX h a b cA cB (nI N, f, g)) [.ref h, .int x]) (ow_Q "java/lang/IllegalArgumentException" (ol_no N L x) (QcRead r)) 1 6 (fun _ => False) := by
  refine ow_ofW (cc := cX0_place) (maxL := 2) (ret := (some .int)) (by decide) rfl ?_
  intro pg ev s m args below meth cd s₁ B hml hv
  obtain ⟨rfl, hP, hK, hZ⟩ := hv
  have hx := B.exec
  have hb := B.bytes
  have hr := B.returns
  have hts := atoms_spec (ws := wsX0_place) B.pre
  have hown : s.vm.findClass RX0 = some m.cls := findClass_of_methodNamed B.named
  have hlocks := B.notSynchronized
  have hemp := B.noHandlers (hts _ List.mem_cons_self)
  have hP : va_P (dC, dI) vwCl [(h, .inr (0, [.ref a, .ref b, .int (nI N)])), (a, .inl (cA, 1000, .inl f)), (b, .inl (cB, 1000, .inl g))] s.heap := hP
  have hl := lv_entry ([.ref h, .int x]) (n := 2) (Nat.le_of_ble_eq_true rfl)
  rw [lg_entry_eq]
  generalize (lg_sl ([.ref h, .int x]) ++ List.replicate (2 - (lg_sl ([.ref h, .int x])).length) Slot.unset).toArray = ls at hl ⊢
  have hl : lv_has ls 2 [(0, .ref h), (1, .int x)] := hl
  refine lv_aload_n hx hb dX0_place_0 rfl (lv_at hl 0 rfl) ?_
  refine lv_iload_n hx hb dX0_place_1 rfl (lv_at hl 1 rfl) ?_
  refine ow_callD (okP := ∃ p, ol_at N L x p) (ow_runV (As := [.int x]) (rest := []) ⟨hx, hb, hml, hown, hts⟩ (c_X_demand l dC dI hfl h a b cA cB N L f g x ok hg) (cwV 1 hts gX0_place_X0_demand rfl rfl rfl (by decide +kernel) ⟨Nat.le_of_ble_eq_true rfl, Nat.le_of_ble_eq_true rfl⟩) (ow_PreRx hK hP hZ (ci := 0) (q0 := 0) rfl rfl) rfl rfl hl.1 rfl (lv_room (Nat.le_of_ble_eq_true rfl)) dX0_place_2 ⟨Nat.le_of_ble_eq_true rfl, Nat.le_of_ble_eq_true rfl⟩) (fun q h => by cases h) hemp hlocks (by decide) (by decide) (fun h9 => h9) (fun hok => ?_)
  obtain ⟨p, hp⟩ := hok
  refine lv_aload_n hx hb dX0_place_5 rfl (lv_at hl 0 rfl) ?_
  refine va_get (D := (dC, dI)) (ci := 0) (v := .ref b) (C := RX0) (T := TX0) (N := 3) hx hb hts (by decide +kernel) hown hK hP 0 rfl rfl 1 (by decide) (hts (.fieldLink RX0 13 "OrderLine" "places" "[I") (by decide +kernel)) (fun _ h9 => h9) rfl dX0_place_6 ?_
  refine lv_iload_n hx hb dX0_place_9 rfl (lv_at hl 1 rfl) ?_
  refine ow_top (z := nI (L p)) hp.2 ?_
  refine ow_iald (k := L p) (v := nI p) hx hb hK hP 2 1 rfl rfl (ok.2.2.2.1 p hp.1) (by decide) (hg.1 p hp.1) dX0_place_10 ?_
  exact ow_ret (W.iret (v := (nI p)) hx hb hr (fun t ht hW => Or.inl ⟨⟨_, rfl⟩, (fun h9 => ol_at_no hp h9), by rw [hsp p hp], ht⟩) (fun q h => by cases h) dX0_place_11)
set_option maxHeartbeats 4000000 in
set_option maxRecDepth 100000 in
/-- compare(x, y) -/
theorem c_X_compare (l : Launch) (dC : Nat → ClassId) (dI : Nat → Nat → Nat) (hfl : l.flags = flags0) (h a b : Nat) (cA cB : ClassId) (N : Nat) (L : Nat → Nat) (f g : Nat → Int32) (x y r : Int32) (ok : ol_ok N L) (hf : ol_f N L f) (hg : ol_g N L g) (hsp : ∀ p q, ol_at N L x p → ol_at N L y q → r = ol_cmp p q) : ow_Met l yX0_compare wsX0_compare ({ frames := 7, cells := 1, slots := 6, locals := 103 }) (ow_Rx (dC, dI) vwCl [(cA, .int), (cB, .int)] (wX h a b cA cB (nI N, f, g)) [.ref h, .int x, .int y]) (ow_Q "java/lang/IllegalArgumentException" (ol_no N L x ∨ ol_no N L y) (QcRead r)) 1 6 (fun _ => False) := by
  refine ow_ofW (cc := cX0_compare) (maxL := 3) (ret := (some .int)) (by decide) rfl ?_
  intro pg ev s m args below meth cd s₁ B hml hv
  obtain ⟨rfl, hP, hK, hZ⟩ := hv
  have hx := B.exec
  have hb := B.bytes
  have hr := B.returns
  have hts := atoms_spec (ws := wsX0_compare) B.pre
  have hown : s.vm.findClass RX0 = some m.cls := findClass_of_methodNamed B.named
  have hlocks := B.notSynchronized
  have hemp := B.noHandlers (hts _ List.mem_cons_self)
  have hP : va_P (dC, dI) vwCl [(h, .inr (0, [.ref a, .ref b, .int (nI N)])), (a, .inl (cA, 1000, .inl f)), (b, .inl (cB, 1000, .inl g))] s.heap := hP
  have hl := lv_entry ([.ref h, .int x, .int y]) (n := 3) (Nat.le_of_ble_eq_true rfl)
  rw [lg_entry_eq]
  generalize (lg_sl ([.ref h, .int x, .int y]) ++ List.replicate (3 - (lg_sl ([.ref h, .int x, .int y])).length) Slot.unset).toArray = ls at hl ⊢
  have hl : lv_has ls 3 [(0, .ref h), (1, .int x), (2, .int y)] := hl
  refine lv_aload_n hx hb dX0_compare_0 rfl (lv_at hl 0 rfl) ?_
  refine lv_iload_n hx hb dX0_compare_1 rfl (lv_at hl 1 rfl) ?_
  refine ow_callD (okP := ∃ p, ol_at N L x p) (ow_runV (As := [.int x]) (rest := []) ⟨hx, hb, hml, hown, hts⟩ (c_X_demand l dC dI hfl h a b cA cB N L f g x ok hg) (cwV 1 hts gX0_compare_X0_demand rfl rfl rfl (by decide +kernel) ⟨Nat.le_of_ble_eq_true rfl, Nat.le_of_ble_eq_true rfl⟩) (ow_PreRx hK hP hZ (ci := 0) (q0 := 0) rfl rfl) rfl rfl hl.1 rfl (lv_room (Nat.le_of_ble_eq_true rfl)) dX0_compare_2 ⟨Nat.le_of_ble_eq_true rfl, Nat.le_of_ble_eq_true rfl⟩) (fun q h => by cases h) hemp hlocks (by decide) (by decide) Or.inl (fun hok => ?_)
  obtain ⟨p, hp⟩ := hok
  refine lv_aload_n hx hb dX0_compare_5 rfl (lv_at hl 0 rfl) ?_
  refine lv_iload_n hx hb dX0_compare_6 rfl (lv_at hl 2 rfl) ?_
  refine ow_callD (okP := ∃ p, ol_at N L y p) (ow_runV (As := [.int y]) (rest := []) ⟨hx, hb, hml, hown, hts⟩ (c_X_demand l dC dI hfl h a b cA cB N L f g y ok hg) (cwV 1 hts gX0_compare_X0_demand rfl rfl rfl (by decide +kernel) ⟨Nat.le_of_ble_eq_true rfl, Nat.le_of_ble_eq_true rfl⟩) (ow_PreRx hK hP hZ (ci := 0) (q0 := 0) rfl rfl) rfl rfl hl.1 rfl (lv_room (Nat.le_of_ble_eq_true rfl)) dX0_compare_7 ⟨Nat.le_of_ble_eq_true rfl, Nat.le_of_ble_eq_true rfl⟩) (fun q h => by cases h) hemp hlocks (by decide) (by decide) Or.inr (fun hok => ?_)
  obtain ⟨q, hq⟩ := hok
  refine lv_iload_n hx hb dX0_compare_10 rfl (lv_at hl 1 rfl) ?_
  refine lv_iload_n hx hb dX0_compare_11 rfl (lv_at hl 2 rfl) ?_
  refine lv_icmp_ne (tgt := 17) hx hb dX0_compare_12 (by decide) (fun c_12 => ?_) (fun c_12 => ?_)
  · have hpq : p ≠ q := fun e9 => c_12 (by rw [hp.2, hq.2, e9])
    refine lv_aload_n hx hb dX0_compare_17 rfl (lv_at hl 0 rfl) ?_
    refine va_get (D := (dC, dI)) (ci := 0) (v := .ref b) (C := RX0) (T := TX0) (N := 3) hx hb hts (by decide +kernel) hown hK hP 0 rfl rfl 1 (by decide) (hts (.fieldLink RX0 13 "OrderLine" "places" "[I") (by decide +kernel)) (fun _ h9 => h9) rfl dX0_compare_18 ?_
    refine lv_iload_n hx hb dX0_compare_21 rfl (lv_at hl 1 rfl) ?_
    refine ow_top (z := nI (L p)) hp.2 ?_
    refine ow_iald (k := L p) (v := nI p) hx hb hK hP 2 1 rfl rfl (ok.2.2.2.1 p hp.1) (by decide) (hg.1 p hp.1) dX0_compare_22 ?_
    refine lv_aload_n hx hb dX0_compare_23 rfl (lv_at hl 0 rfl) ?_
    refine va_get (D := (dC, dI)) (ci := 0) (v := .ref b) (C := RX0) (T := TX0) (N := 3) hx hb hts (by decide +kernel) hown hK hP 0 rfl rfl 1 (by decide) (hts (.fieldLink RX0 13 "OrderLine" "places" "[I") (by decide +kernel)) (fun _ h9 => h9) rfl dX0_compare_24 ?_
    refine lv_iload_n hx hb dX0_compare_27 rfl (lv_at hl 2 rfl) ?_
    refine ow_top (z := nI (L q)) hq.2 ?_
    refine ow_iald (k := L q) (v := nI q) hx hb hK hP 2 1 rfl rfl (ok.2.2.2.1 q hq.1) (by decide) (hg.1 q hq.1) dX0_compare_28 ?_
    refine lv_icmp_ge (tgt := 36) hx hb dX0_compare_29 (by decide) (fun c_29 => ?_) (fun c_29 => ?_)
    · have hc := ol_le (by have := hq.1; have := ok.2.1; omega) (by have := hp.1; have := ok.2.1; omega) c_29
      have hr0 : r = 1 := by rw [hsp p q hp hq, ol_cmp_gt (by omega)]
      refine lv_iconst (v := 1) hx hb dX0_compare_36 (by decide +kernel) ?_
      exact ow_ret (W.iret (v := 1) hx hb hr (fun t ht hW => Or.inl ⟨⟨_, rfl⟩, (fun h9 => h9.elim (ol_at_no hp) (ol_at_no hq)), by rw [hr0], ht⟩) (fun q h => by cases h) dX0_compare_37)
    · have hc := ol_nle (by have := hq.1; have := ok.2.1; omega) (by have := hp.1; have := ok.2.1; omega) c_29
      have hr0 : r = -1 := by rw [hsp p q hp hq, ol_cmp_lt hc]
      refine lv_iconst (v := (-1)) hx hb dX0_compare_32 (by decide +kernel) ?_
      refine lv_goto (tgt := 37) hx hb dX0_compare_33 (by decide) ?_
      exact ow_ret (W.iret (v := ((-1))) hx hb hr (fun t ht hW => Or.inl ⟨⟨_, rfl⟩, (fun h9 => h9.elim (ol_at_no hp) (ol_at_no hq)), by rw [hr0], ht⟩) (fun q h => by cases h) dX0_compare_37)
  · have hr0 : r = 0 := by rw [hsp p q hp hq, ol_at_un ok hp (c_12 ▸ hq), ol_cmp_eq]
    refine lv_iconst (v := 0) hx hb dX0_compare_15 (by decide +kernel) ?_
    exact ow_ret (W.iret (v := 0) hx hb hr (fun t ht hW => Or.inl ⟨⟨_, rfl⟩, (fun h9 => h9.elim (ol_at_no hp) (ol_at_no hq)), by rw [hr0], ht⟩) (fun q h => by cases h) dX0_compare_16)
set_option maxHeartbeats 4000000 in
set_option maxRecDepth 100000 in
/-- next(x, z) -/
theorem c_X_next (l : Launch) (dC : Nat → ClassId) (dI : Nat → Nat → Nat) (hfl : l.flags = flags0) (h a b : Nat) (cA cB : ClassId) (N : Nat) (L : Nat → Nat) (f g : Nat → Int32) (x z r : Int32) (ok : ol_ok N L) (hf : ol_f N L f) (hg : ol_g N L g) (hsp : ∀ p, ol_at N L x p → ol_ps N L (if z = 0 then nI p - 1 else nI p + 1) r) : ow_Met l yX0_next wsX0_next ({ frames := 7, cells := 1, slots := 6, locals := 103 }) (ow_Rx (dC, dI) vwCl [(cA, .int), (cB, .int)] (wX h a b cA cB (nI N, f, g)) [.ref h, .int x, .int z]) (ow_Q "java/lang/IllegalArgumentException" (ol_no N L x) (QcRead r)) 1 6 (fun _ => False) := by
  refine ow_ofW (cc := cX0_next) (maxL := 3) (ret := (some .int)) (by decide) rfl ?_
  intro pg ev s m args below meth cd s₁ B hml hv
  obtain ⟨rfl, hP, hK, hZ⟩ := hv
  have hx := B.exec
  have hb := B.bytes
  have hr := B.returns
  have hts := atoms_spec (ws := wsX0_next) B.pre
  have hown : s.vm.findClass RX0 = some m.cls := findClass_of_methodNamed B.named
  have hlocks := B.notSynchronized
  have hemp := B.noHandlers (hts _ List.mem_cons_self)
  have hP : va_P (dC, dI) vwCl [(h, .inr (0, [.ref a, .ref b, .int (nI N)])), (a, .inl (cA, 1000, .inl f)), (b, .inl (cB, 1000, .inl g))] s.heap := hP
  have hl := lv_entry ([.ref h, .int x, .int z]) (n := 3) (Nat.le_of_ble_eq_true rfl)
  rw [lg_entry_eq]
  generalize (lg_sl ([.ref h, .int x, .int z]) ++ List.replicate (3 - (lg_sl ([.ref h, .int x, .int z])).length) Slot.unset).toArray = ls at hl ⊢
  have hl : lv_has ls 3 [(0, .ref h), (1, .int x), (2, .int z)] := hl
  refine lv_aload_n hx hb dX0_next_0 rfl (lv_at hl 0 rfl) ?_
  refine lv_iload_n hx hb dX0_next_1 rfl (lv_at hl 1 rfl) ?_
  refine ow_callD (okP := ∃ p, ol_at N L x p) (ow_runV (As := [.int x]) (rest := []) ⟨hx, hb, hml, hown, hts⟩ (c_X_demand l dC dI hfl h a b cA cB N L f g x ok hg) (cwV 1 hts gX0_next_X0_demand rfl rfl rfl (by decide +kernel) ⟨Nat.le_of_ble_eq_true rfl, Nat.le_of_ble_eq_true rfl⟩) (ow_PreRx hK hP hZ (ci := 0) (q0 := 0) rfl rfl) rfl rfl hl.1 rfl (lv_room (Nat.le_of_ble_eq_true rfl)) dX0_next_2 ⟨Nat.le_of_ble_eq_true rfl, Nat.le_of_ble_eq_true rfl⟩) (fun q h => by cases h) hemp hlocks (by decide) (by decide) (fun h9 => h9) (fun hok => ?_)
  obtain ⟨p, hp⟩ := hok
  refine lv_aload_n hx hb dX0_next_5 rfl (lv_at hl 0 rfl) ?_
  refine lv_iload_n hx hb dX0_next_6 rfl (lv_at hl 2 rfl) ?_
  refine lv_if_eq (tgt := 21) hx hb dX0_next_7 (by decide) (fun c_7 => ?_) (fun c_7 => ?_)
  · have hps := hsp p hp
    rw [if_pos c_7] at hps
    refine lv_aload_n hx hb dX0_next_21 rfl (lv_at hl 0 rfl) ?_
    refine va_get (D := (dC, dI)) (ci := 0) (v := .ref b) (C := RX0) (T := TX0) (N := 3) hx hb hts (by decide +kernel) hown hK hP 0 rfl rfl 1 (by decide) (hts (.fieldLink RX0 13 "OrderLine" "places" "[I") (by decide +kernel)) (fun _ h9 => h9) rfl dX0_next_22 ?_
    refine lv_iload_n hx hb dX0_next_25 rfl (lv_at hl 1 rfl) ?_
    refine ow_top (z := nI (L p)) hp.2 ?_
    refine ow_iald (k := L p) (v := nI p) hx hb hK hP 2 1 rfl rfl (ok.2.2.2.1 p hp.1) (by decide) (hg.1 p hp.1) dX0_next_26 ?_
    refine lv_iconst (v := 1) hx hb dX0_next_27 (by decide +kernel) ?_
    refine lv_isub hx hb dX0_next_28 ?_
    refine ow_callR (r := r) (W.runV (As := [.int ((nI p) - 1)]) (rest := []) ⟨hx, hb, hml, hown, hts⟩ (c_X_at l dC dI h a b cA cB N L f g ((nI p) - 1) r ok hf hps) (cwV 1 hts gX0_next_X0_at rfl rfl rfl (by decide +kernel) ⟨Nat.le_of_ble_eq_true rfl, Nat.le_of_ble_eq_true rfl⟩) (ow_PreR hK hP (ci := 0) (q0 := 0) rfl rfl) rfl rfl hl.1 rfl (lv_room (Nat.le_of_ble_eq_true rfl)) dX0_next_29 ⟨Nat.le_of_ble_eq_true rfl, Nat.le_of_ble_eq_true rfl⟩) ?_
    exact ow_ret (W.iret (v := r) hx hb hr (fun t ht hW => Or.inl ⟨⟨_, rfl⟩, (fun h9 => ol_at_no hp h9), by rw [show r = r from rfl], ht⟩) (fun q h => by cases h) dX0_next_32)
  · have hps := hsp p hp
    rw [if_neg c_7] at hps
    refine lv_aload_n hx hb dX0_next_10 rfl (lv_at hl 0 rfl) ?_
    refine va_get (D := (dC, dI)) (ci := 0) (v := .ref b) (C := RX0) (T := TX0) (N := 3) hx hb hts (by decide +kernel) hown hK hP 0 rfl rfl 1 (by decide) (hts (.fieldLink RX0 13 "OrderLine" "places" "[I") (by decide +kernel)) (fun _ h9 => h9) rfl dX0_next_11 ?_
    refine lv_iload_n hx hb dX0_next_14 rfl (lv_at hl 1 rfl) ?_
    refine ow_top (z := nI (L p)) hp.2 ?_
    refine ow_iald (k := L p) (v := nI p) hx hb hK hP 2 1 rfl rfl (ok.2.2.2.1 p hp.1) (by decide) (hg.1 p hp.1) dX0_next_15 ?_
    refine lv_iconst (v := 1) hx hb dX0_next_16 (by decide +kernel) ?_
    refine lv_iadd hx hb dX0_next_17 ?_
    refine lv_goto (tgt := 29) hx hb dX0_next_18 (by decide) ?_
    refine ow_callR (r := r) (W.runV (As := [.int ((nI p) + 1)]) (rest := []) ⟨hx, hb, hml, hown, hts⟩ (c_X_at l dC dI h a b cA cB N L f g ((nI p) + 1) r ok hf hps) (cwV 1 hts gX0_next_X0_at rfl rfl rfl (by decide +kernel) ⟨Nat.le_of_ble_eq_true rfl, Nat.le_of_ble_eq_true rfl⟩) (ow_PreR hK hP (ci := 0) (q0 := 0) rfl rfl) rfl rfl hl.1 rfl (lv_room (Nat.le_of_ble_eq_true rfl)) dX0_next_29 ⟨Nat.le_of_ble_eq_true rfl, Nat.le_of_ble_eq_true rfl⟩) ?_
    exact ow_ret (W.iret (v := r) hx hb hr (fun t ht hW => Or.inl ⟨⟨_, rfl⟩, (fun h9 => ol_at_no hp h9), by rw [show r = r from rfl], ht⟩) (fun q h => by cases h) dX0_next_32)
set_option maxHeartbeats 4000000 in
set_option maxRecDepth 100000 in
/-- greatest(x, y) -/
theorem c_X_greatest (l : Launch) (dC : Nat → ClassId) (dI : Nat → Nat → Nat) (hfl : l.flags = flags0) (h a b : Nat) (cA cB : ClassId) (N : Nat) (L : Nat → Nat) (f g : Nat → Int32) (x y r : Int32) (ok : ol_ok N L) (hf : ol_f N L f) (hg : ol_g N L g) (hsp : ∀ p q, ol_at N L x p → ol_at N L y q → r = ol_top L p (q + 1 - p)) : ow_Met l yX0_greatest wsX0_greatest ({ frames := 7, cells := 1, slots := 6, locals := 103 }) (ow_Rx (dC, dI) vwCl [(cA, .int), (cB, .int)] (wX h a b cA cB (nI N, f, g)) [.ref h, .int x, .int y]) (ow_Q "java/lang/IllegalArgumentException" (ol_no N L x ∨ ol_no N L y) (QcRead r)) 1 6 (fun _ => False) := by
  refine ow_ofW (cc := cX0_greatest) (maxL := 6) (ret := (some .int)) (by decide) rfl ?_
  intro pg ev s m args below meth cd s₁ B hml hv
  obtain ⟨rfl, hP, hK, hZ⟩ := hv
  have hx := B.exec
  have hb := B.bytes
  have hr := B.returns
  have hts := atoms_spec (ws := wsX0_greatest) B.pre
  have hown : s.vm.findClass RX0 = some m.cls := findClass_of_methodNamed B.named
  have hlocks := B.notSynchronized
  have hemp := B.noHandlers (hts _ List.mem_cons_self)
  have hP : va_P (dC, dI) vwCl [(h, .inr (0, [.ref a, .ref b, .int (nI N)])), (a, .inl (cA, 1000, .inl f)), (b, .inl (cB, 1000, .inl g))] s.heap := hP
  have hl := lv_entry ([.ref h, .int x, .int y]) (n := 6) (Nat.le_of_ble_eq_true rfl)
  rw [lg_entry_eq]
  generalize (lg_sl ([.ref h, .int x, .int y]) ++ List.replicate (6 - (lg_sl ([.ref h, .int x, .int y])).length) Slot.unset).toArray = ls at hl ⊢
  have hl : lv_has ls 6 [(0, .ref h), (1, .int x), (2, .int y)] := hl
  have hN := ok.2.1
  refine lv_aload_n hx hb dX0_greatest_0 rfl (lv_at hl 0 rfl) ?_
  refine lv_iload_n hx hb dX0_greatest_1 rfl (lv_at hl 1 rfl) ?_
  refine ow_callD (okP := ∃ p, ol_at N L x p) (ow_runV (As := [.int x]) (rest := []) ⟨hx, hb, hml, hown, hts⟩ (c_X_demand l dC dI hfl h a b cA cB N L f g x ok hg) (cwV 1 hts gX0_greatest_X0_demand rfl rfl rfl (by decide +kernel) ⟨Nat.le_of_ble_eq_true rfl, Nat.le_of_ble_eq_true rfl⟩) (ow_PreRx hK hP hZ (ci := 0) (q0 := 0) rfl rfl) rfl rfl hl.1 rfl (lv_room (Nat.le_of_ble_eq_true rfl)) dX0_greatest_2 ⟨Nat.le_of_ble_eq_true rfl, Nat.le_of_ble_eq_true rfl⟩) (fun q h => by cases h) hemp hlocks (by decide) (by decide) Or.inl (fun hok => ?_)
  obtain ⟨p, hp⟩ := hok
  refine lv_aload_n hx hb dX0_greatest_5 rfl (lv_at hl 0 rfl) ?_
  refine lv_iload_n hx hb dX0_greatest_6 rfl (lv_at hl 2 rfl) ?_
  refine ow_callD (okP := ∃ p, ol_at N L y p) (ow_runV (As := [.int y]) (rest := []) ⟨hx, hb, hml, hown, hts⟩ (c_X_demand l dC dI hfl h a b cA cB N L f g y ok hg) (cwV 1 hts gX0_greatest_X0_demand rfl rfl rfl (by decide +kernel) ⟨Nat.le_of_ble_eq_true rfl, Nat.le_of_ble_eq_true rfl⟩) (ow_PreRx hK hP hZ (ci := 0) (q0 := 0) rfl rfl) rfl rfl hl.1 rfl (lv_room (Nat.le_of_ble_eq_true rfl)) dX0_greatest_7 ⟨Nat.le_of_ble_eq_true rfl, Nat.le_of_ble_eq_true rfl⟩) (fun q h => by cases h) hemp hlocks (by decide) (by decide) Or.inr (fun hok => ?_)
  obtain ⟨q, hq⟩ := hok
  refine lv_aload_n hx hb dX0_greatest_10 rfl (lv_at hl 0 rfl) ?_
  refine va_get (D := (dC, dI)) (ci := 0) (v := .ref b) (C := RX0) (T := TX0) (N := 3) hx hb hts (by decide +kernel) hown hK hP 0 rfl rfl 1 (by decide) (hts (.fieldLink RX0 13 "OrderLine" "places" "[I") (by decide +kernel)) (fun _ h9 => h9) rfl dX0_greatest_11 ?_
  refine lv_iload_n hx hb dX0_greatest_14 rfl (lv_at hl 2 rfl) ?_
  refine ow_top (z := nI (L q)) hq.2 ?_
  refine ow_iald (k := L q) (v := nI q) hx hb hK hP 2 1 rfl rfl (ok.2.2.2.1 q hq.1) (by decide) (hg.1 q hq.1) dX0_greatest_15 ?_
  refine lv_istore_n (lv' := [(3, .int (nI q)), (0, .ref h), (1, .int x), (2, .int y)]) hx hb dX0_greatest_16 rfl hl (by decide) rfl (fun ls hl => ?_)
  refine lv_iconst (v := (-1)) hx hb dX0_greatest_17 (by decide +kernel) ?_
  refine lv_istore (lv' := [(4, .int ((-1))), (3, .int (nI q)), (0, .ref h), (1, .int x), (2, .int y)]) hx hb dX0_greatest_18 hl (by decide) rfl (fun ls hl => ?_)
  refine lv_aload_n hx hb dX0_greatest_20 rfl (lv_at hl 2 rfl) ?_
  refine va_get (D := (dC, dI)) (ci := 0) (v := .ref b) (C := RX0) (T := TX0) (N := 3) hx hb hts (by decide +kernel) hown hK hP 0 rfl rfl 1 (by decide) (hts (.fieldLink RX0 13 "OrderLine" "places" "[I") (by decide +kernel)) (fun _ h9 => h9) rfl dX0_greatest_21 ?_
  refine lv_iload_n hx hb dX0_greatest_24 rfl (lv_at hl 3 rfl) ?_
  refine ow_top (z := nI (L p)) hp.2 ?_
  refine ow_iald (k := L p) (v := nI p) hx hb hK hP 2 1 rfl rfl (ok.2.2.2.1 p hp.1) (by decide) (hg.1 p hp.1) dX0_greatest_25 ?_
  have hpN : p < N := hp.1
  have hqN : q < N := hq.1
  refine lv_istore (lv' := [(5, .int (nI p)), (4, .int ((-1))), (3, .int (nI q)), (0, .ref h), (1, .int x), (2, .int y)]) hx hb dX0_greatest_26 hl (by decide) rfl (fun ls hl => ?_)
  have loop : ∀ (k : Nat) (i : Nat), N < p + i + k → p + i ≤ N → i ≤ q + 1 - p → ∀ ls : Array Slot, lv_has ls 6 [(0, .ref h), (1, .int x), (2, .int y), (3, .int (nI q)), (4, .int (ol_top L p i)), (5, .int (nI (p + i)))] → W pg l ev (headSpec wsX0_greatest ({ frames := 7, cells := 1, slots := 6, locals := 103 })).room s m ([.ref h, .int x, .int y] : List Value).toArray below meth cd s.heap [] 0 0 (ow_MQ below (ow_Q "java/lang/IllegalArgumentException" (ol_no N L x ∨ ol_no N L y) (QcRead r)) ([.ref h, .int x, .int y] : List Value).toArray s 1 6 (fun _ => False)) (F0 m 28 ls []) := by
    intro k
    induction k with
    | zero =>
      intro i h1 h2 h3
      exact absurd h1 (by omega)
    | succ k ih =>
      intro i hk hi hi2 ls hl
      refine lv_iload hx hb dX0_greatest_28 (lv_at hl 5 rfl) ?_
      refine lv_iload_n hx hb dX0_greatest_30 rfl (lv_at hl 3 rfl) ?_
      refine lv_icmp_gt (tgt := 54) hx hb dX0_greatest_31 (by decide) (fun c_31 => ?_) (fun c_31 => ?_)
      · have hc := ol_lt (by omega) (by omega) c_31
        have hr0 : r = ol_top L p i := by rw [hsp p q hp hq, show q + 1 - p = i by omega]
        refine lv_iload hx hb dX0_greatest_54 (lv_at hl 4 rfl) ?_
        exact ow_ret (W.iret (v := (ol_top L p i)) hx hb hr (fun t ht hW => Or.inl ⟨⟨_, rfl⟩, (fun h9 => h9.elim (ol_at_no hp) (ol_at_no hq)), by rw [hr0], ht⟩) (fun q h => by cases h) dX0_greatest_56)
      · have hc := ol_nlt (by omega) (by omega) c_31
        refine lv_iload hx hb dX0_greatest_34 (lv_at hl 4 rfl) ?_
        refine lv_aload_n hx hb dX0_greatest_36 rfl (lv_at hl 0 rfl) ?_
        refine va_get (D := (dC, dI)) (ci := 0) (v := .ref a) (C := RX0) (T := TX0) (N := 3) hx hb hts (by decide +kernel) hown hK hP 0 rfl rfl 0 (by decide) (hts (.fieldLink RX0 9 "OrderLine" "line" "[I") (by decide +kernel)) (fun _ h9 => h9) rfl dX0_greatest_37 ?_
        refine lv_iload hx hb dX0_greatest_40 (lv_at hl 5 rfl) ?_
        refine ow_iald (k := p + i) (v := nI (L (p + i))) hx hb hK hP 1 0 rfl rfl (by omega) (by decide) (hf (p + i) (by omega)) dX0_greatest_42 ?_
        refine va_mmax hx hb (hml.trans hl.1.symm) hown (hts (.methodLink RX0 44 Lib.Math.max.name) (by decide +kernel)) (hts (.static Lib.Math.max.name) (by decide +kernel)) (hts (.initialized "java/lang/Math") (by decide +kernel)) (hts (.code Lib.Math.max.name Lib.Math.max.code 2 (some .int)) (by decide +kernel)) (Nat.le_of_ble_eq_true rfl) (Nat.le_of_ble_eq_true rfl) (Nat.le_of_ble_eq_true rfl) (Nat.le_of_ble_eq_true rfl) dX0_greatest_43 ?_
        refine ow_top (z := ol_top L p (i + 1)) rfl ?_
        refine lv_istore (lv' := [(4, .int (ol_top L p (i + 1))), (0, .ref h), (1, .int x), (2, .int y), (3, .int (nI q)), (5, .int (nI (p + i)))]) hx hb dX0_greatest_46 hl (by decide) rfl (fun ls hl => ?_)
        refine lv_iinc (v := nI (p + (i + 1))) (lv' := [(5, .int (nI (p + (i + 1)))), (4, .int (ol_top L p (i + 1))), (0, .ref h), (1, .int x), (2, .int y), (3, .int (nI q))]) hx hb dX0_greatest_48 hl (k := 5) rfl (nI_1 (p + i)) (by decide) rfl (fun ls hl => ?_)
        refine lv_goto (tgt := 28) hx hb dX0_greatest_51 (by decide) ?_
        exact ih (i + 1) (by omega) (by omega) (by omega) ls (lv_sub hl [2, 3, 4, 5, 1, 0] rfl)
  exact loop (N + 2) 0 (by omega) (by omega) (by omega) ls (lv_sub hl [3, 4, 5, 2, 1, 0] rfl)
set_option maxHeartbeats 4000000 in
set_option maxRecDepth 100000 in
/-- behind(x) -/
theorem c_X_behind (l : Launch) (dC : Nat → ClassId) (dI : Nat → Nat → Nat) (hfl : l.flags = flags0) (h a b : Nat) (cA cB : ClassId) (N : Nat) (L : Nat → Nat) (f g : Nat → Int32) (r : Int32) (N' : Nat) (L' : Nat → Nat) (sz : Nat) (ok : ol_ok N L) (hf : ol_f N L f) (hg : ol_g N L g) (x : Int32) (hsp : ∀ p, ol_at N L x p → sp_bh N L p r N' L') : ow_Met l yX0_behind wsX0_behind ({ frames := 7, cells := 1, slots := 6, locals := 103 }) (ow_Px (dC, dI) vwCl [(cA, .int), (cB, .int)] (wX h a b cA cB (nI N, f, g)) sz [.ref h, .int x]) (ow_Q "java/lang/IllegalArgumentException" (ol_no N L x) (va_Qi (fun (r' : Int32) (u : Int32 × (Nat → Int32) × (Nat → Int32)) => r' = r ∧ u.1 = nI N' ∧ ol_f N' L' u.2.1 ∧ ol_g N' L' u.2.2) (ow_B (dC, dI) vwCl (wX h a b cA cB) (va_A (wX h a b cA cB (nI N, f, g)) sz)) (va_A (wX h a b cA cB (nI N, f, g)) sz))) 1 6 (va_A (wX h a b cA cB (nI N, f, g)) sz) := by
  refine ow_ofW (cc := cX0_behind) (maxL := 2) (ret := (some .int)) (by decide) rfl ?_
  intro pg ev s m args below meth cd s₁ B hml hv
  obtain ⟨rfl, hsz, hP, hK, hD0, hZ⟩ := hv
  have hx := B.exec
  have hb := B.bytes
  have hr := B.returns
  have hts := atoms_spec (ws := wsX0_behind) B.pre
  have hown : s.vm.findClass RX0 = some m.cls := findClass_of_methodNamed B.named
  have hlocks := B.notSynchronized
  have hemp := B.noHandlers (hts _ List.mem_cons_self)
  subst hsz
  have hD := hD0.self (sz := s.heap.size)
  generalize hAe : va_A (wX h a b cA cB (nI N, f, g)) s.heap.size = A at hD ⊢
  have hA : ∀ q : Nat, s.heap.size ≤ q → A q := fun q h => by rw [← hAe]; exact Or.inr h
  have hS : va_S A s.heap s.heap [] := va_S.rf
  have hD : va_D A [(h, .inr (0, [.ref a, .ref b, .int (nI N)])), (a, .inl (cA, 1000, .inl f)), (b, .inl (cB, 1000, .inl g))] := hD
  have hP : va_P (dC, dI) vwCl [(h, .inr (0, [.ref a, .ref b, .int (nI N)])), (a, .inl (cA, 1000, .inl f)), (b, .inl (cB, 1000, .inl g))] s.heap := hP
  have hl := lv_entry ([.ref h, .int x]) (n := 2) (Nat.le_of_ble_eq_true rfl)
  rw [lg_entry_eq]
  generalize (lg_sl ([.ref h, .int x]) ++ List.replicate (2 - (lg_sl ([.ref h, .int x])).length) Slot.unset).toArray = ls at hl ⊢
  have hl : lv_has ls 2 [(0, .ref h), (1, .int x)] := hl
  have hN := ok.2.1
  refine lv_aload_n hx hb dX0_behind_0 rfl (lv_at hl 0 rfl) ?_
  refine lv_iload_n hx hb dX0_behind_1 rfl (lv_at hl 1 rfl) ?_
  refine ow_callD (okP := ∃ p, ol_at N L x p) (ow_runV (As := [.int x]) (rest := []) ⟨hx, hb, hml, hown, hts⟩ (c_X_demand l dC dI hfl h a b cA cB N L f g x ok hg) (cwV 1 hts gX0_behind_X0_demand rfl rfl rfl (by decide +kernel) ⟨Nat.le_of_ble_eq_true rfl, Nat.le_of_ble_eq_true rfl⟩) (ow_PreRx hK hP hZ (ci := 0) (q0 := 0) rfl rfl) rfl rfl hl.1 rfl (lv_room (Nat.le_of_ble_eq_true rfl)) dX0_behind_2 ⟨Nat.le_of_ble_eq_true rfl, Nat.le_of_ble_eq_true rfl⟩) (fun q h => by cases h) hemp hlocks (by decide) (by decide) (fun h9 => h9) (fun hok => ?_)
  obtain ⟨p, hp⟩ := hok
  refine lv_aload_n hx hb dX0_behind_5 rfl (lv_at hl 0 rfl) ?_
  refine va_get (D := (dC, dI)) (ci := 0) (v := .int (nI N)) (C := RX0) (T := TX0) (N := 3) hx hb hts (by decide +kernel) hown hK hP 0 rfl rfl 2 (by decide) (hts (.fieldLink RX0 16 "OrderLine" "count" "I") (by decide +kernel)) (fun _ h9 => h9) rfl dX0_behind_6 ?_
  refine lv_sipush (v := nI 1000) hx hb dX0_behind_9 (by decide +kernel) ?_
  refine lv_icmp_lt (tgt := 17) hx hb dX0_behind_12 (by decide) (fun c_12 => ?_) (fun c_12 => ?_)
  · have hc := ol_lt (by omega) (by omega) c_12
    obtain ⟨hr0, hN0, hL0⟩ : r = nI (ol_fr N L) ∧ N' = N + 1 ∧ L' = ol_many N L (p + 1) 1 := by
      rcases hsp p hp with ⟨_, h9⟩ | ⟨h9, _⟩
      · exact h9
      · omega
    refine lv_aload_n hx hb dX0_behind_17 rfl (lv_at hl 0 rfl) ?_
    refine lv_iload_n hx hb dX0_behind_18 rfl (lv_at hl 1 rfl) ?_
    refine lv_iconst (v := nI 1) hx hb dX0_behind_19 (by decide +kernel) ?_
    refine ow_calli (wr := []) (va_runV (As := [.int x, .int (nI 1)]) (rest := []) ⟨hx, hb, hml, hown, hts⟩ (c_X_addBehind l dC dI h a b cA cB N L f g x p 1 _ ok hf hg hp (by omega) (by omega)) (cwV 2 hts gX0_behind_X0_addBehind rfl rfl rfl (by decide +kernel) ⟨Nat.le_of_ble_eq_true rfl, Nat.le_of_ble_eq_true rfl⟩) (ow_PreV hK hP hD (ci := 0) (q0 := 0) rfl rfl) rfl rfl hl.1 rfl (lv_room (Nat.le_of_ble_eq_true rfl)) dX0_behind_20 ⟨Nat.le_of_ble_eq_true rfl, Nat.le_of_ble_eq_true rfl⟩) hP hD hS hA [0, 1, 2] [] rfl rfl (by decide) (by decide) (fun r0 u H locs hw hP hD hS => ?_)
    obtain ⟨a1, f1, g1⟩ := u
    obtain ⟨er, e1, hf1, hg1⟩ := hw
    obtain rfl : nI (N + 1) = a1 := e1.symm
    refine ow_top (z := nI (ol_fr N L)) er ?_
    have hP : va_P (dC, dI) vwCl [(h, .inr (0, [.ref a, .ref b, .int (nI (N + 1))])), (a, .inl (cA, 1000, .inl f1)), (b, .inl (cB, 1000, .inl g1))] H := hP
    have hD : va_D A [(h, .inr (0, [.ref a, .ref b, .int (nI (N + 1))])), (a, .inl (cA, 1000, .inl f1)), (b, .inl (cB, 1000, .inl g1))] := hD
    exact ow_ret (W.iret (v := (nI (ol_fr N L))) hx hb hr (fun t ht hW => Or.inl ⟨⟨_, rfl⟩, (fun h9 => ol_at_no hp h9), ⟨(nI (ol_fr N L)), (nI (N + 1), f1, g1), rfl, ⟨hr0.symm, by rw [hN0], by rw [hN0, hL0]; exact hf1, by rw [hN0, hL0]; exact hg1⟩, by rw [ht]; exact hP, hD⟩, hS.F ht⟩) hS.2.2 dX0_behind_23)
  · have hc := ol_nlt (by omega) (by omega) c_12
    obtain ⟨hr0, hN0, hL0⟩ : r = -1 ∧ N' = N ∧ L' = L := by
      rcases hsp p hp with ⟨h9, _⟩ | ⟨_, h9⟩
      · omega
      · exact h9
    refine lv_iconst (v := (-1)) hx hb dX0_behind_15 (by decide +kernel) ?_
    exact ow_ret (W.iret (v := ((-1))) hx hb hr (fun t ht hW => Or.inl ⟨⟨_, rfl⟩, (fun h9 => ol_at_no hp h9), ⟨((-1)), (nI N, f, g), rfl, ⟨hr0.symm, by rw [hN0], by rw [hN0, hL0]; exact hf, by rw [hN0, hL0]; exact hg⟩, by rw [ht]; exact hP, hD⟩, hS.F ht⟩) hS.2.2 dX0_behind_16)
set_option maxHeartbeats 4000000 in
set_option maxRecDepth 100000 in
/-- several(x, z) -/
theorem c_X_several (l : Launch) (dC : Nat → ClassId) (dI : Nat → Nat → Nat) (hfl : l.flags = flags0) (h a b : Nat) (cA cB : ClassId) (N : Nat) (L : Nat → Nat) (f g : Nat → Int32) (r : Int32) (N' : Nat) (L' : Nat → Nat) (sz : Nat) (ok : ol_ok N L) (hf : ol_f N L f) (hg : ol_g N L g) (x z : Int32) (hsp : ∀ p, ol_at N L x p → sp_sv N L p z r N' L') : ow_Met l yX0_several wsX0_several ({ frames := 7, cells := 1, slots := 6, locals := 103 }) (ow_Px (dC, dI) vwCl [(cA, .int), (cB, .int)] (wX h a b cA cB (nI N, f, g)) sz [.ref h, .int x, .int z]) (ow_Q "java/lang/IllegalArgumentException" (ol_no N L x) (va_Qi (fun (r' : Int32) (u : Int32 × (Nat → Int32) × (Nat → Int32)) => r' = r ∧ u.1 = nI N' ∧ ol_f N' L' u.2.1 ∧ ol_g N' L' u.2.2) (ow_B (dC, dI) vwCl (wX h a b cA cB) (va_A (wX h a b cA cB (nI N, f, g)) sz)) (va_A (wX h a b cA cB (nI N, f, g)) sz))) 1 6 (va_A (wX h a b cA cB (nI N, f, g)) sz) := by
  refine ow_ofW (cc := cX0_several) (maxL := 3) (ret := (some .int)) (by decide) rfl ?_
  intro pg ev s m args below meth cd s₁ B hml hv
  obtain ⟨rfl, hsz, hP, hK, hD0, hZ⟩ := hv
  have hx := B.exec
  have hb := B.bytes
  have hr := B.returns
  have hts := atoms_spec (ws := wsX0_several) B.pre
  have hown : s.vm.findClass RX0 = some m.cls := findClass_of_methodNamed B.named
  have hlocks := B.notSynchronized
  have hemp := B.noHandlers (hts _ List.mem_cons_self)
  subst hsz
  have hD := hD0.self (sz := s.heap.size)
  generalize hAe : va_A (wX h a b cA cB (nI N, f, g)) s.heap.size = A at hD ⊢
  have hA : ∀ q : Nat, s.heap.size ≤ q → A q := fun q h => by rw [← hAe]; exact Or.inr h
  have hS : va_S A s.heap s.heap [] := va_S.rf
  have hD : va_D A [(h, .inr (0, [.ref a, .ref b, .int (nI N)])), (a, .inl (cA, 1000, .inl f)), (b, .inl (cB, 1000, .inl g))] := hD
  have hP : va_P (dC, dI) vwCl [(h, .inr (0, [.ref a, .ref b, .int (nI N)])), (a, .inl (cA, 1000, .inl f)), (b, .inl (cB, 1000, .inl g))] s.heap := hP
  have hl := lv_entry ([.ref h, .int x, .int z]) (n := 3) (Nat.le_of_ble_eq_true rfl)
  rw [lg_entry_eq]
  generalize (lg_sl ([.ref h, .int x, .int z]) ++ List.replicate (3 - (lg_sl ([.ref h, .int x, .int z])).length) Slot.unset).toArray = ls at hl ⊢
  have hl : lv_has ls 3 [(0, .ref h), (1, .int x), (2, .int z)] := hl
  have hN := ok.2.1
  refine lv_aload_n hx hb dX0_several_0 rfl (lv_at hl 0 rfl) ?_
  refine lv_iload_n hx hb dX0_several_1 rfl (lv_at hl 1 rfl) ?_
  refine ow_callD (okP := ∃ p, ol_at N L x p) (ow_runV (As := [.int x]) (rest := []) ⟨hx, hb, hml, hown, hts⟩ (c_X_demand l dC dI hfl h a b cA cB N L f g x ok hg) (cwV 1 hts gX0_several_X0_demand rfl rfl rfl (by decide +kernel) ⟨Nat.le_of_ble_eq_true rfl, Nat.le_of_ble_eq_true rfl⟩) (ow_PreRx hK hP hZ (ci := 0) (q0 := 0) rfl rfl) rfl rfl hl.1 rfl (lv_room (Nat.le_of_ble_eq_true rfl)) dX0_several_2 ⟨Nat.le_of_ble_eq_true rfl, Nat.le_of_ble_eq_true rfl⟩) (fun q h => by cases h) hemp hlocks (by decide) (by decide) (fun h9 => h9) (fun hok => ?_)
  obtain ⟨p, hp⟩ := hok
  refine lv_iload_n hx hb dX0_several_5 rfl (lv_at hl 2 rfl) ?_
  refine lv_iconst (v := nI 2) hx hb dX0_several_6 (by decide +kernel) ?_
  refine lv_icmp_lt (tgt := 28) hx hb dX0_several_7 (by decide) (fun c_7 => ?_) (fun c_7 => ?_)
  · obtain ⟨hr0, hN0, hL0⟩ : r = -1 ∧ N' = N ∧ L' = L := by
      rcases hsp p hp with ⟨w9, a1, a2, a3, a4, _⟩ | ⟨_, h2⟩
      · exact absurd (a3 ▸ c_7) (nI_nlt a1 (by omega))
      · exact h2
    refine lv_iconst (v := (-1)) hx hb dX0_several_28 (by decide +kernel) ?_
    exact ow_ret (W.iret (v := ((-1))) hx hb hr (fun t ht hW => Or.inl ⟨⟨_, rfl⟩, (fun h9 => ol_at_no hp h9), ⟨((-1)), (nI N, f, g), rfl, ⟨hr0.symm, by rw [hN0], by rw [hN0, hL0]; exact hf, by rw [hN0, hL0]; exact hg⟩, by rw [ht]; exact hP, hD⟩, hS.F ht⟩) hS.2.2 dX0_several_29)
  · refine lv_iload_n hx hb dX0_several_10 rfl (lv_at hl 2 rfl) ?_
    refine lv_bipush (v := nI 64) hx hb dX0_several_11 (by decide +kernel) ?_
    refine lv_icmp_gt (tgt := 28) hx hb dX0_several_13 (by decide) (fun c_13 => ?_) (fun c_13 => ?_)
    · obtain ⟨hr0, hN0, hL0⟩ : r = -1 ∧ N' = N ∧ L' = L := by
        rcases hsp p hp with ⟨w9, a1, a2, a3, a4, _⟩ | ⟨_, h2⟩
        · exact absurd (a3 ▸ c_13) (nI_nlt a2 (by omega))
        · exact h2
      refine lv_iconst (v := (-1)) hx hb dX0_several_28 (by decide +kernel) ?_
      exact ow_ret (W.iret (v := ((-1))) hx hb hr (fun t ht hW => Or.inl ⟨⟨_, rfl⟩, (fun h9 => ol_at_no hp h9), ⟨((-1)), (nI N, f, g), rfl, ⟨hr0.symm, by rw [hN0], by rw [hN0, hL0]; exact hf, by rw [hN0, hL0]; exact hg⟩, by rw [ht]; exact hP, hD⟩, hS.F ht⟩) hS.2.2 dX0_several_29)
    · obtain ⟨w, hw1, hw2, hz⟩ := ol_two64 c_7 c_13
      refine lv_iload_n hx hb dX0_several_16 rfl (lv_at hl 2 rfl) ?_
      refine lv_sipush (v := nI 1000) hx hb dX0_several_17 (by decide +kernel) ?_
      refine lv_aload_n hx hb dX0_several_20 rfl (lv_at hl 0 rfl) ?_
      refine va_get (D := (dC, dI)) (ci := 0) (v := .int (nI N)) (C := RX0) (T := TX0) (N := 3) hx hb hts (by decide +kernel) hown hK hP 0 rfl rfl 2 (by decide) (hts (.fieldLink RX0 16 "OrderLine" "count" "I") (by decide +kernel)) (fun _ h9 => h9) rfl dX0_several_21 ?_
      refine lv_isub hx hb dX0_several_24 ?_
      refine ow_top (z := nI (1000 - N)) (pk_sub hN) ?_
      refine lv_icmp_le (tgt := 30) hx hb dX0_several_25 (by decide) (fun c_25 => ?_) (fun c_25 => ?_)
      · have hc := ol_le (by omega) (by omega) (hz ▸ c_25)
        obtain ⟨hr0, hN0, hL0⟩ : r = nI (ol_fr N L) ∧ N' = N + w ∧ L' = ol_many N L (p + 1) w := by
          rcases hsp p hp with ⟨w9, a1, a2, a3, a4, a5⟩ | ⟨h9, _⟩
          · rw [ol_eq (by omega) (by omega) (hz.symm.trans a3)]; exact a5
          · exact absurd hz (h9 w hw1 hw2 (by omega))
        refine lv_aload_n hx hb dX0_several_30 rfl (lv_at hl 0 rfl) ?_
        refine lv_iload_n hx hb dX0_several_31 rfl (lv_at hl 1 rfl) ?_
        refine lv_iload_n hx hb dX0_several_32 rfl (lv_at hl 2 rfl) ?_
        refine ow_top (z := nI w) hz ?_
        refine ow_calli (wr := []) (va_runV (As := [.int x, .int (nI w)]) (rest := []) ⟨hx, hb, hml, hown, hts⟩ (c_X_addBehind l dC dI h a b cA cB N L f g x p w _ ok hf hg hp (by omega) (by omega)) (cwV 2 hts gX0_several_X0_addBehind rfl rfl rfl (by decide +kernel) ⟨Nat.le_of_ble_eq_true rfl, Nat.le_of_ble_eq_true rfl⟩) (ow_PreV hK hP hD (ci := 0) (q0 := 0) rfl rfl) rfl rfl hl.1 rfl (lv_room (Nat.le_of_ble_eq_true rfl)) dX0_several_33 ⟨Nat.le_of_ble_eq_true rfl, Nat.le_of_ble_eq_true rfl⟩) hP hD hS hA [0, 1, 2] [] rfl rfl (by decide) (by decide) (fun r0 u H locs hw hP hD hS => ?_)
        obtain ⟨a1, f1, g1⟩ := u
        obtain ⟨er, e1, hf1, hg1⟩ := hw
        obtain rfl : nI (N + w) = a1 := e1.symm
        refine ow_top (z := nI (ol_fr N L)) er ?_
        have hP : va_P (dC, dI) vwCl [(h, .inr (0, [.ref a, .ref b, .int (nI (N + w))])), (a, .inl (cA, 1000, .inl f1)), (b, .inl (cB, 1000, .inl g1))] H := hP
        have hD : va_D A [(h, .inr (0, [.ref a, .ref b, .int (nI (N + w))])), (a, .inl (cA, 1000, .inl f1)), (b, .inl (cB, 1000, .inl g1))] := hD
        exact ow_ret (W.iret (v := (nI (ol_fr N L))) hx hb hr (fun t ht hW => Or.inl ⟨⟨_, rfl⟩, (fun h9 => ol_at_no hp h9), ⟨(nI (ol_fr N L)), (nI (N + w), f1, g1), rfl, ⟨hr0.symm, by rw [hN0], by rw [hN0, hL0]; exact hf1, by rw [hN0, hL0]; exact hg1⟩, by rw [ht]; exact hP, hD⟩, hS.F ht⟩) hS.2.2 dX0_several_36)
      · have hc := ol_nle (by omega) (by omega) (hz ▸ c_25)
        obtain ⟨hr0, hN0, hL0⟩ : r = -1 ∧ N' = N ∧ L' = L := by
          rcases hsp p hp with ⟨w9, a1, a2, a3, a4, _⟩ | ⟨_, h2⟩
          · have := ol_eq (by omega) (by omega) (hz.symm.trans a3); omega
          · exact h2
        refine lv_iconst (v := (-1)) hx hb dX0_several_28 (by decide +kernel) ?_
        exact ow_ret (W.iret (v := ((-1))) hx hb hr (fun t ht hW => Or.inl ⟨⟨_, rfl⟩, (fun h9 => ol_at_no hp h9), ⟨((-1)), (nI N, f, g), rfl, ⟨hr0.symm, by rw [hN0], by rw [hN0, hL0]; exact hf, by rw [hN0, hL0]; exact hg⟩, by rw [ht]; exact hP, hD⟩, hS.F ht⟩) hS.2.2 dX0_several_29)
set_option maxHeartbeats 4000000 in
set_option maxRecDepth 100000 in
/-- clear(x, y) -/
theorem c_X_clear (l : Launch) (dC : Nat → ClassId) (dI : Nat → Nat → Nat) (hfl : l.flags = flags0) (h a b : Nat) (cA cB : ClassId) (N : Nat) (L : Nat → Nat) (f g : Nat → Int32) (r : Int32) (N' : Nat) (L' : Nat → Nat) (sz : Nat) (ok : ol_ok N L) (hf : ol_f N L f) (hg : ol_g N L g) (x y : Int32) (hsp : ∀ p q, ol_at N L x p → ol_at N L y q → sp_cl N L p q r N' L') : ow_Met l yX0_clear wsX0_clear ({ frames := 7, cells := 1, slots := 6, locals := 103 }) (ow_Px (dC, dI) vwCl [(cA, .int), (cB, .int)] (wX h a b cA cB (nI N, f, g)) sz [.ref h, .int x, .int y]) (ow_Q "java/lang/IllegalArgumentException" (ol_no N L x ∨ ol_no N L y) (va_Qi (fun (r' : Int32) (u : Int32 × (Nat → Int32) × (Nat → Int32)) => r' = r ∧ u.1 = nI N' ∧ ol_f N' L' u.2.1 ∧ ol_g N' L' u.2.2) (ow_B (dC, dI) vwCl (wX h a b cA cB) (va_A (wX h a b cA cB (nI N, f, g)) sz)) (va_A (wX h a b cA cB (nI N, f, g)) sz))) 1 6 (va_A (wX h a b cA cB (nI N, f, g)) sz) := by
  refine ow_ofW (cc := cX0_clear) (maxL := 5) (ret := (some .int)) (by decide) rfl ?_
  intro pg ev s m args below meth cd s₁ B hml hv
  obtain ⟨rfl, hsz, hP, hK, hD0, hZ⟩ := hv
  have hx := B.exec
  have hb := B.bytes
  have hr := B.returns
  have hts := atoms_spec (ws := wsX0_clear) B.pre
  have hown : s.vm.findClass RX0 = some m.cls := findClass_of_methodNamed B.named
  have hlocks := B.notSynchronized
  have hemp := B.noHandlers (hts _ List.mem_cons_self)
  subst hsz
  have hD := hD0.self (sz := s.heap.size)
  generalize hAe : va_A (wX h a b cA cB (nI N, f, g)) s.heap.size = A at hD ⊢
  have hA : ∀ q : Nat, s.heap.size ≤ q → A q := fun q h => by rw [← hAe]; exact Or.inr h
  have hS : va_S A s.heap s.heap [] := va_S.rf
  have hD : va_D A [(h, .inr (0, [.ref a, .ref b, .int (nI N)])), (a, .inl (cA, 1000, .inl f)), (b, .inl (cB, 1000, .inl g))] := hD
  have hP : va_P (dC, dI) vwCl [(h, .inr (0, [.ref a, .ref b, .int (nI N)])), (a, .inl (cA, 1000, .inl f)), (b, .inl (cB, 1000, .inl g))] s.heap := hP
  have hl := lv_entry ([.ref h, .int x, .int y]) (n := 5) (Nat.le_of_ble_eq_true rfl)
  rw [lg_entry_eq]
  generalize (lg_sl ([.ref h, .int x, .int y]) ++ List.replicate (5 - (lg_sl ([.ref h, .int x, .int y])).length) Slot.unset).toArray = ls at hl ⊢
  have hl : lv_has ls 5 [(0, .ref h), (1, .int x), (2, .int y)] := hl
  have hN := ok.2.1
  refine lv_aload_n hx hb dX0_clear_0 rfl (lv_at hl 0 rfl) ?_
  refine lv_iload_n hx hb dX0_clear_1 rfl (lv_at hl 1 rfl) ?_
  refine ow_callD (okP := ∃ p, ol_at N L x p) (ow_runV (As := [.int x]) (rest := []) ⟨hx, hb, hml, hown, hts⟩ (c_X_demand l dC dI hfl h a b cA cB N L f g x ok hg) (cwV 1 hts gX0_clear_X0_demand rfl rfl rfl (by decide +kernel) ⟨Nat.le_of_ble_eq_true rfl, Nat.le_of_ble_eq_true rfl⟩) (ow_PreRx hK hP hZ (ci := 0) (q0 := 0) rfl rfl) rfl rfl hl.1 rfl (lv_room (Nat.le_of_ble_eq_true rfl)) dX0_clear_2 ⟨Nat.le_of_ble_eq_true rfl, Nat.le_of_ble_eq_true rfl⟩) (fun q h => by cases h) hemp hlocks (by decide) (by decide) Or.inl (fun hok => ?_)
  obtain ⟨p, hp⟩ := hok
  refine lv_aload_n hx hb dX0_clear_5 rfl (lv_at hl 0 rfl) ?_
  refine lv_iload_n hx hb dX0_clear_6 rfl (lv_at hl 2 rfl) ?_
  refine ow_callD (okP := ∃ p, ol_at N L y p) (ow_runV (As := [.int y]) (rest := []) ⟨hx, hb, hml, hown, hts⟩ (c_X_demand l dC dI hfl h a b cA cB N L f g y ok hg) (cwV 1 hts gX0_clear_X0_demand rfl rfl rfl (by decide +kernel) ⟨Nat.le_of_ble_eq_true rfl, Nat.le_of_ble_eq_true rfl⟩) (ow_PreRx hK hP hZ (ci := 0) (q0 := 0) rfl rfl) rfl rfl hl.1 rfl (lv_room (Nat.le_of_ble_eq_true rfl)) dX0_clear_7 ⟨Nat.le_of_ble_eq_true rfl, Nat.le_of_ble_eq_true rfl⟩) (fun q h => by cases h) hemp hlocks (by decide) (by decide) Or.inr (fun hok => ?_)
  obtain ⟨q, hq⟩ := hok
  have hpN : p < N := hp.1
  have hqN : q < N := hq.1
  obtain ⟨hr0, hN0, hL0⟩ := hsp p q hp hq
  refine lv_aload_n hx hb dX0_clear_10 rfl (lv_at hl 0 rfl) ?_
  refine va_get (D := (dC, dI)) (ci := 0) (v := .ref b) (C := RX0) (T := TX0) (N := 3) hx hb hts (by decide +kernel) hown hK hP 0 rfl rfl 1 (by decide) (hts (.fieldLink RX0 13 "OrderLine" "places" "[I") (by decide +kernel)) (fun _ h9 => h9) rfl dX0_clear_11 ?_
  refine lv_iload_n hx hb dX0_clear_14 rfl (lv_at hl 1 rfl) ?_
  refine ow_top (z := nI (L p)) hp.2 ?_
  refine ow_iald (k := L p) (v := nI p) hx hb hK hP 2 1 rfl rfl (ok.2.2.2.1 p hp.1) (by decide) (hg.1 p hp.1) dX0_clear_15 ?_
  refine lv_iconst (v := 1) hx hb dX0_clear_16 (by decide +kernel) ?_
  refine lv_iadd hx hb dX0_clear_17 ?_
  refine ow_top (z := nI (p + 1)) (nI_1 p) ?_
  refine lv_istore_n (lv' := [(3, .int (nI (p + 1))), (0, .ref h), (1, .int x), (2, .int y)]) hx hb dX0_clear_18 rfl hl (by decide) rfl (fun ls hl => ?_)
  refine lv_aload_n hx hb dX0_clear_19 rfl (lv_at hl 1 rfl) ?_
  refine va_get (D := (dC, dI)) (ci := 0) (v := .ref b) (C := RX0) (T := TX0) (N := 3) hx hb hts (by decide +kernel) hown hK hP 0 rfl rfl 1 (by decide) (hts (.fieldLink RX0 13 "OrderLine" "places" "[I") (by decide +kernel)) (fun _ h9 => h9) rfl dX0_clear_20 ?_
  refine lv_iload_n hx hb dX0_clear_23 rfl (lv_at hl 3 rfl) ?_
  refine ow_top (z := nI (L q)) hq.2 ?_
  refine ow_iald (k := L q) (v := nI q) hx hb hK hP 2 1 rfl rfl (ok.2.2.2.1 q hq.1) (by decide) (hg.1 q hq.1) dX0_clear_24 ?_
  refine lv_istore (lv' := [(4, .int (nI q)), (3, .int (nI (p + 1))), (0, .ref h), (1, .int x), (2, .int y)]) hx hb dX0_clear_25 hl (by decide) rfl (fun ls hl => ?_)
  refine lv_iload_n hx hb dX0_clear_27 rfl (lv_at hl 1 rfl) ?_
  refine lv_iload hx hb dX0_clear_28 (lv_at hl 0 rfl) ?_
  refine lv_icmp_lt (tgt := 35) hx hb dX0_clear_30 (by decide) (fun c_30 => ?_) (fun c_30 => ?_)
  · have hc := ol_lt (by omega) (by omega) c_30
    obtain ⟨w, hw⟩ : ∃ w, q = p + 1 + w := ⟨q - (p + 1), by omega⟩
    have hwq : q - (p + 1) = w := by omega
    rw [hwq] at hr0 hN0 hL0
    refine lv_aload_n hx hb dX0_clear_35 rfl (lv_at hl 2 rfl) ?_
    refine lv_iload_n hx hb dX0_clear_36 rfl (lv_at hl 1 rfl) ?_
    refine lv_iload hx hb dX0_clear_37 (lv_at hl 0 rfl) ?_
    refine ow_top (z := nI (p + 1 + w)) (by rw [hw]) ?_
    refine ow_callv (wr := []) (va_runV (As := [.int (nI (p + 1)), .int (nI (p + 1 + w))]) (rest := []) ⟨hx, hb, hml, hown, hts⟩ (c_X_takeOut l dC dI h a b cA cB N L f g (p + 1) w _ ok hf hg (by omega) (by omega)) (cwV 2 hts gX0_clear_X0_takeOut rfl rfl rfl (by decide +kernel) ⟨Nat.le_of_ble_eq_true rfl, Nat.le_of_ble_eq_true rfl⟩) (ow_PreV hK hP hD (ci := 0) (q0 := 0) rfl rfl) rfl rfl hl.1 rfl (lv_room (Nat.le_of_ble_eq_true rfl)) dX0_clear_39 ⟨Nat.le_of_ble_eq_true rfl, Nat.le_of_ble_eq_true rfl⟩) hP hD hS hA [0, 1, 2] [] rfl rfl (by decide) (by decide) (fun u H locs hw hP hD hS => ?_)
    obtain ⟨a1, f1, g1⟩ := u
    obtain ⟨e1, hf1, hg1⟩ := hw
    obtain rfl : nI (N - w) = a1 := e1.symm
    have hP : va_P (dC, dI) vwCl [(h, .inr (0, [.ref a, .ref b, .int (nI (N - w))])), (a, .inl (cA, 1000, .inl f1)), (b, .inl (cB, 1000, .inl g1))] H := hP
    have hD : va_D A [(h, .inr (0, [.ref a, .ref b, .int (nI (N - w))])), (a, .inl (cA, 1000, .inl f1)), (b, .inl (cB, 1000, .inl g1))] := hD
    refine lv_iload hx hb dX0_clear_42 (lv_at hl 0 rfl) ?_
    refine lv_iload_n hx hb dX0_clear_44 rfl (lv_at hl 1 rfl) ?_
    refine lv_isub hx hb dX0_clear_45 ?_
    refine ow_top (z := nI w) (by rw [pk_sub (by omega), hwq]) ?_
    exact ow_ret (W.iret (v := (nI w)) hx hb hr (fun t ht hW => Or.inl ⟨⟨_, rfl⟩, (fun h9 => h9.elim (ol_at_no hp) (ol_at_no hq)), ⟨(nI w), (nI (N - w), f1, g1), rfl, ⟨hr0.symm, by rw [hN0], by rw [hN0, hL0]; exact hf1, by rw [hN0, hL0]; exact hg1⟩, by rw [ht]; exact hP, hD⟩, hS.F ht⟩) hS.2.2 dX0_clear_46)
  · have hc := ol_nlt (by omega) (by omega) c_30
    have hwq : q - (p + 1) = 0 := by omega
    rw [hwq] at hr0 hN0 hL0
    rw [ol_rem_0] at hL0
    rw [Nat.sub_zero] at hN0
    rw [nI_0] at hr0
    refine lv_iconst (v := 0) hx hb dX0_clear_33 (by decide +kernel) ?_
    exact ow_ret (W.iret (v := 0) hx hb hr (fun t ht hW => Or.inl ⟨⟨_, rfl⟩, (fun h9 => h9.elim (ol_at_no hp) (ol_at_no hq)), ⟨0, (nI N, f, g), rfl, ⟨hr0.symm, by rw [hN0], by rw [hN0, hL0]; exact hf, by rw [hN0, hL0]; exact hg⟩, by rw [ht]; exact hP, hD⟩, hS.F ht⟩) hS.2.2 dX0_clear_34)
set_option maxHeartbeats 4000000 in
set_option maxRecDepth 100000 in
/-- carry(x, y, z) -/
theorem c_X_carry (l : Launch) (dC : Nat → ClassId) (dI : Nat → Nat → Nat) (hfl : l.flags = flags0) (h a b : Nat) (cA cB : ClassId) (N : Nat) (L : Nat → Nat) (f g : Nat → Int32) (r : Int32) (N' : Nat) (L' : Nat → Nat) (sz : Nat) (ok : ol_ok N L) (hf : ol_f N L f) (hg : ol_g N L g) (x y z : Int32) (hsp : ∀ p q o, ol_at N L x p → ol_at N L y q → ol_at N L z o → sp_cr N L p q o r N' L') : ow_Met l yX0_carry wsX0_carry ({ frames := 7, cells := 1, slots := 6, locals := 103 }) (ow_Px (dC, dI) vwCl [(cA, .int), (cB, .int)] (wX h a b cA cB (nI N, f, g)) sz [.ref h, .int x, .int y, .int z]) (ow_Q "java/lang/IllegalArgumentException" (ol_no N L x ∨ ol_no N L y ∨ ol_no N L z) (va_Qi (fun (r' : Int32) (u : Int32 × (Nat → Int32) × (Nat → Int32)) => r' = r ∧ u.1 = nI N' ∧ ol_f N' L' u.2.1 ∧ ol_g N' L' u.2.2) (ow_B (dC, dI) vwCl (wX h a b cA cB) (va_A (wX h a b cA cB (nI N, f, g)) sz)) (va_A (wX h a b cA cB (nI N, f, g)) sz))) 1 6 (va_A (wX h a b cA cB (nI N, f, g)) sz) := by
  refine ow_ofW (cc := cX0_carry) (maxL := 7) (ret := (some .int)) (by decide) rfl ?_
  intro pg ev s m args below meth cd s₁ B hml hv
  obtain ⟨rfl, hsz, hP, hK, hD0, hZ⟩ := hv
  have hx := B.exec
  have hb := B.bytes
  have hr := B.returns
  have hts := atoms_spec (ws := wsX0_carry) B.pre
  have hown : s.vm.findClass RX0 = some m.cls := findClass_of_methodNamed B.named
  have hlocks := B.notSynchronized
  have hemp := B.noHandlers (hts _ List.mem_cons_self)
  subst hsz
  have hD := hD0.self (sz := s.heap.size)
  generalize hAe : va_A (wX h a b cA cB (nI N, f, g)) s.heap.size = A at hD ⊢
  have hA : ∀ q : Nat, s.heap.size ≤ q → A q := fun q h => by rw [← hAe]; exact Or.inr h
  have hS : va_S A s.heap s.heap [] := va_S.rf
  have hD : va_D A [(h, .inr (0, [.ref a, .ref b, .int (nI N)])), (a, .inl (cA, 1000, .inl f)), (b, .inl (cB, 1000, .inl g))] := hD
  have hP : va_P (dC, dI) vwCl [(h, .inr (0, [.ref a, .ref b, .int (nI N)])), (a, .inl (cA, 1000, .inl f)), (b, .inl (cB, 1000, .inl g))] s.heap := hP
  have hl := lv_entry ([.ref h, .int x, .int y, .int z]) (n := 7) (Nat.le_of_ble_eq_true rfl)
  rw [lg_entry_eq]
  generalize (lg_sl ([.ref h, .int x, .int y, .int z]) ++ List.replicate (7 - (lg_sl ([.ref h, .int x, .int y, .int z])).length) Slot.unset).toArray = ls at hl ⊢
  have hl : lv_has ls 7 [(0, .ref h), (1, .int x), (2, .int y), (3, .int z)] := hl
  have hN := ok.2.1
  refine lv_aload_n hx hb dX0_carry_0 rfl (lv_at hl 0 rfl) ?_
  refine lv_iload_n hx hb dX0_carry_1 rfl (lv_at hl 1 rfl) ?_
  refine ow_callD (okP := ∃ p, ol_at N L x p) (ow_runV (As := [.int x]) (rest := []) ⟨hx, hb, hml, hown, hts⟩ (c_X_demand l dC dI hfl h a b cA cB N L f g x ok hg) (cwV 1 hts gX0_carry_X0_demand rfl rfl rfl (by decide +kernel) ⟨Nat.le_of_ble_eq_true rfl, Nat.le_of_ble_eq_true rfl⟩) (ow_PreRx hK hP hZ (ci := 0) (q0 := 0) rfl rfl) rfl rfl hl.1 rfl (lv_room (Nat.le_of_ble_eq_true rfl)) dX0_carry_2 ⟨Nat.le_of_ble_eq_true rfl, Nat.le_of_ble_eq_true rfl⟩) (fun q h => by cases h) hemp hlocks (by decide) (by decide) Or.inl (fun hok => ?_)
  obtain ⟨p, hp⟩ := hok
  refine lv_aload_n hx hb dX0_carry_5 rfl (lv_at hl 0 rfl) ?_
  refine lv_iload_n hx hb dX0_carry_6 rfl (lv_at hl 2 rfl) ?_
  refine ow_callD (okP := ∃ p, ol_at N L y p) (ow_runV (As := [.int y]) (rest := []) ⟨hx, hb, hml, hown, hts⟩ (c_X_demand l dC dI hfl h a b cA cB N L f g y ok hg) (cwV 1 hts gX0_carry_X0_demand rfl rfl rfl (by decide +kernel) ⟨Nat.le_of_ble_eq_true rfl, Nat.le_of_ble_eq_true rfl⟩) (ow_PreRx hK hP hZ (ci := 0) (q0 := 0) rfl rfl) rfl rfl hl.1 rfl (lv_room (Nat.le_of_ble_eq_true rfl)) dX0_carry_7 ⟨Nat.le_of_ble_eq_true rfl, Nat.le_of_ble_eq_true rfl⟩) (fun q h => by cases h) hemp hlocks (by decide) (by decide) (fun h9 => Or.inr (Or.inl h9)) (fun hok => ?_)
  obtain ⟨q, hq⟩ := hok
  refine lv_aload_n hx hb dX0_carry_10 rfl (lv_at hl 0 rfl) ?_
  refine lv_iload_n hx hb dX0_carry_11 rfl (lv_at hl 3 rfl) ?_
  refine ow_callD (okP := ∃ p, ol_at N L z p) (ow_runV (As := [.int z]) (rest := []) ⟨hx, hb, hml, hown, hts⟩ (c_X_demand l dC dI hfl h a b cA cB N L f g z ok hg) (cwV 1 hts gX0_carry_X0_demand rfl rfl rfl (by decide +kernel) ⟨Nat.le_of_ble_eq_true rfl, Nat.le_of_ble_eq_true rfl⟩) (ow_PreRx hK hP hZ (ci := 0) (q0 := 0) rfl rfl) rfl rfl hl.1 rfl (lv_room (Nat.le_of_ble_eq_true rfl)) dX0_carry_12 ⟨Nat.le_of_ble_eq_true rfl, Nat.le_of_ble_eq_true rfl⟩) (fun q h => by cases h) hemp hlocks (by decide) (by decide) (fun h9 => Or.inr (Or.inr h9)) (fun hok => ?_)
  obtain ⟨o, ho⟩ := hok
  have hpN : p < N := hp.1
  have hqN : q < N := hq.1
  have hoN : o < N := ho.1
  obtain ⟨hN0, hs2⟩ := hsp p q o hp hq ho
  refine lv_aload_n hx hb dX0_carry_15 rfl (lv_at hl 0 rfl) ?_
  refine va_get (D := (dC, dI)) (ci := 0) (v := .ref b) (C := RX0) (T := TX0) (N := 3) hx hb hts (by decide +kernel) hown hK hP 0 rfl rfl 1 (by decide) (hts (.fieldLink RX0 13 "OrderLine" "places" "[I") (by decide +kernel)) (fun _ h9 => h9) rfl dX0_carry_16 ?_
  refine lv_iload_n hx hb dX0_carry_19 rfl (lv_at hl 1 rfl) ?_
  refine ow_top (z := nI (L p)) hp.2 ?_
  refine ow_iald (k := L p) (v := nI p) hx hb hK hP 2 1 rfl rfl (ok.2.2.2.1 p hp.1) (by decide) (hg.1 p hp.1) dX0_carry_20 ?_
  refine lv_iconst (v := 1) hx hb dX0_carry_21 (by decide +kernel) ?_
  refine lv_iadd hx hb dX0_carry_22 ?_
  refine ow_top (z := nI (p + 1)) (nI_1 p) ?_
  refine lv_istore (lv' := [(4, .int (nI (p + 1))), (0, .ref h), (1, .int x), (2, .int y), (3, .int z)]) hx hb dX0_carry_23 hl (by decide) rfl (fun ls hl => ?_)
  refine lv_aload_n hx hb dX0_carry_25 rfl (lv_at hl 1 rfl) ?_
  refine va_get (D := (dC, dI)) (ci := 0) (v := .ref b) (C := RX0) (T := TX0) (N := 3) hx hb hts (by decide +kernel) hown hK hP 0 rfl rfl 1 (by decide) (hts (.fieldLink RX0 13 "OrderLine" "places" "[I") (by decide +kernel)) (fun _ h9 => h9) rfl dX0_carry_26 ?_
  refine lv_iload_n hx hb dX0_carry_29 rfl (lv_at hl 3 rfl) ?_
  refine ow_top (z := nI (L q)) hq.2 ?_
  refine ow_iald (k := L q) (v := nI q) hx hb hK hP 2 1 rfl rfl (ok.2.2.2.1 q hq.1) (by decide) (hg.1 q hq.1) dX0_carry_30 ?_
  refine lv_istore (lv' := [(5, .int (nI q)), (4, .int (nI (p + 1))), (0, .ref h), (1, .int x), (2, .int y), (3, .int z)]) hx hb dX0_carry_31 hl (by decide) rfl (fun ls hl => ?_)
  refine lv_aload_n hx hb dX0_carry_33 rfl (lv_at hl 2 rfl) ?_
  refine va_get (D := (dC, dI)) (ci := 0) (v := .ref b) (C := RX0) (T := TX0) (N := 3) hx hb hts (by decide +kernel) hown hK hP 0 rfl rfl 1 (by decide) (hts (.fieldLink RX0 13 "OrderLine" "places" "[I") (by decide +kernel)) (fun _ h9 => h9) rfl dX0_carry_34 ?_
  refine lv_iload_n hx hb dX0_carry_37 rfl (lv_at hl 5 rfl) ?_
  refine ow_top (z := nI (L o)) ho.2 ?_
  refine ow_iald (k := L o) (v := nI o) hx hb hK hP 2 1 rfl rfl (ok.2.2.2.1 o ho.1) (by decide) (hg.1 o ho.1) dX0_carry_38 ?_
  refine lv_istore (lv' := [(6, .int (nI o)), (5, .int (nI q)), (4, .int (nI (p + 1))), (0, .ref h), (1, .int x), (2, .int y), (3, .int z)]) hx hb dX0_carry_39 hl (by decide) rfl (fun ls hl => ?_)
  refine lv_iload hx hb dX0_carry_41 (lv_at hl 2 rfl) ?_
  refine lv_iload hx hb dX0_carry_43 (lv_at hl 1 rfl) ?_
  refine lv_icmp_gt (tgt := 62) hx hb dX0_carry_45 (by decide) (fun c_45 => ?_) (fun c_45 => ?_)
  · have hpq := ol_lt (by omega) (by omega) c_45
    obtain ⟨hr0, hL0⟩ : r = -1 ∧ L' = L := by
      rcases hs2 with ⟨_, h2⟩ | ⟨h1, h2, _⟩ | ⟨h1, h2, _⟩
      · exact h2
      · exact absurd h1 (by omega)
      · exact absurd h1 (by omega)
    refine lv_iconst (v := (-1)) hx hb dX0_carry_62 (by decide +kernel) ?_
    exact ow_ret (W.iret (v := ((-1))) hx hb hr (fun t ht hW => Or.inl ⟨⟨_, rfl⟩, (fun h9 => h9.elim (ol_at_no hp) (fun h8 => h8.elim (ol_at_no hq) (ol_at_no ho))), ⟨((-1)), (nI N, f, g), rfl, ⟨hr0.symm, by rw [hN0], by rw [hN0, hL0]; exact hf, by rw [hN0, hL0]; exact hg⟩, by rw [ht]; exact hP, hD⟩, hS.F ht⟩) hS.2.2 dX0_carry_63)
  · have hpq := ol_nlt (by omega) (by omega) c_45
    refine lv_iload hx hb dX0_carry_48 (lv_at hl 2 rfl) ?_
    refine lv_iload hx hb dX0_carry_50 (lv_at hl 0 rfl) ?_
    refine lv_icmp_gt (tgt := 64) hx hb dX0_carry_52 (by decide) (fun c_52 => ?_) (fun c_52 => ?_)
    · have hop := ol_lt (by omega) (by omega) c_52
      refine lv_iload hx hb dX0_carry_64 (lv_at hl 0 rfl) ?_
      refine lv_iload hx hb dX0_carry_66 (lv_at hl 2 rfl) ?_
      refine lv_icmp_ge (tgt := 86) hx hb dX0_carry_68 (by decide) (fun c_68 => ?_) (fun c_68 => ?_)
      · have hcz := ol_le (by omega) (by omega) c_68
        obtain ⟨hr0, hL0⟩ : r = nI (q - p - 1) ∧ L' = ol_swp L (p + 1) q (o + 1) := by
          rcases hs2 with ⟨h1, _⟩ | ⟨_, h1, _⟩ | ⟨_, _, h2⟩
          · exact absurd h1 (by omega)
          · exact absurd h1 (by omega)
          · exact h2
        refine lv_aload_n hx hb dX0_carry_86 rfl (lv_at hl 3 rfl) ?_
        refine lv_iload hx hb dX0_carry_87 (lv_at hl 2 rfl) ?_
        refine lv_iload hx hb dX0_carry_89 (lv_at hl 1 rfl) ?_
        refine lv_iload hx hb dX0_carry_91 (lv_at hl 0 rfl) ?_
        refine lv_iconst (v := 1) hx hb dX0_carry_93 (by decide +kernel) ?_
        refine lv_iadd hx hb dX0_carry_94 ?_
        refine ow_top (z := nI (o + 1)) (nI_1 o) ?_
        refine ow_callv (wr := []) (va_runV (As := [.int (nI (p + 1)), .int (nI q), .int (nI (o + 1))]) (rest := []) ⟨hx, hb, hml, hown, hts⟩ (c_X_swapBlocks l dC dI h a b cA cB N L f g (p + 1) q (o + 1) _ ok hf hg (by omega) (by omega) (by omega) (by omega)) (cwV 3 hts gX0_carry_X0_swapBlocks rfl rfl rfl (by decide +kernel) ⟨Nat.le_of_ble_eq_true rfl, Nat.le_of_ble_eq_true rfl⟩) (ow_PreV hK hP hD (ci := 0) (q0 := 0) rfl rfl) rfl rfl hl.1 rfl (lv_room (Nat.le_of_ble_eq_true rfl)) dX0_carry_95 ⟨Nat.le_of_ble_eq_true rfl, Nat.le_of_ble_eq_true rfl⟩) hP hD hS hA [0, 1, 2] [] rfl rfl (by decide) (by decide) (fun u H locs hw hP hD hS => ?_)
        obtain ⟨a1, f1, g1⟩ := u
        obtain ⟨e1, hf1, hg1⟩ := hw
        obtain rfl : nI N = a1 := e1.symm
        rw [← hL0] at hf1 hg1
        have hP : va_P (dC, dI) vwCl [(h, .inr (0, [.ref a, .ref b, .int (nI N)])), (a, .inl (cA, 1000, .inl f1)), (b, .inl (cB, 1000, .inl g1))] H := hP
        have hD : va_D A [(h, .inr (0, [.ref a, .ref b, .int (nI N)])), (a, .inl (cA, 1000, .inl f1)), (b, .inl (cB, 1000, .inl g1))] := hD
        refine lv_iload hx hb dX0_carry_98 (lv_at hl 1 rfl) ?_
        refine lv_iload hx hb dX0_carry_100 (lv_at hl 2 rfl) ?_
        refine lv_isub hx hb dX0_carry_102 ?_
        refine ow_top (z := nI (q - p - 1)) (by rw [pk_sub (by omega), show q - (p + 1) = q - p - 1 by omega]) ?_
        exact ow_ret (W.iret (v := (nI (q - p - 1))) hx hb hr (fun t ht hW => Or.inl ⟨⟨_, rfl⟩, (fun h9 => h9.elim (ol_at_no hp) (fun h8 => h8.elim (ol_at_no hq) (ol_at_no ho))), ⟨(nI (q - p - 1)), (nI N, f1, g1), rfl, ⟨hr0.symm, by rw [hN0], by rw [hN0]; exact hf1, by rw [hN0]; exact hg1⟩, by rw [ht]; exact hP, hD⟩, hS.F ht⟩) hS.2.2 dX0_carry_103)
      · have hcz := ol_nle (by omega) (by omega) c_68
        obtain ⟨hr0, hL0⟩ : r = nI (q - p - 1) ∧ L' = ol_swp L (o + 1) (p + 1) q := by
          rcases hs2 with ⟨h1, _⟩ | ⟨_, _, h2⟩ | ⟨_, h1, _⟩
          · exact absurd h1 (by omega)
          · exact h2
          · exact absurd h1 (by omega)
        refine lv_aload_n hx hb dX0_carry_71 rfl (lv_at hl 3 rfl) ?_
        refine lv_iload hx hb dX0_carry_72 (lv_at hl 0 rfl) ?_
        refine lv_iconst (v := 1) hx hb dX0_carry_74 (by decide +kernel) ?_
        refine lv_iadd hx hb dX0_carry_75 ?_
        refine ow_top (z := nI (o + 1)) (nI_1 o) ?_
        refine lv_iload hx hb dX0_carry_76 (lv_at hl 2 rfl) ?_
        refine lv_iload hx hb dX0_carry_78 (lv_at hl 1 rfl) ?_
        refine ow_callv (wr := []) (va_runV (As := [.int (nI (o + 1)), .int (nI (p + 1)), .int (nI q)]) (rest := []) ⟨hx, hb, hml, hown, hts⟩ (c_X_swapBlocks l dC dI h a b cA cB N L f g (o + 1) (p + 1) q _ ok hf hg (by omega) (by omega) (by omega) (by omega)) (cwV 3 hts gX0_carry_X0_swapBlocks rfl rfl rfl (by decide +kernel) ⟨Nat.le_of_ble_eq_true rfl, Nat.le_of_ble_eq_true rfl⟩) (ow_PreV hK hP hD (ci := 0) (q0 := 0) rfl rfl) rfl rfl hl.1 rfl (lv_room (Nat.le_of_ble_eq_true rfl)) dX0_carry_80 ⟨Nat.le_of_ble_eq_true rfl, Nat.le_of_ble_eq_true rfl⟩) hP hD hS hA [0, 1, 2] [] rfl rfl (by decide) (by decide) (fun u H locs hw hP hD hS => ?_)
        obtain ⟨a1, f1, g1⟩ := u
        obtain ⟨e1, hf1, hg1⟩ := hw
        obtain rfl : nI N = a1 := e1.symm
        rw [← hL0] at hf1 hg1
        have hP : va_P (dC, dI) vwCl [(h, .inr (0, [.ref a, .ref b, .int (nI N)])), (a, .inl (cA, 1000, .inl f1)), (b, .inl (cB, 1000, .inl g1))] H := hP
        have hD : va_D A [(h, .inr (0, [.ref a, .ref b, .int (nI N)])), (a, .inl (cA, 1000, .inl f1)), (b, .inl (cB, 1000, .inl g1))] := hD
        refine lv_goto (tgt := 98) hx hb dX0_carry_83 (by decide) ?_
        refine lv_iload hx hb dX0_carry_98 (lv_at hl 1 rfl) ?_
        refine lv_iload hx hb dX0_carry_100 (lv_at hl 2 rfl) ?_
        refine lv_isub hx hb dX0_carry_102 ?_
        refine ow_top (z := nI (q - p - 1)) (by rw [pk_sub (by omega), show q - (p + 1) = q - p - 1 by omega]) ?_
        exact ow_ret (W.iret (v := (nI (q - p - 1))) hx hb hr (fun t ht hW => Or.inl ⟨⟨_, rfl⟩, (fun h9 => h9.elim (ol_at_no hp) (fun h8 => h8.elim (ol_at_no hq) (ol_at_no ho))), ⟨(nI (q - p - 1)), (nI N, f1, g1), rfl, ⟨hr0.symm, by rw [hN0], by rw [hN0]; exact hf1, by rw [hN0]; exact hg1⟩, by rw [ht]; exact hP, hD⟩, hS.F ht⟩) hS.2.2 dX0_carry_103)
    · have hop := ol_nlt (by omega) (by omega) c_52
      refine lv_iload hx hb dX0_carry_55 (lv_at hl 0 rfl) ?_
      refine lv_iload hx hb dX0_carry_57 (lv_at hl 1 rfl) ?_
      refine lv_icmp_ge (tgt := 64) hx hb dX0_carry_59 (by decide) (fun c_59 => ?_) (fun c_59 => ?_)
      · have hoq := ol_le (by omega) (by omega) c_59
        refine lv_iload hx hb dX0_carry_64 (lv_at hl 0 rfl) ?_
        refine lv_iload hx hb dX0_carry_66 (lv_at hl 2 rfl) ?_
        refine lv_icmp_ge (tgt := 86) hx hb dX0_carry_68 (by decide) (fun c_68 => ?_) (fun c_68 => ?_)
        · have hcz := ol_le (by omega) (by omega) c_68
          obtain ⟨hr0, hL0⟩ : r = nI (q - p - 1) ∧ L' = ol_swp L (p + 1) q (o + 1) := by
            rcases hs2 with ⟨h1, _⟩ | ⟨_, h1, _⟩ | ⟨_, _, h2⟩
            · exact absurd h1 (by omega)
            · exact absurd h1 (by omega)
            · exact h2
          refine lv_aload_n hx hb dX0_carry_86 rfl (lv_at hl 3 rfl) ?_
          refine lv_iload hx hb dX0_carry_87 (lv_at hl 2 rfl) ?_
          refine lv_iload hx hb dX0_carry_89 (lv_at hl 1 rfl) ?_
          refine lv_iload hx hb dX0_carry_91 (lv_at hl 0 rfl) ?_
          refine lv_iconst (v := 1) hx hb dX0_carry_93 (by decide +kernel) ?_
          refine lv_iadd hx hb dX0_carry_94 ?_
          refine ow_top (z := nI (o + 1)) (nI_1 o) ?_
          refine ow_callv (wr := []) (va_runV (As := [.int (nI (p + 1)), .int (nI q), .int (nI (o + 1))]) (rest := []) ⟨hx, hb, hml, hown, hts⟩ (c_X_swapBlocks l dC dI h a b cA cB N L f g (p + 1) q (o + 1) _ ok hf hg (by omega) (by omega) (by omega) (by omega)) (cwV 3 hts gX0_carry_X0_swapBlocks rfl rfl rfl (by decide +kernel) ⟨Nat.le_of_ble_eq_true rfl, Nat.le_of_ble_eq_true rfl⟩) (ow_PreV hK hP hD (ci := 0) (q0 := 0) rfl rfl) rfl rfl hl.1 rfl (lv_room (Nat.le_of_ble_eq_true rfl)) dX0_carry_95 ⟨Nat.le_of_ble_eq_true rfl, Nat.le_of_ble_eq_true rfl⟩) hP hD hS hA [0, 1, 2] [] rfl rfl (by decide) (by decide) (fun u H locs hw hP hD hS => ?_)
          obtain ⟨a1, f1, g1⟩ := u
          obtain ⟨e1, hf1, hg1⟩ := hw
          obtain rfl : nI N = a1 := e1.symm
          rw [← hL0] at hf1 hg1
          have hP : va_P (dC, dI) vwCl [(h, .inr (0, [.ref a, .ref b, .int (nI N)])), (a, .inl (cA, 1000, .inl f1)), (b, .inl (cB, 1000, .inl g1))] H := hP
          have hD : va_D A [(h, .inr (0, [.ref a, .ref b, .int (nI N)])), (a, .inl (cA, 1000, .inl f1)), (b, .inl (cB, 1000, .inl g1))] := hD
          refine lv_iload hx hb dX0_carry_98 (lv_at hl 1 rfl) ?_
          refine lv_iload hx hb dX0_carry_100 (lv_at hl 2 rfl) ?_
          refine lv_isub hx hb dX0_carry_102 ?_
          refine ow_top (z := nI (q - p - 1)) (by rw [pk_sub (by omega), show q - (p + 1) = q - p - 1 by omega]) ?_
          exact ow_ret (W.iret (v := (nI (q - p - 1))) hx hb hr (fun t ht hW => Or.inl ⟨⟨_, rfl⟩, (fun h9 => h9.elim (ol_at_no hp) (fun h8 => h8.elim (ol_at_no hq) (ol_at_no ho))), ⟨(nI (q - p - 1)), (nI N, f1, g1), rfl, ⟨hr0.symm, by rw [hN0], by rw [hN0]; exact hf1, by rw [hN0]; exact hg1⟩, by rw [ht]; exact hP, hD⟩, hS.F ht⟩) hS.2.2 dX0_carry_103)
        · have hcz := ol_nle (by omega) (by omega) c_68
          obtain ⟨hr0, hL0⟩ : r = nI (q - p - 1) ∧ L' = ol_swp L (o + 1) (p + 1) q := by
            rcases hs2 with ⟨h1, _⟩ | ⟨_, _, h2⟩ | ⟨_, h1, _⟩
            · exact absurd h1 (by omega)
            · exact h2
            · exact absurd h1 (by omega)
          refine lv_aload_n hx hb dX0_carry_71 rfl (lv_at hl 3 rfl) ?_
          refine lv_iload hx hb dX0_carry_72 (lv_at hl 0 rfl) ?_
          refine lv_iconst (v := 1) hx hb dX0_carry_74 (by decide +kernel) ?_
          refine lv_iadd hx hb dX0_carry_75 ?_
          refine ow_top (z := nI (o + 1)) (nI_1 o) ?_
          refine lv_iload hx hb dX0_carry_76 (lv_at hl 2 rfl) ?_
          refine lv_iload hx hb dX0_carry_78 (lv_at hl 1 rfl) ?_
          refine ow_callv (wr := []) (va_runV (As := [.int (nI (o + 1)), .int (nI (p + 1)), .int (nI q)]) (rest := []) ⟨hx, hb, hml, hown, hts⟩ (c_X_swapBlocks l dC dI h a b cA cB N L f g (o + 1) (p + 1) q _ ok hf hg (by omega) (by omega) (by omega) (by omega)) (cwV 3 hts gX0_carry_X0_swapBlocks rfl rfl rfl (by decide +kernel) ⟨Nat.le_of_ble_eq_true rfl, Nat.le_of_ble_eq_true rfl⟩) (ow_PreV hK hP hD (ci := 0) (q0 := 0) rfl rfl) rfl rfl hl.1 rfl (lv_room (Nat.le_of_ble_eq_true rfl)) dX0_carry_80 ⟨Nat.le_of_ble_eq_true rfl, Nat.le_of_ble_eq_true rfl⟩) hP hD hS hA [0, 1, 2] [] rfl rfl (by decide) (by decide) (fun u H locs hw hP hD hS => ?_)
          obtain ⟨a1, f1, g1⟩ := u
          obtain ⟨e1, hf1, hg1⟩ := hw
          obtain rfl : nI N = a1 := e1.symm
          rw [← hL0] at hf1 hg1
          have hP : va_P (dC, dI) vwCl [(h, .inr (0, [.ref a, .ref b, .int (nI N)])), (a, .inl (cA, 1000, .inl f1)), (b, .inl (cB, 1000, .inl g1))] H := hP
          have hD : va_D A [(h, .inr (0, [.ref a, .ref b, .int (nI N)])), (a, .inl (cA, 1000, .inl f1)), (b, .inl (cB, 1000, .inl g1))] := hD
          refine lv_goto (tgt := 98) hx hb dX0_carry_83 (by decide) ?_
          refine lv_iload hx hb dX0_carry_98 (lv_at hl 1 rfl) ?_
          refine lv_iload hx hb dX0_carry_100 (lv_at hl 2 rfl) ?_
          refine lv_isub hx hb dX0_carry_102 ?_
          refine ow_top (z := nI (q - p - 1)) (by rw [pk_sub (by omega), show q - (p + 1) = q - p - 1 by omega]) ?_
          exact ow_ret (W.iret (v := (nI (q - p - 1))) hx hb hr (fun t ht hW => Or.inl ⟨⟨_, rfl⟩, (fun h9 => h9.elim (ol_at_no hp) (fun h8 => h8.elim (ol_at_no hq) (ol_at_no ho))), ⟨(nI (q - p - 1)), (nI N, f1, g1), rfl, ⟨hr0.symm, by rw [hN0], by rw [hN0]; exact hf1, by rw [hN0]; exact hg1⟩, by rw [ht]; exact hP, hD⟩, hS.F ht⟩) hS.2.2 dX0_carry_103)
      · have hoq := ol_nle (by omega) (by omega) c_59
        obtain ⟨hr0, hL0⟩ : r = -1 ∧ L' = L := by
          rcases hs2 with ⟨_, h2⟩ | ⟨h1, h2, _⟩ | ⟨h1, h2, _⟩
          · exact h2
          · exact absurd h1 (by omega)
          · exact absurd h1 (by omega)
        refine lv_iconst (v := (-1)) hx hb dX0_carry_62 (by decide +kernel) ?_
        exact ow_ret (W.iret (v := ((-1))) hx hb hr (fun t ht hW => Or.inl ⟨⟨_, rfl⟩, (fun h9 => h9.elim (ol_at_no hp) (fun h8 => h8.elim (ol_at_no hq) (ol_at_no ho))), ⟨((-1)), (nI N, f, g), rfl, ⟨hr0.symm, by rw [hN0], by rw [hN0, hL0]; exact hf, by rw [hN0, hL0]; exact hg⟩, by rw [ht]; exact hP, hD⟩, hS.F ht⟩) hS.2.2 dX0_carry_63)
