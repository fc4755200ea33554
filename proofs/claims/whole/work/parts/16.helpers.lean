set_option maxHeartbeats 4000000 in
set_option maxRecDepth 100000 in
/-- the law's behind: 1 if it throws, else 0 and the answer is laid aside -/
theorem c_L_behind (l : Launch) (dC : Nat → ClassId) (dI : Nat → Nat → Nat) (hfl : l.flags = flags0) (h a b o : Nat) (cA cB cO : ClassId) (N : Nat) (L : Nat → Nat) (f g : Nat → Int32) (oo : Nat → Int64) (tt r : Int32) (N' : Nat) (L' : Nat → Nat) (sz : Nat) (ok : ol_ok N L) (hf : ol_f N L f) (hg : ol_g N L g) (x : Int32) (hsp : (ol_no N L x ∧ tt = 1 ∧ r = 0 ∧ N' = N ∧ L' = L) ∨ (tt = 0 ∧ ∃ p, ol_at N L x p ∧ sp_bh N L p r N' L')) : Met l yL_behind wsL_behind ({ frames := 8, cells := 1, slots := 6, locals := 124 }) (ow_Px (dC, dI) vwCl [(cA, .int), (cB, .int), (cO, .long)] (wO h a b o cA cB cO ((nI N, f, g), oo)) sz [.ref h, .int x, .ref o]) (va_Qi (fun (k' : Int32) (u : (Int32 × (Nat → Int32) × (Nat → Int32)) × (Nat → Int64)) => k' = tt ∧ (tt = 0 → u.2 0 = r.toInt64) ∧ u.1.1 = nI N' ∧ ol_f N' L' u.1.2.1 ∧ ol_g N' L' u.1.2.2) (ow_B (dC, dI) vwCl (wO h a b o cA cB cO) (va_A (wO h a b o cA cB cO ((nI N, f, g), oo)) sz)) (va_A (wO h a b o cA cB cO ((nI N, f, g), oo)) sz)) 1 6 (va_A (wO h a b o cA cB cO ((nI N, f, g), oo)) sz) := by
  refine ow_ofWH (hs := [(0, 9, 12, 13)]) (cc := cL_behind) (maxL := 4) (ret := (some .int)) (by decide) rfl ?_
  intro pg ev s m args below meth cd s₁ B hml htab hv
  obtain ⟨rfl, hsz, hP, hK, hD0, hZ⟩ := hv
  have hx := B.exec
  have hb := B.bytes
  have hr := B.returns
  have hts := atoms_spec (ws := wsL_behind) B.pre
  have hown : s.vm.findClass RL = some m.cls := findClass_of_methodNamed B.named
  have hlocks := B.notSynchronized
  subst hsz
  have hD := hD0.self (sz := s.heap.size)
  generalize hAe : va_A (wO h a b o cA cB cO ((nI N, f, g), oo)) s.heap.size = A at hD ⊢
  have hA : ∀ q : Nat, s.heap.size ≤ q → A q := fun q h => by rw [← hAe]; exact Or.inr h
  have hS : va_S A s.heap s.heap [] := va_S.rf
  have hD : va_D A [(h, .inr (0, [.ref a, .ref b, .int (nI N)])), (a, .inl (cA, 1000, .inl f)), (b, .inl (cB, 1000, .inl g)), (o, .inl (cO, 1, .inr (.inl oo)))] := hD
  have hP : va_P (dC, dI) vwCl [(h, .inr (0, [.ref a, .ref b, .int (nI N)])), (a, .inl (cA, 1000, .inl f)), (b, .inl (cB, 1000, .inl g)), (o, .inl (cO, 1, .inr (.inl oo)))] s.heap := hP
  have hl := lv_entry ([.ref h, .int x, .ref o]) (n := 4) (Nat.le_of_ble_eq_true rfl)
  rw [lg_entry_eq]
  generalize (lg_sl ([.ref h, .int x, .ref o]) ++ List.replicate (4 - (lg_sl ([.ref h, .int x, .ref o])).length) Slot.unset).toArray = ls at hl ⊢
  have hl : lv_has ls 4 [(0, .ref h), (1, .int x), (2, .ref o)] := hl
  have htab2 : cd.exceptionTable.toList = [⟨0, 9, 12, 13⟩] := htab
  have hsX : ∀ p, ol_at N L x p → sp_bh N L p r N' L' := by
    intro p9 hp9
    rcases hsp with ⟨h1, _⟩ | ⟨_, p, hp, hs⟩
    · exact (ol_at_no hp9 h1).elim
    · obtain rfl := ol_at_un ok hp hp9
      exact hs
  refine lv_aload_n hx hb dL_behind_0 rfl (lv_at hl 2 rfl) ?_
  refine lv_iconst (v := 0) hx hb dL_behind_1 (by decide +kernel) ?_
  refine lv_aload_n hx hb dL_behind_2 rfl (lv_at hl 0 rfl) ?_
  refine lv_iload_n hx hb dL_behind_3 rfl (lv_at hl 1 rfl) ?_
  refine ow_callC (hpc := 12) (wr := [(o, .inl (cO, 1, .inr (.inl oo)))]) (ow_runV (As := [.int x]) (rest := [.int 0, .ref o]) ⟨hx, hb, hml, hown, hts⟩ (c_X_behind l dC dI hfl h a b cA cB N L f g r N' L' _ ok hf hg x hsX) (cwV 1 hts gL_behind_X0_behind rfl rfl rfl (by decide +kernel) ⟨Nat.le_of_ble_eq_true rfl, Nat.le_of_ble_eq_true rfl⟩) (ow_PrePx (hK.sub (tys' := [(cA, .int), (cB, .int)]) [0, 1] rfl) (hP.sub [0, 1, 2] rfl) (hD.sub (ws' := wX h a b cA cB (nI N, f, g)) [0, 1, 2] (by decide) rfl) hZ (ci := 0) (q0 := 0) rfl rfl) rfl rfl hl.1 rfl (lv_room (Nat.le_of_ble_eq_true rfl)) dL_behind_4 ⟨Nat.le_of_ble_eq_true rfl, Nat.le_of_ble_eq_true rfl⟩) hP hD hS hA [0, 1, 2] [3] rfl rfl (by decide) (by decide) hown htab2 (by decide) (by decide) (hts (.classLink RL 13 "java/lang/IllegalArgumentException") (by decide +kernel)) rfl (fun hnt r0 u H locs hw hP hD hS => ?_) (fun hth x9 H locs hP hS => ?_)
  · have htt : tt = 0 := by
      rcases hsp with ⟨h9, _⟩ | ⟨h9, _⟩
      · exact absurd h9 hnt
      · exact h9
    obtain ⟨a1, f1, g1⟩ := u
    obtain ⟨er, e1, hf1, hg1⟩ := hw
    obtain rfl : nI N' = a1 := e1.symm
    refine ow_top (z := r) er ?_
    have hP : va_P (dC, dI) vwCl [(o, .inl (cO, 1, .inr (.inl oo))), (h, .inr (0, [.ref a, .ref b, .int (nI N')])), (a, .inl (cA, 1000, .inl f1)), (b, .inl (cB, 1000, .inl g1))] H := hP
    have hD : va_D A [(o, .inl (cO, 1, .inr (.inl oo))), (h, .inr (0, [.ref a, .ref b, .int (nI N')])), (a, .inl (cA, 1000, .inl f1)), (b, .inl (cB, 1000, .inl g1))] := hD
    refine lv_i2l (v := r.toInt64) hx hb dL_behind_7 rfl ?_
    refine ow_last (k := 0) hx hb hK hP hD hS 0 2 rfl rfl nI_0.symm (by decide) (by decide) dL_behind_8 (fun H locs hP hD hS => ?_)
    have hP : va_P (dC, dI) vwCl [(o, .inl (cO, 1, .inr (.inl (vp_updL oo 0 r.toInt64)))), (h, .inr (0, [.ref a, .ref b, .int (nI N')])), (a, .inl (cA, 1000, .inl f1)), (b, .inl (cB, 1000, .inl g1))] H := hP
    have hD : va_D A [(o, .inl (cO, 1, .inr (.inl (vp_updL oo 0 r.toInt64)))), (h, .inr (0, [.ref a, .ref b, .int (nI N')])), (a, .inl (cA, 1000, .inl f1)), (b, .inl (cB, 1000, .inl g1))] := hD
    refine lv_goto (tgt := 15) hx hb dL_behind_9 (by decide) ?_
    refine lv_iconst (v := 0) hx hb dL_behind_15 (by decide +kernel) ?_
    refine W.widen (k := 1) (n := 6) (by omega) (by omega) ?_
    exact W.iret (v := 0) hx hb hr (fun t ht hW => ⟨⟨0, (((nI N'), f1, g1), vp_updL oo 0 r.toInt64), rfl, ⟨htt.symm, fun _ => pk_uLs (f := oo) (k := 0) (x := r.toInt64), rfl, hf1, hg1⟩, by rw [ht]; exact hP.sub [1, 2, 3, 0] rfl, hD.sub [1, 2, 3, 0] (by decide) rfl⟩, hS.F ht⟩) hS.2.2 dL_behind_16
  · obtain ⟨htt, hN0, hL0⟩ : tt = 1 ∧ N' = N ∧ L' = L := by
      rcases hsp with ⟨_, h9⟩ | ⟨_, h9⟩
      · exact ⟨h9.1, h9.2.2⟩
      · exact (h9.elim (fun _ h8 => ol_at_no h8.1 hth)).elim
    refine lv_astore_n (lv' := [(3, .ref x9), (0, .ref h), (1, .int x), (2, .ref o)]) hx hb dL_behind_12 rfl hl (by decide) rfl (fun ls hl => ?_)
    refine lv_iconst (v := 1) hx hb dL_behind_13 (by decide +kernel) ?_
    refine W.widen (k := 1) (n := 6) (by omega) (by omega) ?_
    exact W.iret (v := 1) hx hb hr (fun t ht hW => ⟨⟨1, ((nI N, f, g), oo), rfl, ⟨htt.symm, fun h9 => absurd (htt.symm.trans h9) (by decide), by rw [hN0], by rw [hN0, hL0]; exact hf, by rw [hN0, hL0]; exact hg⟩, by rw [ht]; exact hP.sub [0, 1, 2, 3] rfl, hD.sub [0, 1, 2, 3] (by decide) rfl⟩, hS.F ht⟩) hS.2.2 dL_behind_14
set_option maxHeartbeats 4000000 in
set_option maxRecDepth 100000 in
/-- the law's several: 1 if it throws, else 0 and the answer is laid aside -/
theorem c_L_several (l : Launch) (dC : Nat → ClassId) (dI : Nat → Nat → Nat) (hfl : l.flags = flags0) (h a b o : Nat) (cA cB cO : ClassId) (N : Nat) (L : Nat → Nat) (f g : Nat → Int32) (oo : Nat → Int64) (tt r : Int32) (N' : Nat) (L' : Nat → Nat) (sz : Nat) (ok : ol_ok N L) (hf : ol_f N L f) (hg : ol_g N L g) (x z : Int32) (hsp : (ol_no N L x ∧ tt = 1 ∧ r = 0 ∧ N' = N ∧ L' = L) ∨ (tt = 0 ∧ ∃ p, ol_at N L x p ∧ sp_sv N L p z r N' L')) : Met l yL_several wsL_several ({ frames := 8, cells := 1, slots := 6, locals := 125 }) (ow_Px (dC, dI) vwCl [(cA, .int), (cB, .int), (cO, .long)] (wO h a b o cA cB cO ((nI N, f, g), oo)) sz [.ref h, .int x, .int z, .ref o]) (va_Qi (fun (k' : Int32) (u : (Int32 × (Nat → Int32) × (Nat → Int32)) × (Nat → Int64)) => k' = tt ∧ (tt = 0 → u.2 0 = r.toInt64) ∧ u.1.1 = nI N' ∧ ol_f N' L' u.1.2.1 ∧ ol_g N' L' u.1.2.2) (ow_B (dC, dI) vwCl (wO h a b o cA cB cO) (va_A (wO h a b o cA cB cO ((nI N, f, g), oo)) sz)) (va_A (wO h a b o cA cB cO ((nI N, f, g), oo)) sz)) 1 6 (va_A (wO h a b o cA cB cO ((nI N, f, g), oo)) sz) := by
  refine ow_ofWH (hs := [(0, 10, 13, 13)]) (cc := cL_several) (maxL := 5) (ret := (some .int)) (by decide) rfl ?_
  intro pg ev s m args below meth cd s₁ B hml htab hv
  obtain ⟨rfl, hsz, hP, hK, hD0, hZ⟩ := hv
  have hx := B.exec
  have hb := B.bytes
  have hr := B.returns
  have hts := atoms_spec (ws := wsL_several) B.pre
  have hown : s.vm.findClass RL = some m.cls := findClass_of_methodNamed B.named
  have hlocks := B.notSynchronized
  subst hsz
  have hD := hD0.self (sz := s.heap.size)
  generalize hAe : va_A (wO h a b o cA cB cO ((nI N, f, g), oo)) s.heap.size = A at hD ⊢
  have hA : ∀ q : Nat, s.heap.size ≤ q → A q := fun q h => by rw [← hAe]; exact Or.inr h
  have hS : va_S A s.heap s.heap [] := va_S.rf
  have hD : va_D A [(h, .inr (0, [.ref a, .ref b, .int (nI N)])), (a, .inl (cA, 1000, .inl f)), (b, .inl (cB, 1000, .inl g)), (o, .inl (cO, 1, .inr (.inl oo)))] := hD
  have hP : va_P (dC, dI) vwCl [(h, .inr (0, [.ref a, .ref b, .int (nI N)])), (a, .inl (cA, 1000, .inl f)), (b, .inl (cB, 1000, .inl g)), (o, .inl (cO, 1, .inr (.inl oo)))] s.heap := hP
  have hl := lv_entry ([.ref h, .int x, .int z, .ref o]) (n := 5) (Nat.le_of_ble_eq_true rfl)
  rw [lg_entry_eq]
  generalize (lg_sl ([.ref h, .int x, .int z, .ref o]) ++ List.replicate (5 - (lg_sl ([.ref h, .int x, .int z, .ref o])).length) Slot.unset).toArray = ls at hl ⊢
  have hl : lv_has ls 5 [(0, .ref h), (1, .int x), (2, .int z), (3, .ref o)] := hl
  have htab2 : cd.exceptionTable.toList = [⟨0, 10, 13, 13⟩] := htab
  have hsX : ∀ p, ol_at N L x p → sp_sv N L p z r N' L' := by
    intro p9 hp9
    rcases hsp with ⟨h1, _⟩ | ⟨_, p, hp, hs⟩
    · exact (ol_at_no hp9 h1).elim
    · obtain rfl := ol_at_un ok hp hp9
      exact hs
  refine lv_aload_n hx hb dL_several_0 rfl (lv_at hl 3 rfl) ?_
  refine lv_iconst (v := 0) hx hb dL_several_1 (by decide +kernel) ?_
  refine lv_aload_n hx hb dL_several_2 rfl (lv_at hl 0 rfl) ?_
  refine lv_iload_n hx hb dL_several_3 rfl (lv_at hl 1 rfl) ?_
  refine lv_iload_n hx hb dL_several_4 rfl (lv_at hl 2 rfl) ?_
  refine ow_callC (hpc := 13) (wr := [(o, .inl (cO, 1, .inr (.inl oo)))]) (ow_runV (As := [.int x, .int z]) (rest := [.int 0, .ref o]) ⟨hx, hb, hml, hown, hts⟩ (c_X_several l dC dI hfl h a b cA cB N L f g r N' L' _ ok hf hg x z hsX) (cwV 2 hts gL_several_X0_several rfl rfl rfl (by decide +kernel) ⟨Nat.le_of_ble_eq_true rfl, Nat.le_of_ble_eq_true rfl⟩) (ow_PrePx (hK.sub (tys' := [(cA, .int), (cB, .int)]) [0, 1] rfl) (hP.sub [0, 1, 2] rfl) (hD.sub (ws' := wX h a b cA cB (nI N, f, g)) [0, 1, 2] (by decide) rfl) hZ (ci := 0) (q0 := 0) rfl rfl) rfl rfl hl.1 rfl (lv_room (Nat.le_of_ble_eq_true rfl)) dL_several_5 ⟨Nat.le_of_ble_eq_true rfl, Nat.le_of_ble_eq_true rfl⟩) hP hD hS hA [0, 1, 2] [3] rfl rfl (by decide) (by decide) hown htab2 (by decide) (by decide) (hts (.classLink RL 13 "java/lang/IllegalArgumentException") (by decide +kernel)) rfl (fun hnt r0 u H locs hw hP hD hS => ?_) (fun hth x9 H locs hP hS => ?_)
  · have htt : tt = 0 := by
      rcases hsp with ⟨h9, _⟩ | ⟨h9, _⟩
      · exact absurd h9 hnt
      · exact h9
    obtain ⟨a1, f1, g1⟩ := u
    obtain ⟨er, e1, hf1, hg1⟩ := hw
    obtain rfl : nI N' = a1 := e1.symm
    refine ow_top (z := r) er ?_
    have hP : va_P (dC, dI) vwCl [(o, .inl (cO, 1, .inr (.inl oo))), (h, .inr (0, [.ref a, .ref b, .int (nI N')])), (a, .inl (cA, 1000, .inl f1)), (b, .inl (cB, 1000, .inl g1))] H := hP
    have hD : va_D A [(o, .inl (cO, 1, .inr (.inl oo))), (h, .inr (0, [.ref a, .ref b, .int (nI N')])), (a, .inl (cA, 1000, .inl f1)), (b, .inl (cB, 1000, .inl g1))] := hD
    refine lv_i2l (v := r.toInt64) hx hb dL_several_8 rfl ?_
    refine ow_last (k := 0) hx hb hK hP hD hS 0 2 rfl rfl nI_0.symm (by decide) (by decide) dL_several_9 (fun H locs hP hD hS => ?_)
    have hP : va_P (dC, dI) vwCl [(o, .inl (cO, 1, .inr (.inl (vp_updL oo 0 r.toInt64)))), (h, .inr (0, [.ref a, .ref b, .int (nI N')])), (a, .inl (cA, 1000, .inl f1)), (b, .inl (cB, 1000, .inl g1))] H := hP
    have hD : va_D A [(o, .inl (cO, 1, .inr (.inl (vp_updL oo 0 r.toInt64)))), (h, .inr (0, [.ref a, .ref b, .int (nI N')])), (a, .inl (cA, 1000, .inl f1)), (b, .inl (cB, 1000, .inl g1))] := hD
    refine lv_goto (tgt := 17) hx hb dL_several_10 (by decide) ?_
    refine lv_iconst (v := 0) hx hb dL_several_17 (by decide +kernel) ?_
    refine W.widen (k := 1) (n := 6) (by omega) (by omega) ?_
    exact W.iret (v := 0) hx hb hr (fun t ht hW => ⟨⟨0, (((nI N'), f1, g1), vp_updL oo 0 r.toInt64), rfl, ⟨htt.symm, fun _ => pk_uLs (f := oo) (k := 0) (x := r.toInt64), rfl, hf1, hg1⟩, by rw [ht]; exact hP.sub [1, 2, 3, 0] rfl, hD.sub [1, 2, 3, 0] (by decide) rfl⟩, hS.F ht⟩) hS.2.2 dL_several_18
  · obtain ⟨htt, hN0, hL0⟩ : tt = 1 ∧ N' = N ∧ L' = L := by
      rcases hsp with ⟨_, h9⟩ | ⟨_, h9⟩
      · exact ⟨h9.1, h9.2.2⟩
      · exact (h9.elim (fun _ h8 => ol_at_no h8.1 hth)).elim
    refine lv_astore (lv' := [(4, .ref x9), (0, .ref h), (1, .int x), (2, .int z), (3, .ref o)]) hx hb dL_several_13 hl (by decide) rfl (fun ls hl => ?_)
    refine lv_iconst (v := 1) hx hb dL_several_15 (by decide +kernel) ?_
    refine W.widen (k := 1) (n := 6) (by omega) (by omega) ?_
    exact W.iret (v := 1) hx hb hr (fun t ht hW => ⟨⟨1, ((nI N, f, g), oo), rfl, ⟨htt.symm, fun h9 => absurd (htt.symm.trans h9) (by decide), by rw [hN0], by rw [hN0, hL0]; exact hf, by rw [hN0, hL0]; exact hg⟩, by rw [ht]; exact hP.sub [0, 1, 2, 3] rfl, hD.sub [0, 1, 2, 3] (by decide) rfl⟩, hS.F ht⟩) hS.2.2 dL_several_16
set_option maxHeartbeats 4000000 in
set_option maxRecDepth 100000 in
/-- the law's clear: 1 if it throws, else 0 and the answer is laid aside -/
theorem c_L_clear (l : Launch) (dC : Nat → ClassId) (dI : Nat → Nat → Nat) (hfl : l.flags = flags0) (h a b o : Nat) (cA cB cO : ClassId) (N : Nat) (L : Nat → Nat) (f g : Nat → Int32) (oo : Nat → Int64) (tt r : Int32) (N' : Nat) (L' : Nat → Nat) (sz : Nat) (ok : ol_ok N L) (hf : ol_f N L f) (hg : ol_g N L g) (x y : Int32) (hsp : ((ol_no N L x ∨ ol_no N L y) ∧ tt = 1 ∧ r = 0 ∧ N' = N ∧ L' = L) ∨ (tt = 0 ∧ ∃ p q, ol_at N L x p ∧ ol_at N L y q ∧ sp_cl N L p q r N' L')) : Met l yL_clear wsL_clear ({ frames := 8, cells := 1, slots := 6, locals := 127 }) (ow_Px (dC, dI) vwCl [(cA, .int), (cB, .int), (cO, .long)] (wO h a b o cA cB cO ((nI N, f, g), oo)) sz [.ref h, .int x, .int y, .ref o]) (va_Qi (fun (k' : Int32) (u : (Int32 × (Nat → Int32) × (Nat → Int32)) × (Nat → Int64)) => k' = tt ∧ (tt = 0 → u.2 0 = r.toInt64) ∧ u.1.1 = nI N' ∧ ol_f N' L' u.1.2.1 ∧ ol_g N' L' u.1.2.2) (ow_B (dC, dI) vwCl (wO h a b o cA cB cO) (va_A (wO h a b o cA cB cO ((nI N, f, g), oo)) sz)) (va_A (wO h a b o cA cB cO ((nI N, f, g), oo)) sz)) 1 6 (va_A (wO h a b o cA cB cO ((nI N, f, g), oo)) sz) := by
  refine ow_ofWH (hs := [(0, 10, 13, 13)]) (cc := cL_clear) (maxL := 5) (ret := (some .int)) (by decide) rfl ?_
  intro pg ev s m args below meth cd s₁ B hml htab hv
  obtain ⟨rfl, hsz, hP, hK, hD0, hZ⟩ := hv
  have hx := B.exec
  have hb := B.bytes
  have hr := B.returns
  have hts := atoms_spec (ws := wsL_clear) B.pre
  have hown : s.vm.findClass RL = some m.cls := findClass_of_methodNamed B.named
  have hlocks := B.notSynchronized
  subst hsz
  have hD := hD0.self (sz := s.heap.size)
  generalize hAe : va_A (wO h a b o cA cB cO ((nI N, f, g), oo)) s.heap.size = A at hD ⊢
  have hA : ∀ q : Nat, s.heap.size ≤ q → A q := fun q h => by rw [← hAe]; exact Or.inr h
  have hS : va_S A s.heap s.heap [] := va_S.rf
  have hD : va_D A [(h, .inr (0, [.ref a, .ref b, .int (nI N)])), (a, .inl (cA, 1000, .inl f)), (b, .inl (cB, 1000, .inl g)), (o, .inl (cO, 1, .inr (.inl oo)))] := hD
  have hP : va_P (dC, dI) vwCl [(h, .inr (0, [.ref a, .ref b, .int (nI N)])), (a, .inl (cA, 1000, .inl f)), (b, .inl (cB, 1000, .inl g)), (o, .inl (cO, 1, .inr (.inl oo)))] s.heap := hP
  have hl := lv_entry ([.ref h, .int x, .int y, .ref o]) (n := 5) (Nat.le_of_ble_eq_true rfl)
  rw [lg_entry_eq]
  generalize (lg_sl ([.ref h, .int x, .int y, .ref o]) ++ List.replicate (5 - (lg_sl ([.ref h, .int x, .int y, .ref o])).length) Slot.unset).toArray = ls at hl ⊢
  have hl : lv_has ls 5 [(0, .ref h), (1, .int x), (2, .int y), (3, .ref o)] := hl
  have htab2 : cd.exceptionTable.toList = [⟨0, 10, 13, 13⟩] := htab
  have hsX : ∀ p q, ol_at N L x p → ol_at N L y q → sp_cl N L p q r N' L' := by
    intro p9 q9 hp9 hq9
    rcases hsp with ⟨h1, _⟩ | ⟨_, p, q, hp, hq, hs⟩
    · exact (h1.elim (ol_at_no hp9) (ol_at_no hq9)).elim
    · obtain rfl := ol_at_un ok hp hp9
      obtain rfl := ol_at_un ok hq hq9
      exact hs
  refine lv_aload_n hx hb dL_clear_0 rfl (lv_at hl 3 rfl) ?_
  refine lv_iconst (v := 0) hx hb dL_clear_1 (by decide +kernel) ?_
  refine lv_aload_n hx hb dL_clear_2 rfl (lv_at hl 0 rfl) ?_
  refine lv_iload_n hx hb dL_clear_3 rfl (lv_at hl 1 rfl) ?_
  refine lv_iload_n hx hb dL_clear_4 rfl (lv_at hl 2 rfl) ?_
  refine ow_callC (hpc := 13) (wr := [(o, .inl (cO, 1, .inr (.inl oo)))]) (ow_runV (As := [.int x, .int y]) (rest := [.int 0, .ref o]) ⟨hx, hb, hml, hown, hts⟩ (c_X_clear l dC dI hfl h a b cA cB N L f g r N' L' _ ok hf hg x y hsX) (cwV 2 hts gL_clear_X0_clear rfl rfl rfl (by decide +kernel) ⟨Nat.le_of_ble_eq_true rfl, Nat.le_of_ble_eq_true rfl⟩) (ow_PrePx (hK.sub (tys' := [(cA, .int), (cB, .int)]) [0, 1] rfl) (hP.sub [0, 1, 2] rfl) (hD.sub (ws' := wX h a b cA cB (nI N, f, g)) [0, 1, 2] (by decide) rfl) hZ (ci := 0) (q0 := 0) rfl rfl) rfl rfl hl.1 rfl (lv_room (Nat.le_of_ble_eq_true rfl)) dL_clear_5 ⟨Nat.le_of_ble_eq_true rfl, Nat.le_of_ble_eq_true rfl⟩) hP hD hS hA [0, 1, 2] [3] rfl rfl (by decide) (by decide) hown htab2 (by decide) (by decide) (hts (.classLink RL 13 "java/lang/IllegalArgumentException") (by decide +kernel)) rfl (fun hnt r0 u H locs hw hP hD hS => ?_) (fun hth x9 H locs hP hS => ?_)
  · have htt : tt = 0 := by
      rcases hsp with ⟨h9, _⟩ | ⟨h9, _⟩
      · exact absurd h9 hnt
      · exact h9
    obtain ⟨a1, f1, g1⟩ := u
    obtain ⟨er, e1, hf1, hg1⟩ := hw
    obtain rfl : nI N' = a1 := e1.symm
    refine ow_top (z := r) er ?_
    have hP : va_P (dC, dI) vwCl [(o, .inl (cO, 1, .inr (.inl oo))), (h, .inr (0, [.ref a, .ref b, .int (nI N')])), (a, .inl (cA, 1000, .inl f1)), (b, .inl (cB, 1000, .inl g1))] H := hP
    have hD : va_D A [(o, .inl (cO, 1, .inr (.inl oo))), (h, .inr (0, [.ref a, .ref b, .int (nI N')])), (a, .inl (cA, 1000, .inl f1)), (b, .inl (cB, 1000, .inl g1))] := hD
    refine lv_i2l (v := r.toInt64) hx hb dL_clear_8 rfl ?_
    refine ow_last (k := 0) hx hb hK hP hD hS 0 2 rfl rfl nI_0.symm (by decide) (by decide) dL_clear_9 (fun H locs hP hD hS => ?_)
    have hP : va_P (dC, dI) vwCl [(o, .inl (cO, 1, .inr (.inl (vp_updL oo 0 r.toInt64)))), (h, .inr (0, [.ref a, .ref b, .int (nI N')])), (a, .inl (cA, 1000, .inl f1)), (b, .inl (cB, 1000, .inl g1))] H := hP
    have hD : va_D A [(o, .inl (cO, 1, .inr (.inl (vp_updL oo 0 r.toInt64)))), (h, .inr (0, [.ref a, .ref b, .int (nI N')])), (a, .inl (cA, 1000, .inl f1)), (b, .inl (cB, 1000, .inl g1))] := hD
    refine lv_goto (tgt := 17) hx hb dL_clear_10 (by decide) ?_
    refine lv_iconst (v := 0) hx hb dL_clear_17 (by decide +kernel) ?_
    refine W.widen (k := 1) (n := 6) (by omega) (by omega) ?_
    exact W.iret (v := 0) hx hb hr (fun t ht hW => ⟨⟨0, (((nI N'), f1, g1), vp_updL oo 0 r.toInt64), rfl, ⟨htt.symm, fun _ => pk_uLs (f := oo) (k := 0) (x := r.toInt64), rfl, hf1, hg1⟩, by rw [ht]; exact hP.sub [1, 2, 3, 0] rfl, hD.sub [1, 2, 3, 0] (by decide) rfl⟩, hS.F ht⟩) hS.2.2 dL_clear_18
  · obtain ⟨htt, hN0, hL0⟩ : tt = 1 ∧ N' = N ∧ L' = L := by
      rcases hsp with ⟨_, h9⟩ | ⟨_, h9⟩
      · exact ⟨h9.1, h9.2.2⟩
      · exact (h9.elim (fun _ h8 => h8.elim (fun _ h7 => hth.elim (ol_at_no h7.1) (ol_at_no h7.2.1)))).elim
    refine lv_astore (lv' := [(4, .ref x9), (0, .ref h), (1, .int x), (2, .int y), (3, .ref o)]) hx hb dL_clear_13 hl (by decide) rfl (fun ls hl => ?_)
    refine lv_iconst (v := 1) hx hb dL_clear_15 (by decide +kernel) ?_
    refine W.widen (k := 1) (n := 6) (by omega) (by omega) ?_
    exact W.iret (v := 1) hx hb hr (fun t ht hW => ⟨⟨1, ((nI N, f, g), oo), rfl, ⟨htt.symm, fun h9 => absurd (htt.symm.trans h9) (by decide), by rw [hN0], by rw [hN0, hL0]; exact hf, by rw [hN0, hL0]; exact hg⟩, by rw [ht]; exact hP.sub [0, 1, 2, 3] rfl, hD.sub [0, 1, 2, 3] (by decide) rfl⟩, hS.F ht⟩) hS.2.2 dL_clear_16
set_option maxHeartbeats 4000000 in
set_option maxRecDepth 100000 in
/-- the law's carry: 1 if it throws, else 0 and the answer is laid aside -/
theorem c_L_carry (l : Launch) (dC : Nat → ClassId) (dI : Nat → Nat → Nat) (hfl : l.flags = flags0) (h a b o : Nat) (cA cB cO : ClassId) (N : Nat) (L : Nat → Nat) (f g : Nat → Int32) (oo : Nat → Int64) (tt r : Int32) (N' : Nat) (L' : Nat → Nat) (sz : Nat) (ok : ol_ok N L) (hf : ol_f N L f) (hg : ol_g N L g) (x y z : Int32) (hsp : ((ol_no N L x ∨ ol_no N L y ∨ ol_no N L z) ∧ tt = 1 ∧ r = 0 ∧ N' = N ∧ L' = L) ∨ (tt = 0 ∧ ∃ p q o', ol_at N L x p ∧ ol_at N L y q ∧ ol_at N L z o' ∧ sp_cr N L p q o' r N' L')) : Met l yL_carry wsL_carry ({ frames := 8, cells := 1, slots := 6, locals := 129 }) (ow_Px (dC, dI) vwCl [(cA, .int), (cB, .int), (cO, .long)] (wO h a b o cA cB cO ((nI N, f, g), oo)) sz [.ref h, .int x, .int y, .int z, .ref o]) (va_Qi (fun (k' : Int32) (u : (Int32 × (Nat → Int32) × (Nat → Int32)) × (Nat → Int64)) => k' = tt ∧ (tt = 0 → u.2 0 = r.toInt64) ∧ u.1.1 = nI N' ∧ ol_f N' L' u.1.2.1 ∧ ol_g N' L' u.1.2.2) (ow_B (dC, dI) vwCl (wO h a b o cA cB cO) (va_A (wO h a b o cA cB cO ((nI N, f, g), oo)) sz)) (va_A (wO h a b o cA cB cO ((nI N, f, g), oo)) sz)) 1 6 (va_A (wO h a b o cA cB cO ((nI N, f, g), oo)) sz) := by
  refine ow_ofWH (hs := [(0, 12, 15, 13)]) (cc := cL_carry) (maxL := 6) (ret := (some .int)) (by decide) rfl ?_
  intro pg ev s m args below meth cd s₁ B hml htab hv
  obtain ⟨rfl, hsz, hP, hK, hD0, hZ⟩ := hv
  have hx := B.exec
  have hb := B.bytes
  have hr := B.returns
  have hts := atoms_spec (ws := wsL_carry) B.pre
  have hown : s.vm.findClass RL = some m.cls := findClass_of_methodNamed B.named
  have hlocks := B.notSynchronized
  subst hsz
  have hD := hD0.self (sz := s.heap.size)
  generalize hAe : va_A (wO h a b o cA cB cO ((nI N, f, g), oo)) s.heap.size = A at hD ⊢
  have hA : ∀ q : Nat, s.heap.size ≤ q → A q := fun q h => by rw [← hAe]; exact Or.inr h
  have hS : va_S A s.heap s.heap [] := va_S.rf
  have hD : va_D A [(h, .inr (0, [.ref a, .ref b, .int (nI N)])), (a, .inl (cA, 1000, .inl f)), (b, .inl (cB, 1000, .inl g)), (o, .inl (cO, 1, .inr (.inl oo)))] := hD
  have hP : va_P (dC, dI) vwCl [(h, .inr (0, [.ref a, .ref b, .int (nI N)])), (a, .inl (cA, 1000, .inl f)), (b, .inl (cB, 1000, .inl g)), (o, .inl (cO, 1, .inr (.inl oo)))] s.heap := hP
  have hl := lv_entry ([.ref h, .int x, .int y, .int z, .ref o]) (n := 6) (Nat.le_of_ble_eq_true rfl)
  rw [lg_entry_eq]
  generalize (lg_sl ([.ref h, .int x, .int y, .int z, .ref o]) ++ List.replicate (6 - (lg_sl ([.ref h, .int x, .int y, .int z, .ref o])).length) Slot.unset).toArray = ls at hl ⊢
  have hl : lv_has ls 6 [(0, .ref h), (1, .int x), (2, .int y), (3, .int z), (4, .ref o)] := hl
  have htab2 : cd.exceptionTable.toList = [⟨0, 12, 15, 13⟩] := htab
  have hsX : ∀ p q o', ol_at N L x p → ol_at N L y q → ol_at N L z o' → sp_cr N L p q o' r N' L' := by
    intro p9 q9 o9 hp9 hq9 ho9
    rcases hsp with ⟨h1, _⟩ | ⟨_, p, q, o', hp, hq, ho, hs⟩
    · exact (h1.elim (ol_at_no hp9) (fun h8 => h8.elim (ol_at_no hq9) (ol_at_no ho9))).elim
    · obtain rfl := ol_at_un ok hp hp9
      obtain rfl := ol_at_un ok hq hq9
      obtain rfl := ol_at_un ok ho ho9
      exact hs
  refine lv_aload hx hb dL_carry_0 (lv_at hl 4 rfl) ?_
  refine lv_iconst (v := 0) hx hb dL_carry_2 (by decide +kernel) ?_
  refine lv_aload_n hx hb dL_carry_3 rfl (lv_at hl 0 rfl) ?_
  refine lv_iload_n hx hb dL_carry_4 rfl (lv_at hl 1 rfl) ?_
  refine lv_iload_n hx hb dL_carry_5 rfl (lv_at hl 2 rfl) ?_
  refine lv_iload_n hx hb dL_carry_6 rfl (lv_at hl 3 rfl) ?_
  refine ow_callC (hpc := 15) (wr := [(o, .inl (cO, 1, .inr (.inl oo)))]) (ow_runV (As := [.int x, .int y, .int z]) (rest := [.int 0, .ref o]) ⟨hx, hb, hml, hown, hts⟩ (c_X_carry l dC dI hfl h a b cA cB N L f g r N' L' _ ok hf hg x y z hsX) (cwV 3 hts gL_carry_X0_carry rfl rfl rfl (by decide +kernel) ⟨Nat.le_of_ble_eq_true rfl, Nat.le_of_ble_eq_true rfl⟩) (ow_PrePx (hK.sub (tys' := [(cA, .int), (cB, .int)]) [0, 1] rfl) (hP.sub [0, 1, 2] rfl) (hD.sub (ws' := wX h a b cA cB (nI N, f, g)) [0, 1, 2] (by decide) rfl) hZ (ci := 0) (q0 := 0) rfl rfl) rfl rfl hl.1 rfl (lv_room (Nat.le_of_ble_eq_true rfl)) dL_carry_7 ⟨Nat.le_of_ble_eq_true rfl, Nat.le_of_ble_eq_true rfl⟩) hP hD hS hA [0, 1, 2] [3] rfl rfl (by decide) (by decide) hown htab2 (by decide) (by decide) (hts (.classLink RL 13 "java/lang/IllegalArgumentException") (by decide +kernel)) rfl (fun hnt r0 u H locs hw hP hD hS => ?_) (fun hth x9 H locs hP hS => ?_)
  · have htt : tt = 0 := by
      rcases hsp with ⟨h9, _⟩ | ⟨h9, _⟩
      · exact absurd h9 hnt
      · exact h9
    obtain ⟨a1, f1, g1⟩ := u
    obtain ⟨er, e1, hf1, hg1⟩ := hw
    obtain rfl : nI N' = a1 := e1.symm
    refine ow_top (z := r) er ?_
    have hP : va_P (dC, dI) vwCl [(o, .inl (cO, 1, .inr (.inl oo))), (h, .inr (0, [.ref a, .ref b, .int (nI N')])), (a, .inl (cA, 1000, .inl f1)), (b, .inl (cB, 1000, .inl g1))] H := hP
    have hD : va_D A [(o, .inl (cO, 1, .inr (.inl oo))), (h, .inr (0, [.ref a, .ref b, .int (nI N')])), (a, .inl (cA, 1000, .inl f1)), (b, .inl (cB, 1000, .inl g1))] := hD
    refine lv_i2l (v := r.toInt64) hx hb dL_carry_10 rfl ?_
    refine ow_last (k := 0) hx hb hK hP hD hS 0 2 rfl rfl nI_0.symm (by decide) (by decide) dL_carry_11 (fun H locs hP hD hS => ?_)
    have hP : va_P (dC, dI) vwCl [(o, .inl (cO, 1, .inr (.inl (vp_updL oo 0 r.toInt64)))), (h, .inr (0, [.ref a, .ref b, .int (nI N')])), (a, .inl (cA, 1000, .inl f1)), (b, .inl (cB, 1000, .inl g1))] H := hP
    have hD : va_D A [(o, .inl (cO, 1, .inr (.inl (vp_updL oo 0 r.toInt64)))), (h, .inr (0, [.ref a, .ref b, .int (nI N')])), (a, .inl (cA, 1000, .inl f1)), (b, .inl (cB, 1000, .inl g1))] := hD
    refine lv_goto (tgt := 19) hx hb dL_carry_12 (by decide) ?_
    refine lv_iconst (v := 0) hx hb dL_carry_19 (by decide +kernel) ?_
    refine W.widen (k := 1) (n := 6) (by omega) (by omega) ?_
    exact W.iret (v := 0) hx hb hr (fun t ht hW => ⟨⟨0, (((nI N'), f1, g1), vp_updL oo 0 r.toInt64), rfl, ⟨htt.symm, fun _ => pk_uLs (f := oo) (k := 0) (x := r.toInt64), rfl, hf1, hg1⟩, by rw [ht]; exact hP.sub [1, 2, 3, 0] rfl, hD.sub [1, 2, 3, 0] (by decide) rfl⟩, hS.F ht⟩) hS.2.2 dL_carry_20
  · obtain ⟨htt, hN0, hL0⟩ : tt = 1 ∧ N' = N ∧ L' = L := by
      rcases hsp with ⟨_, h9⟩ | ⟨_, h9⟩
      · exact ⟨h9.1, h9.2.2⟩
      · exact (h9.elim (fun _ h8 => h8.elim (fun _ h7 => h7.elim (fun _ h6 => hth.elim (ol_at_no h6.1) (fun h5 => h5.elim (ol_at_no h6.2.1) (ol_at_no h6.2.2.1)))))).elim
    refine lv_astore (lv' := [(5, .ref x9), (0, .ref h), (1, .int x), (2, .int y), (3, .int z), (4, .ref o)]) hx hb dL_carry_15 hl (by decide) rfl (fun ls hl => ?_)
    refine lv_iconst (v := 1) hx hb dL_carry_17 (by decide +kernel) ?_
    refine W.widen (k := 1) (n := 6) (by omega) (by omega) ?_
    exact W.iret (v := 1) hx hb hr (fun t ht hW => ⟨⟨1, ((nI N, f, g), oo), rfl, ⟨htt.symm, fun h9 => absurd (htt.symm.trans h9) (by decide), by rw [hN0], by rw [hN0, hL0]; exact hf, by rw [hN0, hL0]; exact hg⟩, by rw [ht]; exact hP.sub [0, 1, 2, 3] rfl, hD.sub [0, 1, 2, 3] (by decide) rfl⟩, hS.F ht⟩) hS.2.2 dL_carry_18
set_option maxHeartbeats 4000000 in
set_option maxRecDepth 100000 in
/-- the law's compare: 1 if it throws, else 0 and the answer is laid aside -/
theorem c_L_compare (l : Launch) (dC : Nat → ClassId) (dI : Nat → Nat → Nat) (hfl : l.flags = flags0) (h a b o : Nat) (cA cB cO : ClassId) (N : Nat) (L : Nat → Nat) (f g : Nat → Int32) (oo : Nat → Int64) (tt r : Int32) (N' : Nat) (L' : Nat → Nat) (sz : Nat) (ok : ol_ok N L) (hf : ol_f N L f) (hg : ol_g N L g) (x y : Int32) (hsp : ((ol_no N L x ∨ ol_no N L y) ∧ tt = 1 ∧ r = 0 ∧ N' = N ∧ L' = L) ∨ (tt = 0 ∧ ∃ p q, ol_at N L x p ∧ ol_at N L y q ∧ r = ol_cmp p q ∧ N' = N ∧ L' = L)) : Met l yL_compare wsL_compare ({ frames := 8, cells := 1, slots := 6, locals := 125 }) (ow_Px (dC, dI) vwCl [(cA, .int), (cB, .int), (cO, .long)] (wO h a b o cA cB cO ((nI N, f, g), oo)) sz [.ref h, .int x, .int y, .ref o]) (va_Qi (fun (k' : Int32) (u : (Int32 × (Nat → Int32) × (Nat → Int32)) × (Nat → Int64)) => k' = tt ∧ (tt = 0 → u.2 0 = r.toInt64) ∧ u.1.1 = nI N' ∧ ol_f N' L' u.1.2.1 ∧ ol_g N' L' u.1.2.2) (ow_B (dC, dI) vwCl (wO h a b o cA cB cO) (va_A (wO h a b o cA cB cO ((nI N, f, g), oo)) sz)) (va_A (wO h a b o cA cB cO ((nI N, f, g), oo)) sz)) 1 6 (va_A (wO h a b o cA cB cO ((nI N, f, g), oo)) sz) := by
  refine ow_ofWH (hs := [(0, 10, 13, 13)]) (cc := cL_compare) (maxL := 5) (ret := (some .int)) (by decide) rfl ?_
  intro pg ev s m args below meth cd s₁ B hml htab hv
  obtain ⟨rfl, hsz, hP, hK, hD0, hZ⟩ := hv
  have hx := B.exec
  have hb := B.bytes
  have hr := B.returns
  have hts := atoms_spec (ws := wsL_compare) B.pre
  have hown : s.vm.findClass RL = some m.cls := findClass_of_methodNamed B.named
  have hlocks := B.notSynchronized
  subst hsz
  have hD := hD0.self (sz := s.heap.size)
  generalize hAe : va_A (wO h a b o cA cB cO ((nI N, f, g), oo)) s.heap.size = A at hD ⊢
  have hA : ∀ q : Nat, s.heap.size ≤ q → A q := fun q h => by rw [← hAe]; exact Or.inr h
  have hS : va_S A s.heap s.heap [] := va_S.rf
  have hD : va_D A [(h, .inr (0, [.ref a, .ref b, .int (nI N)])), (a, .inl (cA, 1000, .inl f)), (b, .inl (cB, 1000, .inl g)), (o, .inl (cO, 1, .inr (.inl oo)))] := hD
  have hP : va_P (dC, dI) vwCl [(h, .inr (0, [.ref a, .ref b, .int (nI N)])), (a, .inl (cA, 1000, .inl f)), (b, .inl (cB, 1000, .inl g)), (o, .inl (cO, 1, .inr (.inl oo)))] s.heap := hP
  have hl := lv_entry ([.ref h, .int x, .int y, .ref o]) (n := 5) (Nat.le_of_ble_eq_true rfl)
  rw [lg_entry_eq]
  generalize (lg_sl ([.ref h, .int x, .int y, .ref o]) ++ List.replicate (5 - (lg_sl ([.ref h, .int x, .int y, .ref o])).length) Slot.unset).toArray = ls at hl ⊢
  have hl : lv_has ls 5 [(0, .ref h), (1, .int x), (2, .int y), (3, .ref o)] := hl
  have htab2 : cd.exceptionTable.toList = [⟨0, 10, 13, 13⟩] := htab
  have hsX : ∀ p q, ol_at N L x p → ol_at N L y q → r = ol_cmp p q := by
    intro p9 q9 hp9 hq9
    rcases hsp with ⟨h1, _⟩ | ⟨_, p, q, hp, hq, hs⟩
    · exact (h1.elim (ol_at_no hp9) (ol_at_no hq9)).elim
    · obtain rfl := ol_at_un ok hp hp9
      obtain rfl := ol_at_un ok hq hq9
      exact hs.1
  refine lv_aload_n hx hb dL_compare_0 rfl (lv_at hl 3 rfl) ?_
  refine lv_iconst (v := 0) hx hb dL_compare_1 (by decide +kernel) ?_
  refine lv_aload_n hx hb dL_compare_2 rfl (lv_at hl 0 rfl) ?_
  refine lv_iload_n hx hb dL_compare_3 rfl (lv_at hl 1 rfl) ?_
  refine lv_iload_n hx hb dL_compare_4 rfl (lv_at hl 2 rfl) ?_
  refine ow_callCR (r := r) (hpc := 13) (ow_runV (As := [.int x, .int y]) (rest := [.int 0, .ref o]) ⟨hx, hb, hml, hown, hts⟩ (c_X_compare l dC dI hfl h a b cA cB N L f g x y r ok hf hg hsX) (cwV 2 hts gL_compare_X0_compare rfl rfl rfl (by decide +kernel) ⟨Nat.le_of_ble_eq_true rfl, Nat.le_of_ble_eq_true rfl⟩) (ow_PreRx (hK.sub (tys' := [(cA, .int), (cB, .int)]) [0, 1] rfl) (hP.sub [0, 1, 2] rfl) hZ (ci := 0) (q0 := 0) rfl rfl) rfl rfl hl.1 rfl (lv_room (Nat.le_of_ble_eq_true rfl)) dL_compare_5 ⟨Nat.le_of_ble_eq_true rfl, Nat.le_of_ble_eq_true rfl⟩) hP hS hown htab2 (by decide) (by decide) (hts (.classLink RL 13 "java/lang/IllegalArgumentException") (by decide +kernel)) rfl (fun hnt => ?_) (fun hth x9 H hP hS => ?_)
  · have htt : tt = 0 := by
      rcases hsp with ⟨h9, _⟩ | ⟨h9, _⟩
      · exact absurd h9 hnt
      · exact h9
    obtain ⟨hN0, hL0⟩ : N' = N ∧ L' = L := by
      rcases hsp with ⟨h9, _⟩ | h9
      · exact absurd h9 hnt
      · exact (h9.2.elim (fun _ h8 => h8.elim (fun _ h7 => h7.2.2.2)))
    refine lv_i2l (v := r.toInt64) hx hb dL_compare_8 rfl ?_
    refine ow_last (k := 0) hx hb hK hP hD hS 3 2 rfl rfl nI_0.symm (by decide) (by decide) dL_compare_9 (fun H locs hP hD hS => ?_)
    have hP : va_P (dC, dI) vwCl [(h, .inr (0, [.ref a, .ref b, .int (nI N)])), (a, .inl (cA, 1000, .inl f)), (b, .inl (cB, 1000, .inl g)), (o, .inl (cO, 1, .inr (.inl (vp_updL oo 0 r.toInt64))))] H := hP
    have hD : va_D A [(h, .inr (0, [.ref a, .ref b, .int (nI N)])), (a, .inl (cA, 1000, .inl f)), (b, .inl (cB, 1000, .inl g)), (o, .inl (cO, 1, .inr (.inl (vp_updL oo 0 r.toInt64))))] := hD
    refine lv_goto (tgt := 17) hx hb dL_compare_10 (by decide) ?_
    refine lv_iconst (v := 0) hx hb dL_compare_17 (by decide +kernel) ?_
    refine W.widen (k := 1) (n := 6) (by omega) (by omega) ?_
    exact W.iret (v := 0) hx hb hr (fun t ht hW => ⟨⟨0, (((nI N), f, g), vp_updL oo 0 r.toInt64), rfl, ⟨htt.symm, fun _ => pk_uLs (f := oo) (k := 0) (x := r.toInt64), by rw [hN0], by rw [hN0, hL0]; exact hf, by rw [hN0, hL0]; exact hg⟩, by rw [ht]; exact hP.sub [0, 1, 2, 3] rfl, hD.sub [0, 1, 2, 3] (by decide) rfl⟩, hS.F ht⟩) hS.2.2 dL_compare_18
  · obtain ⟨htt, hN0, hL0⟩ : tt = 1 ∧ N' = N ∧ L' = L := by
      rcases hsp with ⟨_, h9⟩ | ⟨_, h9⟩
      · exact ⟨h9.1, h9.2.2⟩
      · exact (h9.elim (fun _ h8 => h8.elim (fun _ h7 => hth.elim (ol_at_no h7.1) (ol_at_no h7.2.1)))).elim
    refine lv_astore (lv' := [(4, .ref x9), (0, .ref h), (1, .int x), (2, .int y), (3, .ref o)]) hx hb dL_compare_13 hl (by decide) rfl (fun ls hl => ?_)
    refine lv_iconst (v := 1) hx hb dL_compare_15 (by decide +kernel) ?_
    refine W.widen (k := 1) (n := 6) (by omega) (by omega) ?_
    exact W.iret (v := 1) hx hb hr (fun t ht hW => ⟨⟨1, ((nI N, f, g), oo), rfl, ⟨htt.symm, fun h9 => absurd (htt.symm.trans h9) (by decide), by rw [hN0], by rw [hN0, hL0]; exact hf, by rw [hN0, hL0]; exact hg⟩, by rw [ht]; exact hP.sub [0, 1, 2, 3] rfl, hD.sub [0, 1, 2, 3] (by decide) rfl⟩, hS.F ht⟩) hS.2.2 dL_compare_16
set_option maxHeartbeats 4000000 in
set_option maxRecDepth 100000 in
/-- the law's next: 1 if it throws, else 0 and the answer is laid aside -/
theorem c_L_next (l : Launch) (dC : Nat → ClassId) (dI : Nat → Nat → Nat) (hfl : l.flags = flags0) (h a b o : Nat) (cA cB cO : ClassId) (N : Nat) (L : Nat → Nat) (f g : Nat → Int32) (oo : Nat → Int64) (tt r : Int32) (N' : Nat) (L' : Nat → Nat) (sz : Nat) (ok : ol_ok N L) (hf : ol_f N L f) (hg : ol_g N L g) (x z : Int32) (hsp : (ol_no N L x ∧ tt = 1 ∧ r = 0 ∧ N' = N ∧ L' = L) ∨ (tt = 0 ∧ ∃ p, ol_at N L x p ∧ ol_ps N L (if z = 0 then nI p - 1 else nI p + 1) r ∧ N' = N ∧ L' = L)) : Met l yL_next wsL_next ({ frames := 8, cells := 1, slots := 6, locals := 125 }) (ow_Px (dC, dI) vwCl [(cA, .int), (cB, .int), (cO, .long)] (wO h a b o cA cB cO ((nI N, f, g), oo)) sz [.ref h, .int x, .int z, .ref o]) (va_Qi (fun (k' : Int32) (u : (Int32 × (Nat → Int32) × (Nat → Int32)) × (Nat → Int64)) => k' = tt ∧ (tt = 0 → u.2 0 = r.toInt64) ∧ u.1.1 = nI N' ∧ ol_f N' L' u.1.2.1 ∧ ol_g N' L' u.1.2.2) (ow_B (dC, dI) vwCl (wO h a b o cA cB cO) (va_A (wO h a b o cA cB cO ((nI N, f, g), oo)) sz)) (va_A (wO h a b o cA cB cO ((nI N, f, g), oo)) sz)) 1 6 (va_A (wO h a b o cA cB cO ((nI N, f, g), oo)) sz) := by
  refine ow_ofWH (hs := [(0, 10, 13, 13)]) (cc := cL_next) (maxL := 5) (ret := (some .int)) (by decide) rfl ?_
  intro pg ev s m args below meth cd s₁ B hml htab hv
  obtain ⟨rfl, hsz, hP, hK, hD0, hZ⟩ := hv
  have hx := B.exec
  have hb := B.bytes
  have hr := B.returns
  have hts := atoms_spec (ws := wsL_next) B.pre
  have hown : s.vm.findClass RL = some m.cls := findClass_of_methodNamed B.named
  have hlocks := B.notSynchronized
  subst hsz
  have hD := hD0.self (sz := s.heap.size)
  generalize hAe : va_A (wO h a b o cA cB cO ((nI N, f, g), oo)) s.heap.size = A at hD ⊢
  have hA : ∀ q : Nat, s.heap.size ≤ q → A q := fun q h => by rw [← hAe]; exact Or.inr h
  have hS : va_S A s.heap s.heap [] := va_S.rf
  have hD : va_D A [(h, .inr (0, [.ref a, .ref b, .int (nI N)])), (a, .inl (cA, 1000, .inl f)), (b, .inl (cB, 1000, .inl g)), (o, .inl (cO, 1, .inr (.inl oo)))] := hD
  have hP : va_P (dC, dI) vwCl [(h, .inr (0, [.ref a, .ref b, .int (nI N)])), (a, .inl (cA, 1000, .inl f)), (b, .inl (cB, 1000, .inl g)), (o, .inl (cO, 1, .inr (.inl oo)))] s.heap := hP
  have hl := lv_entry ([.ref h, .int x, .int z, .ref o]) (n := 5) (Nat.le_of_ble_eq_true rfl)
  rw [lg_entry_eq]
  generalize (lg_sl ([.ref h, .int x, .int z, .ref o]) ++ List.replicate (5 - (lg_sl ([.ref h, .int x, .int z, .ref o])).length) Slot.unset).toArray = ls at hl ⊢
  have hl : lv_has ls 5 [(0, .ref h), (1, .int x), (2, .int z), (3, .ref o)] := hl
  have htab2 : cd.exceptionTable.toList = [⟨0, 10, 13, 13⟩] := htab
  have hsX : ∀ p, ol_at N L x p → ol_ps N L (if z = 0 then nI p - 1 else nI p + 1) r := by
    intro p9 hp9
    rcases hsp with ⟨h1, _⟩ | ⟨_, p, hp, hs⟩
    · exact (ol_at_no hp9 h1).elim
    · obtain rfl := ol_at_un ok hp hp9
      exact hs.1
  refine lv_aload_n hx hb dL_next_0 rfl (lv_at hl 3 rfl) ?_
  refine lv_iconst (v := 0) hx hb dL_next_1 (by decide +kernel) ?_
  refine lv_aload_n hx hb dL_next_2 rfl (lv_at hl 0 rfl) ?_
  refine lv_iload_n hx hb dL_next_3 rfl (lv_at hl 1 rfl) ?_
  refine lv_iload_n hx hb dL_next_4 rfl (lv_at hl 2 rfl) ?_
  refine ow_callCR (r := r) (hpc := 13) (ow_runV (As := [.int x, .int z]) (rest := [.int 0, .ref o]) ⟨hx, hb, hml, hown, hts⟩ (c_X_next l dC dI hfl h a b cA cB N L f g x z r ok hf hg hsX) (cwV 2 hts gL_next_X0_next rfl rfl rfl (by decide +kernel) ⟨Nat.le_of_ble_eq_true rfl, Nat.le_of_ble_eq_true rfl⟩) (ow_PreRx (hK.sub (tys' := [(cA, .int), (cB, .int)]) [0, 1] rfl) (hP.sub [0, 1, 2] rfl) hZ (ci := 0) (q0 := 0) rfl rfl) rfl rfl hl.1 rfl (lv_room (Nat.le_of_ble_eq_true rfl)) dL_next_5 ⟨Nat.le_of_ble_eq_true rfl, Nat.le_of_ble_eq_true rfl⟩) hP hS hown htab2 (by decide) (by decide) (hts (.classLink RL 13 "java/lang/IllegalArgumentException") (by decide +kernel)) rfl (fun hnt => ?_) (fun hth x9 H hP hS => ?_)
  · have htt : tt = 0 := by
      rcases hsp with ⟨h9, _⟩ | ⟨h9, _⟩
      · exact absurd h9 hnt
      · exact h9
    obtain ⟨hN0, hL0⟩ : N' = N ∧ L' = L := by
      rcases hsp with ⟨h9, _⟩ | h9
      · exact absurd h9 hnt
      · exact (h9.2.elim (fun _ h8 => h8.2.2))
    refine lv_i2l (v := r.toInt64) hx hb dL_next_8 rfl ?_
    refine ow_last (k := 0) hx hb hK hP hD hS 3 2 rfl rfl nI_0.symm (by decide) (by decide) dL_next_9 (fun H locs hP hD hS => ?_)
    have hP : va_P (dC, dI) vwCl [(h, .inr (0, [.ref a, .ref b, .int (nI N)])), (a, .inl (cA, 1000, .inl f)), (b, .inl (cB, 1000, .inl g)), (o, .inl (cO, 1, .inr (.inl (vp_updL oo 0 r.toInt64))))] H := hP
    have hD : va_D A [(h, .inr (0, [.ref a, .ref b, .int (nI N)])), (a, .inl (cA, 1000, .inl f)), (b, .inl (cB, 1000, .inl g)), (o, .inl (cO, 1, .inr (.inl (vp_updL oo 0 r.toInt64))))] := hD
    refine lv_goto (tgt := 17) hx hb dL_next_10 (by decide) ?_
    refine lv_iconst (v := 0) hx hb dL_next_17 (by decide +kernel) ?_
    refine W.widen (k := 1) (n := 6) (by omega) (by omega) ?_
    exact W.iret (v := 0) hx hb hr (fun t ht hW => ⟨⟨0, (((nI N), f, g), vp_updL oo 0 r.toInt64), rfl, ⟨htt.symm, fun _ => pk_uLs (f := oo) (k := 0) (x := r.toInt64), by rw [hN0], by rw [hN0, hL0]; exact hf, by rw [hN0, hL0]; exact hg⟩, by rw [ht]; exact hP.sub [0, 1, 2, 3] rfl, hD.sub [0, 1, 2, 3] (by decide) rfl⟩, hS.F ht⟩) hS.2.2 dL_next_18
  · obtain ⟨htt, hN0, hL0⟩ : tt = 1 ∧ N' = N ∧ L' = L := by
      rcases hsp with ⟨_, h9⟩ | ⟨_, h9⟩
      · exact ⟨h9.1, h9.2.2⟩
      · exact (h9.elim (fun _ h8 => ol_at_no h8.1 hth)).elim
    refine lv_astore (lv' := [(4, .ref x9), (0, .ref h), (1, .int x), (2, .int z), (3, .ref o)]) hx hb dL_next_13 hl (by decide) rfl (fun ls hl => ?_)
    refine lv_iconst (v := 1) hx hb dL_next_15 (by decide +kernel) ?_
    refine W.widen (k := 1) (n := 6) (by omega) (by omega) ?_
    exact W.iret (v := 1) hx hb hr (fun t ht hW => ⟨⟨1, ((nI N, f, g), oo), rfl, ⟨htt.symm, fun h9 => absurd (htt.symm.trans h9) (by decide), by rw [hN0], by rw [hN0, hL0]; exact hf, by rw [hN0, hL0]; exact hg⟩, by rw [ht]; exact hP.sub [0, 1, 2, 3] rfl, hD.sub [0, 1, 2, 3] (by decide) rfl⟩, hS.F ht⟩) hS.2.2 dL_next_16
set_option maxHeartbeats 4000000 in
set_option maxRecDepth 100000 in
/-- the law's place: 1 if it throws, else 0 and the answer is laid aside -/
theorem c_L_place (l : Launch) (dC : Nat → ClassId) (dI : Nat → Nat → Nat) (hfl : l.flags = flags0) (h a b o : Nat) (cA cB cO : ClassId) (N : Nat) (L : Nat → Nat) (f g : Nat → Int32) (oo : Nat → Int64) (tt r : Int32) (N' : Nat) (L' : Nat → Nat) (sz : Nat) (ok : ol_ok N L) (hf : ol_f N L f) (hg : ol_g N L g) (x : Int32) (hsp : (ol_no N L x ∧ tt = 1 ∧ r = 0 ∧ N' = N ∧ L' = L) ∨ (tt = 0 ∧ ∃ p, ol_at N L x p ∧ r = nI p ∧ N' = N ∧ L' = L)) : Met l yL_place wsL_place ({ frames := 8, cells := 1, slots := 6, locals := 124 }) (ow_Px (dC, dI) vwCl [(cA, .int), (cB, .int), (cO, .long)] (wO h a b o cA cB cO ((nI N, f, g), oo)) sz [.ref h, .int x, .ref o]) (va_Qi (fun (k' : Int32) (u : (Int32 × (Nat → Int32) × (Nat → Int32)) × (Nat → Int64)) => k' = tt ∧ (tt = 0 → u.2 0 = r.toInt64) ∧ u.1.1 = nI N' ∧ ol_f N' L' u.1.2.1 ∧ ol_g N' L' u.1.2.2) (ow_B (dC, dI) vwCl (wO h a b o cA cB cO) (va_A (wO h a b o cA cB cO ((nI N, f, g), oo)) sz)) (va_A (wO h a b o cA cB cO ((nI N, f, g), oo)) sz)) 1 6 (va_A (wO h a b o cA cB cO ((nI N, f, g), oo)) sz) := by
  refine ow_ofWH (hs := [(0, 9, 12, 13)]) (cc := cL_place) (maxL := 4) (ret := (some .int)) (by decide) rfl ?_
  intro pg ev s m args below meth cd s₁ B hml htab hv
  obtain ⟨rfl, hsz, hP, hK, hD0, hZ⟩ := hv
  have hx := B.exec
  have hb := B.bytes
  have hr := B.returns
  have hts := atoms_spec (ws := wsL_place) B.pre
  have hown : s.vm.findClass RL = some m.cls := findClass_of_methodNamed B.named
  have hlocks := B.notSynchronized
  subst hsz
  have hD := hD0.self (sz := s.heap.size)
  generalize hAe : va_A (wO h a b o cA cB cO ((nI N, f, g), oo)) s.heap.size = A at hD ⊢
  have hA : ∀ q : Nat, s.heap.size ≤ q → A q := fun q h => by rw [← hAe]; exact Or.inr h
  have hS : va_S A s.heap s.heap [] := va_S.rf
  have hD : va_D A [(h, .inr (0, [.ref a, .ref b, .int (nI N)])), (a, .inl (cA, 1000, .inl f)), (b, .inl (cB, 1000, .inl g)), (o, .inl (cO, 1, .inr (.inl oo)))] := hD
  have hP : va_P (dC, dI) vwCl [(h, .inr (0, [.ref a, .ref b, .int (nI N)])), (a, .inl (cA, 1000, .inl f)), (b, .inl (cB, 1000, .inl g)), (o, .inl (cO, 1, .inr (.inl oo)))] s.heap := hP
  have hl := lv_entry ([.ref h, .int x, .ref o]) (n := 4) (Nat.le_of_ble_eq_true rfl)
  rw [lg_entry_eq]
  generalize (lg_sl ([.ref h, .int x, .ref o]) ++ List.replicate (4 - (lg_sl ([.ref h, .int x, .ref o])).length) Slot.unset).toArray = ls at hl ⊢
  have hl : lv_has ls 4 [(0, .ref h), (1, .int x), (2, .ref o)] := hl
  have htab2 : cd.exceptionTable.toList = [⟨0, 9, 12, 13⟩] := htab
  have hsX : ∀ p, ol_at N L x p → r = nI p := by
    intro p9 hp9
    rcases hsp with ⟨h1, _⟩ | ⟨_, p, hp, hs⟩
    · exact (ol_at_no hp9 h1).elim
    · obtain rfl := ol_at_un ok hp hp9
      exact hs.1
  refine lv_aload_n hx hb dL_place_0 rfl (lv_at hl 2 rfl) ?_
  refine lv_iconst (v := 0) hx hb dL_place_1 (by decide +kernel) ?_
  refine lv_aload_n hx hb dL_place_2 rfl (lv_at hl 0 rfl) ?_
  refine lv_iload_n hx hb dL_place_3 rfl (lv_at hl 1 rfl) ?_
  refine ow_callCR (r := r) (hpc := 12) (ow_runV (As := [.int x]) (rest := [.int 0, .ref o]) ⟨hx, hb, hml, hown, hts⟩ (c_X_place l dC dI hfl h a b cA cB N L f g x r ok hf hg hsX) (cwV 1 hts gL_place_X0_place rfl rfl rfl (by decide +kernel) ⟨Nat.le_of_ble_eq_true rfl, Nat.le_of_ble_eq_true rfl⟩) (ow_PreRx (hK.sub (tys' := [(cA, .int), (cB, .int)]) [0, 1] rfl) (hP.sub [0, 1, 2] rfl) hZ (ci := 0) (q0 := 0) rfl rfl) rfl rfl hl.1 rfl (lv_room (Nat.le_of_ble_eq_true rfl)) dL_place_4 ⟨Nat.le_of_ble_eq_true rfl, Nat.le_of_ble_eq_true rfl⟩) hP hS hown htab2 (by decide) (by decide) (hts (.classLink RL 13 "java/lang/IllegalArgumentException") (by decide +kernel)) rfl (fun hnt => ?_) (fun hth x9 H hP hS => ?_)
  · have htt : tt = 0 := by
      rcases hsp with ⟨h9, _⟩ | ⟨h9, _⟩
      · exact absurd h9 hnt
      · exact h9
    obtain ⟨hN0, hL0⟩ : N' = N ∧ L' = L := by
      rcases hsp with ⟨h9, _⟩ | h9
      · exact absurd h9 hnt
      · exact (h9.2.elim (fun _ h8 => h8.2.2))
    refine lv_i2l (v := r.toInt64) hx hb dL_place_7 rfl ?_
    refine ow_last (k := 0) hx hb hK hP hD hS 3 2 rfl rfl nI_0.symm (by decide) (by decide) dL_place_8 (fun H locs hP hD hS => ?_)
    have hP : va_P (dC, dI) vwCl [(h, .inr (0, [.ref a, .ref b, .int (nI N)])), (a, .inl (cA, 1000, .inl f)), (b, .inl (cB, 1000, .inl g)), (o, .inl (cO, 1, .inr (.inl (vp_updL oo 0 r.toInt64))))] H := hP
    have hD : va_D A [(h, .inr (0, [.ref a, .ref b, .int (nI N)])), (a, .inl (cA, 1000, .inl f)), (b, .inl (cB, 1000, .inl g)), (o, .inl (cO, 1, .inr (.inl (vp_updL oo 0 r.toInt64))))] := hD
    refine lv_goto (tgt := 15) hx hb dL_place_9 (by decide) ?_
    refine lv_iconst (v := 0) hx hb dL_place_15 (by decide +kernel) ?_
    refine W.widen (k := 1) (n := 6) (by omega) (by omega) ?_
    exact W.iret (v := 0) hx hb hr (fun t ht hW => ⟨⟨0, (((nI N), f, g), vp_updL oo 0 r.toInt64), rfl, ⟨htt.symm, fun _ => pk_uLs (f := oo) (k := 0) (x := r.toInt64), by rw [hN0], by rw [hN0, hL0]; exact hf, by rw [hN0, hL0]; exact hg⟩, by rw [ht]; exact hP.sub [0, 1, 2, 3] rfl, hD.sub [0, 1, 2, 3] (by decide) rfl⟩, hS.F ht⟩) hS.2.2 dL_place_16
  · obtain ⟨htt, hN0, hL0⟩ : tt = 1 ∧ N' = N ∧ L' = L := by
      rcases hsp with ⟨_, h9⟩ | ⟨_, h9⟩
      · exact ⟨h9.1, h9.2.2⟩
      · exact (h9.elim (fun _ h8 => ol_at_no h8.1 hth)).elim
    refine lv_astore_n (lv' := [(3, .ref x9), (0, .ref h), (1, .int x), (2, .ref o)]) hx hb dL_place_12 rfl hl (by decide) rfl (fun ls hl => ?_)
    refine lv_iconst (v := 1) hx hb dL_place_13 (by decide +kernel) ?_
    refine W.widen (k := 1) (n := 6) (by omega) (by omega) ?_
    exact W.iret (v := 1) hx hb hr (fun t ht hW => ⟨⟨1, ((nI N, f, g), oo), rfl, ⟨htt.symm, fun h9 => absurd (htt.symm.trans h9) (by decide), by rw [hN0], by rw [hN0, hL0]; exact hf, by rw [hN0, hL0]; exact hg⟩, by rw [ht]; exact hP.sub [0, 1, 2, 3] rfl, hD.sub [0, 1, 2, 3] (by decide) rfl⟩, hS.F ht⟩) hS.2.2 dL_place_14
set_option maxHeartbeats 4000000 in
set_option maxRecDepth 100000 in
/-- the law's greatest: 1 if it throws, else 0 and the answer is laid aside -/
theorem c_L_greatest (l : Launch) (dC : Nat → ClassId) (dI : Nat → Nat → Nat) (hfl : l.flags = flags0) (h a b o : Nat) (cA cB cO : ClassId) (N : Nat) (L : Nat → Nat) (f g : Nat → Int32) (oo : Nat → Int64) (tt r : Int32) (N' : Nat) (L' : Nat → Nat) (sz : Nat) (ok : ol_ok N L) (hf : ol_f N L f) (hg : ol_g N L g) (x y : Int32) (hsp : ((ol_no N L x ∨ ol_no N L y) ∧ tt = 1 ∧ r = 0 ∧ N' = N ∧ L' = L) ∨ (tt = 0 ∧ ∃ p q, ol_at N L x p ∧ ol_at N L y q ∧ r = ol_top L p (q + 1 - p) ∧ N' = N ∧ L' = L)) : Met l yL_greatest wsL_greatest ({ frames := 8, cells := 1, slots := 6, locals := 128 }) (ow_Px (dC, dI) vwCl [(cA, .int), (cB, .int), (cO, .long)] (wO h a b o cA cB cO ((nI N, f, g), oo)) sz [.ref h, .int x, .int y, .ref o]) (va_Qi (fun (k' : Int32) (u : (Int32 × (Nat → Int32) × (Nat → Int32)) × (Nat → Int64)) => k' = tt ∧ (tt = 0 → u.2 0 = r.toInt64) ∧ u.1.1 = nI N' ∧ ol_f N' L' u.1.2.1 ∧ ol_g N' L' u.1.2.2) (ow_B (dC, dI) vwCl (wO h a b o cA cB cO) (va_A (wO h a b o cA cB cO ((nI N, f, g), oo)) sz)) (va_A (wO h a b o cA cB cO ((nI N, f, g), oo)) sz)) 1 6 (va_A (wO h a b o cA cB cO ((nI N, f, g), oo)) sz) := by
  refine ow_ofWH (hs := [(0, 10, 13, 13)]) (cc := cL_greatest) (maxL := 5) (ret := (some .int)) (by decide) rfl ?_
  intro pg ev s m args below meth cd s₁ B hml htab hv
  obtain ⟨rfl, hsz, hP, hK, hD0, hZ⟩ := hv
  have hx := B.exec
  have hb := B.bytes
  have hr := B.returns
  have hts := atoms_spec (ws := wsL_greatest) B.pre
  have hown : s.vm.findClass RL = some m.cls := findClass_of_methodNamed B.named
  have hlocks := B.notSynchronized
  subst hsz
  have hD := hD0.self (sz := s.heap.size)
  generalize hAe : va_A (wO h a b o cA cB cO ((nI N, f, g), oo)) s.heap.size = A at hD ⊢
  have hA : ∀ q : Nat, s.heap.size ≤ q → A q := fun q h => by rw [← hAe]; exact Or.inr h
  have hS : va_S A s.heap s.heap [] := va_S.rf
  have hD : va_D A [(h, .inr (0, [.ref a, .ref b, .int (nI N)])), (a, .inl (cA, 1000, .inl f)), (b, .inl (cB, 1000, .inl g)), (o, .inl (cO, 1, .inr (.inl oo)))] := hD
  have hP : va_P (dC, dI) vwCl [(h, .inr (0, [.ref a, .ref b, .int (nI N)])), (a, .inl (cA, 1000, .inl f)), (b, .inl (cB, 1000, .inl g)), (o, .inl (cO, 1, .inr (.inl oo)))] s.heap := hP
  have hl := lv_entry ([.ref h, .int x, .int y, .ref o]) (n := 5) (Nat.le_of_ble_eq_true rfl)
  rw [lg_entry_eq]
  generalize (lg_sl ([.ref h, .int x, .int y, .ref o]) ++ List.replicate (5 - (lg_sl ([.ref h, .int x, .int y, .ref o])).length) Slot.unset).toArray = ls at hl ⊢
  have hl : lv_has ls 5 [(0, .ref h), (1, .int x), (2, .int y), (3, .ref o)] := hl
  have htab2 : cd.exceptionTable.toList = [⟨0, 10, 13, 13⟩] := htab
  have hsX : ∀ p q, ol_at N L x p → ol_at N L y q → r = ol_top L p (q + 1 - p) := by
    intro p9 q9 hp9 hq9
    rcases hsp with ⟨h1, _⟩ | ⟨_, p, q, hp, hq, hs⟩
    · exact (h1.elim (ol_at_no hp9) (ol_at_no hq9)).elim
    · obtain rfl := ol_at_un ok hp hp9
      obtain rfl := ol_at_un ok hq hq9
      exact hs.1
  refine lv_aload_n hx hb dL_greatest_0 rfl (lv_at hl 3 rfl) ?_
  refine lv_iconst (v := 0) hx hb dL_greatest_1 (by decide +kernel) ?_
  refine lv_aload_n hx hb dL_greatest_2 rfl (lv_at hl 0 rfl) ?_
  refine lv_iload_n hx hb dL_greatest_3 rfl (lv_at hl 1 rfl) ?_
  refine lv_iload_n hx hb dL_greatest_4 rfl (lv_at hl 2 rfl) ?_
  refine ow_callCR (r := r) (hpc := 13) (ow_runV (As := [.int x, .int y]) (rest := [.int 0, .ref o]) ⟨hx, hb, hml, hown, hts⟩ (c_X_greatest l dC dI hfl h a b cA cB N L f g x y r ok hf hg hsX) (cwV 2 hts gL_greatest_X0_greatest rfl rfl rfl (by decide +kernel) ⟨Nat.le_of_ble_eq_true rfl, Nat.le_of_ble_eq_true rfl⟩) (ow_PreRx (hK.sub (tys' := [(cA, .int), (cB, .int)]) [0, 1] rfl) (hP.sub [0, 1, 2] rfl) hZ (ci := 0) (q0 := 0) rfl rfl) rfl rfl hl.1 rfl (lv_room (Nat.le_of_ble_eq_true rfl)) dL_greatest_5 ⟨Nat.le_of_ble_eq_true rfl, Nat.le_of_ble_eq_true rfl⟩) hP hS hown htab2 (by decide) (by decide) (hts (.classLink RL 13 "java/lang/IllegalArgumentException") (by decide +kernel)) rfl (fun hnt => ?_) (fun hth x9 H hP hS => ?_)
  · have htt : tt = 0 := by
      rcases hsp with ⟨h9, _⟩ | ⟨h9, _⟩
      · exact absurd h9 hnt
      · exact h9
    obtain ⟨hN0, hL0⟩ : N' = N ∧ L' = L := by
      rcases hsp with ⟨h9, _⟩ | h9
      · exact absurd h9 hnt
      · exact (h9.2.elim (fun _ h8 => h8.elim (fun _ h7 => h7.2.2.2)))
    refine lv_i2l (v := r.toInt64) hx hb dL_greatest_8 rfl ?_
    refine ow_last (k := 0) hx hb hK hP hD hS 3 2 rfl rfl nI_0.symm (by decide) (by decide) dL_greatest_9 (fun H locs hP hD hS => ?_)
    have hP : va_P (dC, dI) vwCl [(h, .inr (0, [.ref a, .ref b, .int (nI N)])), (a, .inl (cA, 1000, .inl f)), (b, .inl (cB, 1000, .inl g)), (o, .inl (cO, 1, .inr (.inl (vp_updL oo 0 r.toInt64))))] H := hP
    have hD : va_D A [(h, .inr (0, [.ref a, .ref b, .int (nI N)])), (a, .inl (cA, 1000, .inl f)), (b, .inl (cB, 1000, .inl g)), (o, .inl (cO, 1, .inr (.inl (vp_updL oo 0 r.toInt64))))] := hD
    refine lv_goto (tgt := 17) hx hb dL_greatest_10 (by decide) ?_
    refine lv_iconst (v := 0) hx hb dL_greatest_17 (by decide +kernel) ?_
    refine W.widen (k := 1) (n := 6) (by omega) (by omega) ?_
    exact W.iret (v := 0) hx hb hr (fun t ht hW => ⟨⟨0, (((nI N), f, g), vp_updL oo 0 r.toInt64), rfl, ⟨htt.symm, fun _ => pk_uLs (f := oo) (k := 0) (x := r.toInt64), by rw [hN0], by rw [hN0, hL0]; exact hf, by rw [hN0, hL0]; exact hg⟩, by rw [ht]; exact hP.sub [0, 1, 2, 3] rfl, hD.sub [0, 1, 2, 3] (by decide) rfl⟩, hS.F ht⟩) hS.2.2 dL_greatest_18
  · obtain ⟨htt, hN0, hL0⟩ : tt = 1 ∧ N' = N ∧ L' = L := by
      rcases hsp with ⟨_, h9⟩ | ⟨_, h9⟩
      · exact ⟨h9.1, h9.2.2⟩
      · exact (h9.elim (fun _ h8 => h8.elim (fun _ h7 => hth.elim (ol_at_no h7.1) (ol_at_no h7.2.1)))).elim
    refine lv_astore (lv' := [(4, .ref x9), (0, .ref h), (1, .int x), (2, .int y), (3, .ref o)]) hx hb dL_greatest_13 hl (by decide) rfl (fun ls hl => ?_)
    refine lv_iconst (v := 1) hx hb dL_greatest_15 (by decide +kernel) ?_
    refine W.widen (k := 1) (n := 6) (by omega) (by omega) ?_
    exact W.iret (v := 1) hx hb hr (fun t ht hW => ⟨⟨1, ((nI N, f, g), oo), rfl, ⟨htt.symm, fun h9 => absurd (htt.symm.trans h9) (by decide), by rw [hN0], by rw [hN0, hL0]; exact hf, by rw [hN0, hL0]; exact hg⟩, by rw [ht]; exact hP.sub [0, 1, 2, 3] rfl, hD.sub [0, 1, 2, 3] (by decide) rfl⟩, hS.F ht⟩) hS.2.2 dL_greatest_16
