set_option maxHeartbeats 4000000 in
set_option maxRecDepth 100000 in
/-- a call of behind -/
theorem law_behind {pg : Program} {l : Launch} {ev : Env} {s : State} {m : MethodId} {below : List Frame} {meth : Method} {cd : Code} {b LN : Nat} {xs : Nat → Int32} {dC : Nat → ClassId} {dI : Nat → Nat → Nat} {A : Nat → Prop} {hX aX bX o hM aM bM : Nat} {cA cB cO cC cD : ClassId} {q : Nat} (C0 : lw_At pg s m meth cd b LN xs) (hLN : LN ≤ 2048) (hq : 4 * q + 4 ≤ LN) (hfl : l.flags = flags0) (hK : va_K (dC, dI) vwCl [(cA, .int), (cB, .int), (cO, .long), (cC, .int), (cD, .int)] s) (hA : ∀ q : Nat, s.heap.size ≤ q → A q) (hbA : ¬ A b) (hZs : lw_Zs A s) (hk : lw_inv pg l ev s m below meth cd b dC dI A hX aX bX o hM aM bM cA cB cO cC cD q 763 (8 + q) (4014 + 6 * q)) : lw_inv pg l ev s m below meth cd b dC dI A hX aX bX o hM aM bM cA cB cO cC cD q 104 (7 + q) (4008 + 6 * q) := by
  obtain ⟨hx, hb, hr, hml, hown, hts, hSc, hbl, hlocks, hgv⟩ := C0
  have hown : s.vm.findClass RL = some m.cls := hown
  have htsL : ∀ w ∈ wsL_law, w.before #[Value.ref b] s = true := fun w h => hts w (wsL_law_in w h)
  intro N L f g f2 as th oo H locs ls ok hf hg hf2 hP hD hS hl
  refine lv_aload_n hx hb dL_law_104 rfl (lv_at hl 1 rfl) ?_
  refine lv_aload_n hx hb dL_law_105 rfl (lv_at hl 0 rfl) ?_
  refine lv_iload hx hb dL_law_106 (lv_at hl 4 rfl) ?_
  refine lv_iconst (v := 1) hx hb dL_law_108 (by decide +kernel) ?_
  refine lv_iadd hx hb dL_law_109 ?_
  refine ow_top (z := nI (4 * q + 1)) (nI_1 (4 * q)) ?_
  refine ow_sld (k := 4 * q + 1) hx hb hSc hbl hbA hS (by omega) (by omega) dL_law_110 ?_
  refine lv_aload_n hx hb dL_law_111 rfl (lv_at hl 3 rfl) ?_
  obtain ⟨tt, r, N', L', hsp, ok'⟩ := ex_behind ok ((xs (4 * q + 1)))
  refine ow_calli (wr := [(hM, .inr (1, [.int th, .ref aM, .int (nI N), .ref bM])), (aM, .inl (cC, 1000, .inl f2)), (bM, .inl (cD, 1000, .inl as))]) (vx_runSW (As := [.ref hX, .int (xs (4 * q + 1)), .ref o]) (rest := []) ⟨hx, hb, hml, hown, htsL⟩ (c_L_behind l dC dI hfl hX aX bX o cA cB cO N L f g oo tt r N' L' _ ok hf hg ((xs (4 * q + 1))) hsp) (vx_cwSW 3 htsL gL_law_L_behind rfl rfl rfl (by decide +kernel) ⟨Nat.le_of_ble_eq_true rfl, Nat.le_of_ble_eq_true rfl⟩) (ow_PreSx (hK.sub (tys' := [(cA, .int), (cB, .int), (cO, .long)]) [0, 1, 2] rfl) (hP.sub (ws' := (wO hX aX bX o cA cB cO ((nI N, f, g), oo))) [0, 1, 2, 3] rfl) (hD.sub (ws' := (wO hX aX bX o cA cB cO ((nI N, f, g), oo))) [0, 1, 2, 3] (by decide) rfl) hZs hS) rfl rfl hl.1 rfl (lv_room (Nat.le_of_ble_eq_true rfl)) dL_law_112 ⟨by show 7 + q + 1 ≤ 1032; omega, by show 4008 + 6 * q + 6 ≤ 12206; omega⟩) hP hD hS hA [0, 1, 2, 3] [4, 5, 6] rfl rfl (by decide) (by decide) (fun r0 u H locs hw hP hD hS => ?_)
  refine W.widen (k := 8 + q) (n := 4014 + 6 * q) (by omega) (by omega) ?_
  obtain ⟨⟨a1, f1, g1⟩, oo1⟩ := u
  obtain ⟨er, hoo, e1, hf1, hg1⟩ := hw
  obtain rfl : nI N' = a1 := e1.symm
  refine ow_top (z := tt) er ?_
  have hP : va_P (dC, dI) vwCl [(hM, .inr (1, [.int th, .ref aM, .int (nI N), .ref bM])), (aM, .inl (cC, 1000, .inl f2)), (bM, .inl (cD, 1000, .inl as)), (hX, .inr (0, [.ref aX, .ref bX, .int (nI N')])), (aX, .inl (cA, 1000, .inl f1)), (bX, .inl (cB, 1000, .inl g1)), (o, .inl (cO, 1, .inr (.inl oo1)))] H := hP
  have hD : va_D A [(hM, .inr (1, [.int th, .ref aM, .int (nI N), .ref bM])), (aM, .inl (cC, 1000, .inl f2)), (bM, .inl (cD, 1000, .inl as)), (hX, .inr (0, [.ref aX, .ref bX, .int (nI N')])), (aX, .inl (cA, 1000, .inl f1)), (bX, .inl (cB, 1000, .inl g1)), (o, .inl (cO, 1, .inr (.inl oo1)))] := hD
  refine lv_istore (lv' := [(5, .int tt), (0, .ref b), (1, .ref hX), (2, .ref hM), (3, .ref o), (4, .int (nI (4 * q)))]) hx hb dL_law_115 hl (by decide) rfl (fun ls hl => ?_)
  refine lv_aload_n hx hb dL_law_117 rfl (lv_at hl 3 rfl) ?_
  refine lv_aload_n hx hb dL_law_118 rfl (lv_at hl 1 rfl) ?_
  refine lv_iload hx hb dL_law_119 (lv_at hl 5 rfl) ?_
  refine lv_iconst (v := 1) hx hb dL_law_121 (by decide +kernel) ?_
  refine lv_iadd hx hb dL_law_122 ?_
  refine ow_top (z := nI (4 * q + 1)) (nI_1 (4 * q)) ?_
  refine ow_sld (k := 4 * q + 1) hx hb hSc hbl hbA hS (by omega) (by omega) dL_law_123 ?_
  refine ow_calli (wr := [(hX, .inr (0, [.ref aX, .ref bX, .int (nI N')])), (aX, .inl (cA, 1000, .inl f1)), (bX, .inl (cB, 1000, .inl g1)), (o, .inl (cO, 1, .inr (.inl oo1)))]) (va_runV (As := [.int (xs (4 * q + 1))]) (rest := []) ⟨hx, hb, hml, hown, hts⟩ (c_M_behind l dC dI hM aM bM cC cD th N L f2 as tt r N' L' _ ok hf2 ((xs (4 * q + 1))) hsp) (cwV 1 hts gT_law_X1_behind rfl rfl rfl (by decide +kernel) ⟨Nat.le_of_ble_eq_true rfl, Nat.le_of_ble_eq_true rfl⟩) (ow_PreV (hK.sub (tys' := [(cC, .int), (cD, .int)]) [3, 4] rfl) (hP.sub (ws' := (wM hM aM bM cC cD (th, nI N, f2, as))) [0, 1, 2] rfl) (hD.sub (ws' := (wM hM aM bM cC cD (th, nI N, f2, as))) [0, 1, 2] (by decide) rfl) (ci := 1) (q0 := 0) rfl rfl) rfl rfl hl.1 rfl (lv_room (Nat.le_of_ble_eq_true rfl)) dL_law_124 ⟨by show 8 + q + 0 ≤ 1032; omega, by show 4014 + 6 * q + 0 ≤ 12206; omega⟩) hP hD hS hA [0, 1, 2] [3, 4, 5, 6] rfl rfl (by decide) (by decide) (fun r0 u H locs hw hP hD hS => ?_)
  obtain ⟨v1, v2, v3, v4⟩ := u
  obtain ⟨er, e1, e2, hf9⟩ := hw
  obtain rfl : tt = v1 := e1.symm
  obtain rfl : nI N' = v2 := e2.symm
  refine ow_top (z := r) er ?_
  have hP : va_P (dC, dI) vwCl [(hX, .inr (0, [.ref aX, .ref bX, .int (nI N')])), (aX, .inl (cA, 1000, .inl f1)), (bX, .inl (cB, 1000, .inl g1)), (o, .inl (cO, 1, .inr (.inl oo1))), (hM, .inr (1, [.int tt, .ref aM, .int (nI N'), .ref bM])), (aM, .inl (cC, 1000, .inl v3)), (bM, .inl (cD, 1000, .inl v4))] H := hP
  have hD : va_D A [(hX, .inr (0, [.ref aX, .ref bX, .int (nI N')])), (aX, .inl (cA, 1000, .inl f1)), (bX, .inl (cB, 1000, .inl g1)), (o, .inl (cO, 1, .inr (.inl oo1))), (hM, .inr (1, [.int tt, .ref aM, .int (nI N'), .ref bM])), (aM, .inl (cC, 1000, .inl v3)), (bM, .inl (cD, 1000, .inl v4))] := hD
  refine lv_istore (lv' := [(6, .int r), (5, .int tt), (0, .ref b), (1, .ref hX), (2, .ref hM), (3, .ref o), (4, .int (nI (4 * q)))]) hx hb dL_law_127 hl (by decide) rfl (fun ls hl => ?_)
  refine lv_aload_n hx hb dL_law_129 rfl (lv_at hl 4 rfl) ?_
  refine ow_callR (r := tt) (W.runV (As := []) (rest := []) ⟨hx, hb, hml, hown, htsL⟩ (c_M_thrown l dC dI hM aM bM cC cD tt (nI N') v3 v4) (cwV 0 htsL gL_law_X1_thrown rfl rfl rfl (by decide +kernel) ⟨Nat.le_of_ble_eq_true rfl, Nat.le_of_ble_eq_true rfl⟩) (ow_PreR (hK.sub (tys' := [(cC, .int), (cD, .int)]) [3, 4] rfl) (hP.sub (ws' := (wM hM aM bM cC cD (tt, nI N', v3, v4))) [4, 5, 6] rfl) (ci := 1) (q0 := 0) rfl rfl) rfl rfl hl.1 rfl (lv_room (Nat.le_of_ble_eq_true rfl)) dL_law_130 ⟨by show 8 + q + 0 ≤ 1032; omega, by show 4014 + 6 * q + 0 ≤ 12206; omega⟩) ?_
  refine lv_iload hx hb dL_law_133 (lv_at hl 1 rfl) ?_
  refine lv_icmp_eq (tgt := 140) hx hb dL_law_135 (by decide) (fun c_135 => ?_) (fun c_135 => (c_135 rfl).elim)
  refine lv_iload hx hb dL_law_140 (lv_at hl 1 rfl) ?_
  refine lv_if_ne (tgt := 157) hx hb dL_law_142 (by decide) (fun c_142 => ?_) (fun c_142 => ?_)
  · refine lv_goto (tgt := 763) hx hb dL_law_157 (by decide) ?_
    exact hk N' L' f1 g1 v3 v4 tt oo1 H locs ls ok' hf1 hg1 hf9 (hP.sub [0, 1, 2, 3, 4, 5, 6] rfl) (hD.sub [0, 1, 2, 3, 4, 5, 6] (by decide) rfl) hS (lv_sub hl [2, 3, 4, 5, 6] rfl)
  · refine lv_aload_n hx hb dL_law_145 rfl (lv_at hl 5 rfl) ?_
    refine lv_iconst (v := 0) hx hb dL_law_146 (by decide +kernel) ?_
    refine ow_lald (k := 0) (v := r.toInt64) hx hb hK hP 3 2 rfl rfl nI_0.symm (by decide) (by decide) (hoo c_142) dL_law_147 ?_
    refine lv_iload hx hb dL_law_148 (lv_at hl 0 rfl) ?_
    refine lv_i2l (v := r.toInt64) hx hb dL_law_150 rfl ?_
    refine W.lcmp hx hb dL_law_151 ?_
    refine lv_if_eq (tgt := 157) hx hb dL_law_152 (by decide) (fun c_152 => ?_) (fun c_152 => (c_152 ((lg_cmp_eq _ _).mpr rfl)).elim)
    refine lv_goto (tgt := 763) hx hb dL_law_157 (by decide) ?_
    exact hk N' L' f1 g1 v3 v4 tt oo1 H locs ls ok' hf1 hg1 hf9 (hP.sub [0, 1, 2, 3, 4, 5, 6] rfl) (hD.sub [0, 1, 2, 3, 4, 5, 6] (by decide) rfl) hS (lv_sub hl [2, 3, 4, 5, 6] rfl)
set_option maxHeartbeats 4000000 in
set_option maxRecDepth 100000 in
/-- a call of several -/
theorem law_several {pg : Program} {l : Launch} {ev : Env} {s : State} {m : MethodId} {below : List Frame} {meth : Method} {cd : Code} {b LN : Nat} {xs : Nat → Int32} {dC : Nat → ClassId} {dI : Nat → Nat → Nat} {A : Nat → Prop} {hX aX bX o hM aM bM : Nat} {cA cB cO cC cD : ClassId} {q : Nat} (C0 : lw_At pg s m meth cd b LN xs) (hLN : LN ≤ 2048) (hq : 4 * q + 4 ≤ LN) (hfl : l.flags = flags0) (hK : va_K (dC, dI) vwCl [(cA, .int), (cB, .int), (cO, .long), (cC, .int), (cD, .int)] s) (hA : ∀ q : Nat, s.heap.size ≤ q → A q) (hbA : ¬ A b) (hZs : lw_Zs A s) (hk : lw_inv pg l ev s m below meth cd b dC dI A hX aX bX o hM aM bM cA cB cO cC cD q 763 (8 + q) (4014 + 6 * q)) : lw_inv pg l ev s m below meth cd b dC dI A hX aX bX o hM aM bM cA cB cO cC cD q 160 (7 + q) (4008 + 6 * q) := by
  obtain ⟨hx, hb, hr, hml, hown, hts, hSc, hbl, hlocks, hgv⟩ := C0
  have hown : s.vm.findClass RL = some m.cls := hown
  have htsL : ∀ w ∈ wsL_law, w.before #[Value.ref b] s = true := fun w h => hts w (wsL_law_in w h)
  intro N L f g f2 as th oo H locs ls ok hf hg hf2 hP hD hS hl
  refine lv_aload_n hx hb dL_law_160 rfl (lv_at hl 1 rfl) ?_
  refine lv_aload_n hx hb dL_law_161 rfl (lv_at hl 0 rfl) ?_
  refine lv_iload hx hb dL_law_162 (lv_at hl 4 rfl) ?_
  refine lv_iconst (v := 1) hx hb dL_law_164 (by decide +kernel) ?_
  refine lv_iadd hx hb dL_law_165 ?_
  refine ow_top (z := nI (4 * q + 1)) (nI_1 (4 * q)) ?_
  refine ow_sld (k := 4 * q + 1) hx hb hSc hbl hbA hS (by omega) (by omega) dL_law_166 ?_
  refine lv_aload_n hx hb dL_law_167 rfl (lv_at hl 0 rfl) ?_
  refine lv_iload hx hb dL_law_168 (lv_at hl 4 rfl) ?_
  refine lv_iconst (v := nI 2) hx hb dL_law_170 (by decide +kernel) ?_
  refine lv_iadd hx hb dL_law_171 ?_
  refine ow_top (z := nI (4 * q + 2)) (nI_add (4 * q) 2) ?_
  refine ow_sld (k := 4 * q + 2) hx hb hSc hbl hbA hS (by omega) (by omega) dL_law_172 ?_
  refine lv_aload_n hx hb dL_law_173 rfl (lv_at hl 3 rfl) ?_
  obtain ⟨tt, r, N', L', hsp, ok'⟩ := ex_several ok ((xs (4 * q + 1))) ((xs (4 * q + 2)))
  refine ow_calli (wr := [(hM, .inr (1, [.int th, .ref aM, .int (nI N), .ref bM])), (aM, .inl (cC, 1000, .inl f2)), (bM, .inl (cD, 1000, .inl as))]) (vx_runSW (As := [.ref hX, .int (xs (4 * q + 1)), .int (xs (4 * q + 2)), .ref o]) (rest := []) ⟨hx, hb, hml, hown, htsL⟩ (c_L_several l dC dI hfl hX aX bX o cA cB cO N L f g oo tt r N' L' _ ok hf hg ((xs (4 * q + 1))) ((xs (4 * q + 2))) hsp) (vx_cwSW 4 htsL gL_law_L_several rfl rfl rfl (by decide +kernel) ⟨Nat.le_of_ble_eq_true rfl, Nat.le_of_ble_eq_true rfl⟩) (ow_PreSx (hK.sub (tys' := [(cA, .int), (cB, .int), (cO, .long)]) [0, 1, 2] rfl) (hP.sub (ws' := (wO hX aX bX o cA cB cO ((nI N, f, g), oo))) [0, 1, 2, 3] rfl) (hD.sub (ws' := (wO hX aX bX o cA cB cO ((nI N, f, g), oo))) [0, 1, 2, 3] (by decide) rfl) hZs hS) rfl rfl hl.1 rfl (lv_room (Nat.le_of_ble_eq_true rfl)) dL_law_174 ⟨by show 7 + q + 1 ≤ 1032; omega, by show 4008 + 6 * q + 6 ≤ 12206; omega⟩) hP hD hS hA [0, 1, 2, 3] [4, 5, 6] rfl rfl (by decide) (by decide) (fun r0 u H locs hw hP hD hS => ?_)
  refine W.widen (k := 8 + q) (n := 4014 + 6 * q) (by omega) (by omega) ?_
  obtain ⟨⟨a1, f1, g1⟩, oo1⟩ := u
  obtain ⟨er, hoo, e1, hf1, hg1⟩ := hw
  obtain rfl : nI N' = a1 := e1.symm
  refine ow_top (z := tt) er ?_
  have hP : va_P (dC, dI) vwCl [(hM, .inr (1, [.int th, .ref aM, .int (nI N), .ref bM])), (aM, .inl (cC, 1000, .inl f2)), (bM, .inl (cD, 1000, .inl as)), (hX, .inr (0, [.ref aX, .ref bX, .int (nI N')])), (aX, .inl (cA, 1000, .inl f1)), (bX, .inl (cB, 1000, .inl g1)), (o, .inl (cO, 1, .inr (.inl oo1)))] H := hP
  have hD : va_D A [(hM, .inr (1, [.int th, .ref aM, .int (nI N), .ref bM])), (aM, .inl (cC, 1000, .inl f2)), (bM, .inl (cD, 1000, .inl as)), (hX, .inr (0, [.ref aX, .ref bX, .int (nI N')])), (aX, .inl (cA, 1000, .inl f1)), (bX, .inl (cB, 1000, .inl g1)), (o, .inl (cO, 1, .inr (.inl oo1)))] := hD
  refine lv_istore (lv' := [(5, .int tt), (0, .ref b), (1, .ref hX), (2, .ref hM), (3, .ref o), (4, .int (nI (4 * q)))]) hx hb dL_law_177 hl (by decide) rfl (fun ls hl => ?_)
  refine lv_aload_n hx hb dL_law_179 rfl (lv_at hl 3 rfl) ?_
  refine lv_aload_n hx hb dL_law_180 rfl (lv_at hl 1 rfl) ?_
  refine lv_iload hx hb dL_law_181 (lv_at hl 5 rfl) ?_
  refine lv_iconst (v := 1) hx hb dL_law_183 (by decide +kernel) ?_
  refine lv_iadd hx hb dL_law_184 ?_
  refine ow_top (z := nI (4 * q + 1)) (nI_1 (4 * q)) ?_
  refine ow_sld (k := 4 * q + 1) hx hb hSc hbl hbA hS (by omega) (by omega) dL_law_185 ?_
  refine lv_aload_n hx hb dL_law_186 rfl (lv_at hl 1 rfl) ?_
  refine lv_iload hx hb dL_law_187 (lv_at hl 5 rfl) ?_
  refine lv_iconst (v := nI 2) hx hb dL_law_189 (by decide +kernel) ?_
  refine lv_iadd hx hb dL_law_190 ?_
  refine ow_top (z := nI (4 * q + 2)) (nI_add (4 * q) 2) ?_
  refine ow_sld (k := 4 * q + 2) hx hb hSc hbl hbA hS (by omega) (by omega) dL_law_191 ?_
  refine ow_calli (wr := [(hX, .inr (0, [.ref aX, .ref bX, .int (nI N')])), (aX, .inl (cA, 1000, .inl f1)), (bX, .inl (cB, 1000, .inl g1)), (o, .inl (cO, 1, .inr (.inl oo1)))]) (va_runV (As := [.int (xs (4 * q + 1)), .int (xs (4 * q + 2))]) (rest := []) ⟨hx, hb, hml, hown, hts⟩ (c_M_several l dC dI hM aM bM cC cD th N L f2 as tt r N' L' _ ok hf2 ((xs (4 * q + 1))) ((xs (4 * q + 2))) hsp) (cwV 2 hts gT_law_X1_several rfl rfl rfl (by decide +kernel) ⟨Nat.le_of_ble_eq_true rfl, Nat.le_of_ble_eq_true rfl⟩) (ow_PreV (hK.sub (tys' := [(cC, .int), (cD, .int)]) [3, 4] rfl) (hP.sub (ws' := (wM hM aM bM cC cD (th, nI N, f2, as))) [0, 1, 2] rfl) (hD.sub (ws' := (wM hM aM bM cC cD (th, nI N, f2, as))) [0, 1, 2] (by decide) rfl) (ci := 1) (q0 := 0) rfl rfl) rfl rfl hl.1 rfl (lv_room (Nat.le_of_ble_eq_true rfl)) dL_law_192 ⟨by show 8 + q + 0 ≤ 1032; omega, by show 4014 + 6 * q + 0 ≤ 12206; omega⟩) hP hD hS hA [0, 1, 2] [3, 4, 5, 6] rfl rfl (by decide) (by decide) (fun r0 u H locs hw hP hD hS => ?_)
  obtain ⟨v1, v2, v3, v4⟩ := u
  obtain ⟨er, e1, e2, hf9⟩ := hw
  obtain rfl : tt = v1 := e1.symm
  obtain rfl : nI N' = v2 := e2.symm
  refine ow_top (z := r) er ?_
  have hP : va_P (dC, dI) vwCl [(hX, .inr (0, [.ref aX, .ref bX, .int (nI N')])), (aX, .inl (cA, 1000, .inl f1)), (bX, .inl (cB, 1000, .inl g1)), (o, .inl (cO, 1, .inr (.inl oo1))), (hM, .inr (1, [.int tt, .ref aM, .int (nI N'), .ref bM])), (aM, .inl (cC, 1000, .inl v3)), (bM, .inl (cD, 1000, .inl v4))] H := hP
  have hD : va_D A [(hX, .inr (0, [.ref aX, .ref bX, .int (nI N')])), (aX, .inl (cA, 1000, .inl f1)), (bX, .inl (cB, 1000, .inl g1)), (o, .inl (cO, 1, .inr (.inl oo1))), (hM, .inr (1, [.int tt, .ref aM, .int (nI N'), .ref bM])), (aM, .inl (cC, 1000, .inl v3)), (bM, .inl (cD, 1000, .inl v4))] := hD
  refine lv_istore (lv' := [(6, .int r), (5, .int tt), (0, .ref b), (1, .ref hX), (2, .ref hM), (3, .ref o), (4, .int (nI (4 * q)))]) hx hb dL_law_195 hl (by decide) rfl (fun ls hl => ?_)
  refine lv_aload_n hx hb dL_law_197 rfl (lv_at hl 4 rfl) ?_
  refine ow_callR (r := tt) (W.runV (As := []) (rest := []) ⟨hx, hb, hml, hown, htsL⟩ (c_M_thrown l dC dI hM aM bM cC cD tt (nI N') v3 v4) (cwV 0 htsL gL_law_X1_thrown rfl rfl rfl (by decide +kernel) ⟨Nat.le_of_ble_eq_true rfl, Nat.le_of_ble_eq_true rfl⟩) (ow_PreR (hK.sub (tys' := [(cC, .int), (cD, .int)]) [3, 4] rfl) (hP.sub (ws' := (wM hM aM bM cC cD (tt, nI N', v3, v4))) [4, 5, 6] rfl) (ci := 1) (q0 := 0) rfl rfl) rfl rfl hl.1 rfl (lv_room (Nat.le_of_ble_eq_true rfl)) dL_law_198 ⟨by show 8 + q + 0 ≤ 1032; omega, by show 4014 + 6 * q + 0 ≤ 12206; omega⟩) ?_
  refine lv_iload hx hb dL_law_201 (lv_at hl 1 rfl) ?_
  refine lv_icmp_eq (tgt := 208) hx hb dL_law_203 (by decide) (fun c_203 => ?_) (fun c_203 => (c_203 rfl).elim)
  refine lv_iload hx hb dL_law_208 (lv_at hl 1 rfl) ?_
  refine lv_if_ne (tgt := 225) hx hb dL_law_210 (by decide) (fun c_210 => ?_) (fun c_210 => ?_)
  · refine lv_goto (tgt := 763) hx hb dL_law_225 (by decide) ?_
    exact hk N' L' f1 g1 v3 v4 tt oo1 H locs ls ok' hf1 hg1 hf9 (hP.sub [0, 1, 2, 3, 4, 5, 6] rfl) (hD.sub [0, 1, 2, 3, 4, 5, 6] (by decide) rfl) hS (lv_sub hl [2, 3, 4, 5, 6] rfl)
  · refine lv_aload_n hx hb dL_law_213 rfl (lv_at hl 5 rfl) ?_
    refine lv_iconst (v := 0) hx hb dL_law_214 (by decide +kernel) ?_
    refine ow_lald (k := 0) (v := r.toInt64) hx hb hK hP 3 2 rfl rfl nI_0.symm (by decide) (by decide) (hoo c_210) dL_law_215 ?_
    refine lv_iload hx hb dL_law_216 (lv_at hl 0 rfl) ?_
    refine lv_i2l (v := r.toInt64) hx hb dL_law_218 rfl ?_
    refine W.lcmp hx hb dL_law_219 ?_
    refine lv_if_eq (tgt := 225) hx hb dL_law_220 (by decide) (fun c_220 => ?_) (fun c_220 => (c_220 ((lg_cmp_eq _ _).mpr rfl)).elim)
    refine lv_goto (tgt := 763) hx hb dL_law_225 (by decide) ?_
    exact hk N' L' f1 g1 v3 v4 tt oo1 H locs ls ok' hf1 hg1 hf9 (hP.sub [0, 1, 2, 3, 4, 5, 6] rfl) (hD.sub [0, 1, 2, 3, 4, 5, 6] (by decide) rfl) hS (lv_sub hl [2, 3, 4, 5, 6] rfl)
set_option maxHeartbeats 4000000 in
set_option maxRecDepth 100000 in
/-- a call of remove -/
theorem law_remove {pg : Program} {l : Launch} {ev : Env} {s : State} {m : MethodId} {below : List Frame} {meth : Method} {cd : Code} {b LN : Nat} {xs : Nat → Int32} {dC : Nat → ClassId} {dI : Nat → Nat → Nat} {A : Nat → Prop} {hX aX bX o hM aM bM : Nat} {cA cB cO cC cD : ClassId} {q : Nat} (C0 : lw_At pg s m meth cd b LN xs) (hLN : LN ≤ 2048) (hq : 4 * q + 4 ≤ LN) (hfl : l.flags = flags0) (hK : va_K (dC, dI) vwCl [(cA, .int), (cB, .int), (cO, .long), (cC, .int), (cD, .int)] s) (hA : ∀ q : Nat, s.heap.size ≤ q → A q) (hbA : ¬ A b) (hZs : lw_Zs A s) (hk : lw_inv pg l ev s m below meth cd b dC dI A hX aX bX o hM aM bM cA cB cO cC cD q 763 (8 + q) (4014 + 6 * q)) : lw_inv pg l ev s m below meth cd b dC dI A hX aX bX o hM aM bM cA cB cO cC cD q 228 (7 + q) (4008 + 6 * q) := by
  obtain ⟨hx, hb, hr, hml, hown, hts, hSc, hbl, hlocks, hgv⟩ := C0
  have hown : s.vm.findClass RL = some m.cls := hown
  have htsL : ∀ w ∈ wsL_law, w.before #[Value.ref b] s = true := fun w h => hts w (wsL_law_in w h)
  intro N L f g f2 as th oo H locs ls ok hf hg hf2 hP hD hS hl
  refine W.widen (k := 8 + q) (n := 4014 + 6 * q) (by omega) (by omega) ?_
  obtain ⟨r, N', L', hsp, ok'⟩ := ex_remove ok (xs (4 * q + 1))
  refine lv_aload_n hx hb dL_law_228 rfl (lv_at hl 1 rfl) ?_
  refine lv_aload_n hx hb dL_law_229 rfl (lv_at hl 0 rfl) ?_
  refine lv_iload hx hb dL_law_230 (lv_at hl 4 rfl) ?_
  refine lv_iconst (v := 1) hx hb dL_law_232 (by decide +kernel) ?_
  refine lv_iadd hx hb dL_law_233 ?_
  refine ow_top (z := nI (4 * q + 1)) (nI_1 (4 * q)) ?_
  refine ow_sld (k := 4 * q + 1) hx hb hSc hbl hbA hS (by omega) (by omega) dL_law_234 ?_
  refine ow_calli (wr := [(o, .inl (cO, 1, .inr (.inl oo))), (hM, .inr (1, [.int th, .ref aM, .int (nI N), .ref bM])), (aM, .inl (cC, 1000, .inl f2)), (bM, .inl (cD, 1000, .inl as))]) (va_runV (As := [.int (xs (4 * q + 1))]) (rest := []) ⟨hx, hb, hml, hown, htsL⟩ (c_X_remove l dC dI hX aX bX cA cB N L f g (xs (4 * q + 1)) r N' L' _ ok hf hg hsp) (cwV 1 htsL gL_law_X0_remove rfl rfl rfl (by decide +kernel) ⟨Nat.le_of_ble_eq_true rfl, Nat.le_of_ble_eq_true rfl⟩) (ow_PreV (hK.sub (tys' := [(cA, .int), (cB, .int)]) [0, 1] rfl) (hP.sub (ws' := (wX hX aX bX cA cB (nI N, f, g))) [0, 1, 2] rfl) (hD.sub (ws' := (wX hX aX bX cA cB (nI N, f, g))) [0, 1, 2] (by decide) rfl) (ci := 0) (q0 := 0) rfl rfl) rfl rfl hl.1 rfl (lv_room (Nat.le_of_ble_eq_true rfl)) dL_law_235 ⟨by show 8 + q + 0 ≤ 1032; omega, by show 4014 + 6 * q + 0 ≤ 12206; omega⟩) hP hD hS hA [0, 1, 2] [3, 4, 5, 6] rfl rfl (by decide) (by decide) (fun r0 u H locs hw hP hD hS => ?_)
  obtain ⟨a1, f1, g1⟩ := u
  obtain ⟨er, e1, hf1, hg1⟩ := hw
  obtain rfl : nI N' = a1 := e1.symm
  refine ow_top (z := r) er ?_
  have hP : va_P (dC, dI) vwCl [(o, .inl (cO, 1, .inr (.inl oo))), (hM, .inr (1, [.int th, .ref aM, .int (nI N), .ref bM])), (aM, .inl (cC, 1000, .inl f2)), (bM, .inl (cD, 1000, .inl as)), (hX, .inr (0, [.ref aX, .ref bX, .int (nI N')])), (aX, .inl (cA, 1000, .inl f1)), (bX, .inl (cB, 1000, .inl g1))] H := hP
  have hD : va_D A [(o, .inl (cO, 1, .inr (.inl oo))), (hM, .inr (1, [.int th, .ref aM, .int (nI N), .ref bM])), (aM, .inl (cC, 1000, .inl f2)), (bM, .inl (cD, 1000, .inl as)), (hX, .inr (0, [.ref aX, .ref bX, .int (nI N')])), (aX, .inl (cA, 1000, .inl f1)), (bX, .inl (cB, 1000, .inl g1))] := hD
  refine lv_aload_n hx hb dL_law_238 rfl (lv_at hl 2 rfl) ?_
  refine lv_aload_n hx hb dL_law_239 rfl (lv_at hl 0 rfl) ?_
  refine lv_iload hx hb dL_law_240 (lv_at hl 4 rfl) ?_
  refine lv_iconst (v := 1) hx hb dL_law_242 (by decide +kernel) ?_
  refine lv_iadd hx hb dL_law_243 ?_
  refine ow_top (z := nI (4 * q + 1)) (nI_1 (4 * q)) ?_
  refine ow_sld (k := 4 * q + 1) hx hb hSc hbl hbA hS (by omega) (by omega) dL_law_244 ?_
  refine ow_calli (wr := [(o, .inl (cO, 1, .inr (.inl oo))), (hX, .inr (0, [.ref aX, .ref bX, .int (nI N')])), (aX, .inl (cA, 1000, .inl f1)), (bX, .inl (cB, 1000, .inl g1))]) (va_runV (As := [.int (xs (4 * q + 1))]) (rest := [.int r]) ⟨hx, hb, hml, hown, hts⟩ (c_M_remove l dC dI hM aM bM cC cD th N L f2 as r N' L' _ ok hf2 (xs (4 * q + 1)) hsp) (cwV 1 hts gT_law_X1_remove rfl rfl rfl (by decide +kernel) ⟨Nat.le_of_ble_eq_true rfl, Nat.le_of_ble_eq_true rfl⟩) (ow_PreV (hK.sub (tys' := [(cC, .int), (cD, .int)]) [3, 4] rfl) (hP.sub (ws' := (wM hM aM bM cC cD (th, nI N, f2, as))) [1, 2, 3] rfl) (hD.sub (ws' := (wM hM aM bM cC cD (th, nI N, f2, as))) [1, 2, 3] (by decide) rfl) (ci := 1) (q0 := 0) rfl rfl) rfl rfl hl.1 rfl (lv_room (Nat.le_of_ble_eq_true rfl)) dL_law_245 ⟨by show 8 + q + 0 ≤ 1032; omega, by show 4014 + 6 * q + 0 ≤ 12206; omega⟩) hP hD hS hA [1, 2, 3] [0, 4, 5, 6] rfl rfl (by decide) (by decide) (fun r0 u H locs hw hP hD hS => ?_)
  obtain ⟨v1, v2, v3, v4⟩ := u
  obtain ⟨er, e1, e2, hf9⟩ := hw
  obtain rfl : 0 = v1 := e1.symm
  obtain rfl : nI N' = v2 := e2.symm
  refine ow_top (z := r) er ?_
  have hP : va_P (dC, dI) vwCl [(o, .inl (cO, 1, .inr (.inl oo))), (hX, .inr (0, [.ref aX, .ref bX, .int (nI N')])), (aX, .inl (cA, 1000, .inl f1)), (bX, .inl (cB, 1000, .inl g1)), (hM, .inr (1, [.int 0, .ref aM, .int (nI N'), .ref bM])), (aM, .inl (cC, 1000, .inl v3)), (bM, .inl (cD, 1000, .inl v4))] H := hP
  have hD : va_D A [(o, .inl (cO, 1, .inr (.inl oo))), (hX, .inr (0, [.ref aX, .ref bX, .int (nI N')])), (aX, .inl (cA, 1000, .inl f1)), (bX, .inl (cB, 1000, .inl g1)), (hM, .inr (1, [.int 0, .ref aM, .int (nI N'), .ref bM])), (aM, .inl (cC, 1000, .inl v3)), (bM, .inl (cD, 1000, .inl v4))] := hD
  refine lv_icmp_eq (tgt := 763) hx hb dL_law_248 (by decide) (fun c_248 => ?_) (fun c_248 => (c_248 rfl).elim)
  exact hk N' L' f1 g1 v3 v4 0 oo H locs ls ok' hf1 hg1 hf9 (hP.sub [1, 2, 3, 0, 4, 5, 6] rfl) (hD.sub [1, 2, 3, 0, 4, 5, 6] (by decide) rfl) hS (lv_sub hl [0, 1, 2, 3, 4] rfl)
set_option maxHeartbeats 4000000 in
set_option maxRecDepth 100000 in
/-- a call of clear -/
theorem law_clear {pg : Program} {l : Launch} {ev : Env} {s : State} {m : MethodId} {below : List Frame} {meth : Method} {cd : Code} {b LN : Nat} {xs : Nat → Int32} {dC : Nat → ClassId} {dI : Nat → Nat → Nat} {A : Nat → Prop} {hX aX bX o hM aM bM : Nat} {cA cB cO cC cD : ClassId} {q : Nat} (C0 : lw_At pg s m meth cd b LN xs) (hLN : LN ≤ 2048) (hq : 4 * q + 4 ≤ LN) (hfl : l.flags = flags0) (hK : va_K (dC, dI) vwCl [(cA, .int), (cB, .int), (cO, .long), (cC, .int), (cD, .int)] s) (hA : ∀ q : Nat, s.heap.size ≤ q → A q) (hbA : ¬ A b) (hZs : lw_Zs A s) (hk : lw_inv pg l ev s m below meth cd b dC dI A hX aX bX o hM aM bM cA cB cO cC cD q 763 (8 + q) (4014 + 6 * q)) : lw_inv pg l ev s m below meth cd b dC dI A hX aX bX o hM aM bM cA cB cO cC cD q 253 (7 + q) (4008 + 6 * q) := by
  obtain ⟨hx, hb, hr, hml, hown, hts, hSc, hbl, hlocks, hgv⟩ := C0
  have hown : s.vm.findClass RL = some m.cls := hown
  have htsL : ∀ w ∈ wsL_law, w.before #[Value.ref b] s = true := fun w h => hts w (wsL_law_in w h)
  intro N L f g f2 as th oo H locs ls ok hf hg hf2 hP hD hS hl
  refine lv_aload_n hx hb dL_law_253 rfl (lv_at hl 1 rfl) ?_
  refine lv_aload_n hx hb dL_law_254 rfl (lv_at hl 0 rfl) ?_
  refine lv_iload hx hb dL_law_255 (lv_at hl 4 rfl) ?_
  refine lv_iconst (v := 1) hx hb dL_law_257 (by decide +kernel) ?_
  refine lv_iadd hx hb dL_law_258 ?_
  refine ow_top (z := nI (4 * q + 1)) (nI_1 (4 * q)) ?_
  refine ow_sld (k := 4 * q + 1) hx hb hSc hbl hbA hS (by omega) (by omega) dL_law_259 ?_
  refine lv_aload_n hx hb dL_law_260 rfl (lv_at hl 0 rfl) ?_
  refine lv_iload hx hb dL_law_261 (lv_at hl 4 rfl) ?_
  refine lv_iconst (v := nI 2) hx hb dL_law_263 (by decide +kernel) ?_
  refine lv_iadd hx hb dL_law_264 ?_
  refine ow_top (z := nI (4 * q + 2)) (nI_add (4 * q) 2) ?_
  refine ow_sld (k := 4 * q + 2) hx hb hSc hbl hbA hS (by omega) (by omega) dL_law_265 ?_
  refine lv_aload_n hx hb dL_law_266 rfl (lv_at hl 3 rfl) ?_
  obtain ⟨tt, r, N', L', hsp, ok'⟩ := ex_clear ok ((xs (4 * q + 1))) ((xs (4 * q + 2)))
  refine ow_calli (wr := [(hM, .inr (1, [.int th, .ref aM, .int (nI N), .ref bM])), (aM, .inl (cC, 1000, .inl f2)), (bM, .inl (cD, 1000, .inl as))]) (vx_runSW (As := [.ref hX, .int (xs (4 * q + 1)), .int (xs (4 * q + 2)), .ref o]) (rest := []) ⟨hx, hb, hml, hown, htsL⟩ (c_L_clear l dC dI hfl hX aX bX o cA cB cO N L f g oo tt r N' L' _ ok hf hg ((xs (4 * q + 1))) ((xs (4 * q + 2))) hsp) (vx_cwSW 4 htsL gL_law_L_clear rfl rfl rfl (by decide +kernel) ⟨Nat.le_of_ble_eq_true rfl, Nat.le_of_ble_eq_true rfl⟩) (ow_PreSx (hK.sub (tys' := [(cA, .int), (cB, .int), (cO, .long)]) [0, 1, 2] rfl) (hP.sub (ws' := (wO hX aX bX o cA cB cO ((nI N, f, g), oo))) [0, 1, 2, 3] rfl) (hD.sub (ws' := (wO hX aX bX o cA cB cO ((nI N, f, g), oo))) [0, 1, 2, 3] (by decide) rfl) hZs hS) rfl rfl hl.1 rfl (lv_room (Nat.le_of_ble_eq_true rfl)) dL_law_267 ⟨by show 7 + q + 1 ≤ 1032; omega, by show 4008 + 6 * q + 6 ≤ 12206; omega⟩) hP hD hS hA [0, 1, 2, 3] [4, 5, 6] rfl rfl (by decide) (by decide) (fun r0 u H locs hw hP hD hS => ?_)
  refine W.widen (k := 8 + q) (n := 4014 + 6 * q) (by omega) (by omega) ?_
  obtain ⟨⟨a1, f1, g1⟩, oo1⟩ := u
  obtain ⟨er, hoo, e1, hf1, hg1⟩ := hw
  obtain rfl : nI N' = a1 := e1.symm
  refine ow_top (z := tt) er ?_
  have hP : va_P (dC, dI) vwCl [(hM, .inr (1, [.int th, .ref aM, .int (nI N), .ref bM])), (aM, .inl (cC, 1000, .inl f2)), (bM, .inl (cD, 1000, .inl as)), (hX, .inr (0, [.ref aX, .ref bX, .int (nI N')])), (aX, .inl (cA, 1000, .inl f1)), (bX, .inl (cB, 1000, .inl g1)), (o, .inl (cO, 1, .inr (.inl oo1)))] H := hP
  have hD : va_D A [(hM, .inr (1, [.int th, .ref aM, .int (nI N), .ref bM])), (aM, .inl (cC, 1000, .inl f2)), (bM, .inl (cD, 1000, .inl as)), (hX, .inr (0, [.ref aX, .ref bX, .int (nI N')])), (aX, .inl (cA, 1000, .inl f1)), (bX, .inl (cB, 1000, .inl g1)), (o, .inl (cO, 1, .inr (.inl oo1)))] := hD
  refine lv_istore (lv' := [(5, .int tt), (0, .ref b), (1, .ref hX), (2, .ref hM), (3, .ref o), (4, .int (nI (4 * q)))]) hx hb dL_law_270 hl (by decide) rfl (fun ls hl => ?_)
  refine lv_aload_n hx hb dL_law_272 rfl (lv_at hl 3 rfl) ?_
  refine lv_aload_n hx hb dL_law_273 rfl (lv_at hl 1 rfl) ?_
  refine lv_iload hx hb dL_law_274 (lv_at hl 5 rfl) ?_
  refine lv_iconst (v := 1) hx hb dL_law_276 (by decide +kernel) ?_
  refine lv_iadd hx hb dL_law_277 ?_
  refine ow_top (z := nI (4 * q + 1)) (nI_1 (4 * q)) ?_
  refine ow_sld (k := 4 * q + 1) hx hb hSc hbl hbA hS (by omega) (by omega) dL_law_278 ?_
  refine lv_aload_n hx hb dL_law_279 rfl (lv_at hl 1 rfl) ?_
  refine lv_iload hx hb dL_law_280 (lv_at hl 5 rfl) ?_
  refine lv_iconst (v := nI 2) hx hb dL_law_282 (by decide +kernel) ?_
  refine lv_iadd hx hb dL_law_283 ?_
  refine ow_top (z := nI (4 * q + 2)) (nI_add (4 * q) 2) ?_
  refine ow_sld (k := 4 * q + 2) hx hb hSc hbl hbA hS (by omega) (by omega) dL_law_284 ?_
  refine ow_calli (wr := [(hX, .inr (0, [.ref aX, .ref bX, .int (nI N')])), (aX, .inl (cA, 1000, .inl f1)), (bX, .inl (cB, 1000, .inl g1)), (o, .inl (cO, 1, .inr (.inl oo1)))]) (va_runV (As := [.int (xs (4 * q + 1)), .int (xs (4 * q + 2))]) (rest := []) ⟨hx, hb, hml, hown, hts⟩ (c_M_clear l dC dI hM aM bM cC cD th N L f2 as tt r N' L' _ ok hf2 ((xs (4 * q + 1))) ((xs (4 * q + 2))) hsp) (cwV 2 hts gT_law_X1_clear rfl rfl rfl (by decide +kernel) ⟨Nat.le_of_ble_eq_true rfl, Nat.le_of_ble_eq_true rfl⟩) (ow_PreV (hK.sub (tys' := [(cC, .int), (cD, .int)]) [3, 4] rfl) (hP.sub (ws' := (wM hM aM bM cC cD (th, nI N, f2, as))) [0, 1, 2] rfl) (hD.sub (ws' := (wM hM aM bM cC cD (th, nI N, f2, as))) [0, 1, 2] (by decide) rfl) (ci := 1) (q0 := 0) rfl rfl) rfl rfl hl.1 rfl (lv_room (Nat.le_of_ble_eq_true rfl)) dL_law_285 ⟨by show 8 + q + 0 ≤ 1032; omega, by show 4014 + 6 * q + 0 ≤ 12206; omega⟩) hP hD hS hA [0, 1, 2] [3, 4, 5, 6] rfl rfl (by decide) (by decide) (fun r0 u H locs hw hP hD hS => ?_)
  obtain ⟨v1, v2, v3, v4⟩ := u
  obtain ⟨er, e1, e2, hf9⟩ := hw
  obtain rfl : tt = v1 := e1.symm
  obtain rfl : nI N' = v2 := e2.symm
  refine ow_top (z := r) er ?_
  have hP : va_P (dC, dI) vwCl [(hX, .inr (0, [.ref aX, .ref bX, .int (nI N')])), (aX, .inl (cA, 1000, .inl f1)), (bX, .inl (cB, 1000, .inl g1)), (o, .inl (cO, 1, .inr (.inl oo1))), (hM, .inr (1, [.int tt, .ref aM, .int (nI N'), .ref bM])), (aM, .inl (cC, 1000, .inl v3)), (bM, .inl (cD, 1000, .inl v4))] H := hP
  have hD : va_D A [(hX, .inr (0, [.ref aX, .ref bX, .int (nI N')])), (aX, .inl (cA, 1000, .inl f1)), (bX, .inl (cB, 1000, .inl g1)), (o, .inl (cO, 1, .inr (.inl oo1))), (hM, .inr (1, [.int tt, .ref aM, .int (nI N'), .ref bM])), (aM, .inl (cC, 1000, .inl v3)), (bM, .inl (cD, 1000, .inl v4))] := hD
  refine lv_istore (lv' := [(6, .int r), (5, .int tt), (0, .ref b), (1, .ref hX), (2, .ref hM), (3, .ref o), (4, .int (nI (4 * q)))]) hx hb dL_law_288 hl (by decide) rfl (fun ls hl => ?_)
  refine lv_aload_n hx hb dL_law_290 rfl (lv_at hl 4 rfl) ?_
  refine ow_callR (r := tt) (W.runV (As := []) (rest := []) ⟨hx, hb, hml, hown, htsL⟩ (c_M_thrown l dC dI hM aM bM cC cD tt (nI N') v3 v4) (cwV 0 htsL gL_law_X1_thrown rfl rfl rfl (by decide +kernel) ⟨Nat.le_of_ble_eq_true rfl, Nat.le_of_ble_eq_true rfl⟩) (ow_PreR (hK.sub (tys' := [(cC, .int), (cD, .int)]) [3, 4] rfl) (hP.sub (ws' := (wM hM aM bM cC cD (tt, nI N', v3, v4))) [4, 5, 6] rfl) (ci := 1) (q0 := 0) rfl rfl) rfl rfl hl.1 rfl (lv_room (Nat.le_of_ble_eq_true rfl)) dL_law_291 ⟨by show 8 + q + 0 ≤ 1032; omega, by show 4014 + 6 * q + 0 ≤ 12206; omega⟩) ?_
  refine lv_iload hx hb dL_law_294 (lv_at hl 1 rfl) ?_
  refine lv_icmp_eq (tgt := 301) hx hb dL_law_296 (by decide) (fun c_296 => ?_) (fun c_296 => (c_296 rfl).elim)
  refine lv_iload hx hb dL_law_301 (lv_at hl 1 rfl) ?_
  refine lv_if_ne (tgt := 318) hx hb dL_law_303 (by decide) (fun c_303 => ?_) (fun c_303 => ?_)
  · refine lv_goto (tgt := 763) hx hb dL_law_318 (by decide) ?_
    exact hk N' L' f1 g1 v3 v4 tt oo1 H locs ls ok' hf1 hg1 hf9 (hP.sub [0, 1, 2, 3, 4, 5, 6] rfl) (hD.sub [0, 1, 2, 3, 4, 5, 6] (by decide) rfl) hS (lv_sub hl [2, 3, 4, 5, 6] rfl)
  · refine lv_aload_n hx hb dL_law_306 rfl (lv_at hl 5 rfl) ?_
    refine lv_iconst (v := 0) hx hb dL_law_307 (by decide +kernel) ?_
    refine ow_lald (k := 0) (v := r.toInt64) hx hb hK hP 3 2 rfl rfl nI_0.symm (by decide) (by decide) (hoo c_303) dL_law_308 ?_
    refine lv_iload hx hb dL_law_309 (lv_at hl 0 rfl) ?_
    refine lv_i2l (v := r.toInt64) hx hb dL_law_311 rfl ?_
    refine W.lcmp hx hb dL_law_312 ?_
    refine lv_if_eq (tgt := 318) hx hb dL_law_313 (by decide) (fun c_313 => ?_) (fun c_313 => (c_313 ((lg_cmp_eq _ _).mpr rfl)).elim)
    refine lv_goto (tgt := 763) hx hb dL_law_318 (by decide) ?_
    exact hk N' L' f1 g1 v3 v4 tt oo1 H locs ls ok' hf1 hg1 hf9 (hP.sub [0, 1, 2, 3, 4, 5, 6] rfl) (hD.sub [0, 1, 2, 3, 4, 5, 6] (by decide) rfl) hS (lv_sub hl [2, 3, 4, 5, 6] rfl)
set_option maxHeartbeats 4000000 in
set_option maxRecDepth 100000 in
/-- a call of carry -/
theorem law_carry {pg : Program} {l : Launch} {ev : Env} {s : State} {m : MethodId} {below : List Frame} {meth : Method} {cd : Code} {b LN : Nat} {xs : Nat → Int32} {dC : Nat → ClassId} {dI : Nat → Nat → Nat} {A : Nat → Prop} {hX aX bX o hM aM bM : Nat} {cA cB cO cC cD : ClassId} {q : Nat} (C0 : lw_At pg s m meth cd b LN xs) (hLN : LN ≤ 2048) (hq : 4 * q + 4 ≤ LN) (hfl : l.flags = flags0) (hK : va_K (dC, dI) vwCl [(cA, .int), (cB, .int), (cO, .long), (cC, .int), (cD, .int)] s) (hA : ∀ q : Nat, s.heap.size ≤ q → A q) (hbA : ¬ A b) (hZs : lw_Zs A s) (hk : lw_inv pg l ev s m below meth cd b dC dI A hX aX bX o hM aM bM cA cB cO cC cD q 763 (8 + q) (4014 + 6 * q)) : lw_inv pg l ev s m below meth cd b dC dI A hX aX bX o hM aM bM cA cB cO cC cD q 321 (7 + q) (4008 + 6 * q) := by
  obtain ⟨hx, hb, hr, hml, hown, hts, hSc, hbl, hlocks, hgv⟩ := C0
  have hown : s.vm.findClass RL = some m.cls := hown
  have htsL : ∀ w ∈ wsL_law, w.before #[Value.ref b] s = true := fun w h => hts w (wsL_law_in w h)
  intro N L f g f2 as th oo H locs ls ok hf hg hf2 hP hD hS hl
  refine lv_aload_n hx hb dL_law_321 rfl (lv_at hl 1 rfl) ?_
  refine lv_aload_n hx hb dL_law_322 rfl (lv_at hl 0 rfl) ?_
  refine lv_iload hx hb dL_law_323 (lv_at hl 4 rfl) ?_
  refine lv_iconst (v := 1) hx hb dL_law_325 (by decide +kernel) ?_
  refine lv_iadd hx hb dL_law_326 ?_
  refine ow_top (z := nI (4 * q + 1)) (nI_1 (4 * q)) ?_
  refine ow_sld (k := 4 * q + 1) hx hb hSc hbl hbA hS (by omega) (by omega) dL_law_327 ?_
  refine lv_aload_n hx hb dL_law_328 rfl (lv_at hl 0 rfl) ?_
  refine lv_iload hx hb dL_law_329 (lv_at hl 4 rfl) ?_
  refine lv_iconst (v := nI 2) hx hb dL_law_331 (by decide +kernel) ?_
  refine lv_iadd hx hb dL_law_332 ?_
  refine ow_top (z := nI (4 * q + 2)) (nI_add (4 * q) 2) ?_
  refine ow_sld (k := 4 * q + 2) hx hb hSc hbl hbA hS (by omega) (by omega) dL_law_333 ?_
  refine lv_aload_n hx hb dL_law_334 rfl (lv_at hl 0 rfl) ?_
  refine lv_iload hx hb dL_law_335 (lv_at hl 4 rfl) ?_
  refine lv_iconst (v := nI 3) hx hb dL_law_337 (by decide +kernel) ?_
  refine lv_iadd hx hb dL_law_338 ?_
  refine ow_top (z := nI (4 * q + 3)) (nI_add (4 * q) 3) ?_
  refine ow_sld (k := 4 * q + 3) hx hb hSc hbl hbA hS (by omega) (by omega) dL_law_339 ?_
  refine lv_aload_n hx hb dL_law_340 rfl (lv_at hl 3 rfl) ?_
  obtain ⟨tt, r, N', L', hsp, ok'⟩ := ex_carry ok ((xs (4 * q + 1))) ((xs (4 * q + 2))) ((xs (4 * q + 3)))
  refine ow_calli (wr := [(hM, .inr (1, [.int th, .ref aM, .int (nI N), .ref bM])), (aM, .inl (cC, 1000, .inl f2)), (bM, .inl (cD, 1000, .inl as))]) (vx_runSW (As := [.ref hX, .int (xs (4 * q + 1)), .int (xs (4 * q + 2)), .int (xs (4 * q + 3)), .ref o]) (rest := []) ⟨hx, hb, hml, hown, htsL⟩ (c_L_carry l dC dI hfl hX aX bX o cA cB cO N L f g oo tt r N' L' _ ok hf hg ((xs (4 * q + 1))) ((xs (4 * q + 2))) ((xs (4 * q + 3))) hsp) (vx_cwSW 5 htsL gL_law_L_carry rfl rfl rfl (by decide +kernel) ⟨Nat.le_of_ble_eq_true rfl, Nat.le_of_ble_eq_true rfl⟩) (ow_PreSx (hK.sub (tys' := [(cA, .int), (cB, .int), (cO, .long)]) [0, 1, 2] rfl) (hP.sub (ws' := (wO hX aX bX o cA cB cO ((nI N, f, g), oo))) [0, 1, 2, 3] rfl) (hD.sub (ws' := (wO hX aX bX o cA cB cO ((nI N, f, g), oo))) [0, 1, 2, 3] (by decide) rfl) hZs hS) rfl rfl hl.1 rfl (lv_room (Nat.le_of_ble_eq_true rfl)) dL_law_341 ⟨by show 7 + q + 1 ≤ 1032; omega, by show 4008 + 6 * q + 6 ≤ 12206; omega⟩) hP hD hS hA [0, 1, 2, 3] [4, 5, 6] rfl rfl (by decide) (by decide) (fun r0 u H locs hw hP hD hS => ?_)
  refine W.widen (k := 8 + q) (n := 4014 + 6 * q) (by omega) (by omega) ?_
  obtain ⟨⟨a1, f1, g1⟩, oo1⟩ := u
  obtain ⟨er, hoo, e1, hf1, hg1⟩ := hw
  obtain rfl : nI N' = a1 := e1.symm
  refine ow_top (z := tt) er ?_
  have hP : va_P (dC, dI) vwCl [(hM, .inr (1, [.int th, .ref aM, .int (nI N), .ref bM])), (aM, .inl (cC, 1000, .inl f2)), (bM, .inl (cD, 1000, .inl as)), (hX, .inr (0, [.ref aX, .ref bX, .int (nI N')])), (aX, .inl (cA, 1000, .inl f1)), (bX, .inl (cB, 1000, .inl g1)), (o, .inl (cO, 1, .inr (.inl oo1)))] H := hP
  have hD : va_D A [(hM, .inr (1, [.int th, .ref aM, .int (nI N), .ref bM])), (aM, .inl (cC, 1000, .inl f2)), (bM, .inl (cD, 1000, .inl as)), (hX, .inr (0, [.ref aX, .ref bX, .int (nI N')])), (aX, .inl (cA, 1000, .inl f1)), (bX, .inl (cB, 1000, .inl g1)), (o, .inl (cO, 1, .inr (.inl oo1)))] := hD
  refine lv_istore (lv' := [(5, .int tt), (0, .ref b), (1, .ref hX), (2, .ref hM), (3, .ref o), (4, .int (nI (4 * q)))]) hx hb dL_law_344 hl (by decide) rfl (fun ls hl => ?_)
  refine lv_aload_n hx hb dL_law_346 rfl (lv_at hl 3 rfl) ?_
  refine lv_aload_n hx hb dL_law_347 rfl (lv_at hl 1 rfl) ?_
  refine lv_iload hx hb dL_law_348 (lv_at hl 5 rfl) ?_
  refine lv_iconst (v := 1) hx hb dL_law_350 (by decide +kernel) ?_
  refine lv_iadd hx hb dL_law_351 ?_
  refine ow_top (z := nI (4 * q + 1)) (nI_1 (4 * q)) ?_
  refine ow_sld (k := 4 * q + 1) hx hb hSc hbl hbA hS (by omega) (by omega) dL_law_352 ?_
  refine lv_aload_n hx hb dL_law_353 rfl (lv_at hl 1 rfl) ?_
  refine lv_iload hx hb dL_law_354 (lv_at hl 5 rfl) ?_
  refine lv_iconst (v := nI 2) hx hb dL_law_356 (by decide +kernel) ?_
  refine lv_iadd hx hb dL_law_357 ?_
  refine ow_top (z := nI (4 * q + 2)) (nI_add (4 * q) 2) ?_
  refine ow_sld (k := 4 * q + 2) hx hb hSc hbl hbA hS (by omega) (by omega) dL_law_358 ?_
  refine lv_aload_n hx hb dL_law_359 rfl (lv_at hl 1 rfl) ?_
  refine lv_iload hx hb dL_law_360 (lv_at hl 5 rfl) ?_
  refine lv_iconst (v := nI 3) hx hb dL_law_362 (by decide +kernel) ?_
  refine lv_iadd hx hb dL_law_363 ?_
  refine ow_top (z := nI (4 * q + 3)) (nI_add (4 * q) 3) ?_
  refine ow_sld (k := 4 * q + 3) hx hb hSc hbl hbA hS (by omega) (by omega) dL_law_364 ?_
  refine ow_calli (wr := [(hX, .inr (0, [.ref aX, .ref bX, .int (nI N')])), (aX, .inl (cA, 1000, .inl f1)), (bX, .inl (cB, 1000, .inl g1)), (o, .inl (cO, 1, .inr (.inl oo1)))]) (va_runV (As := [.int (xs (4 * q + 1)), .int (xs (4 * q + 2)), .int (xs (4 * q + 3))]) (rest := []) ⟨hx, hb, hml, hown, hts⟩ (c_M_carry l dC dI hM aM bM cC cD th N L f2 as tt r N' L' _ ok hf2 ((xs (4 * q + 1))) ((xs (4 * q + 2))) ((xs (4 * q + 3))) hsp) (cwV 3 hts gT_law_X1_carry rfl rfl rfl (by decide +kernel) ⟨Nat.le_of_ble_eq_true rfl, Nat.le_of_ble_eq_true rfl⟩) (ow_PreV (hK.sub (tys' := [(cC, .int), (cD, .int)]) [3, 4] rfl) (hP.sub (ws' := (wM hM aM bM cC cD (th, nI N, f2, as))) [0, 1, 2] rfl) (hD.sub (ws' := (wM hM aM bM cC cD (th, nI N, f2, as))) [0, 1, 2] (by decide) rfl) (ci := 1) (q0 := 0) rfl rfl) rfl rfl hl.1 rfl (lv_room (Nat.le_of_ble_eq_true rfl)) dL_law_365 ⟨by show 8 + q + 0 ≤ 1032; omega, by show 4014 + 6 * q + 0 ≤ 12206; omega⟩) hP hD hS hA [0, 1, 2] [3, 4, 5, 6] rfl rfl (by decide) (by decide) (fun r0 u H locs hw hP hD hS => ?_)
  obtain ⟨v1, v2, v3, v4⟩ := u
  obtain ⟨er, e1, e2, hf9⟩ := hw
  obtain rfl : tt = v1 := e1.symm
  obtain rfl : nI N' = v2 := e2.symm
  refine ow_top (z := r) er ?_
  have hP : va_P (dC, dI) vwCl [(hX, .inr (0, [.ref aX, .ref bX, .int (nI N')])), (aX, .inl (cA, 1000, .inl f1)), (bX, .inl (cB, 1000, .inl g1)), (o, .inl (cO, 1, .inr (.inl oo1))), (hM, .inr (1, [.int tt, .ref aM, .int (nI N'), .ref bM])), (aM, .inl (cC, 1000, .inl v3)), (bM, .inl (cD, 1000, .inl v4))] H := hP
  have hD : va_D A [(hX, .inr (0, [.ref aX, .ref bX, .int (nI N')])), (aX, .inl (cA, 1000, .inl f1)), (bX, .inl (cB, 1000, .inl g1)), (o, .inl (cO, 1, .inr (.inl oo1))), (hM, .inr (1, [.int tt, .ref aM, .int (nI N'), .ref bM])), (aM, .inl (cC, 1000, .inl v3)), (bM, .inl (cD, 1000, .inl v4))] := hD
  refine lv_istore (lv' := [(6, .int r), (5, .int tt), (0, .ref b), (1, .ref hX), (2, .ref hM), (3, .ref o), (4, .int (nI (4 * q)))]) hx hb dL_law_368 hl (by decide) rfl (fun ls hl => ?_)
  refine lv_aload_n hx hb dL_law_370 rfl (lv_at hl 4 rfl) ?_
  refine ow_callR (r := tt) (W.runV (As := []) (rest := []) ⟨hx, hb, hml, hown, htsL⟩ (c_M_thrown l dC dI hM aM bM cC cD tt (nI N') v3 v4) (cwV 0 htsL gL_law_X1_thrown rfl rfl rfl (by decide +kernel) ⟨Nat.le_of_ble_eq_true rfl, Nat.le_of_ble_eq_true rfl⟩) (ow_PreR (hK.sub (tys' := [(cC, .int), (cD, .int)]) [3, 4] rfl) (hP.sub (ws' := (wM hM aM bM cC cD (tt, nI N', v3, v4))) [4, 5, 6] rfl) (ci := 1) (q0 := 0) rfl rfl) rfl rfl hl.1 rfl (lv_room (Nat.le_of_ble_eq_true rfl)) dL_law_371 ⟨by show 8 + q + 0 ≤ 1032; omega, by show 4014 + 6 * q + 0 ≤ 12206; omega⟩) ?_
  refine lv_iload hx hb dL_law_374 (lv_at hl 1 rfl) ?_
  refine lv_icmp_eq (tgt := 381) hx hb dL_law_376 (by decide) (fun c_376 => ?_) (fun c_376 => (c_376 rfl).elim)
  refine lv_iload hx hb dL_law_381 (lv_at hl 1 rfl) ?_
  refine lv_if_ne (tgt := 398) hx hb dL_law_383 (by decide) (fun c_383 => ?_) (fun c_383 => ?_)
  · refine lv_goto (tgt := 763) hx hb dL_law_398 (by decide) ?_
    exact hk N' L' f1 g1 v3 v4 tt oo1 H locs ls ok' hf1 hg1 hf9 (hP.sub [0, 1, 2, 3, 4, 5, 6] rfl) (hD.sub [0, 1, 2, 3, 4, 5, 6] (by decide) rfl) hS (lv_sub hl [2, 3, 4, 5, 6] rfl)
  · refine lv_aload_n hx hb dL_law_386 rfl (lv_at hl 5 rfl) ?_
    refine lv_iconst (v := 0) hx hb dL_law_387 (by decide +kernel) ?_
    refine ow_lald (k := 0) (v := r.toInt64) hx hb hK hP 3 2 rfl rfl nI_0.symm (by decide) (by decide) (hoo c_383) dL_law_388 ?_
    refine lv_iload hx hb dL_law_389 (lv_at hl 0 rfl) ?_
    refine lv_i2l (v := r.toInt64) hx hb dL_law_391 rfl ?_
    refine W.lcmp hx hb dL_law_392 ?_
    refine lv_if_eq (tgt := 398) hx hb dL_law_393 (by decide) (fun c_393 => ?_) (fun c_393 => (c_393 ((lg_cmp_eq _ _).mpr rfl)).elim)
    refine lv_goto (tgt := 763) hx hb dL_law_398 (by decide) ?_
    exact hk N' L' f1 g1 v3 v4 tt oo1 H locs ls ok' hf1 hg1 hf9 (hP.sub [0, 1, 2, 3, 4, 5, 6] rfl) (hD.sub [0, 1, 2, 3, 4, 5, 6] (by decide) rfl) hS (lv_sub hl [2, 3, 4, 5, 6] rfl)
set_option maxHeartbeats 4000000 in
set_option maxRecDepth 100000 in
/-- a call of compare -/
theorem law_compare {pg : Program} {l : Launch} {ev : Env} {s : State} {m : MethodId} {below : List Frame} {meth : Method} {cd : Code} {b LN : Nat} {xs : Nat → Int32} {dC : Nat → ClassId} {dI : Nat → Nat → Nat} {A : Nat → Prop} {hX aX bX o hM aM bM : Nat} {cA cB cO cC cD : ClassId} {q : Nat} (C0 : lw_At pg s m meth cd b LN xs) (hLN : LN ≤ 2048) (hq : 4 * q + 4 ≤ LN) (hfl : l.flags = flags0) (hK : va_K (dC, dI) vwCl [(cA, .int), (cB, .int), (cO, .long), (cC, .int), (cD, .int)] s) (hA : ∀ q : Nat, s.heap.size ≤ q → A q) (hbA : ¬ A b) (hZs : lw_Zs A s) (hk : lw_inv pg l ev s m below meth cd b dC dI A hX aX bX o hM aM bM cA cB cO cC cD q 763 (8 + q) (4014 + 6 * q)) : lw_inv pg l ev s m below meth cd b dC dI A hX aX bX o hM aM bM cA cB cO cC cD q 401 (7 + q) (4008 + 6 * q) := by
  obtain ⟨hx, hb, hr, hml, hown, hts, hSc, hbl, hlocks, hgv⟩ := C0
  have hown : s.vm.findClass RL = some m.cls := hown
  have htsL : ∀ w ∈ wsL_law, w.before #[Value.ref b] s = true := fun w h => hts w (wsL_law_in w h)
  intro N L f g f2 as th oo H locs ls ok hf hg hf2 hP hD hS hl
  refine lv_aload_n hx hb dL_law_401 rfl (lv_at hl 1 rfl) ?_
  refine lv_aload_n hx hb dL_law_402 rfl (lv_at hl 0 rfl) ?_
  refine lv_iload hx hb dL_law_403 (lv_at hl 4 rfl) ?_
  refine lv_iconst (v := 1) hx hb dL_law_405 (by decide +kernel) ?_
  refine lv_iadd hx hb dL_law_406 ?_
  refine ow_top (z := nI (4 * q + 1)) (nI_1 (4 * q)) ?_
  refine ow_sld (k := 4 * q + 1) hx hb hSc hbl hbA hS (by omega) (by omega) dL_law_407 ?_
  refine lv_aload_n hx hb dL_law_408 rfl (lv_at hl 0 rfl) ?_
  refine lv_iload hx hb dL_law_409 (lv_at hl 4 rfl) ?_
  refine lv_iconst (v := nI 2) hx hb dL_law_411 (by decide +kernel) ?_
  refine lv_iadd hx hb dL_law_412 ?_
  refine ow_top (z := nI (4 * q + 2)) (nI_add (4 * q) 2) ?_
  refine ow_sld (k := 4 * q + 2) hx hb hSc hbl hbA hS (by omega) (by omega) dL_law_413 ?_
  refine lv_aload_n hx hb dL_law_414 rfl (lv_at hl 3 rfl) ?_
  obtain ⟨tt, r, N', L', hsp, ok'⟩ := ex_compare ok ((xs (4 * q + 1))) ((xs (4 * q + 2)))
  refine ow_calli (wr := [(hM, .inr (1, [.int th, .ref aM, .int (nI N), .ref bM])), (aM, .inl (cC, 1000, .inl f2)), (bM, .inl (cD, 1000, .inl as))]) (vx_runSW (As := [.ref hX, .int (xs (4 * q + 1)), .int (xs (4 * q + 2)), .ref o]) (rest := []) ⟨hx, hb, hml, hown, htsL⟩ (c_L_compare l dC dI hfl hX aX bX o cA cB cO N L f g oo tt r N' L' _ ok hf hg ((xs (4 * q + 1))) ((xs (4 * q + 2))) hsp) (vx_cwSW 4 htsL gL_law_L_compare rfl rfl rfl (by decide +kernel) ⟨Nat.le_of_ble_eq_true rfl, Nat.le_of_ble_eq_true rfl⟩) (ow_PreSx (hK.sub (tys' := [(cA, .int), (cB, .int), (cO, .long)]) [0, 1, 2] rfl) (hP.sub (ws' := (wO hX aX bX o cA cB cO ((nI N, f, g), oo))) [0, 1, 2, 3] rfl) (hD.sub (ws' := (wO hX aX bX o cA cB cO ((nI N, f, g), oo))) [0, 1, 2, 3] (by decide) rfl) hZs hS) rfl rfl hl.1 rfl (lv_room (Nat.le_of_ble_eq_true rfl)) dL_law_415 ⟨by show 7 + q + 1 ≤ 1032; omega, by show 4008 + 6 * q + 6 ≤ 12206; omega⟩) hP hD hS hA [0, 1, 2, 3] [4, 5, 6] rfl rfl (by decide) (by decide) (fun r0 u H locs hw hP hD hS => ?_)
  refine W.widen (k := 8 + q) (n := 4014 + 6 * q) (by omega) (by omega) ?_
  obtain ⟨⟨a1, f1, g1⟩, oo1⟩ := u
  obtain ⟨er, hoo, e1, hf1, hg1⟩ := hw
  obtain rfl : nI N' = a1 := e1.symm
  refine ow_top (z := tt) er ?_
  have hP : va_P (dC, dI) vwCl [(hM, .inr (1, [.int th, .ref aM, .int (nI N), .ref bM])), (aM, .inl (cC, 1000, .inl f2)), (bM, .inl (cD, 1000, .inl as)), (hX, .inr (0, [.ref aX, .ref bX, .int (nI N')])), (aX, .inl (cA, 1000, .inl f1)), (bX, .inl (cB, 1000, .inl g1)), (o, .inl (cO, 1, .inr (.inl oo1)))] H := hP
  have hD : va_D A [(hM, .inr (1, [.int th, .ref aM, .int (nI N), .ref bM])), (aM, .inl (cC, 1000, .inl f2)), (bM, .inl (cD, 1000, .inl as)), (hX, .inr (0, [.ref aX, .ref bX, .int (nI N')])), (aX, .inl (cA, 1000, .inl f1)), (bX, .inl (cB, 1000, .inl g1)), (o, .inl (cO, 1, .inr (.inl oo1)))] := hD
  refine lv_istore (lv' := [(5, .int tt), (0, .ref b), (1, .ref hX), (2, .ref hM), (3, .ref o), (4, .int (nI (4 * q)))]) hx hb dL_law_418 hl (by decide) rfl (fun ls hl => ?_)
  refine lv_aload_n hx hb dL_law_420 rfl (lv_at hl 3 rfl) ?_
  refine lv_aload_n hx hb dL_law_421 rfl (lv_at hl 1 rfl) ?_
  refine lv_iload hx hb dL_law_422 (lv_at hl 5 rfl) ?_
  refine lv_iconst (v := 1) hx hb dL_law_424 (by decide +kernel) ?_
  refine lv_iadd hx hb dL_law_425 ?_
  refine ow_top (z := nI (4 * q + 1)) (nI_1 (4 * q)) ?_
  refine ow_sld (k := 4 * q + 1) hx hb hSc hbl hbA hS (by omega) (by omega) dL_law_426 ?_
  refine lv_aload_n hx hb dL_law_427 rfl (lv_at hl 1 rfl) ?_
  refine lv_iload hx hb dL_law_428 (lv_at hl 5 rfl) ?_
  refine lv_iconst (v := nI 2) hx hb dL_law_430 (by decide +kernel) ?_
  refine lv_iadd hx hb dL_law_431 ?_
  refine ow_top (z := nI (4 * q + 2)) (nI_add (4 * q) 2) ?_
  refine ow_sld (k := 4 * q + 2) hx hb hSc hbl hbA hS (by omega) (by omega) dL_law_432 ?_
  refine ow_calli (wr := [(hX, .inr (0, [.ref aX, .ref bX, .int (nI N')])), (aX, .inl (cA, 1000, .inl f1)), (bX, .inl (cB, 1000, .inl g1)), (o, .inl (cO, 1, .inr (.inl oo1)))]) (va_runV (As := [.int (xs (4 * q + 1)), .int (xs (4 * q + 2))]) (rest := []) ⟨hx, hb, hml, hown, hts⟩ (c_M_compare l dC dI hM aM bM cC cD th N L f2 as tt r N' L' _ ok hf2 ((xs (4 * q + 1))) ((xs (4 * q + 2))) hsp) (cwV 2 hts gT_law_X1_compare rfl rfl rfl (by decide +kernel) ⟨Nat.le_of_ble_eq_true rfl, Nat.le_of_ble_eq_true rfl⟩) (ow_PreV (hK.sub (tys' := [(cC, .int), (cD, .int)]) [3, 4] rfl) (hP.sub (ws' := (wM hM aM bM cC cD (th, nI N, f2, as))) [0, 1, 2] rfl) (hD.sub (ws' := (wM hM aM bM cC cD (th, nI N, f2, as))) [0, 1, 2] (by decide) rfl) (ci := 1) (q0 := 0) rfl rfl) rfl rfl hl.1 rfl (lv_room (Nat.le_of_ble_eq_true rfl)) dL_law_433 ⟨by show 8 + q + 0 ≤ 1032; omega, by show 4014 + 6 * q + 0 ≤ 12206; omega⟩) hP hD hS hA [0, 1, 2] [3, 4, 5, 6] rfl rfl (by decide) (by decide) (fun r0 u H locs hw hP hD hS => ?_)
  obtain ⟨v1, v2, v3, v4⟩ := u
  obtain ⟨er, e1, e2, hf9⟩ := hw
  obtain rfl : tt = v1 := e1.symm
  obtain rfl : nI N' = v2 := e2.symm
  refine ow_top (z := r) er ?_
  have hP : va_P (dC, dI) vwCl [(hX, .inr (0, [.ref aX, .ref bX, .int (nI N')])), (aX, .inl (cA, 1000, .inl f1)), (bX, .inl (cB, 1000, .inl g1)), (o, .inl (cO, 1, .inr (.inl oo1))), (hM, .inr (1, [.int tt, .ref aM, .int (nI N'), .ref bM])), (aM, .inl (cC, 1000, .inl v3)), (bM, .inl (cD, 1000, .inl v4))] H := hP
  have hD : va_D A [(hX, .inr (0, [.ref aX, .ref bX, .int (nI N')])), (aX, .inl (cA, 1000, .inl f1)), (bX, .inl (cB, 1000, .inl g1)), (o, .inl (cO, 1, .inr (.inl oo1))), (hM, .inr (1, [.int tt, .ref aM, .int (nI N'), .ref bM])), (aM, .inl (cC, 1000, .inl v3)), (bM, .inl (cD, 1000, .inl v4))] := hD
  refine lv_istore (lv' := [(6, .int r), (5, .int tt), (0, .ref b), (1, .ref hX), (2, .ref hM), (3, .ref o), (4, .int (nI (4 * q)))]) hx hb dL_law_436 hl (by decide) rfl (fun ls hl => ?_)
  refine lv_aload_n hx hb dL_law_438 rfl (lv_at hl 4 rfl) ?_
  refine ow_callR (r := tt) (W.runV (As := []) (rest := []) ⟨hx, hb, hml, hown, htsL⟩ (c_M_thrown l dC dI hM aM bM cC cD tt (nI N') v3 v4) (cwV 0 htsL gL_law_X1_thrown rfl rfl rfl (by decide +kernel) ⟨Nat.le_of_ble_eq_true rfl, Nat.le_of_ble_eq_true rfl⟩) (ow_PreR (hK.sub (tys' := [(cC, .int), (cD, .int)]) [3, 4] rfl) (hP.sub (ws' := (wM hM aM bM cC cD (tt, nI N', v3, v4))) [4, 5, 6] rfl) (ci := 1) (q0 := 0) rfl rfl) rfl rfl hl.1 rfl (lv_room (Nat.le_of_ble_eq_true rfl)) dL_law_439 ⟨by show 8 + q + 0 ≤ 1032; omega, by show 4014 + 6 * q + 0 ≤ 12206; omega⟩) ?_
  refine lv_iload hx hb dL_law_442 (lv_at hl 1 rfl) ?_
  refine lv_icmp_eq (tgt := 449) hx hb dL_law_444 (by decide) (fun c_444 => ?_) (fun c_444 => (c_444 rfl).elim)
  refine lv_iload hx hb dL_law_449 (lv_at hl 1 rfl) ?_
  refine lv_if_ne (tgt := 466) hx hb dL_law_451 (by decide) (fun c_451 => ?_) (fun c_451 => ?_)
  · refine lv_goto (tgt := 763) hx hb dL_law_466 (by decide) ?_
    exact hk N' L' f1 g1 v3 v4 tt oo1 H locs ls ok' hf1 hg1 hf9 (hP.sub [0, 1, 2, 3, 4, 5, 6] rfl) (hD.sub [0, 1, 2, 3, 4, 5, 6] (by decide) rfl) hS (lv_sub hl [2, 3, 4, 5, 6] rfl)
  · refine lv_aload_n hx hb dL_law_454 rfl (lv_at hl 5 rfl) ?_
    refine lv_iconst (v := 0) hx hb dL_law_455 (by decide +kernel) ?_
    refine ow_lald (k := 0) (v := r.toInt64) hx hb hK hP 3 2 rfl rfl nI_0.symm (by decide) (by decide) (hoo c_451) dL_law_456 ?_
    refine lv_iload hx hb dL_law_457 (lv_at hl 0 rfl) ?_
    refine lv_i2l (v := r.toInt64) hx hb dL_law_459 rfl ?_
    refine W.lcmp hx hb dL_law_460 ?_
    refine lv_if_eq (tgt := 466) hx hb dL_law_461 (by decide) (fun c_461 => ?_) (fun c_461 => (c_461 ((lg_cmp_eq _ _).mpr rfl)).elim)
    refine lv_goto (tgt := 763) hx hb dL_law_466 (by decide) ?_
    exact hk N' L' f1 g1 v3 v4 tt oo1 H locs ls ok' hf1 hg1 hf9 (hP.sub [0, 1, 2, 3, 4, 5, 6] rfl) (hD.sub [0, 1, 2, 3, 4, 5, 6] (by decide) rfl) hS (lv_sub hl [2, 3, 4, 5, 6] rfl)
set_option maxHeartbeats 4000000 in
set_option maxRecDepth 100000 in
/-- a call of next -/
theorem law_next {pg : Program} {l : Launch} {ev : Env} {s : State} {m : MethodId} {below : List Frame} {meth : Method} {cd : Code} {b LN : Nat} {xs : Nat → Int32} {dC : Nat → ClassId} {dI : Nat → Nat → Nat} {A : Nat → Prop} {hX aX bX o hM aM bM : Nat} {cA cB cO cC cD : ClassId} {q : Nat} (C0 : lw_At pg s m meth cd b LN xs) (hLN : LN ≤ 2048) (hq : 4 * q + 4 ≤ LN) (hfl : l.flags = flags0) (hK : va_K (dC, dI) vwCl [(cA, .int), (cB, .int), (cO, .long), (cC, .int), (cD, .int)] s) (hA : ∀ q : Nat, s.heap.size ≤ q → A q) (hbA : ¬ A b) (hZs : lw_Zs A s) (hk : lw_inv pg l ev s m below meth cd b dC dI A hX aX bX o hM aM bM cA cB cO cC cD q 763 (8 + q) (4014 + 6 * q)) : lw_inv pg l ev s m below meth cd b dC dI A hX aX bX o hM aM bM cA cB cO cC cD q 469 (7 + q) (4008 + 6 * q) := by
  obtain ⟨hx, hb, hr, hml, hown, hts, hSc, hbl, hlocks, hgv⟩ := C0
  have hown : s.vm.findClass RL = some m.cls := hown
  have htsL : ∀ w ∈ wsL_law, w.before #[Value.ref b] s = true := fun w h => hts w (wsL_law_in w h)
  intro N L f g f2 as th oo H locs ls ok hf hg hf2 hP hD hS hl
  refine lv_aload_n hx hb dL_law_469 rfl (lv_at hl 1 rfl) ?_
  refine lv_aload_n hx hb dL_law_470 rfl (lv_at hl 0 rfl) ?_
  refine lv_iload hx hb dL_law_471 (lv_at hl 4 rfl) ?_
  refine lv_iconst (v := 1) hx hb dL_law_473 (by decide +kernel) ?_
  refine lv_iadd hx hb dL_law_474 ?_
  refine ow_top (z := nI (4 * q + 1)) (nI_1 (4 * q)) ?_
  refine ow_sld (k := 4 * q + 1) hx hb hSc hbl hbA hS (by omega) (by omega) dL_law_475 ?_
  refine lv_aload_n hx hb dL_law_476 rfl (lv_at hl 0 rfl) ?_
  refine lv_iload hx hb dL_law_477 (lv_at hl 4 rfl) ?_
  refine lv_iconst (v := nI 2) hx hb dL_law_479 (by decide +kernel) ?_
  refine lv_iadd hx hb dL_law_480 ?_
  refine ow_top (z := nI (4 * q + 2)) (nI_add (4 * q) 2) ?_
  refine ow_sld (k := 4 * q + 2) hx hb hSc hbl hbA hS (by omega) (by omega) dL_law_481 ?_
  refine lv_if_eq (tgt := 489) hx hb dL_law_482 (by decide) (fun c_482 => ?_) (fun c_482 => ?_)
  · refine lv_iconst (v := 0) hx hb dL_law_489 (by decide +kernel) ?_
    refine lv_aload_n hx hb dL_law_490 rfl (lv_at hl 3 rfl) ?_
    obtain ⟨tt, r, N', L', hsp, ok'⟩ := ex_next ok ((xs (4 * q + 1))) 0
    refine ow_calli (wr := [(hM, .inr (1, [.int th, .ref aM, .int (nI N), .ref bM])), (aM, .inl (cC, 1000, .inl f2)), (bM, .inl (cD, 1000, .inl as))]) (vx_runSW (As := [.ref hX, .int (xs (4 * q + 1)), .int 0, .ref o]) (rest := []) ⟨hx, hb, hml, hown, htsL⟩ (c_L_next l dC dI hfl hX aX bX o cA cB cO N L f g oo tt r N' L' _ ok hf hg ((xs (4 * q + 1))) 0 hsp) (vx_cwSW 4 htsL gL_law_L_next rfl rfl rfl (by decide +kernel) ⟨Nat.le_of_ble_eq_true rfl, Nat.le_of_ble_eq_true rfl⟩) (ow_PreSx (hK.sub (tys' := [(cA, .int), (cB, .int), (cO, .long)]) [0, 1, 2] rfl) (hP.sub (ws' := (wO hX aX bX o cA cB cO ((nI N, f, g), oo))) [0, 1, 2, 3] rfl) (hD.sub (ws' := (wO hX aX bX o cA cB cO ((nI N, f, g), oo))) [0, 1, 2, 3] (by decide) rfl) hZs hS) rfl rfl hl.1 rfl (lv_room (Nat.le_of_ble_eq_true rfl)) dL_law_491 ⟨by show 7 + q + 1 ≤ 1032; omega, by show 4008 + 6 * q + 6 ≤ 12206; omega⟩) hP hD hS hA [0, 1, 2, 3] [4, 5, 6] rfl rfl (by decide) (by decide) (fun r0 u H locs hw hP hD hS => ?_)
    refine W.widen (k := 8 + q) (n := 4014 + 6 * q) (by omega) (by omega) ?_
    obtain ⟨⟨a1, f1, g1⟩, oo1⟩ := u
    obtain ⟨er, hoo, e1, hf1, hg1⟩ := hw
    obtain rfl : nI N' = a1 := e1.symm
    refine ow_top (z := tt) er ?_
    have hP : va_P (dC, dI) vwCl [(hM, .inr (1, [.int th, .ref aM, .int (nI N), .ref bM])), (aM, .inl (cC, 1000, .inl f2)), (bM, .inl (cD, 1000, .inl as)), (hX, .inr (0, [.ref aX, .ref bX, .int (nI N')])), (aX, .inl (cA, 1000, .inl f1)), (bX, .inl (cB, 1000, .inl g1)), (o, .inl (cO, 1, .inr (.inl oo1)))] H := hP
    have hD : va_D A [(hM, .inr (1, [.int th, .ref aM, .int (nI N), .ref bM])), (aM, .inl (cC, 1000, .inl f2)), (bM, .inl (cD, 1000, .inl as)), (hX, .inr (0, [.ref aX, .ref bX, .int (nI N')])), (aX, .inl (cA, 1000, .inl f1)), (bX, .inl (cB, 1000, .inl g1)), (o, .inl (cO, 1, .inr (.inl oo1)))] := hD
    refine lv_istore (lv' := [(5, .int tt), (0, .ref b), (1, .ref hX), (2, .ref hM), (3, .ref o), (4, .int (nI (4 * q)))]) hx hb dL_law_494 hl (by decide) rfl (fun ls hl => ?_)
    refine lv_aload_n hx hb dL_law_496 rfl (lv_at hl 3 rfl) ?_
    refine lv_aload_n hx hb dL_law_497 rfl (lv_at hl 1 rfl) ?_
    refine lv_iload hx hb dL_law_498 (lv_at hl 5 rfl) ?_
    refine lv_iconst (v := 1) hx hb dL_law_500 (by decide +kernel) ?_
    refine lv_iadd hx hb dL_law_501 ?_
    refine ow_top (z := nI (4 * q + 1)) (nI_1 (4 * q)) ?_
    refine ow_sld (k := 4 * q + 1) hx hb hSc hbl hbA hS (by omega) (by omega) dL_law_502 ?_
    refine lv_aload_n hx hb dL_law_503 rfl (lv_at hl 1 rfl) ?_
    refine lv_iload hx hb dL_law_504 (lv_at hl 5 rfl) ?_
    refine lv_iconst (v := nI 2) hx hb dL_law_506 (by decide +kernel) ?_
    refine lv_iadd hx hb dL_law_507 ?_
    refine ow_top (z := nI (4 * q + 2)) (nI_add (4 * q) 2) ?_
    refine ow_sld (k := 4 * q + 2) hx hb hSc hbl hbA hS (by omega) (by omega) dL_law_508 ?_
    refine lv_if_eq (tgt := 516) hx hb dL_law_509 (by decide) (fun c_509 => ?_) (fun c_509 => (c_509 c_482).elim)
    refine lv_iconst (v := 0) hx hb dL_law_516 (by decide +kernel) ?_
    refine ow_calli (wr := [(hX, .inr (0, [.ref aX, .ref bX, .int (nI N')])), (aX, .inl (cA, 1000, .inl f1)), (bX, .inl (cB, 1000, .inl g1)), (o, .inl (cO, 1, .inr (.inl oo1)))]) (va_runV (As := [.int (xs (4 * q + 1)), .int 0]) (rest := []) ⟨hx, hb, hml, hown, hts⟩ (c_M_next l dC dI hM aM bM cC cD th N L f2 as tt r N' L' _ ok hf2 ((xs (4 * q + 1))) 0 hsp) (cwV 2 hts gT_law_X1_next rfl rfl rfl (by decide +kernel) ⟨Nat.le_of_ble_eq_true rfl, Nat.le_of_ble_eq_true rfl⟩) (ow_PreV (hK.sub (tys' := [(cC, .int), (cD, .int)]) [3, 4] rfl) (hP.sub (ws' := (wM hM aM bM cC cD (th, nI N, f2, as))) [0, 1, 2] rfl) (hD.sub (ws' := (wM hM aM bM cC cD (th, nI N, f2, as))) [0, 1, 2] (by decide) rfl) (ci := 1) (q0 := 0) rfl rfl) rfl rfl hl.1 rfl (lv_room (Nat.le_of_ble_eq_true rfl)) dL_law_517 ⟨by show 8 + q + 0 ≤ 1032; omega, by show 4014 + 6 * q + 0 ≤ 12206; omega⟩) hP hD hS hA [0, 1, 2] [3, 4, 5, 6] rfl rfl (by decide) (by decide) (fun r0 u H locs hw hP hD hS => ?_)
    obtain ⟨v1, v2, v3, v4⟩ := u
    obtain ⟨er, e1, e2, hf9⟩ := hw
    obtain rfl : tt = v1 := e1.symm
    obtain rfl : nI N' = v2 := e2.symm
    refine ow_top (z := r) er ?_
    have hP : va_P (dC, dI) vwCl [(hX, .inr (0, [.ref aX, .ref bX, .int (nI N')])), (aX, .inl (cA, 1000, .inl f1)), (bX, .inl (cB, 1000, .inl g1)), (o, .inl (cO, 1, .inr (.inl oo1))), (hM, .inr (1, [.int tt, .ref aM, .int (nI N'), .ref bM])), (aM, .inl (cC, 1000, .inl v3)), (bM, .inl (cD, 1000, .inl v4))] H := hP
    have hD : va_D A [(hX, .inr (0, [.ref aX, .ref bX, .int (nI N')])), (aX, .inl (cA, 1000, .inl f1)), (bX, .inl (cB, 1000, .inl g1)), (o, .inl (cO, 1, .inr (.inl oo1))), (hM, .inr (1, [.int tt, .ref aM, .int (nI N'), .ref bM])), (aM, .inl (cC, 1000, .inl v3)), (bM, .inl (cD, 1000, .inl v4))] := hD
    refine lv_istore (lv' := [(6, .int r), (5, .int tt), (0, .ref b), (1, .ref hX), (2, .ref hM), (3, .ref o), (4, .int (nI (4 * q)))]) hx hb dL_law_520 hl (by decide) rfl (fun ls hl => ?_)
    refine lv_aload_n hx hb dL_law_522 rfl (lv_at hl 4 rfl) ?_
    refine ow_callR (r := tt) (W.runV (As := []) (rest := []) ⟨hx, hb, hml, hown, htsL⟩ (c_M_thrown l dC dI hM aM bM cC cD tt (nI N') v3 v4) (cwV 0 htsL gL_law_X1_thrown rfl rfl rfl (by decide +kernel) ⟨Nat.le_of_ble_eq_true rfl, Nat.le_of_ble_eq_true rfl⟩) (ow_PreR (hK.sub (tys' := [(cC, .int), (cD, .int)]) [3, 4] rfl) (hP.sub (ws' := (wM hM aM bM cC cD (tt, nI N', v3, v4))) [4, 5, 6] rfl) (ci := 1) (q0 := 0) rfl rfl) rfl rfl hl.1 rfl (lv_room (Nat.le_of_ble_eq_true rfl)) dL_law_523 ⟨by show 8 + q + 0 ≤ 1032; omega, by show 4014 + 6 * q + 0 ≤ 12206; omega⟩) ?_
    refine lv_iload hx hb dL_law_526 (lv_at hl 1 rfl) ?_
    refine lv_icmp_eq (tgt := 533) hx hb dL_law_528 (by decide) (fun c_528 => ?_) (fun c_528 => (c_528 rfl).elim)
    refine lv_iload hx hb dL_law_533 (lv_at hl 1 rfl) ?_
    refine lv_if_ne (tgt := 550) hx hb dL_law_535 (by decide) (fun c_535 => ?_) (fun c_535 => ?_)
    · refine lv_goto (tgt := 763) hx hb dL_law_550 (by decide) ?_
      exact hk N' L' f1 g1 v3 v4 tt oo1 H locs ls ok' hf1 hg1 hf9 (hP.sub [0, 1, 2, 3, 4, 5, 6] rfl) (hD.sub [0, 1, 2, 3, 4, 5, 6] (by decide) rfl) hS (lv_sub hl [2, 3, 4, 5, 6] rfl)
    · refine lv_aload_n hx hb dL_law_538 rfl (lv_at hl 5 rfl) ?_
      refine lv_iconst (v := 0) hx hb dL_law_539 (by decide +kernel) ?_
      refine ow_lald (k := 0) (v := r.toInt64) hx hb hK hP 3 2 rfl rfl nI_0.symm (by decide) (by decide) (hoo c_535) dL_law_540 ?_
      refine lv_iload hx hb dL_law_541 (lv_at hl 0 rfl) ?_
      refine lv_i2l (v := r.toInt64) hx hb dL_law_543 rfl ?_
      refine W.lcmp hx hb dL_law_544 ?_
      refine lv_if_eq (tgt := 550) hx hb dL_law_545 (by decide) (fun c_545 => ?_) (fun c_545 => (c_545 ((lg_cmp_eq _ _).mpr rfl)).elim)
      refine lv_goto (tgt := 763) hx hb dL_law_550 (by decide) ?_
      exact hk N' L' f1 g1 v3 v4 tt oo1 H locs ls ok' hf1 hg1 hf9 (hP.sub [0, 1, 2, 3, 4, 5, 6] rfl) (hD.sub [0, 1, 2, 3, 4, 5, 6] (by decide) rfl) hS (lv_sub hl [2, 3, 4, 5, 6] rfl)
  · refine lv_iconst (v := 1) hx hb dL_law_485 (by decide +kernel) ?_
    refine lv_goto (tgt := 490) hx hb dL_law_486 (by decide) ?_
    refine lv_aload_n hx hb dL_law_490 rfl (lv_at hl 3 rfl) ?_
    obtain ⟨tt, r, N', L', hsp, ok'⟩ := ex_next ok ((xs (4 * q + 1))) 1
    refine ow_calli (wr := [(hM, .inr (1, [.int th, .ref aM, .int (nI N), .ref bM])), (aM, .inl (cC, 1000, .inl f2)), (bM, .inl (cD, 1000, .inl as))]) (vx_runSW (As := [.ref hX, .int (xs (4 * q + 1)), .int 1, .ref o]) (rest := []) ⟨hx, hb, hml, hown, htsL⟩ (c_L_next l dC dI hfl hX aX bX o cA cB cO N L f g oo tt r N' L' _ ok hf hg ((xs (4 * q + 1))) 1 hsp) (vx_cwSW 4 htsL gL_law_L_next rfl rfl rfl (by decide +kernel) ⟨Nat.le_of_ble_eq_true rfl, Nat.le_of_ble_eq_true rfl⟩) (ow_PreSx (hK.sub (tys' := [(cA, .int), (cB, .int), (cO, .long)]) [0, 1, 2] rfl) (hP.sub (ws' := (wO hX aX bX o cA cB cO ((nI N, f, g), oo))) [0, 1, 2, 3] rfl) (hD.sub (ws' := (wO hX aX bX o cA cB cO ((nI N, f, g), oo))) [0, 1, 2, 3] (by decide) rfl) hZs hS) rfl rfl hl.1 rfl (lv_room (Nat.le_of_ble_eq_true rfl)) dL_law_491 ⟨by show 7 + q + 1 ≤ 1032; omega, by show 4008 + 6 * q + 6 ≤ 12206; omega⟩) hP hD hS hA [0, 1, 2, 3] [4, 5, 6] rfl rfl (by decide) (by decide) (fun r0 u H locs hw hP hD hS => ?_)
    refine W.widen (k := 8 + q) (n := 4014 + 6 * q) (by omega) (by omega) ?_
    obtain ⟨⟨a1, f1, g1⟩, oo1⟩ := u
    obtain ⟨er, hoo, e1, hf1, hg1⟩ := hw
    obtain rfl : nI N' = a1 := e1.symm
    refine ow_top (z := tt) er ?_
    have hP : va_P (dC, dI) vwCl [(hM, .inr (1, [.int th, .ref aM, .int (nI N), .ref bM])), (aM, .inl (cC, 1000, .inl f2)), (bM, .inl (cD, 1000, .inl as)), (hX, .inr (0, [.ref aX, .ref bX, .int (nI N')])), (aX, .inl (cA, 1000, .inl f1)), (bX, .inl (cB, 1000, .inl g1)), (o, .inl (cO, 1, .inr (.inl oo1)))] H := hP
    have hD : va_D A [(hM, .inr (1, [.int th, .ref aM, .int (nI N), .ref bM])), (aM, .inl (cC, 1000, .inl f2)), (bM, .inl (cD, 1000, .inl as)), (hX, .inr (0, [.ref aX, .ref bX, .int (nI N')])), (aX, .inl (cA, 1000, .inl f1)), (bX, .inl (cB, 1000, .inl g1)), (o, .inl (cO, 1, .inr (.inl oo1)))] := hD
    refine lv_istore (lv' := [(5, .int tt), (0, .ref b), (1, .ref hX), (2, .ref hM), (3, .ref o), (4, .int (nI (4 * q)))]) hx hb dL_law_494 hl (by decide) rfl (fun ls hl => ?_)
    refine lv_aload_n hx hb dL_law_496 rfl (lv_at hl 3 rfl) ?_
    refine lv_aload_n hx hb dL_law_497 rfl (lv_at hl 1 rfl) ?_
    refine lv_iload hx hb dL_law_498 (lv_at hl 5 rfl) ?_
    refine lv_iconst (v := 1) hx hb dL_law_500 (by decide +kernel) ?_
    refine lv_iadd hx hb dL_law_501 ?_
    refine ow_top (z := nI (4 * q + 1)) (nI_1 (4 * q)) ?_
    refine ow_sld (k := 4 * q + 1) hx hb hSc hbl hbA hS (by omega) (by omega) dL_law_502 ?_
    refine lv_aload_n hx hb dL_law_503 rfl (lv_at hl 1 rfl) ?_
    refine lv_iload hx hb dL_law_504 (lv_at hl 5 rfl) ?_
    refine lv_iconst (v := nI 2) hx hb dL_law_506 (by decide +kernel) ?_
    refine lv_iadd hx hb dL_law_507 ?_
    refine ow_top (z := nI (4 * q + 2)) (nI_add (4 * q) 2) ?_
    refine ow_sld (k := 4 * q + 2) hx hb hSc hbl hbA hS (by omega) (by omega) dL_law_508 ?_
    refine lv_if_eq (tgt := 516) hx hb dL_law_509 (by decide) (fun c_509 => (c_482 c_509).elim) (fun c_509 => ?_)
    refine lv_iconst (v := 1) hx hb dL_law_512 (by decide +kernel) ?_
    refine lv_goto (tgt := 517) hx hb dL_law_513 (by decide) ?_
    refine ow_calli (wr := [(hX, .inr (0, [.ref aX, .ref bX, .int (nI N')])), (aX, .inl (cA, 1000, .inl f1)), (bX, .inl (cB, 1000, .inl g1)), (o, .inl (cO, 1, .inr (.inl oo1)))]) (va_runV (As := [.int (xs (4 * q + 1)), .int 1]) (rest := []) ⟨hx, hb, hml, hown, hts⟩ (c_M_next l dC dI hM aM bM cC cD th N L f2 as tt r N' L' _ ok hf2 ((xs (4 * q + 1))) 1 hsp) (cwV 2 hts gT_law_X1_next rfl rfl rfl (by decide +kernel) ⟨Nat.le_of_ble_eq_true rfl, Nat.le_of_ble_eq_true rfl⟩) (ow_PreV (hK.sub (tys' := [(cC, .int), (cD, .int)]) [3, 4] rfl) (hP.sub (ws' := (wM hM aM bM cC cD (th, nI N, f2, as))) [0, 1, 2] rfl) (hD.sub (ws' := (wM hM aM bM cC cD (th, nI N, f2, as))) [0, 1, 2] (by decide) rfl) (ci := 1) (q0 := 0) rfl rfl) rfl rfl hl.1 rfl (lv_room (Nat.le_of_ble_eq_true rfl)) dL_law_517 ⟨by show 8 + q + 0 ≤ 1032; omega, by show 4014 + 6 * q + 0 ≤ 12206; omega⟩) hP hD hS hA [0, 1, 2] [3, 4, 5, 6] rfl rfl (by decide) (by decide) (fun r0 u H locs hw hP hD hS => ?_)
    obtain ⟨v1, v2, v3, v4⟩ := u
    obtain ⟨er, e1, e2, hf9⟩ := hw
    obtain rfl : tt = v1 := e1.symm
    obtain rfl : nI N' = v2 := e2.symm
    refine ow_top (z := r) er ?_
    have hP : va_P (dC, dI) vwCl [(hX, .inr (0, [.ref aX, .ref bX, .int (nI N')])), (aX, .inl (cA, 1000, .inl f1)), (bX, .inl (cB, 1000, .inl g1)), (o, .inl (cO, 1, .inr (.inl oo1))), (hM, .inr (1, [.int tt, .ref aM, .int (nI N'), .ref bM])), (aM, .inl (cC, 1000, .inl v3)), (bM, .inl (cD, 1000, .inl v4))] H := hP
    have hD : va_D A [(hX, .inr (0, [.ref aX, .ref bX, .int (nI N')])), (aX, .inl (cA, 1000, .inl f1)), (bX, .inl (cB, 1000, .inl g1)), (o, .inl (cO, 1, .inr (.inl oo1))), (hM, .inr (1, [.int tt, .ref aM, .int (nI N'), .ref bM])), (aM, .inl (cC, 1000, .inl v3)), (bM, .inl (cD, 1000, .inl v4))] := hD
    refine lv_istore (lv' := [(6, .int r), (5, .int tt), (0, .ref b), (1, .ref hX), (2, .ref hM), (3, .ref o), (4, .int (nI (4 * q)))]) hx hb dL_law_520 hl (by decide) rfl (fun ls hl => ?_)
    refine lv_aload_n hx hb dL_law_522 rfl (lv_at hl 4 rfl) ?_
    refine ow_callR (r := tt) (W.runV (As := []) (rest := []) ⟨hx, hb, hml, hown, htsL⟩ (c_M_thrown l dC dI hM aM bM cC cD tt (nI N') v3 v4) (cwV 0 htsL gL_law_X1_thrown rfl rfl rfl (by decide +kernel) ⟨Nat.le_of_ble_eq_true rfl, Nat.le_of_ble_eq_true rfl⟩) (ow_PreR (hK.sub (tys' := [(cC, .int), (cD, .int)]) [3, 4] rfl) (hP.sub (ws' := (wM hM aM bM cC cD (tt, nI N', v3, v4))) [4, 5, 6] rfl) (ci := 1) (q0 := 0) rfl rfl) rfl rfl hl.1 rfl (lv_room (Nat.le_of_ble_eq_true rfl)) dL_law_523 ⟨by show 8 + q + 0 ≤ 1032; omega, by show 4014 + 6 * q + 0 ≤ 12206; omega⟩) ?_
    refine lv_iload hx hb dL_law_526 (lv_at hl 1 rfl) ?_
    refine lv_icmp_eq (tgt := 533) hx hb dL_law_528 (by decide) (fun c_528 => ?_) (fun c_528 => (c_528 rfl).elim)
    refine lv_iload hx hb dL_law_533 (lv_at hl 1 rfl) ?_
    refine lv_if_ne (tgt := 550) hx hb dL_law_535 (by decide) (fun c_535 => ?_) (fun c_535 => ?_)
    · refine lv_goto (tgt := 763) hx hb dL_law_550 (by decide) ?_
      exact hk N' L' f1 g1 v3 v4 tt oo1 H locs ls ok' hf1 hg1 hf9 (hP.sub [0, 1, 2, 3, 4, 5, 6] rfl) (hD.sub [0, 1, 2, 3, 4, 5, 6] (by decide) rfl) hS (lv_sub hl [2, 3, 4, 5, 6] rfl)
    · refine lv_aload_n hx hb dL_law_538 rfl (lv_at hl 5 rfl) ?_
      refine lv_iconst (v := 0) hx hb dL_law_539 (by decide +kernel) ?_
      refine ow_lald (k := 0) (v := r.toInt64) hx hb hK hP 3 2 rfl rfl nI_0.symm (by decide) (by decide) (hoo c_535) dL_law_540 ?_
      refine lv_iload hx hb dL_law_541 (lv_at hl 0 rfl) ?_
      refine lv_i2l (v := r.toInt64) hx hb dL_law_543 rfl ?_
      refine W.lcmp hx hb dL_law_544 ?_
      refine lv_if_eq (tgt := 550) hx hb dL_law_545 (by decide) (fun c_545 => ?_) (fun c_545 => (c_545 ((lg_cmp_eq _ _).mpr rfl)).elim)
      refine lv_goto (tgt := 763) hx hb dL_law_550 (by decide) ?_
      exact hk N' L' f1 g1 v3 v4 tt oo1 H locs ls ok' hf1 hg1 hf9 (hP.sub [0, 1, 2, 3, 4, 5, 6] rfl) (hD.sub [0, 1, 2, 3, 4, 5, 6] (by decide) rfl) hS (lv_sub hl [2, 3, 4, 5, 6] rfl)
set_option maxHeartbeats 4000000 in
set_option maxRecDepth 100000 in
/-- a call of has -/
theorem law_has {pg : Program} {l : Launch} {ev : Env} {s : State} {m : MethodId} {below : List Frame} {meth : Method} {cd : Code} {b LN : Nat} {xs : Nat → Int32} {dC : Nat → ClassId} {dI : Nat → Nat → Nat} {A : Nat → Prop} {hX aX bX o hM aM bM : Nat} {cA cB cO cC cD : ClassId} {q : Nat} (C0 : lw_At pg s m meth cd b LN xs) (hLN : LN ≤ 2048) (hq : 4 * q + 4 ≤ LN) (hfl : l.flags = flags0) (hK : va_K (dC, dI) vwCl [(cA, .int), (cB, .int), (cO, .long), (cC, .int), (cD, .int)] s) (hA : ∀ q : Nat, s.heap.size ≤ q → A q) (hbA : ¬ A b) (hZs : lw_Zs A s) (hk : lw_inv pg l ev s m below meth cd b dC dI A hX aX bX o hM aM bM cA cB cO cC cD q 763 (8 + q) (4014 + 6 * q)) : lw_inv pg l ev s m below meth cd b dC dI A hX aX bX o hM aM bM cA cB cO cC cD q 553 (7 + q) (4008 + 6 * q) := by
  obtain ⟨hx, hb, hr, hml, hown, hts, hSc, hbl, hlocks, hgv⟩ := C0
  have hown : s.vm.findClass RL = some m.cls := hown
  have htsL : ∀ w ∈ wsL_law, w.before #[Value.ref b] s = true := fun w h => hts w (wsL_law_in w h)
  intro N L f g f2 as th oo H locs ls ok hf hg hf2 hP hD hS hl
  refine W.widen (k := 8 + q) (n := 4014 + 6 * q) (by omega) (by omega) ?_
  obtain ⟨r, hh, -⟩ := ol_hs_ex N L (xs (4 * q + 1))
  refine lv_aload_n hx hb dL_law_553 rfl (lv_at hl 1 rfl) ?_
  refine lv_aload_n hx hb dL_law_554 rfl (lv_at hl 0 rfl) ?_
  refine lv_iload hx hb dL_law_555 (lv_at hl 4 rfl) ?_
  refine lv_iconst (v := 1) hx hb dL_law_557 (by decide +kernel) ?_
  refine lv_iadd hx hb dL_law_558 ?_
  refine ow_top (z := nI (4 * q + 1)) (nI_1 (4 * q)) ?_
  refine ow_sld (k := 4 * q + 1) hx hb hSc hbl hbA hS (by omega) (by omega) dL_law_559 ?_
  refine ow_callR (r := r) (W.runV (As := [.int (xs (4 * q + 1))]) (rest := []) ⟨hx, hb, hml, hown, htsL⟩ (c_X_has l dC dI hX aX bX cA cB N L f g (xs (4 * q + 1)) r ok hg hh) (cwV 1 htsL gL_law_X0_has rfl rfl rfl (by decide +kernel) ⟨Nat.le_of_ble_eq_true rfl, Nat.le_of_ble_eq_true rfl⟩) (ow_PreR (hK.sub (tys' := [(cA, .int), (cB, .int)]) [0, 1] rfl) (hP.sub (ws' := (wX hX aX bX cA cB (nI N, f, g))) [0, 1, 2] rfl) (ci := 0) (q0 := 0) rfl rfl) rfl rfl hl.1 rfl (lv_room (Nat.le_of_ble_eq_true rfl)) dL_law_560 ⟨by show 8 + q + 0 ≤ 1032; omega, by show 4014 + 6 * q + 0 ≤ 12206; omega⟩) ?_
  refine lv_aload_n hx hb dL_law_563 rfl (lv_at hl 2 rfl) ?_
  refine lv_aload_n hx hb dL_law_564 rfl (lv_at hl 0 rfl) ?_
  refine lv_iload hx hb dL_law_565 (lv_at hl 4 rfl) ?_
  refine lv_iconst (v := 1) hx hb dL_law_567 (by decide +kernel) ?_
  refine lv_iadd hx hb dL_law_568 ?_
  refine ow_top (z := nI (4 * q + 1)) (nI_1 (4 * q)) ?_
  refine ow_sld (k := 4 * q + 1) hx hb hSc hbl hbA hS (by omega) (by omega) dL_law_569 ?_
  refine ow_calli (wr := [(hX, .inr (0, [.ref aX, .ref bX, .int (nI N)])), (aX, .inl (cA, 1000, .inl f)), (bX, .inl (cB, 1000, .inl g)), (o, .inl (cO, 1, .inr (.inl oo)))]) (va_runV (As := [.int (xs (4 * q + 1))]) (rest := [.int r]) ⟨hx, hb, hml, hown, hts⟩ (c_M_has l dC dI hM aM bM cC cD th N L f2 as r _ ok hf2 (xs (4 * q + 1)) hh) (cwV 1 hts gT_law_X1_has rfl rfl rfl (by decide +kernel) ⟨Nat.le_of_ble_eq_true rfl, Nat.le_of_ble_eq_true rfl⟩) (ow_PreV (hK.sub (tys' := [(cC, .int), (cD, .int)]) [3, 4] rfl) (hP.sub (ws' := (wM hM aM bM cC cD (th, nI N, f2, as))) [4, 5, 6] rfl) (hD.sub (ws' := (wM hM aM bM cC cD (th, nI N, f2, as))) [4, 5, 6] (by decide) rfl) (ci := 1) (q0 := 0) rfl rfl) rfl rfl hl.1 rfl (lv_room (Nat.le_of_ble_eq_true rfl)) dL_law_570 ⟨by show 8 + q + 0 ≤ 1032; omega, by show 4014 + 6 * q + 0 ≤ 12206; omega⟩) hP hD hS hA [4, 5, 6] [0, 1, 2, 3] rfl rfl (by decide) (by decide) (fun r0 u H locs hw hP hD hS => ?_)
  obtain ⟨er, eu⟩ := hw
  subst eu
  refine ow_top (z := r) er ?_
  have hP : va_P (dC, dI) vwCl [(hX, .inr (0, [.ref aX, .ref bX, .int (nI N)])), (aX, .inl (cA, 1000, .inl f)), (bX, .inl (cB, 1000, .inl g)), (o, .inl (cO, 1, .inr (.inl oo))), (hM, .inr (1, [.int 0, .ref aM, .int (nI N), .ref bM])), (aM, .inl (cC, 1000, .inl f2)), (bM, .inl (cD, 1000, .inl as))] H := hP
  have hD : va_D A [(hX, .inr (0, [.ref aX, .ref bX, .int (nI N)])), (aX, .inl (cA, 1000, .inl f)), (bX, .inl (cB, 1000, .inl g)), (o, .inl (cO, 1, .inr (.inl oo))), (hM, .inr (1, [.int 0, .ref aM, .int (nI N), .ref bM])), (aM, .inl (cC, 1000, .inl f2)), (bM, .inl (cD, 1000, .inl as))] := hD
  refine lv_icmp_eq (tgt := 763) hx hb dL_law_573 (by decide) (fun c_573 => ?_) (fun c_573 => (c_573 rfl).elim)
  exact hk N L f g f2 as 0 oo H locs ls ok hf hg hf2 (hP.sub [0, 1, 2, 3, 4, 5, 6] rfl) (hD.sub [0, 1, 2, 3, 4, 5, 6] (by decide) rfl) hS (lv_sub hl [0, 1, 2, 3, 4] rfl)
set_option maxHeartbeats 4000000 in
set_option maxRecDepth 100000 in
/-- a call of place -/
theorem law_place {pg : Program} {l : Launch} {ev : Env} {s : State} {m : MethodId} {below : List Frame} {meth : Method} {cd : Code} {b LN : Nat} {xs : Nat → Int32} {dC : Nat → ClassId} {dI : Nat → Nat → Nat} {A : Nat → Prop} {hX aX bX o hM aM bM : Nat} {cA cB cO cC cD : ClassId} {q : Nat} (C0 : lw_At pg s m meth cd b LN xs) (hLN : LN ≤ 2048) (hq : 4 * q + 4 ≤ LN) (hfl : l.flags = flags0) (hK : va_K (dC, dI) vwCl [(cA, .int), (cB, .int), (cO, .long), (cC, .int), (cD, .int)] s) (hA : ∀ q : Nat, s.heap.size ≤ q → A q) (hbA : ¬ A b) (hZs : lw_Zs A s) (hk : lw_inv pg l ev s m below meth cd b dC dI A hX aX bX o hM aM bM cA cB cO cC cD q 763 (8 + q) (4014 + 6 * q)) : lw_inv pg l ev s m below meth cd b dC dI A hX aX bX o hM aM bM cA cB cO cC cD q 578 (7 + q) (4008 + 6 * q) := by
  obtain ⟨hx, hb, hr, hml, hown, hts, hSc, hbl, hlocks, hgv⟩ := C0
  have hown : s.vm.findClass RL = some m.cls := hown
  have htsL : ∀ w ∈ wsL_law, w.before #[Value.ref b] s = true := fun w h => hts w (wsL_law_in w h)
  intro N L f g f2 as th oo H locs ls ok hf hg hf2 hP hD hS hl
  refine lv_aload_n hx hb dL_law_578 rfl (lv_at hl 1 rfl) ?_
  refine lv_aload_n hx hb dL_law_579 rfl (lv_at hl 0 rfl) ?_
  refine lv_iload hx hb dL_law_580 (lv_at hl 4 rfl) ?_
  refine lv_iconst (v := 1) hx hb dL_law_582 (by decide +kernel) ?_
  refine lv_iadd hx hb dL_law_583 ?_
  refine ow_top (z := nI (4 * q + 1)) (nI_1 (4 * q)) ?_
  refine ow_sld (k := 4 * q + 1) hx hb hSc hbl hbA hS (by omega) (by omega) dL_law_584 ?_
  refine lv_aload_n hx hb dL_law_585 rfl (lv_at hl 3 rfl) ?_
  obtain ⟨tt, r, N', L', hsp, ok'⟩ := ex_place ok ((xs (4 * q + 1)))
  refine ow_calli (wr := [(hM, .inr (1, [.int th, .ref aM, .int (nI N), .ref bM])), (aM, .inl (cC, 1000, .inl f2)), (bM, .inl (cD, 1000, .inl as))]) (vx_runSW (As := [.ref hX, .int (xs (4 * q + 1)), .ref o]) (rest := []) ⟨hx, hb, hml, hown, htsL⟩ (c_L_place l dC dI hfl hX aX bX o cA cB cO N L f g oo tt r N' L' _ ok hf hg ((xs (4 * q + 1))) hsp) (vx_cwSW 3 htsL gL_law_L_place rfl rfl rfl (by decide +kernel) ⟨Nat.le_of_ble_eq_true rfl, Nat.le_of_ble_eq_true rfl⟩) (ow_PreSx (hK.sub (tys' := [(cA, .int), (cB, .int), (cO, .long)]) [0, 1, 2] rfl) (hP.sub (ws' := (wO hX aX bX o cA cB cO ((nI N, f, g), oo))) [0, 1, 2, 3] rfl) (hD.sub (ws' := (wO hX aX bX o cA cB cO ((nI N, f, g), oo))) [0, 1, 2, 3] (by decide) rfl) hZs hS) rfl rfl hl.1 rfl (lv_room (Nat.le_of_ble_eq_true rfl)) dL_law_586 ⟨by show 7 + q + 1 ≤ 1032; omega, by show 4008 + 6 * q + 6 ≤ 12206; omega⟩) hP hD hS hA [0, 1, 2, 3] [4, 5, 6] rfl rfl (by decide) (by decide) (fun r0 u H locs hw hP hD hS => ?_)
  refine W.widen (k := 8 + q) (n := 4014 + 6 * q) (by omega) (by omega) ?_
  obtain ⟨⟨a1, f1, g1⟩, oo1⟩ := u
  obtain ⟨er, hoo, e1, hf1, hg1⟩ := hw
  obtain rfl : nI N' = a1 := e1.symm
  refine ow_top (z := tt) er ?_
  have hP : va_P (dC, dI) vwCl [(hM, .inr (1, [.int th, .ref aM, .int (nI N), .ref bM])), (aM, .inl (cC, 1000, .inl f2)), (bM, .inl (cD, 1000, .inl as)), (hX, .inr (0, [.ref aX, .ref bX, .int (nI N')])), (aX, .inl (cA, 1000, .inl f1)), (bX, .inl (cB, 1000, .inl g1)), (o, .inl (cO, 1, .inr (.inl oo1)))] H := hP
  have hD : va_D A [(hM, .inr (1, [.int th, .ref aM, .int (nI N), .ref bM])), (aM, .inl (cC, 1000, .inl f2)), (bM, .inl (cD, 1000, .inl as)), (hX, .inr (0, [.ref aX, .ref bX, .int (nI N')])), (aX, .inl (cA, 1000, .inl f1)), (bX, .inl (cB, 1000, .inl g1)), (o, .inl (cO, 1, .inr (.inl oo1)))] := hD
  refine lv_istore (lv' := [(5, .int tt), (0, .ref b), (1, .ref hX), (2, .ref hM), (3, .ref o), (4, .int (nI (4 * q)))]) hx hb dL_law_589 hl (by decide) rfl (fun ls hl => ?_)
  refine lv_aload_n hx hb dL_law_591 rfl (lv_at hl 3 rfl) ?_
  refine lv_aload_n hx hb dL_law_592 rfl (lv_at hl 1 rfl) ?_
  refine lv_iload hx hb dL_law_593 (lv_at hl 5 rfl) ?_
  refine lv_iconst (v := 1) hx hb dL_law_595 (by decide +kernel) ?_
  refine lv_iadd hx hb dL_law_596 ?_
  refine ow_top (z := nI (4 * q + 1)) (nI_1 (4 * q)) ?_
  refine ow_sld (k := 4 * q + 1) hx hb hSc hbl hbA hS (by omega) (by omega) dL_law_597 ?_
  refine ow_calli (wr := [(hX, .inr (0, [.ref aX, .ref bX, .int (nI N')])), (aX, .inl (cA, 1000, .inl f1)), (bX, .inl (cB, 1000, .inl g1)), (o, .inl (cO, 1, .inr (.inl oo1)))]) (va_runV (As := [.int (xs (4 * q + 1))]) (rest := []) ⟨hx, hb, hml, hown, hts⟩ (c_M_place l dC dI hM aM bM cC cD th N L f2 as tt r N' L' _ ok hf2 ((xs (4 * q + 1))) hsp) (cwV 1 hts gT_law_X1_place rfl rfl rfl (by decide +kernel) ⟨Nat.le_of_ble_eq_true rfl, Nat.le_of_ble_eq_true rfl⟩) (ow_PreV (hK.sub (tys' := [(cC, .int), (cD, .int)]) [3, 4] rfl) (hP.sub (ws' := (wM hM aM bM cC cD (th, nI N, f2, as))) [0, 1, 2] rfl) (hD.sub (ws' := (wM hM aM bM cC cD (th, nI N, f2, as))) [0, 1, 2] (by decide) rfl) (ci := 1) (q0 := 0) rfl rfl) rfl rfl hl.1 rfl (lv_room (Nat.le_of_ble_eq_true rfl)) dL_law_598 ⟨by show 8 + q + 0 ≤ 1032; omega, by show 4014 + 6 * q + 0 ≤ 12206; omega⟩) hP hD hS hA [0, 1, 2] [3, 4, 5, 6] rfl rfl (by decide) (by decide) (fun r0 u H locs hw hP hD hS => ?_)
  obtain ⟨v1, v2, v3, v4⟩ := u
  obtain ⟨er, e1, e2, hf9⟩ := hw
  obtain rfl : tt = v1 := e1.symm
  obtain rfl : nI N' = v2 := e2.symm
  refine ow_top (z := r) er ?_
  have hP : va_P (dC, dI) vwCl [(hX, .inr (0, [.ref aX, .ref bX, .int (nI N')])), (aX, .inl (cA, 1000, .inl f1)), (bX, .inl (cB, 1000, .inl g1)), (o, .inl (cO, 1, .inr (.inl oo1))), (hM, .inr (1, [.int tt, .ref aM, .int (nI N'), .ref bM])), (aM, .inl (cC, 1000, .inl v3)), (bM, .inl (cD, 1000, .inl v4))] H := hP
  have hD : va_D A [(hX, .inr (0, [.ref aX, .ref bX, .int (nI N')])), (aX, .inl (cA, 1000, .inl f1)), (bX, .inl (cB, 1000, .inl g1)), (o, .inl (cO, 1, .inr (.inl oo1))), (hM, .inr (1, [.int tt, .ref aM, .int (nI N'), .ref bM])), (aM, .inl (cC, 1000, .inl v3)), (bM, .inl (cD, 1000, .inl v4))] := hD
  refine lv_istore (lv' := [(6, .int r), (5, .int tt), (0, .ref b), (1, .ref hX), (2, .ref hM), (3, .ref o), (4, .int (nI (4 * q)))]) hx hb dL_law_601 hl (by decide) rfl (fun ls hl => ?_)
  refine lv_aload_n hx hb dL_law_603 rfl (lv_at hl 4 rfl) ?_
  refine ow_callR (r := tt) (W.runV (As := []) (rest := []) ⟨hx, hb, hml, hown, htsL⟩ (c_M_thrown l dC dI hM aM bM cC cD tt (nI N') v3 v4) (cwV 0 htsL gL_law_X1_thrown rfl rfl rfl (by decide +kernel) ⟨Nat.le_of_ble_eq_true rfl, Nat.le_of_ble_eq_true rfl⟩) (ow_PreR (hK.sub (tys' := [(cC, .int), (cD, .int)]) [3, 4] rfl) (hP.sub (ws' := (wM hM aM bM cC cD (tt, nI N', v3, v4))) [4, 5, 6] rfl) (ci := 1) (q0 := 0) rfl rfl) rfl rfl hl.1 rfl (lv_room (Nat.le_of_ble_eq_true rfl)) dL_law_604 ⟨by show 8 + q + 0 ≤ 1032; omega, by show 4014 + 6 * q + 0 ≤ 12206; omega⟩) ?_
  refine lv_iload hx hb dL_law_607 (lv_at hl 1 rfl) ?_
  refine lv_icmp_eq (tgt := 614) hx hb dL_law_609 (by decide) (fun c_609 => ?_) (fun c_609 => (c_609 rfl).elim)
  refine lv_iload hx hb dL_law_614 (lv_at hl 1 rfl) ?_
  refine lv_if_ne (tgt := 631) hx hb dL_law_616 (by decide) (fun c_616 => ?_) (fun c_616 => ?_)
  · refine lv_goto (tgt := 763) hx hb dL_law_631 (by decide) ?_
    exact hk N' L' f1 g1 v3 v4 tt oo1 H locs ls ok' hf1 hg1 hf9 (hP.sub [0, 1, 2, 3, 4, 5, 6] rfl) (hD.sub [0, 1, 2, 3, 4, 5, 6] (by decide) rfl) hS (lv_sub hl [2, 3, 4, 5, 6] rfl)
  · refine lv_aload_n hx hb dL_law_619 rfl (lv_at hl 5 rfl) ?_
    refine lv_iconst (v := 0) hx hb dL_law_620 (by decide +kernel) ?_
    refine ow_lald (k := 0) (v := r.toInt64) hx hb hK hP 3 2 rfl rfl nI_0.symm (by decide) (by decide) (hoo c_616) dL_law_621 ?_
    refine lv_iload hx hb dL_law_622 (lv_at hl 0 rfl) ?_
    refine lv_i2l (v := r.toInt64) hx hb dL_law_624 rfl ?_
    refine W.lcmp hx hb dL_law_625 ?_
    refine lv_if_eq (tgt := 631) hx hb dL_law_626 (by decide) (fun c_626 => ?_) (fun c_626 => (c_626 ((lg_cmp_eq _ _).mpr rfl)).elim)
    refine lv_goto (tgt := 763) hx hb dL_law_631 (by decide) ?_
    exact hk N' L' f1 g1 v3 v4 tt oo1 H locs ls ok' hf1 hg1 hf9 (hP.sub [0, 1, 2, 3, 4, 5, 6] rfl) (hD.sub [0, 1, 2, 3, 4, 5, 6] (by decide) rfl) hS (lv_sub hl [2, 3, 4, 5, 6] rfl)
set_option maxHeartbeats 4000000 in
set_option maxRecDepth 100000 in
/-- a call of at -/
theorem law_at {pg : Program} {l : Launch} {ev : Env} {s : State} {m : MethodId} {below : List Frame} {meth : Method} {cd : Code} {b LN : Nat} {xs : Nat → Int32} {dC : Nat → ClassId} {dI : Nat → Nat → Nat} {A : Nat → Prop} {hX aX bX o hM aM bM : Nat} {cA cB cO cC cD : ClassId} {q : Nat} (C0 : lw_At pg s m meth cd b LN xs) (hLN : LN ≤ 2048) (hq : 4 * q + 4 ≤ LN) (hfl : l.flags = flags0) (hK : va_K (dC, dI) vwCl [(cA, .int), (cB, .int), (cO, .long), (cC, .int), (cD, .int)] s) (hA : ∀ q : Nat, s.heap.size ≤ q → A q) (hbA : ¬ A b) (hZs : lw_Zs A s) (hk : lw_inv pg l ev s m below meth cd b dC dI A hX aX bX o hM aM bM cA cB cO cC cD q 763 (8 + q) (4014 + 6 * q)) : lw_inv pg l ev s m below meth cd b dC dI A hX aX bX o hM aM bM cA cB cO cC cD q 634 (7 + q) (4008 + 6 * q) := by
  obtain ⟨hx, hb, hr, hml, hown, hts, hSc, hbl, hlocks, hgv⟩ := C0
  have hown : s.vm.findClass RL = some m.cls := hown
  have htsL : ∀ w ∈ wsL_law, w.before #[Value.ref b] s = true := fun w h => hts w (wsL_law_in w h)
  intro N L f g f2 as th oo H locs ls ok hf hg hf2 hP hD hS hl
  refine W.widen (k := 8 + q) (n := 4014 + 6 * q) (by omega) (by omega) ?_
  obtain ⟨r, hh⟩ := ol_ps_ex ok.2.1 L (xs (4 * q + 1))
  refine lv_aload_n hx hb dL_law_634 rfl (lv_at hl 1 rfl) ?_
  refine lv_aload_n hx hb dL_law_635 rfl (lv_at hl 0 rfl) ?_
  refine lv_iload hx hb dL_law_636 (lv_at hl 4 rfl) ?_
  refine lv_iconst (v := 1) hx hb dL_law_638 (by decide +kernel) ?_
  refine lv_iadd hx hb dL_law_639 ?_
  refine ow_top (z := nI (4 * q + 1)) (nI_1 (4 * q)) ?_
  refine ow_sld (k := 4 * q + 1) hx hb hSc hbl hbA hS (by omega) (by omega) dL_law_640 ?_
  refine ow_callR (r := r) (W.runV (As := [.int (xs (4 * q + 1))]) (rest := []) ⟨hx, hb, hml, hown, htsL⟩ (c_X_at l dC dI hX aX bX cA cB N L f g (xs (4 * q + 1)) r ok hf hh) (cwV 1 htsL gL_law_X0_at rfl rfl rfl (by decide +kernel) ⟨Nat.le_of_ble_eq_true rfl, Nat.le_of_ble_eq_true rfl⟩) (ow_PreR (hK.sub (tys' := [(cA, .int), (cB, .int)]) [0, 1] rfl) (hP.sub (ws' := (wX hX aX bX cA cB (nI N, f, g))) [0, 1, 2] rfl) (ci := 0) (q0 := 0) rfl rfl) rfl rfl hl.1 rfl (lv_room (Nat.le_of_ble_eq_true rfl)) dL_law_641 ⟨by show 8 + q + 0 ≤ 1032; omega, by show 4014 + 6 * q + 0 ≤ 12206; omega⟩) ?_
  refine lv_aload_n hx hb dL_law_644 rfl (lv_at hl 2 rfl) ?_
  refine lv_aload_n hx hb dL_law_645 rfl (lv_at hl 0 rfl) ?_
  refine lv_iload hx hb dL_law_646 (lv_at hl 4 rfl) ?_
  refine lv_iconst (v := 1) hx hb dL_law_648 (by decide +kernel) ?_
  refine lv_iadd hx hb dL_law_649 ?_
  refine ow_top (z := nI (4 * q + 1)) (nI_1 (4 * q)) ?_
  refine ow_sld (k := 4 * q + 1) hx hb hSc hbl hbA hS (by omega) (by omega) dL_law_650 ?_
  refine ow_calli (wr := [(hX, .inr (0, [.ref aX, .ref bX, .int (nI N)])), (aX, .inl (cA, 1000, .inl f)), (bX, .inl (cB, 1000, .inl g)), (o, .inl (cO, 1, .inr (.inl oo)))]) (va_runV (As := [.int (xs (4 * q + 1))]) (rest := [.int r]) ⟨hx, hb, hml, hown, hts⟩ (c_M_at l dC dI hM aM bM cC cD th N L f2 as r _ ok hf2 (xs (4 * q + 1)) hh) (cwV 1 hts gT_law_X1_at rfl rfl rfl (by decide +kernel) ⟨Nat.le_of_ble_eq_true rfl, Nat.le_of_ble_eq_true rfl⟩) (ow_PreV (hK.sub (tys' := [(cC, .int), (cD, .int)]) [3, 4] rfl) (hP.sub (ws' := (wM hM aM bM cC cD (th, nI N, f2, as))) [4, 5, 6] rfl) (hD.sub (ws' := (wM hM aM bM cC cD (th, nI N, f2, as))) [4, 5, 6] (by decide) rfl) (ci := 1) (q0 := 0) rfl rfl) rfl rfl hl.1 rfl (lv_room (Nat.le_of_ble_eq_true rfl)) dL_law_651 ⟨by show 8 + q + 0 ≤ 1032; omega, by show 4014 + 6 * q + 0 ≤ 12206; omega⟩) hP hD hS hA [4, 5, 6] [0, 1, 2, 3] rfl rfl (by decide) (by decide) (fun r0 u H locs hw hP hD hS => ?_)
  obtain ⟨er, eu⟩ := hw
  subst eu
  refine ow_top (z := r) er ?_
  have hP : va_P (dC, dI) vwCl [(hX, .inr (0, [.ref aX, .ref bX, .int (nI N)])), (aX, .inl (cA, 1000, .inl f)), (bX, .inl (cB, 1000, .inl g)), (o, .inl (cO, 1, .inr (.inl oo))), (hM, .inr (1, [.int 0, .ref aM, .int (nI N), .ref bM])), (aM, .inl (cC, 1000, .inl f2)), (bM, .inl (cD, 1000, .inl as))] H := hP
  have hD : va_D A [(hX, .inr (0, [.ref aX, .ref bX, .int (nI N)])), (aX, .inl (cA, 1000, .inl f)), (bX, .inl (cB, 1000, .inl g)), (o, .inl (cO, 1, .inr (.inl oo))), (hM, .inr (1, [.int 0, .ref aM, .int (nI N), .ref bM])), (aM, .inl (cC, 1000, .inl f2)), (bM, .inl (cD, 1000, .inl as))] := hD
  refine lv_icmp_eq (tgt := 763) hx hb dL_law_654 (by decide) (fun c_654 => ?_) (fun c_654 => (c_654 rfl).elim)
  exact hk N L f g f2 as 0 oo H locs ls ok hf hg hf2 (hP.sub [0, 1, 2, 3, 4, 5, 6] rfl) (hD.sub [0, 1, 2, 3, 4, 5, 6] (by decide) rfl) hS (lv_sub hl [0, 1, 2, 3, 4] rfl)
set_option maxHeartbeats 4000000 in
set_option maxRecDepth 100000 in
/-- a call of greatest -/
theorem law_greatest {pg : Program} {l : Launch} {ev : Env} {s : State} {m : MethodId} {below : List Frame} {meth : Method} {cd : Code} {b LN : Nat} {xs : Nat → Int32} {dC : Nat → ClassId} {dI : Nat → Nat → Nat} {A : Nat → Prop} {hX aX bX o hM aM bM : Nat} {cA cB cO cC cD : ClassId} {q : Nat} (C0 : lw_At pg s m meth cd b LN xs) (hLN : LN ≤ 2048) (hq : 4 * q + 4 ≤ LN) (hfl : l.flags = flags0) (hK : va_K (dC, dI) vwCl [(cA, .int), (cB, .int), (cO, .long), (cC, .int), (cD, .int)] s) (hA : ∀ q : Nat, s.heap.size ≤ q → A q) (hbA : ¬ A b) (hZs : lw_Zs A s) (hk : lw_inv pg l ev s m below meth cd b dC dI A hX aX bX o hM aM bM cA cB cO cC cD q 763 (8 + q) (4014 + 6 * q)) : lw_inv pg l ev s m below meth cd b dC dI A hX aX bX o hM aM bM cA cB cO cC cD q 659 (7 + q) (4008 + 6 * q) := by
  obtain ⟨hx, hb, hr, hml, hown, hts, hSc, hbl, hlocks, hgv⟩ := C0
  have hown : s.vm.findClass RL = some m.cls := hown
  have htsL : ∀ w ∈ wsL_law, w.before #[Value.ref b] s = true := fun w h => hts w (wsL_law_in w h)
  intro N L f g f2 as th oo H locs ls ok hf hg hf2 hP hD hS hl
  refine lv_aload_n hx hb dL_law_659 rfl (lv_at hl 1 rfl) ?_
  refine lv_aload_n hx hb dL_law_660 rfl (lv_at hl 0 rfl) ?_
  refine lv_iload hx hb dL_law_661 (lv_at hl 4 rfl) ?_
  refine lv_iconst (v := 1) hx hb dL_law_663 (by decide +kernel) ?_
  refine lv_iadd hx hb dL_law_664 ?_
  refine ow_top (z := nI (4 * q + 1)) (nI_1 (4 * q)) ?_
  refine ow_sld (k := 4 * q + 1) hx hb hSc hbl hbA hS (by omega) (by omega) dL_law_665 ?_
  refine lv_aload_n hx hb dL_law_666 rfl (lv_at hl 0 rfl) ?_
  refine lv_iload hx hb dL_law_667 (lv_at hl 4 rfl) ?_
  refine lv_iconst (v := nI 2) hx hb dL_law_669 (by decide +kernel) ?_
  refine lv_iadd hx hb dL_law_670 ?_
  refine ow_top (z := nI (4 * q + 2)) (nI_add (4 * q) 2) ?_
  refine ow_sld (k := 4 * q + 2) hx hb hSc hbl hbA hS (by omega) (by omega) dL_law_671 ?_
  refine lv_aload_n hx hb dL_law_672 rfl (lv_at hl 3 rfl) ?_
  obtain ⟨tt, r, N', L', hsp, ok'⟩ := ex_greatest ok ((xs (4 * q + 1))) ((xs (4 * q + 2)))
  refine ow_calli (wr := [(hM, .inr (1, [.int th, .ref aM, .int (nI N), .ref bM])), (aM, .inl (cC, 1000, .inl f2)), (bM, .inl (cD, 1000, .inl as))]) (vx_runSW (As := [.ref hX, .int (xs (4 * q + 1)), .int (xs (4 * q + 2)), .ref o]) (rest := []) ⟨hx, hb, hml, hown, htsL⟩ (c_L_greatest l dC dI hfl hX aX bX o cA cB cO N L f g oo tt r N' L' _ ok hf hg ((xs (4 * q + 1))) ((xs (4 * q + 2))) hsp) (vx_cwSW 4 htsL gL_law_L_greatest rfl rfl rfl (by decide +kernel) ⟨Nat.le_of_ble_eq_true rfl, Nat.le_of_ble_eq_true rfl⟩) (ow_PreSx (hK.sub (tys' := [(cA, .int), (cB, .int), (cO, .long)]) [0, 1, 2] rfl) (hP.sub (ws' := (wO hX aX bX o cA cB cO ((nI N, f, g), oo))) [0, 1, 2, 3] rfl) (hD.sub (ws' := (wO hX aX bX o cA cB cO ((nI N, f, g), oo))) [0, 1, 2, 3] (by decide) rfl) hZs hS) rfl rfl hl.1 rfl (lv_room (Nat.le_of_ble_eq_true rfl)) dL_law_673 ⟨by show 7 + q + 1 ≤ 1032; omega, by show 4008 + 6 * q + 6 ≤ 12206; omega⟩) hP hD hS hA [0, 1, 2, 3] [4, 5, 6] rfl rfl (by decide) (by decide) (fun r0 u H locs hw hP hD hS => ?_)
  refine W.widen (k := 8 + q) (n := 4014 + 6 * q) (by omega) (by omega) ?_
  obtain ⟨⟨a1, f1, g1⟩, oo1⟩ := u
  obtain ⟨er, hoo, e1, hf1, hg1⟩ := hw
  obtain rfl : nI N' = a1 := e1.symm
  refine ow_top (z := tt) er ?_
  have hP : va_P (dC, dI) vwCl [(hM, .inr (1, [.int th, .ref aM, .int (nI N), .ref bM])), (aM, .inl (cC, 1000, .inl f2)), (bM, .inl (cD, 1000, .inl as)), (hX, .inr (0, [.ref aX, .ref bX, .int (nI N')])), (aX, .inl (cA, 1000, .inl f1)), (bX, .inl (cB, 1000, .inl g1)), (o, .inl (cO, 1, .inr (.inl oo1)))] H := hP
  have hD : va_D A [(hM, .inr (1, [.int th, .ref aM, .int (nI N), .ref bM])), (aM, .inl (cC, 1000, .inl f2)), (bM, .inl (cD, 1000, .inl as)), (hX, .inr (0, [.ref aX, .ref bX, .int (nI N')])), (aX, .inl (cA, 1000, .inl f1)), (bX, .inl (cB, 1000, .inl g1)), (o, .inl (cO, 1, .inr (.inl oo1)))] := hD
  refine lv_istore (lv' := [(5, .int tt), (0, .ref b), (1, .ref hX), (2, .ref hM), (3, .ref o), (4, .int (nI (4 * q)))]) hx hb dL_law_676 hl (by decide) rfl (fun ls hl => ?_)
  refine lv_aload_n hx hb dL_law_678 rfl (lv_at hl 3 rfl) ?_
  refine lv_aload_n hx hb dL_law_679 rfl (lv_at hl 1 rfl) ?_
  refine lv_iload hx hb dL_law_680 (lv_at hl 5 rfl) ?_
  refine lv_iconst (v := 1) hx hb dL_law_682 (by decide +kernel) ?_
  refine lv_iadd hx hb dL_law_683 ?_
  refine ow_top (z := nI (4 * q + 1)) (nI_1 (4 * q)) ?_
  refine ow_sld (k := 4 * q + 1) hx hb hSc hbl hbA hS (by omega) (by omega) dL_law_684 ?_
  refine lv_aload_n hx hb dL_law_685 rfl (lv_at hl 1 rfl) ?_
  refine lv_iload hx hb dL_law_686 (lv_at hl 5 rfl) ?_
  refine lv_iconst (v := nI 2) hx hb dL_law_688 (by decide +kernel) ?_
  refine lv_iadd hx hb dL_law_689 ?_
  refine ow_top (z := nI (4 * q + 2)) (nI_add (4 * q) 2) ?_
  refine ow_sld (k := 4 * q + 2) hx hb hSc hbl hbA hS (by omega) (by omega) dL_law_690 ?_
  refine ow_calli (wr := [(hX, .inr (0, [.ref aX, .ref bX, .int (nI N')])), (aX, .inl (cA, 1000, .inl f1)), (bX, .inl (cB, 1000, .inl g1)), (o, .inl (cO, 1, .inr (.inl oo1)))]) (va_runV (As := [.int (xs (4 * q + 1)), .int (xs (4 * q + 2))]) (rest := []) ⟨hx, hb, hml, hown, hts⟩ (c_M_greatest l dC dI hM aM bM cC cD th N L f2 as tt r N' L' _ ok hf2 ((xs (4 * q + 1))) ((xs (4 * q + 2))) hsp) (cwV 2 hts gT_law_X1_greatest rfl rfl rfl (by decide +kernel) ⟨Nat.le_of_ble_eq_true rfl, Nat.le_of_ble_eq_true rfl⟩) (ow_PreV (hK.sub (tys' := [(cC, .int), (cD, .int)]) [3, 4] rfl) (hP.sub (ws' := (wM hM aM bM cC cD (th, nI N, f2, as))) [0, 1, 2] rfl) (hD.sub (ws' := (wM hM aM bM cC cD (th, nI N, f2, as))) [0, 1, 2] (by decide) rfl) (ci := 1) (q0 := 0) rfl rfl) rfl rfl hl.1 rfl (lv_room (Nat.le_of_ble_eq_true rfl)) dL_law_691 ⟨by show 8 + q + 0 ≤ 1032; omega, by show 4014 + 6 * q + 0 ≤ 12206; omega⟩) hP hD hS hA [0, 1, 2] [3, 4, 5, 6] rfl rfl (by decide) (by decide) (fun r0 u H locs hw hP hD hS => ?_)
  obtain ⟨v1, v2, v3, v4⟩ := u
  obtain ⟨er, e1, e2, hf9⟩ := hw
  obtain rfl : tt = v1 := e1.symm
  obtain rfl : nI N' = v2 := e2.symm
  refine ow_top (z := r) er ?_
  have hP : va_P (dC, dI) vwCl [(hX, .inr (0, [.ref aX, .ref bX, .int (nI N')])), (aX, .inl (cA, 1000, .inl f1)), (bX, .inl (cB, 1000, .inl g1)), (o, .inl (cO, 1, .inr (.inl oo1))), (hM, .inr (1, [.int tt, .ref aM, .int (nI N'), .ref bM])), (aM, .inl (cC, 1000, .inl v3)), (bM, .inl (cD, 1000, .inl v4))] H := hP
  have hD : va_D A [(hX, .inr (0, [.ref aX, .ref bX, .int (nI N')])), (aX, .inl (cA, 1000, .inl f1)), (bX, .inl (cB, 1000, .inl g1)), (o, .inl (cO, 1, .inr (.inl oo1))), (hM, .inr (1, [.int tt, .ref aM, .int (nI N'), .ref bM])), (aM, .inl (cC, 1000, .inl v3)), (bM, .inl (cD, 1000, .inl v4))] := hD
  refine lv_istore (lv' := [(6, .int r), (5, .int tt), (0, .ref b), (1, .ref hX), (2, .ref hM), (3, .ref o), (4, .int (nI (4 * q)))]) hx hb dL_law_694 hl (by decide) rfl (fun ls hl => ?_)
  refine lv_aload_n hx hb dL_law_696 rfl (lv_at hl 4 rfl) ?_
  refine ow_callR (r := tt) (W.runV (As := []) (rest := []) ⟨hx, hb, hml, hown, htsL⟩ (c_M_thrown l dC dI hM aM bM cC cD tt (nI N') v3 v4) (cwV 0 htsL gL_law_X1_thrown rfl rfl rfl (by decide +kernel) ⟨Nat.le_of_ble_eq_true rfl, Nat.le_of_ble_eq_true rfl⟩) (ow_PreR (hK.sub (tys' := [(cC, .int), (cD, .int)]) [3, 4] rfl) (hP.sub (ws' := (wM hM aM bM cC cD (tt, nI N', v3, v4))) [4, 5, 6] rfl) (ci := 1) (q0 := 0) rfl rfl) rfl rfl hl.1 rfl (lv_room (Nat.le_of_ble_eq_true rfl)) dL_law_697 ⟨by show 8 + q + 0 ≤ 1032; omega, by show 4014 + 6 * q + 0 ≤ 12206; omega⟩) ?_
  refine lv_iload hx hb dL_law_700 (lv_at hl 1 rfl) ?_
  refine lv_icmp_eq (tgt := 707) hx hb dL_law_702 (by decide) (fun c_702 => ?_) (fun c_702 => (c_702 rfl).elim)
  refine lv_iload hx hb dL_law_707 (lv_at hl 1 rfl) ?_
  refine lv_if_ne (tgt := 724) hx hb dL_law_709 (by decide) (fun c_709 => ?_) (fun c_709 => ?_)
  · refine lv_goto (tgt := 763) hx hb dL_law_724 (by decide) ?_
    exact hk N' L' f1 g1 v3 v4 tt oo1 H locs ls ok' hf1 hg1 hf9 (hP.sub [0, 1, 2, 3, 4, 5, 6] rfl) (hD.sub [0, 1, 2, 3, 4, 5, 6] (by decide) rfl) hS (lv_sub hl [2, 3, 4, 5, 6] rfl)
  · refine lv_aload_n hx hb dL_law_712 rfl (lv_at hl 5 rfl) ?_
    refine lv_iconst (v := 0) hx hb dL_law_713 (by decide +kernel) ?_
    refine ow_lald (k := 0) (v := r.toInt64) hx hb hK hP 3 2 rfl rfl nI_0.symm (by decide) (by decide) (hoo c_709) dL_law_714 ?_
    refine lv_iload hx hb dL_law_715 (lv_at hl 0 rfl) ?_
    refine lv_i2l (v := r.toInt64) hx hb dL_law_717 rfl ?_
    refine W.lcmp hx hb dL_law_718 ?_
    refine lv_if_eq (tgt := 724) hx hb dL_law_719 (by decide) (fun c_719 => ?_) (fun c_719 => (c_719 ((lg_cmp_eq _ _).mpr rfl)).elim)
    refine lv_goto (tgt := 763) hx hb dL_law_724 (by decide) ?_
    exact hk N' L' f1 g1 v3 v4 tt oo1 H locs ls ok' hf1 hg1 hf9 (hP.sub [0, 1, 2, 3, 4, 5, 6] rfl) (hD.sub [0, 1, 2, 3, 4, 5, 6] (by decide) rfl) hS (lv_sub hl [2, 3, 4, 5, 6] rfl)
set_option maxHeartbeats 4000000 in
set_option maxRecDepth 100000 in
/-- a call of wipe -/
theorem law_wipe {pg : Program} {l : Launch} {ev : Env} {s : State} {m : MethodId} {below : List Frame} {meth : Method} {cd : Code} {b LN : Nat} {xs : Nat → Int32} {dC : Nat → ClassId} {dI : Nat → Nat → Nat} {A : Nat → Prop} {hX aX bX o hM aM bM : Nat} {cA cB cO cC cD : ClassId} {q : Nat} (C0 : lw_At pg s m meth cd b LN xs) (hLN : LN ≤ 2048) (hq : 4 * q + 4 ≤ LN) (hfl : l.flags = flags0) (hK : va_K (dC, dI) vwCl [(cA, .int), (cB, .int), (cO, .long), (cC, .int), (cD, .int)] s) (hA : ∀ q : Nat, s.heap.size ≤ q → A q) (hbA : ¬ A b) (hZs : lw_Zs A s) (hk : lw_inv pg l ev s m below meth cd b dC dI A hX aX bX o hM aM bM cA cB cO cC cD q 763 (8 + q) (4014 + 6 * q)) : lw_inv pg l ev s m below meth cd b dC dI A hX aX bX o hM aM bM cA cB cO cC cD q 727 (7 + q) (4008 + 6 * q) := by
  obtain ⟨hx, hb, hr, hml, hown, hts, hSc, hbl, hlocks, hgv⟩ := C0
  have hown : s.vm.findClass RL = some m.cls := hown
  have htsL : ∀ w ∈ wsL_law, w.before #[Value.ref b] s = true := fun w h => hts w (wsL_law_in w h)
  intro N L f g f2 as th oo H locs ls ok hf hg hf2 hP hD hS hl
  refine W.widen (k := 8 + q) (n := 4014 + 6 * q) (by omega) (by omega) ?_
  refine lv_aload_n hx hb dL_law_727 rfl (lv_at hl 1 rfl) ?_
  refine ow_callv (wr := [(o, .inl (cO, 1, .inr (.inl oo))), (hM, .inr (1, [.int th, .ref aM, .int (nI N), .ref bM])), (aM, .inl (cC, 1000, .inl f2)), (bM, .inl (cD, 1000, .inl as))]) (va_runV (As := []) (rest := []) ⟨hx, hb, hml, hown, htsL⟩ (c_X_wipe l dC dI hX aX bX cA cB N L f g _ ok hf hg) (cwV 0 htsL gL_law_X0_wipe rfl rfl rfl (by decide +kernel) ⟨Nat.le_of_ble_eq_true rfl, Nat.le_of_ble_eq_true rfl⟩) (ow_PreV (hK.sub (tys' := [(cA, .int), (cB, .int)]) [0, 1] rfl) (hP.sub (ws' := (wX hX aX bX cA cB (nI N, f, g))) [0, 1, 2] rfl) (hD.sub (ws' := (wX hX aX bX cA cB (nI N, f, g))) [0, 1, 2] (by decide) rfl) (ci := 0) (q0 := 0) rfl rfl) rfl rfl hl.1 rfl (lv_room (Nat.le_of_ble_eq_true rfl)) dL_law_728 ⟨by show 8 + q + 0 ≤ 1032; omega, by show 4014 + 6 * q + 0 ≤ 12206; omega⟩) hP hD hS hA [0, 1, 2] [3, 4, 5, 6] rfl rfl (by decide) (by decide) (fun u H locs hw hP hD hS => ?_)
  obtain ⟨a1, f1, g1⟩ := u
  obtain ⟨e1, hf1, hg1⟩ := hw
  obtain rfl : nI 1 = a1 := e1.symm
  have hP : va_P (dC, dI) vwCl [(o, .inl (cO, 1, .inr (.inl oo))), (hM, .inr (1, [.int th, .ref aM, .int (nI N), .ref bM])), (aM, .inl (cC, 1000, .inl f2)), (bM, .inl (cD, 1000, .inl as)), (hX, .inr (0, [.ref aX, .ref bX, .int (nI 1)])), (aX, .inl (cA, 1000, .inl f1)), (bX, .inl (cB, 1000, .inl g1))] H := hP
  have hD : va_D A [(o, .inl (cO, 1, .inr (.inl oo))), (hM, .inr (1, [.int th, .ref aM, .int (nI N), .ref bM])), (aM, .inl (cC, 1000, .inl f2)), (bM, .inl (cD, 1000, .inl as)), (hX, .inr (0, [.ref aX, .ref bX, .int (nI 1)])), (aX, .inl (cA, 1000, .inl f1)), (bX, .inl (cB, 1000, .inl g1))] := hD
  refine lv_aload_n hx hb dL_law_731 rfl (lv_at hl 2 rfl) ?_
  refine ow_callv (wr := [(o, .inl (cO, 1, .inr (.inl oo))), (hX, .inr (0, [.ref aX, .ref bX, .int (nI 1)])), (aX, .inl (cA, 1000, .inl f1)), (bX, .inl (cB, 1000, .inl g1))]) (va_runV (As := []) (rest := []) ⟨hx, hb, hml, hown, hts⟩ (c_M_wipe l dC dI hM aM bM cC cD th N L f2 as _ ok hf2) (cwV 0 hts gT_law_X1_wipe rfl rfl rfl (by decide +kernel) ⟨Nat.le_of_ble_eq_true rfl, Nat.le_of_ble_eq_true rfl⟩) (ow_PreV (hK.sub (tys' := [(cC, .int), (cD, .int)]) [3, 4] rfl) (hP.sub (ws' := (wM hM aM bM cC cD (th, nI N, f2, as))) [1, 2, 3] rfl) (hD.sub (ws' := (wM hM aM bM cC cD (th, nI N, f2, as))) [1, 2, 3] (by decide) rfl) (ci := 1) (q0 := 0) rfl rfl) rfl rfl hl.1 rfl (lv_room (Nat.le_of_ble_eq_true rfl)) dL_law_732 ⟨by show 8 + q + 0 ≤ 1032; omega, by show 4014 + 6 * q + 0 ≤ 12206; omega⟩) hP hD hS hA [1, 2, 3] [0, 4, 5, 6] rfl rfl (by decide) (by decide) (fun u H locs hw hP hD hS => ?_)
  obtain ⟨v1, v2, v3, v4⟩ := u
  obtain ⟨e1, e2, hf9⟩ := hw
  obtain rfl : 0 = v1 := e1.symm
  obtain rfl : nI 1 = v2 := e2.symm
  have hP : va_P (dC, dI) vwCl [(o, .inl (cO, 1, .inr (.inl oo))), (hX, .inr (0, [.ref aX, .ref bX, .int (nI 1)])), (aX, .inl (cA, 1000, .inl f1)), (bX, .inl (cB, 1000, .inl g1)), (hM, .inr (1, [.int 0, .ref aM, .int (nI 1), .ref bM])), (aM, .inl (cC, 1000, .inl v3)), (bM, .inl (cD, 1000, .inl v4))] H := hP
  have hD : va_D A [(o, .inl (cO, 1, .inr (.inl oo))), (hX, .inr (0, [.ref aX, .ref bX, .int (nI 1)])), (aX, .inl (cA, 1000, .inl f1)), (bX, .inl (cB, 1000, .inl g1)), (hM, .inr (1, [.int 0, .ref aM, .int (nI 1), .ref bM])), (aM, .inl (cC, 1000, .inl v3)), (bM, .inl (cD, 1000, .inl v4))] := hD
  refine lv_goto (tgt := 763) hx hb dL_law_735 (by decide) ?_
  exact hk 1 L f1 g1 v3 v4 0 oo H locs ls (ol_ok_1 ok) hf1 hg1 hf9 (hP.sub [1, 2, 3, 0, 4, 5, 6] rfl) (hD.sub [1, 2, 3, 0, 4, 5, 6] (by decide) rfl) hS (lv_sub hl [0, 1, 2, 3, 4] rfl)
set_option maxHeartbeats 4000000 in
set_option maxRecDepth 100000 in
/-- a call of look -/
theorem law_look {pg : Program} {l : Launch} {ev : Env} {s : State} {m : MethodId} {below : List Frame} {meth : Method} {cd : Code} {b LN : Nat} {xs : Nat → Int32} {dC : Nat → ClassId} {dI : Nat → Nat → Nat} {A : Nat → Prop} {hX aX bX o hM aM bM : Nat} {cA cB cO cC cD : ClassId} {q : Nat} (C0 : lw_At pg s m meth cd b LN xs) (hLN : LN ≤ 2048) (hq : 4 * q + 4 ≤ LN) (hfl : l.flags = flags0) (hK : va_K (dC, dI) vwCl [(cA, .int), (cB, .int), (cO, .long), (cC, .int), (cD, .int)] s) (hA : ∀ q : Nat, s.heap.size ≤ q → A q) (hbA : ¬ A b) (hZs : lw_Zs A s) (hk : lw_inv pg l ev s m below meth cd b dC dI A hX aX bX o hM aM bM cA cB cO cC cD q 763 (8 + q) (4014 + 6 * q)) : lw_inv pg l ev s m below meth cd b dC dI A hX aX bX o hM aM bM cA cB cO cC cD q 738 (7 + q) (4008 + 6 * q) := by
  obtain ⟨hx, hb, hr, hml, hown, hts, hSc, hbl, hlocks, hgv⟩ := C0
  have hown : s.vm.findClass RL = some m.cls := hown
  have htsL : ∀ w ∈ wsL_law, w.before #[Value.ref b] s = true := fun w h => hts w (wsL_law_in w h)
  intro N L f g f2 as th oo H locs ls ok hf hg hf2 hP hD hS hl
  refine W.widen (k := 8 + q) (n := 4014 + 6 * q) (by omega) (by omega) ?_
  refine lv_aload_n hx hb dL_law_738 rfl (lv_at hl 1 rfl) ?_
  refine lv_aload_n hx hb dL_law_739 rfl (lv_at hl 0 rfl) ?_
  refine lv_iload hx hb dL_law_740 (lv_at hl 4 rfl) ?_
  refine lv_iconst (v := 1) hx hb dL_law_742 (by decide +kernel) ?_
  refine lv_iadd hx hb dL_law_743 ?_
  refine ow_top (z := nI (4 * q + 1)) (nI_1 (4 * q)) ?_
  refine ow_sld (k := 4 * q + 1) hx hb hSc hbl hbA hS (by omega) (by omega) dL_law_744 ?_
  refine ow_callR (r := ol_lk N L (xs (4 * q + 1))) (W.runV (As := [.int (xs (4 * q + 1))]) (rest := []) ⟨hx, hb, hml, hown, htsL⟩ (c_X_look l dC dI hX aX bX cA cB N L f g (xs (4 * q + 1)) ok hf hg) (cwV 1 htsL gL_law_X0_look rfl rfl rfl (by decide +kernel) ⟨Nat.le_of_ble_eq_true rfl, Nat.le_of_ble_eq_true rfl⟩) (ow_PreR (hK.sub (tys' := [(cA, .int), (cB, .int)]) [0, 1] rfl) (hP.sub (ws' := (wX hX aX bX cA cB (nI N, f, g))) [0, 1, 2] rfl) (ci := 0) (q0 := 0) rfl rfl) rfl rfl hl.1 rfl (lv_room (Nat.le_of_ble_eq_true rfl)) dL_law_745 ⟨by show 8 + q + 0 ≤ 1032; omega, by show 4014 + 6 * q + 0 ≤ 12206; omega⟩) ?_
  refine lv_aload_n hx hb dL_law_748 rfl (lv_at hl 2 rfl) ?_
  refine lv_aload_n hx hb dL_law_749 rfl (lv_at hl 0 rfl) ?_
  refine lv_iload hx hb dL_law_750 (lv_at hl 4 rfl) ?_
  refine lv_iconst (v := 1) hx hb dL_law_752 (by decide +kernel) ?_
  refine lv_iadd hx hb dL_law_753 ?_
  refine ow_top (z := nI (4 * q + 1)) (nI_1 (4 * q)) ?_
  refine ow_sld (k := 4 * q + 1) hx hb hSc hbl hbA hS (by omega) (by omega) dL_law_754 ?_
  refine ow_calli (wr := [(hX, .inr (0, [.ref aX, .ref bX, .int (nI N)])), (aX, .inl (cA, 1000, .inl f)), (bX, .inl (cB, 1000, .inl g)), (o, .inl (cO, 1, .inr (.inl oo)))]) (va_runV (As := [.int (xs (4 * q + 1))]) (rest := [.int (ol_lk N L (xs (4 * q + 1)))]) ⟨hx, hb, hml, hown, hts⟩ (c_M_look l dC dI hM aM bM cC cD th N L f2 as _ ok hf2 (xs (4 * q + 1))) (cwV 1 hts gT_law_X1_look rfl rfl rfl (by decide +kernel) ⟨Nat.le_of_ble_eq_true rfl, Nat.le_of_ble_eq_true rfl⟩) (ow_PreV (hK.sub (tys' := [(cC, .int), (cD, .int)]) [3, 4] rfl) (hP.sub (ws' := (wM hM aM bM cC cD (th, nI N, f2, as))) [4, 5, 6] rfl) (hD.sub (ws' := (wM hM aM bM cC cD (th, nI N, f2, as))) [4, 5, 6] (by decide) rfl) (ci := 1) (q0 := 0) rfl rfl) rfl rfl hl.1 rfl (lv_room (Nat.le_of_ble_eq_true rfl)) dL_law_755 ⟨by show 8 + q + 0 ≤ 1032; omega, by show 4014 + 6 * q + 0 ≤ 12206; omega⟩) hP hD hS hA [4, 5, 6] [0, 1, 2, 3] rfl rfl (by decide) (by decide) (fun r0 u H locs hw hP hD hS => ?_)
  obtain ⟨er, eu⟩ := hw
  subst eu
  refine ow_top (z := ol_lk N L (xs (4 * q + 1))) er ?_
  have hP : va_P (dC, dI) vwCl [(hX, .inr (0, [.ref aX, .ref bX, .int (nI N)])), (aX, .inl (cA, 1000, .inl f)), (bX, .inl (cB, 1000, .inl g)), (o, .inl (cO, 1, .inr (.inl oo))), (hM, .inr (1, [.int 0, .ref aM, .int (nI N), .ref bM])), (aM, .inl (cC, 1000, .inl f2)), (bM, .inl (cD, 1000, .inl as))] H := hP
  have hD : va_D A [(hX, .inr (0, [.ref aX, .ref bX, .int (nI N)])), (aX, .inl (cA, 1000, .inl f)), (bX, .inl (cB, 1000, .inl g)), (o, .inl (cO, 1, .inr (.inl oo))), (hM, .inr (1, [.int 0, .ref aM, .int (nI N), .ref bM])), (aM, .inl (cC, 1000, .inl f2)), (bM, .inl (cD, 1000, .inl as))] := hD
  refine lv_icmp_eq (tgt := 763) hx hb dL_law_758 (by decide) (fun c_758 => ?_) (fun c_758 => (c_758 rfl).elim)
  exact hk N L f g f2 as 0 oo H locs ls ok hf hg hf2 (hP.sub [0, 1, 2, 3, 4, 5, 6] rfl) (hD.sub [0, 1, 2, 3, 4, 5, 6] (by decide) rfl) hS (lv_sub hl [0, 1, 2, 3, 4] rfl)
