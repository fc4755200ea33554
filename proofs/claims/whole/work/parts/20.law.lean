set_option maxHeartbeats 4000000 in
set_option maxRecDepth 100000 in
/-- the law's loop, from its head -/
theorem law_loop {pg : Program} {l : Launch} {ev : Env} {s : State} {m : MethodId} {below : List Frame} {meth : Method} {cd : Code} {b LN : Nat} {xs : Nat → Int32} {dC : Nat → ClassId} {dI : Nat → Nat → Nat} {A : Nat → Prop} {hX aX bX o hM aM bM : Nat} {cA cB cO cC cD : ClassId} (C0 : lw_At pg s m meth cd b LN xs) (hLN : LN ≤ 2048) (hfl : l.flags = flags0) (hK : va_K (dC, dI) vwCl [(cA, .int), (cB, .int), (cO, .long), (cC, .int), (cD, .int)] s) (hA : ∀ q : Nat, s.heap.size ≤ q → A q) (hbA : ¬ A b) (hZs : lw_Zs A s) (hAs : ∀ q : Nat, A q → s.heap.size ≤ q) : ∀ (k q : Nat), LN < 4 * q + k → 4 * q ≤ LN → lw_inv pg l ev s m below meth cd b dC dI A hX aX bX o hM aM bM cA cB cO cC cD q 23 (7 + q) (4008 + 6 * q) := by
  obtain ⟨hx, hb, hr, hml, hown, hts, hSc, hbl, hlocks, hgv⟩ := id C0
  have hown : s.vm.findClass RL = some m.cls := hown
  have htsL : ∀ w ∈ wsL_law, w.before #[Value.ref b] s = true := fun w h => hts w (wsL_law_in w h)
  intro k
  induction k with
  | zero =>
    intro q h1 h2
    exact absurd h1 (by omega)
  | succ k ih =>
    intro q h1 h2
    have h763 : 4 * q + 4 ≤ LN → lw_inv pg l ev s m below meth cd b dC dI A hX aX bX o hM aM bM cA cB cO cC cD q 763 (8 + q) (4014 + 6 * q) := by
      intro hq N L f g f2 as th oo H locs ls ok hf hg hf2 hP hD hS hl
      have he : nI (4 * q) + Int32.ofInt 4 = nI (4 * (q + 1)) := (congrArg (fun z => nI (4 * q) + z) (by decide +kernel : Int32.ofInt 4 = nI 4)).trans (nI_add (4 * q) 4)
      refine lv_iinc (v := nI (4 * (q + 1))) (lv' := [(4, .int (nI (4 * (q + 1)))), (0, .ref b), (1, .ref hX), (2, .ref hM), (3, .ref o)]) hx hb dL_law_763 hl (k := 4) rfl he (by decide) rfl (fun ls hl => ?_)
      refine lv_goto (tgt := 23) hx hb dL_law_766 (by decide) ?_
      refine W.widen (k := 7 + (q + 1)) (n := 4008 + 6 * (q + 1)) (by omega) (by omega) ?_
      exact ih (q + 1) (by omega) (by omega) N L f g f2 as th oo H locs ls ok hf hg hf2 hP hD hS (lv_sub hl [1, 2, 3, 4, 0] rfl)
    intro N L f g f2 as th oo H locs ls ok hf hg hf2 hP hD hS hl
    refine lv_iload hx hb dL_law_23 (lv_at hl 4 rfl) ?_
    refine lv_aload_n hx hb dL_law_25 rfl (lv_at hl 0 rfl) ?_
    refine va_slen hx hb hSc hbl hbA hS dL_law_26 ?_
    refine ow_top (z := nI LN) rfl ?_
    refine lv_iconst (v := nI 4) hx hb dL_law_27 (by decide +kernel) ?_
    refine lv_isub hx hb dL_law_28 ?_
    refine lv_icmp_gt (tgt := 769) hx hb dL_law_29 (by decide) (fun c_29 => ?_) (fun c_29 => ?_)
    · refine va_forget (fun q hq => hAs _ (hS.2.2 q hq)) ?_
      refine W.widen (k := 1032) (n := 12206) (by omega) (by omega) ?_
      refine lv_iconst (v := 1) hx hb dL_law_769 (by decide +kernel) ?_
      exact lw_ret hx hb hr hlocks dL_law_770
    · have hq : 4 * q + 4 ≤ LN := ol_lh hLN (by omega) c_29
      have h763 := h763 hq
      refine lv_aload_n hx hb dL_law_32 rfl (lv_at hl 0 rfl) ?_
      refine lv_iload hx hb dL_law_33 (lv_at hl 4 rfl) ?_
      refine ow_sld (k := 4 * q) hx hb hSc hbl hbA hS (by omega) (by omega) dL_law_35 ?_
      refine lv_bipush (v := 15) hx hb dL_law_36 (by decide +kernel) ?_
      refine lv_iand hx hb dL_law_38 ?_
      obtain ⟨j, hj, ej⟩ := pk_andE (xs (4 * q)) (m := 15) 4 (by decide)
      refine ow_top (z := nI j) ej ?_
      by_cases h13 : 13 ≤ j
      · refine lv_tableOut (tgt := 763) hx hb dL_law_39 (Or.inr (by rw [nI_toInt (by omega)]; omega)) (by decide) ?_
        refine W.widen (k := 8 + q) (n := 4014 + 6 * q) (by omega) (by omega) ?_
        exact h763 N L f g f2 as th oo H locs ls ok hf hg hf2 hP hD hS hl
      · rcases (show j = 0 ∨ j = 1 ∨ j = 2 ∨ j = 3 ∨ j = 4 ∨ j = 5 ∨ j = 6 ∨ j = 7 ∨ j = 8 ∨ j = 9 ∨ j = 10 ∨ j = 11 ∨ j = 12 by omega) with rfl | rfl | rfl | rfl | rfl | rfl | rfl | rfl | rfl | rfl | rfl | rfl | rfl
        · refine lv_tableIn (off := 65) (tgt := 104) hx hb dL_law_39 (by decide +kernel) (by decide +kernel) (by decide +kernel) (by decide) ?_
          exact law_behind C0 hLN hq hfl hK hA hbA hZs h763 N L f g f2 as th oo H locs ls ok hf hg hf2 hP hD hS hl
        · refine lv_tableIn (off := 121) (tgt := 160) hx hb dL_law_39 (by decide +kernel) (by decide +kernel) (by decide +kernel) (by decide) ?_
          exact law_several C0 hLN hq hfl hK hA hbA hZs h763 N L f g f2 as th oo H locs ls ok hf hg hf2 hP hD hS hl
        · refine lv_tableIn (off := 189) (tgt := 228) hx hb dL_law_39 (by decide +kernel) (by decide +kernel) (by decide +kernel) (by decide) ?_
          exact law_remove C0 hLN hq hfl hK hA hbA hZs h763 N L f g f2 as th oo H locs ls ok hf hg hf2 hP hD hS hl
        · refine lv_tableIn (off := 214) (tgt := 253) hx hb dL_law_39 (by decide +kernel) (by decide +kernel) (by decide +kernel) (by decide) ?_
          exact law_clear C0 hLN hq hfl hK hA hbA hZs h763 N L f g f2 as th oo H locs ls ok hf hg hf2 hP hD hS hl
        · refine lv_tableIn (off := 282) (tgt := 321) hx hb dL_law_39 (by decide +kernel) (by decide +kernel) (by decide +kernel) (by decide) ?_
          exact law_carry C0 hLN hq hfl hK hA hbA hZs h763 N L f g f2 as th oo H locs ls ok hf hg hf2 hP hD hS hl
        · refine lv_tableIn (off := 362) (tgt := 401) hx hb dL_law_39 (by decide +kernel) (by decide +kernel) (by decide +kernel) (by decide) ?_
          exact law_compare C0 hLN hq hfl hK hA hbA hZs h763 N L f g f2 as th oo H locs ls ok hf hg hf2 hP hD hS hl
        · refine lv_tableIn (off := 430) (tgt := 469) hx hb dL_law_39 (by decide +kernel) (by decide +kernel) (by decide +kernel) (by decide) ?_
          exact law_next C0 hLN hq hfl hK hA hbA hZs h763 N L f g f2 as th oo H locs ls ok hf hg hf2 hP hD hS hl
        · refine lv_tableIn (off := 514) (tgt := 553) hx hb dL_law_39 (by decide +kernel) (by decide +kernel) (by decide +kernel) (by decide) ?_
          exact law_has C0 hLN hq hfl hK hA hbA hZs h763 N L f g f2 as th oo H locs ls ok hf hg hf2 hP hD hS hl
        · refine lv_tableIn (off := 539) (tgt := 578) hx hb dL_law_39 (by decide +kernel) (by decide +kernel) (by decide +kernel) (by decide) ?_
          exact law_place C0 hLN hq hfl hK hA hbA hZs h763 N L f g f2 as th oo H locs ls ok hf hg hf2 hP hD hS hl
        · refine lv_tableIn (off := 595) (tgt := 634) hx hb dL_law_39 (by decide +kernel) (by decide +kernel) (by decide +kernel) (by decide) ?_
          exact law_at C0 hLN hq hfl hK hA hbA hZs h763 N L f g f2 as th oo H locs ls ok hf hg hf2 hP hD hS hl
        · refine lv_tableIn (off := 620) (tgt := 659) hx hb dL_law_39 (by decide +kernel) (by decide +kernel) (by decide +kernel) (by decide) ?_
          exact law_greatest C0 hLN hq hfl hK hA hbA hZs h763 N L f g f2 as th oo H locs ls ok hf hg hf2 hP hD hS hl
        · refine lv_tableIn (off := 688) (tgt := 727) hx hb dL_law_39 (by decide +kernel) (by decide +kernel) (by decide +kernel) (by decide) ?_
          exact law_wipe C0 hLN hq hfl hK hA hbA hZs h763 N L f g f2 as th oo H locs ls ok hf hg hf2 hP hD hS hl
        · refine lv_tableIn (off := 699) (tgt := 738) hx hb dL_law_39 (by decide +kernel) (by decide +kernel) (by decide +kernel) (by decide) ?_
          exact law_look C0 hLN hq hfl hK hA hbA hZs h763 N L f g f2 as th oo H locs ls ok hf hg hf2 hP hD hS hl
set_option maxHeartbeats 4000000 in
set_option maxRecDepth 100000 in
/-- what the law knows of what is thrown -/
theorem law_Zs {s : State} {b : Nat} (hts : ∀ w ∈ lw_tbl, w.before #[Value.ref b] s = true) (hgv : (Jvm.Cond.and given_1 narrow_1).before #[Value.ref b] s = true) : lw_Zs (fun q : Nat => s.heap.size ≤ q) s := by
  have hs := flat_of_before _ hgv
  have hnA : ∀ a : Nat, a < s.heap.size → ¬ (s.heap.size ≤ a) := fun a h => Nat.not_le.mpr h
  have z1 : vx_Zq Bundle.tN "UNASSIGNED_STACK" Bundle.steD (fun q : Nat => s.heap.size ≤ q) s s.heap := vx_Zqof (hts (.laysStatic Bundle.tN "UNASSIGNED_STACK" Bundle.steD) (by decide +kernel)) (hts (.initialized Bundle.tN) (by decide +kernel)) (hs (.isRef (.static Bundle.tN "UNASSIGNED_STACK" Bundle.steD)) (by decide +kernel)) hnA
  have z2 : vx_Zq Bundle.tN "SUPPRESSED_SENTINEL" Bundle.listD (fun q : Nat => s.heap.size ≤ q) s s.heap := vx_Zqof (hts (.laysStatic Bundle.tN "SUPPRESSED_SENTINEL" Bundle.listD) (by decide +kernel)) (hts (.initialized Bundle.tN) (by decide +kernel)) (hs (.isRef (.static Bundle.tN "SUPPRESSED_SENTINEL" Bundle.listD)) (by decide +kernel)) hnA
  have z3 : ∀ w ∈ ow_B4, va_Nw w s := by
    intro w hw
    simp only [ow_B4, List.mem_cons, List.not_mem_nil, or_false] at hw
    rcases hw with rfl | rfl | rfl | rfl
    · exact va_Nw.of rfl (hts _ (by decide +kernel))
    · exact va_Nw.of rfl (hts _ (by decide +kernel))
    · exact va_Nw.of rfl (hts _ (by decide +kernel))
    · exact va_Nw.of rfl (hts _ (by decide +kernel))
  obtain ⟨sa, c, cA, kA, q1, q2⟩ := Cond.exactly_spec (args := #[Value.ref b]) (first := s) (o := none) (s := s) (idx := []) (t := .string RX0 55) (cls := "java/lang/String") (hs (.exactly (.string RX0 55) "java/lang/String") (by decide +kernel))
  exact ⟨z1, z2, z3, sa, vk_R.of (hts (.stringRef RX0 55 "there is no such stamp") (by decide +kernel)) q1⟩
set_option maxHeartbeats 4000000 in
set_option maxRecDepth 100000 in
/-- from the entry, for every script of at most 2048 ints, the law comes to its end with true -/
theorem whole_start {p : Program} {e : Env} {s : State} {m : MethodId} {below : List Frame} {meth : Method} {c : Code} (l : Launch) (hfl : l.flags = flags0) {b L : Nat} {xs : Nat → Int32} (hL : L ≤ 2048) (C0 : lw_At p s m meth c b L xs) : W p l e room_1 s m #[Value.ref b] below meth c s.heap [] 0 0 (lw_Z below #[Value.ref b] s) (entryFrame m ([Value.ref b] : List Value).toArray 7) := by
  obtain ⟨hx, hb, hr, hml, hown, hts, hSc, hbl, hlocks, hgv⟩ := id C0
  have hown : s.vm.findClass RL = some m.cls := hown
  have htsL : ∀ w ∈ wsL_law, w.before #[Value.ref b] s = true := fun w h => hts w (wsL_law_in w h)
  have hA : ∀ q : Nat, s.heap.size ≤ q → (fun q : Nat => s.heap.size ≤ q) q := fun _ h => h
  have hbA : ¬ (fun q : Nat => s.heap.size ≤ q) b := Nat.not_le.mpr hbl
  have hZs := law_Zs hts hgv
  obtain ⟨c0, iS0, hKn0⟩ := u_known (C := RX0) (T := TX0) (N := 3) (n := 3) hts inX0 (hts (.instantiable RX0 3) (by decide +kernel))
  obtain ⟨c1, iS1, hKn1⟩ := u_known (C := RX1) (T := TX1) (N := 4) (n := 4) hts inX1 (hts (.instantiable RX1 4) (by decide +kernel))
  obtain ⟨dC, dI, hKc⟩ : ∃ (dC : Nat → ClassId) (dI : Nat → Nat → Nat), ∀ (k : Nat) (q : vw_C), vwCl[k]? = some q → u_Kn s q.1 q.2.1 q.2.2 (dC k) (dI k) := by
    refine ⟨fun k => if k = 0 then c0 else c1, fun k => if k = 0 then iS0 else iS1, ?_⟩
    intro k q hq
    match k, hq with
    | 0, hq => cases hq; exact hKn0
    | 1, hq => cases hq; exact hKn1
    | k + 2, hq => simp [vwCl] at hq
  have hS : va_S (fun q : Nat => s.heap.size ≤ q) s.heap s.heap [] := va_S.rf
  have hK : va_K (dC, dI) vwCl [] s := ⟨hKc, fun k q h => by simp at h⟩
  have hP : va_P (dC, dI) vwCl [] s.heap := fun k q h => by simp at h
  have hD : va_D (fun q : Nat => s.heap.size ≤ q) [] := ⟨fun i j p q h => by simp at h, fun k q h => by simp at h⟩
  have hl := lv_entry ([.ref b]) (n := 7) (Nat.le_of_ble_eq_true rfl)
  rw [lg_entry_eq]
  generalize (lg_sl ([.ref b]) ++ List.replicate (7 - (lg_sl ([.ref b])).length) Slot.unset).toArray = ls at hl ⊢
  have hl : lv_has ls 7 [(0, .ref b)] := hl
  refine va_new (ci := 0) (fs := [.null, .null, .int 0]) (C := RX0) (T := TX0) (N := 3) hx hb hts inX0 tyX0 tyX0_ok hown (hts (.classLink RL 8 RX0) (by decide +kernel)) (hts (.instantiable RX0 3) (by decide +kernel)) (hts (.initialized RX0) (by decide +kernel)) hK hP hD hS hA rfl (fun j hj => by rcases (show j = 0 ∨ j = 1 ∨ j = 2 by omega) with rfl | rfl | rfl <;> rfl) (Nat.le_of_ble_eq_true rfl) (Nat.le_of_ble_eq_true rfl) dL_law_0 (fun hX H hP hD hS => ?_)
  have hP : va_P (dC, dI) vwCl [(hX, .inr (0, [.null, .null, .int 0]))] H := hP
  have hD : va_D (fun q : Nat => s.heap.size ≤ q) [(hX, .inr (0, [.null, .null, .int 0]))] := hD
  refine W.widen (k := 1) (n := 3) (by omega) (by omega) ?_
  refine lv_dup hx hb dL_law_3 rfl ?_
  have hPc := hP.sub (ws' := [(hX, .inr (0, [.null, .null, .int 0]))]) [0] rfl
  have hDc := hD.sub (ws' := [(hX, .inr (0, [.null, .null, .int 0]))]) [0] (by decide) rfl
  have hKc := hK.sub (tys' := []) [] rfl
  have hFc := va_free (wc := [(hX, .inr (0, [.null, .null, .int 0]))]) hD hS hA [0] rfl
  refine va_callv (va_runI (As := []) (rest := [.ref hX]) ⟨hx, hb, hml, hown, htsL⟩ (c_X_init l dC dI hX H.size) (cwI 0 htsL gL_law_X0_init rfl rfl rfl (hts (.initialized RX0) (by decide +kernel)) (hts (.methodLink RL 39 yX0_init) (by decide +kernel)) (hts (.instanceMethod yX0_init) (by decide +kernel)) rfl (by decide +kernel) ⟨(Nat.le_of_ble_eq_true rfl), (Nat.le_of_ble_eq_true rfl)⟩) (ow_PreI hKc hPc hDc) rfl rfl hl.1 rfl (lv_room (Nat.le_of_ble_eq_true rfl)) dL_law_4 ⟨(Nat.le_of_ble_eq_true rfl), (Nat.le_of_ble_eq_true rfl)⟩) hS (fun q _ h => hFc q h) hFc (fun u t H1 locs ht hvm hw hB hz1 hk1 hS => ?_)
  obtain ⟨aX, bX, cA, cB, g⟩ := u
  obtain ⟨hP1, hK1, hD1⟩ := hB
  rw [ht] at hP1
  have hK1 := va_K.moved hvm.symm hK1
  obtain ⟨hP, hD⟩ := va_join (wr := []) (w1 := (wX hX aX bX cA cB (nI 1, (fun _ => 0), g))) hP hD [0] [] rfl rfl (by decide) (by decide) hk1 hFc hP1 hD1
  generalize H1 = H at hP hS ⊢
  have hP : va_P (dC, dI) vwCl [(hX, .inr (0, [.ref aX, .ref bX, .int (nI 1)])), (aX, .inl (cA, 1000, .inl (fun _ => 0))), (bX, .inl (cB, 1000, .inl g))] H := hP
  have hD : va_D (fun q : Nat => s.heap.size ≤ q) [(hX, .inr (0, [.ref aX, .ref bX, .int (nI 1)])), (aX, .inl (cA, 1000, .inl (fun _ => 0))), (bX, .inl (cB, 1000, .inl g))] := hD
  have hK : va_K (dC, dI) vwCl [(cA, .int), (cB, .int)] s := hK.app hK1
  have hg9 : ol_g 1 (fun _ => 0) g := hw
  refine W.widen (k := 3) (n := 2003) (by omega) (by omega) ?_
  refine lv_astore_n (lv' := [(1, .ref hX), (0, .ref b)]) hx hb dL_law_7 rfl hl (by decide) rfl (fun ls hl => ?_)
  refine va_new (ci := 1) (fs := [.int 0, .null, .int 0, .null]) (C := RX1) (T := TX1) (N := 4) hx hb hts inX1 tyX1 tyX1_ok hown (hts (.classLink RL 40 RX1) (by decide +kernel)) (hts (.instantiable RX1 4) (by decide +kernel)) (hts (.initialized RX1) (by decide +kernel)) hK hP hD hS hA rfl (fun j hj => by rcases (show j = 0 ∨ j = 1 ∨ j = 2 ∨ j = 3 by omega) with rfl | rfl | rfl | rfl <;> rfl) (Nat.le_of_ble_eq_true rfl) (Nat.le_of_ble_eq_true rfl) dL_law_8 (fun hM H hP hD hS => ?_)
  have hP : va_P (dC, dI) vwCl [(hX, .inr (0, [.ref aX, .ref bX, .int (nI 1)])), (aX, .inl (cA, 1000, .inl (fun _ => 0))), (bX, .inl (cB, 1000, .inl g)), (hM, .inr (1, [.int 0, .null, .int 0, .null]))] H := hP
  have hD : va_D (fun q : Nat => s.heap.size ≤ q) [(hX, .inr (0, [.ref aX, .ref bX, .int (nI 1)])), (aX, .inl (cA, 1000, .inl (fun _ => 0))), (bX, .inl (cB, 1000, .inl g)), (hM, .inr (1, [.int 0, .null, .int 0, .null]))] := hD
  refine W.widen (k := 4) (n := 2007) (by omega) (by omega) ?_
  refine lv_dup hx hb dL_law_11 rfl ?_
  have hPc := hP.sub (ws' := [(hM, .inr (1, [.int 0, .null, .int 0, .null]))]) [3] rfl
  have hDc := hD.sub (ws' := [(hM, .inr (1, [.int 0, .null, .int 0, .null]))]) [3] (by decide) rfl
  have hKc := hK.sub (tys' := []) [] rfl
  have hFc := va_free (wc := [(hM, .inr (1, [.int 0, .null, .int 0, .null]))]) hD hS hA [3] rfl
  refine va_callv (va_runI (As := []) (rest := [.ref hM]) ⟨hx, hb, hml, hown, htsL⟩ (c_M_init l dC dI hM H.size) (cwI 0 htsL gL_law_X1_init rfl rfl rfl (hts (.initialized RX1) (by decide +kernel)) (hts (.methodLink RL 42 yX1_init) (by decide +kernel)) (hts (.instanceMethod yX1_init) (by decide +kernel)) rfl (by decide +kernel) ⟨(Nat.le_of_ble_eq_true rfl), (Nat.le_of_ble_eq_true rfl)⟩) (ow_PreI hKc hPc hDc) rfl rfl hl.1 rfl (lv_room (Nat.le_of_ble_eq_true rfl)) dL_law_12 ⟨(Nat.le_of_ble_eq_true rfl), (Nat.le_of_ble_eq_true rfl)⟩) hS (fun q _ h => hFc q h) hFc (fun u t H1 locs ht hvm hw hB hz1 hk1 hS => ?_)
  obtain ⟨aM, bM, cC, cD⟩ := u
  obtain ⟨hP1, hK1, hD1⟩ := hB
  rw [ht] at hP1
  have hK1 := va_K.moved hvm.symm hK1
  obtain ⟨hP, hD⟩ := va_join (wr := [(hX, .inr (0, [.ref aX, .ref bX, .int (nI 1)])), (aX, .inl (cA, 1000, .inl (fun _ => 0))), (bX, .inl (cB, 1000, .inl g))]) (w1 := (wM hM aM bM cC cD (0, nI 1, (fun _ => 0), (fun _ => 0)))) hP hD [3] [0, 1, 2] rfl rfl (by decide) (by decide) hk1 hFc hP1 hD1
  generalize H1 = H at hP hS ⊢
  have hP : va_P (dC, dI) vwCl [(hX, .inr (0, [.ref aX, .ref bX, .int (nI 1)])), (aX, .inl (cA, 1000, .inl (fun _ => 0))), (bX, .inl (cB, 1000, .inl g)), (hM, .inr (1, [.int 0, .ref aM, .int (nI 1), .ref bM])), (aM, .inl (cC, 1000, .inl (fun _ => 0))), (bM, .inl (cD, 1000, .inl (fun _ => 0)))] H := hP
  have hD : va_D (fun q : Nat => s.heap.size ≤ q) [(hX, .inr (0, [.ref aX, .ref bX, .int (nI 1)])), (aX, .inl (cA, 1000, .inl (fun _ => 0))), (bX, .inl (cB, 1000, .inl g)), (hM, .inr (1, [.int 0, .ref aM, .int (nI 1), .ref bM])), (aM, .inl (cC, 1000, .inl (fun _ => 0))), (bM, .inl (cD, 1000, .inl (fun _ => 0)))] := hD
  have hK : va_K (dC, dI) vwCl [(cA, .int), (cB, .int), (cC, .int), (cD, .int)] s := hK.app hK1
  refine W.widen (k := 6) (n := 4007) (by omega) (by omega) ?_
  refine lv_astore_n (lv' := [(2, .ref hM), (1, .ref hX), (0, .ref b)]) hx hb dL_law_15 rfl hl (by decide) rfl (fun ls hl => ?_)
  refine lv_iconst (v := 1) hx hb dL_law_16 (by decide +kernel) ?_
  refine va_newa (atype := .long) (ty := .long) (N' := 1) (a0 := (1, .inr (.inl (fun _ => 0)))) hx hb (hts (.arrayClass .long) (by decide +kernel)) rfl hK hP hD hS hA (fun _ => rfl) (by decide +kernel) (by decide +kernel) (by decide) (Nat.le_of_ble_eq_true rfl) (Nat.le_of_ble_eq_true rfl) dL_law_17 (fun o cO H hK hP hD hS => ?_)
  have hP : va_P (dC, dI) vwCl [(hX, .inr (0, [.ref aX, .ref bX, .int (nI 1)])), (aX, .inl (cA, 1000, .inl (fun _ => 0))), (bX, .inl (cB, 1000, .inl g)), (hM, .inr (1, [.int 0, .ref aM, .int (nI 1), .ref bM])), (aM, .inl (cC, 1000, .inl (fun _ => 0))), (bM, .inl (cD, 1000, .inl (fun _ => 0))), (o, .inl (cO, 1, .inr (.inl (fun _ => 0))))] H := hP
  have hD : va_D (fun q : Nat => s.heap.size ≤ q) [(hX, .inr (0, [.ref aX, .ref bX, .int (nI 1)])), (aX, .inl (cA, 1000, .inl (fun _ => 0))), (bX, .inl (cB, 1000, .inl g)), (hM, .inr (1, [.int 0, .ref aM, .int (nI 1), .ref bM])), (aM, .inl (cC, 1000, .inl (fun _ => 0))), (bM, .inl (cD, 1000, .inl (fun _ => 0))), (o, .inl (cO, 1, .inr (.inl (fun _ => 0))))] := hD
  have hK : va_K (dC, dI) vwCl [(cA, .int), (cB, .int), (cC, .int), (cD, .int), (cO, .long)] s := hK
  refine W.widen (k := 7 + 0) (n := 4008 + 6 * 0) (by omega) (by omega) ?_
  refine lv_astore_n (lv' := [(3, .ref o), (2, .ref hM), (1, .ref hX), (0, .ref b)]) hx hb dL_law_19 rfl hl (by decide) rfl (fun ls hl => ?_)
  refine lv_iconst (v := nI (4 * 0)) hx hb dL_law_20 (by decide +kernel) ?_
  refine lv_istore (lv' := [(4, .int (nI (4 * 0))), (3, .ref o), (2, .ref hM), (1, .ref hX), (0, .ref b)]) hx hb dL_law_21 hl (by decide) rfl (fun ls hl => ?_)
  exact law_loop C0 hL hfl (hK.sub [0, 1, 4, 2, 3] rfl) hA hbA hZs (fun _ h => h) (L + 1) 0 (by omega) (by omega) 1 (fun _ => 0) (fun _ => 0) g (fun _ => 0) (fun _ => 0) 0 (fun _ => 0) H locs ls ol_ok_0 ol_f_0 hg9 ol_f_0 (hP.sub [0, 1, 2, 6, 3, 4, 5] rfl) (hD.sub [0, 1, 2, 6, 3, 4, 5] (by decide) rfl) hS (lv_sub hl [4, 3, 2, 1, 0] rfl)
