/-! THE LINE AS A FUNCTION ON PLACES: n stamps; the stamp at place p is L p. Both sides are tied to it. -/
def ol_ok (n : Nat) (L : Nat → Nat) : Prop := 1 ≤ n ∧ n ≤ 1000 ∧ L 0 = 0 ∧ (∀ p, p < n → L p < 1000) ∧ ∀ p q, p < n → q < n → L p = L q → p = q
/-- the row of the stamps in their order -/
def ol_f (n : Nat) (L : Nat → Nat) (f : Nat → Int32) : Prop := ∀ p, p < n → f p = nI (L p)
/-- the row of the places -/
def ol_g (n : Nat) (L : Nat → Nat) (g : Nat → Int32) : Prop := (∀ p, p < n → g (L p) = nI p) ∧ ∀ v, v < 1000 → (∀ p, p < n → L p ≠ v) → g v = -1
def ol_at (n : Nat) (L : Nat → Nat) (x : Int32) (p : Nat) : Prop := p < n ∧ x = nI (L p)
def ol_no (n : Nat) (L : Nat → Nat) (x : Int32) : Prop := ∀ p, p < n → x ≠ nI (L p)
theorem ol_dec (n : Nat) (L : Nat → Nat) (x : Int32) : (∃ p, ol_at n L x p) ∨ ol_no n L x := by
  by_cases h : ∃ p, ol_at n L x p
  · exact Or.inl h
  · exact Or.inr (fun p hp e => h ⟨p, hp, e⟩)
theorem ol_m1 {n : Nat} (h : n < 2 ^ 31) : nI n ≠ -1 := by
  intro e
  have h1 := congrArg Int32.toInt e
  rw [nI_toInt h] at h1
  have h2 : (-1 : Int32).toInt = -1 := by decide
  omega
theorem ol_neg (n : Nat) (h : n < 2 ^ 31) : ¬ nI n < 0 := nI_pos h
theorem ol_at_un {n : Nat} {L : Nat → Nat} (h : ol_ok n L) {x : Int32} {p q : Nat} (hp : ol_at n L x p) (hq : ol_at n L x q) : p = q := by
  have h1 := h.2.2.2.1 p hp.1
  have h2 := h.2.2.2.1 q hq.1
  have e : nI (L p) = nI (L q) := hp.2.symm.trans hq.2
  exact h.2.2.2.2 p q hp.1 hq.1 ((nI_eq (by omega) (by omega)).mp e)
theorem ol_at_no {n : Nat} {L : Nat → Nat} {x : Int32} {p : Nat} (hp : ol_at n L x p) (h : ol_no n L x) : False := h p hp.1 hp.2
theorem ol_at0 {n : Nat} {L : Nat → Nat} (h : ol_ok n L) : ol_at n L 0 0 := ⟨h.1, by rw [h.2.2.1]; exact nI_0.symm⟩
/-- pigeons -/
theorem ol_pig : ∀ (m n : Nat) (f : Nat → Nat), (∀ p, p < n → f p < m) → (∀ p q, p < n → q < n → f p = f q → p = q) → n ≤ m := by
  intro m
  induction m with
  | zero =>
    intro n f hb _
    rcases Nat.eq_zero_or_pos n with h | h
    · omega
    · exact absurd (hb 0 h) (Nat.not_lt_zero _)
  | succ m ih =>
    intro n f hb hi
    rcases Nat.eq_zero_or_pos n with h | h
    · omega
    · have hl := hb (n - 1) (by omega)
      have h1 := ih (n - 1) (fun p => if f p = m then f (n - 1) else f p) (by
        intro p hp
        have h2 := hb p (by omega)
        show (if f p = m then f (n - 1) else f p) < m
        by_cases e : f p = m
        · have h3 : f (n - 1) ≠ m := fun e2 => by
            have h4 := hi p (n - 1) (by omega) (by omega) (by rw [e, e2])
            omega
          rw [if_pos e]; omega
        · rw [if_neg e]; omega) (by
        intro p q hp hq e
        have e : (if f p = m then f (n - 1) else f p) = (if f q = m then f (n - 1) else f q) := e
        by_cases e1 : f p = m
        · by_cases e2 : f q = m
          · exact hi p q (by omega) (by omega) (by rw [e1, e2])
          · rw [if_pos e1, if_neg e2] at e
            have h4 := hi (n - 1) q (by omega) (by omega) e
            omega
        · by_cases e2 : f q = m
          · rw [if_neg e1, if_pos e2] at e
            have h4 := hi p (n - 1) (by omega) (by omega) e
            omega
          · rw [if_neg e1, if_neg e2] at e
            exact hi p q (by omega) (by omega) e)
      omega
/-- the least number that none has (1000: all have one) -/
def ol_lf (n : Nat) (L : Nat → Nat) (k : Nat) : Prop := k ≤ 1000 ∧ (∀ v, v < k → ∃ p, p < n ∧ L p = v) ∧ (k < 1000 → ∀ p, p < n → L p ≠ k)
theorem ol_lf_ex (n : Nat) (L : Nat → Nat) : ∃ k, ol_lf n L k := by
  obtain ⟨k, hk, hm⟩ := pk_least (fun k => k = 1000 ∨ ∀ p, p < n → L p ≠ k) ⟨1000, Or.inl rfl⟩
  refine ⟨k, ?_, ?_, ?_⟩
  · rcases Nat.lt_or_ge 1000 k with h | h
    · exact absurd (Or.inl rfl) (hm 1000 h)
    · exact h
  · intro v hv
    by_cases h : ∃ p, p < n ∧ L p = v
    · exact h
    · exact absurd (Or.inr fun p hp e => h ⟨p, hp, e⟩) (hm v hv)
  · intro hlt
    rcases hk with h | h
    · omega
    · exact h
theorem ol_lf_un {n : Nat} {L : Nat → Nat} {a b : Nat} (ha : ol_lf n L a) (hb : ol_lf n L b) : a = b := by
  rcases Nat.lt_trichotomy a b with h | h | h
  · obtain ⟨p, hp, e⟩ := hb.2.1 a h
    exact absurd e (ha.2.2 (by have := hb.1; omega) p hp)
  · exact h
  · obtain ⟨p, hp, e⟩ := ha.2.1 b h
    exact absurd e (hb.2.2 (by have := ha.1; omega) p hp)
noncomputable def ol_fr (n : Nat) (L : Nat → Nat) : Nat := Classical.choose (ol_lf_ex n L)
theorem ol_fr_lf (n : Nat) (L : Nat → Nat) : ol_lf n L (ol_fr n L) := Classical.choose_spec (ol_lf_ex n L)
theorem ol_fr_of {n : Nat} {L : Nat → Nat} {k : Nat} (h : ol_lf n L k) : ol_fr n L = k := ol_lf_un (ol_fr_lf n L) h
theorem ol_fr_lt {n : Nat} {L : Nat → Nat} (h : ol_ok n L) (hn : n < 1000) : ol_fr n L < 1000 := by
  have hs := ol_fr_lf n L
  rcases Nat.lt_or_ge (ol_fr n L) 1000 with hl | hl
  · exact hl
  · have hall : ∀ v, v < 1000 → ∃ p, p < n ∧ L p = v := fun v hv => hs.2.1 v (by omega)
    have hc : ∀ v, ∃ p, v < 1000 → p < n ∧ L p = v := fun v => by
      by_cases hv : v < 1000
      · obtain ⟨p, hp⟩ := hall v hv
        exact ⟨p, fun _ => hp⟩
      · exact ⟨0, fun h => absurd h hv⟩
    have h1 := ol_pig n 1000 (fun v => Classical.choose (hc v)) (fun v hv => (Classical.choose_spec (hc v) hv).1) (fun v w hv hw e => by
      have e1 := (Classical.choose_spec (hc v) hv).2
      have e2 := (Classical.choose_spec (hc w) hw).2
      have e : Classical.choose (hc v) = Classical.choose (hc w) := e
      rw [← e1, ← e2, e])
    omega
theorem ol_fr_full {L : Nat → Nat} (h : ol_ok 1000 L) : ol_fr 1000 L = 1000 := by
  have hs := ol_fr_lf 1000 L
  rcases Nat.lt_or_ge (ol_fr 1000 L) 1000 with hl | hl
  · have hf := hs.2.2 hl
    have h1 := ol_pig 1000 1001 (fun p => if p = 1000 then ol_fr 1000 L else L p) (fun p hp => by
      show (if p = 1000 then ol_fr 1000 L else L p) < 1000
      by_cases e : p = 1000
      · rw [if_pos e]; exact hl
      · rw [if_neg e]; exact h.2.2.2.1 p (by omega)) (fun p q hp hq e => by
      have e : (if p = 1000 then ol_fr 1000 L else L p) = (if q = 1000 then ol_fr 1000 L else L q) := e
      by_cases e1 : p = 1000
      · by_cases e2 : q = 1000
        · omega
        · rw [if_pos e1, if_neg e2] at e
          exact absurd e.symm (hf q (by omega))
      · by_cases e2 : q = 1000
        · rw [if_neg e1, if_pos e2] at e
          exact absurd e (hf p (by omega))
        · rw [if_neg e1, if_neg e2] at e
          exact h.2.2.2.2 p q (by omega) (by omega) e)
    omega
  · have := hs.1
    omega
/-- one more, v at place q -/
def ol_ins (L : Nat → Nat) (q v : Nat) : Nat → Nat := fun p => if p < q then L p else if p = q then v else L (p - 1)
theorem ol_ins_lo {L : Nat → Nat} {q v p : Nat} (h : p < q) : ol_ins L q v p = L p := if_pos h
theorem ol_ins_at (L : Nat → Nat) (q v : Nat) : ol_ins L q v q = v := by
  unfold ol_ins
  rw [if_neg (Nat.lt_irrefl q), if_pos rfl]
theorem ol_ins_hi {L : Nat → Nat} {q v p : Nat} (h : q < p) : ol_ins L q v p = L (p - 1) := by
  unfold ol_ins
  rw [if_neg (by omega), if_neg (by omega)]
theorem ol_ok_ins {n : Nat} {L : Nat → Nat} (h : ol_ok n L) {q v : Nat} (h1 : 1 ≤ q) (hq : q ≤ n) (hn : n < 1000) (hv : v < 1000) (hf : ∀ p, p < n → L p ≠ v) : ol_ok (n + 1) (ol_ins L q v) := by
  obtain ⟨g1, g2, g3, g4, g5⟩ := h
  refine ⟨by omega, by omega, by rw [ol_ins_lo (by omega)]; exact g3, ?_, ?_⟩
  · intro p hp
    rcases Nat.lt_trichotomy p q with c | c | c
    · rw [ol_ins_lo c]; exact g4 p (by omega)
    · subst c; rw [ol_ins_at]; exact hv
    · rw [ol_ins_hi c]; exact g4 (p - 1) (by omega)
  · intro a b ha hb e
    rcases Nat.lt_trichotomy a q with ca | ca | ca
    · rw [ol_ins_lo ca] at e
      rcases Nat.lt_trichotomy b q with cb | cb | cb
      · rw [ol_ins_lo cb] at e; exact g5 a b (by omega) (by omega) e
      · subst cb; rw [ol_ins_at] at e; exact absurd e (hf a (by omega))
      · rw [ol_ins_hi cb] at e; have := g5 a (b - 1) (by omega) (by omega) e; omega
    · subst ca
      rw [ol_ins_at] at e
      rcases Nat.lt_trichotomy b a with cb | cb | cb
      · rw [ol_ins_lo cb] at e; exact absurd e.symm (hf b (by omega))
      · exact cb.symm
      · rw [ol_ins_hi cb] at e; exact absurd e.symm (hf (b - 1) (by omega))
    · rw [ol_ins_hi ca] at e
      rcases Nat.lt_trichotomy b q with cb | cb | cb
      · rw [ol_ins_lo cb] at e; have := g5 (a - 1) b (by omega) (by omega) e; omega
      · subst cb; rw [ol_ins_at] at e; exact absurd e (hf (a - 1) (by omega))
      · rw [ol_ins_hi cb] at e; have := g5 (a - 1) (b - 1) (by omega) (by omega) e; omega
/-- j more at the places q, q + 1 .., each the least number that none has -/
noncomputable def ol_many (n : Nat) (L : Nat → Nat) (q : Nat) : Nat → Nat → Nat
  | 0 => L
  | j + 1 => ol_ins (ol_many n L q j) (q + j) (ol_fr (n + j) (ol_many n L q j))
theorem ol_many_lo {n : Nat} {L : Nat → Nat} {q p : Nat} (h : p < q) : ∀ j, ol_many n L q j p = L p := by
  intro j
  induction j with
  | zero => rfl
  | succ j ih =>
    show ol_ins (ol_many n L q j) (q + j) (ol_fr (n + j) (ol_many n L q j)) p = L p
    rw [ol_ins_lo (by omega)]
    exact ih
theorem ol_many_hi {n : Nat} {L : Nat → Nat} {q : Nat} : ∀ j p, q + j ≤ p → ol_many n L q j p = L (p - j) := by
  intro j
  induction j with
  | zero => intro p _; rfl
  | succ j ih =>
    intro p hp
    show ol_ins (ol_many n L q j) (q + j) (ol_fr (n + j) (ol_many n L q j)) p = L (p - (j + 1))
    rw [ol_ins_hi (by omega), ih (p - 1) (by omega)]
    congr 1
    omega
theorem ol_many_at {n : Nat} {L : Nat → Nat} {q j : Nat} : ol_many n L q (j + 1) (q + j) = ol_fr (n + j) (ol_many n L q j) := ol_ins_at _ _ _
theorem ol_many_keep {n : Nat} {L : Nat → Nat} {q i : Nat} : ∀ j, i < j → ol_many n L q j (q + i) = ol_fr (n + i) (ol_many n L q i) := by
  intro j
  induction j with
  | zero => intro h; omega
  | succ j ih =>
    intro h
    rcases Nat.lt_or_ge i j with c | c
    · show ol_ins (ol_many n L q j) (q + j) (ol_fr (n + j) (ol_many n L q j)) (q + i) = _
      rw [ol_ins_lo (by omega)]
      exact ih c
    · have e : i = j := by omega
      subst e
      exact ol_many_at
theorem ol_ok_many {n : Nat} {L : Nat → Nat} (h : ol_ok n L) {q : Nat} (h1 : 1 ≤ q) (hq : q ≤ n) : ∀ j, n + j ≤ 1000 → ol_ok (n + j) (ol_many n L q j) := by
  intro j
  induction j with
  | zero => intro _; exact h
  | succ j ih =>
    intro hj
    have h2 := ih (by omega)
    have h3 := ol_fr_lt h2 (by omega)
    exact ol_ok_ins h2 (by omega) (by omega) (by omega) h3 ((ol_fr_lf _ _).2.2 h3)
/-- w go, from place s on -/
def ol_rem (L : Nat → Nat) (s w : Nat) : Nat → Nat := fun p => if p < s then L p else L (p + w)
theorem ol_rem_lo {L : Nat → Nat} {s w p : Nat} (h : p < s) : ol_rem L s w p = L p := if_pos h
theorem ol_rem_hi {L : Nat → Nat} {s w p : Nat} (h : s ≤ p) : ol_rem L s w p = L (p + w) := if_neg (by omega)
theorem ol_rem_0 (L : Nat → Nat) (s : Nat) : ol_rem L s 0 = L := by
  funext p
  unfold ol_rem
  split <;> rfl
theorem ol_rem_1 (L : Nat → Nat) (s w : Nat) : ol_rem (ol_rem L s w) s 1 = ol_rem L s (w + 1) := by
  funext p
  rcases Nat.lt_or_ge p s with h | h
  · rw [ol_rem_lo h, ol_rem_lo h, ol_rem_lo h]
  · rw [ol_rem_hi h, ol_rem_hi (by omega), ol_rem_hi h]
    congr 1
    omega
theorem ol_ok_rem {n : Nat} {L : Nat → Nat} (h : ol_ok n L) {s w : Nat} (h1 : 1 ≤ s) (hs : s + w ≤ n) : ol_ok (n - w) (ol_rem L s w) := by
  obtain ⟨g1, g2, g3, g4, g5⟩ := h
  refine ⟨by omega, by omega, by rw [ol_rem_lo (by omega)]; exact g3, ?_, ?_⟩
  · intro p hp
    rcases Nat.lt_or_ge p s with c | c
    · rw [ol_rem_lo c]; exact g4 p (by omega)
    · rw [ol_rem_hi c]; exact g4 (p + w) (by omega)
  · intro a b ha hb e
    rcases Nat.lt_or_ge a s with ca | ca
    · rw [ol_rem_lo ca] at e
      rcases Nat.lt_or_ge b s with cb | cb
      · rw [ol_rem_lo cb] at e; exact g5 a b (by omega) (by omega) e
      · rw [ol_rem_hi cb] at e; have := g5 a (b + w) (by omega) (by omega) e; omega
    · rw [ol_rem_hi ca] at e
      rcases Nat.lt_or_ge b s with cb | cb
      · rw [ol_rem_lo cb] at e; have := g5 (a + w) b (by omega) (by omega) e; omega
      · rw [ol_rem_hi cb] at e; have := g5 (a + w) (b + w) (by omega) (by omega) e; omega
/-- the places s .. e - 1 the other way round -/
def ol_rev (L : Nat → Nat) (s e : Nat) : Nat → Nat := fun p => if s ≤ p ∧ p < e then L (s + e - 1 - p) else L p
theorem ol_rev_in {L : Nat → Nat} {s e p : Nat} (h1 : s ≤ p) (h2 : p < e) : ol_rev L s e p = L (s + e - 1 - p) := if_pos ⟨h1, h2⟩
theorem ol_rev_out {L : Nat → Nat} {s e p : Nat} (h : p < s ∨ e ≤ p) : ol_rev L s e p = L p := if_neg (by omega)
theorem ol_ok_rev {n : Nat} {L : Nat → Nat} (h : ol_ok n L) {s e : Nat} (h1 : 1 ≤ s) (he : e ≤ n) : ol_ok n (ol_rev L s e) := by
  obtain ⟨g1, g2, g3, g4, g5⟩ := h
  refine ⟨g1, g2, by rw [ol_rev_out (by omega)]; exact g3, ?_, ?_⟩
  · intro p hp
    by_cases c : s ≤ p ∧ p < e
    · rw [ol_rev_in c.1 c.2]; exact g4 _ (by omega)
    · rw [ol_rev_out (by omega)]; exact g4 p hp
  · intro a b ha hb q
    by_cases ca : s ≤ a ∧ a < e
    · rw [ol_rev_in ca.1 ca.2] at q
      by_cases cb : s ≤ b ∧ b < e
      · rw [ol_rev_in cb.1 cb.2] at q; have := g5 _ _ (by omega) (by omega) q; omega
      · rw [ol_rev_out (by omega)] at q; have := g5 _ _ (by omega) (by omega) q; omega
    · rw [ol_rev_out (by omega)] at q
      by_cases cb : s ≤ b ∧ b < e
      · rw [ol_rev_in cb.1 cb.2] at q; have := g5 _ _ (by omega) (by omega) q; omega
      · rw [ol_rev_out (by omega)] at q; exact g5 _ _ (by omega) (by omega) q
/-- the places s .. m - 1 and m .. e - 1 change sides -/
def ol_swp (L : Nat → Nat) (s m e : Nat) : Nat → Nat := fun p => if p < s ∨ e ≤ p then L p else if p < s + (e - m) then L (m + (p - s)) else L (p - (e - m))
theorem ol_swp_out {L : Nat → Nat} {s m e p : Nat} (h : p < s ∨ e ≤ p) : ol_swp L s m e p = L p := if_pos h
theorem ol_swp_a {L : Nat → Nat} {s m e p : Nat} (h1 : s ≤ p) (h2 : p < e) (h3 : p < s + (e - m)) : ol_swp L s m e p = L (m + (p - s)) := by
  unfold ol_swp
  rw [if_neg (by omega), if_pos h3]
theorem ol_swp_b {L : Nat → Nat} {s m e p : Nat} (h2 : p < e) (h3 : s + (e - m) ≤ p) : ol_swp L s m e p = L (p - (e - m)) := by
  unfold ol_swp
  rw [if_neg (by omega), if_neg (by omega)]
theorem ol_rev3 (L : Nat → Nat) {s m e : Nat} (h1 : s ≤ m) (h2 : m ≤ e) : ol_rev (ol_rev (ol_rev L s m) m e) s e = ol_swp L s m e := by
  funext p
  by_cases c : s ≤ p ∧ p < e
  · rw [ol_rev_in c.1 c.2]
    by_cases d : p < s + (e - m)
    · rw [ol_swp_a c.1 c.2 d, ol_rev_in (by omega) (by omega), ol_rev_out (by omega)]
      congr 1
      omega
    · rw [ol_swp_b c.2 (by omega), ol_rev_out (by omega), ol_rev_in (by omega) (by omega)]
      congr 1
      omega
  · rw [ol_rev_out (by omega), ol_swp_out (by omega), ol_rev_out (by omega), ol_rev_out (by omega)]
/-- w of B at the places q .. q + w - 1 -/
def ol_blk (L B : Nat → Nat) (q w : Nat) : Nat → Nat := fun p => if p < q then L p else if p < q + w then B (p - q) else L (p - w)
theorem ol_blk_lo {L B : Nat → Nat} {q w p : Nat} (h : p < q) : ol_blk L B q w p = L p := if_pos h
theorem ol_blk_in {L B : Nat → Nat} {q w p : Nat} (h : q ≤ p) (h2 : p < q + w) : ol_blk L B q w p = B (p - q) := by
  unfold ol_blk
  rw [if_neg (by omega), if_pos h2]
theorem ol_blk_hi {L B : Nat → Nat} {q w p : Nat} (h : q + w ≤ p) : ol_blk L B q w p = L (p - w) := by
  unfold ol_blk
  rw [if_neg (by omega), if_neg (by omega)]
theorem ol_blk_0 (L B : Nat → Nat) (q : Nat) : ol_blk L B q 0 = L := by
  funext p
  rcases Nat.lt_or_ge p q with h | h
  · rw [ol_blk_lo h]
  · rw [ol_blk_hi (by omega)]; rfl
theorem ol_blk_1 (L B : Nat → Nat) (q w : Nat) : ol_ins (ol_blk L B q w) (q + w) (B w) = ol_blk L B q (w + 1) := by
  funext p
  rcases Nat.lt_trichotomy p (q + w) with h | h | h
  · rw [ol_ins_lo h]
    rcases Nat.lt_or_ge p q with c | c
    · rw [ol_blk_lo c, ol_blk_lo c]
    · rw [ol_blk_in c h, ol_blk_in c (by omega)]
  · subst h
    rw [ol_ins_at, ol_blk_in (by omega) (by omega)]
    congr 1
    omega
  · rw [ol_ins_hi h, ol_blk_hi (by omega), ol_blk_hi (by omega)]
    congr 1
    omega
theorem ol_carry_lo (L : Nat → Nat) {a b c : Nat} (h : c ≤ a) (h2 : a < b) : ol_blk (ol_rem L (a + 1) (b - a - 1)) (fun j => L (a + 1 + j)) (c + 1) (b - a - 1) = ol_swp L (c + 1) (a + 1) b := by
  funext p
  rcases Nat.lt_or_ge p (c + 1) with k | k
  · rw [ol_blk_lo k, ol_rem_lo (by omega), ol_swp_out (by omega)]
  · rcases Nat.lt_or_ge p (c + 1 + (b - a - 1)) with k2 | k2
    · rw [ol_blk_in k k2, ol_swp_a (by omega) (by omega) (by omega)]
    · rw [ol_blk_hi k2]
      rcases Nat.lt_or_ge p b with k3 | k3
      · rw [ol_rem_lo (by omega), ol_swp_b k3 (by omega)]
        congr 1
        try omega
      · rw [ol_rem_hi (by omega), ol_swp_out (by omega)]
        congr 1
        omega
theorem ol_carry_hi (L : Nat → Nat) {a b c : Nat} (h : b ≤ c) (h2 : a < b) : ol_blk (ol_rem L (a + 1) (b - a - 1)) (fun j => L (a + 1 + j)) (c - (b - a - 1) + 1) (b - a - 1) = ol_swp L (a + 1) b (c + 1) := by
  funext p
  rcases Nat.lt_or_ge p (c - (b - a - 1) + 1) with k | k
  · rw [ol_blk_lo k]
    rcases Nat.lt_or_ge p (a + 1) with k2 | k2
    · rw [ol_rem_lo k2, ol_swp_out (by omega)]
    · rw [ol_rem_hi k2, ol_swp_a k2 (by omega) (by omega)]
      congr 1
      omega
  · rcases Nat.lt_or_ge p (c + 1) with k2 | k2
    · rw [ol_blk_in k (by omega), ol_swp_b k2 (by omega)]
      show L _ = L _
      congr 1
      omega
    · rw [ol_blk_hi (by omega), ol_rem_hi (by omega), ol_swp_out (by omega)]
      congr 1
      omega
theorem ol_ok_swp {n : Nat} {L : Nat → Nat} (h : ol_ok n L) {s m e : Nat} (h1 : 1 ≤ s) (h2 : s ≤ m) (h3 : m ≤ e) (he : e ≤ n) : ol_ok n (ol_swp L s m e) := by
  rw [← ol_rev3 L h2 h3]
  exact ol_ok_rev (ol_ok_rev (ol_ok_rev h h1 (by omega)) (by omega) he) h1 he
/-- the greatest of j, from place a on -/
def ol_top (L : Nat → Nat) (a : Nat) : Nat → Int32
  | 0 => -1
  | j + 1 => if ol_top L a j < nI (L (a + j)) then nI (L (a + j)) else ol_top L a j
/-! THE LOOPS OF THE LINE'S KEEPER, a step each -/
def ol_t1 (N : Nat) (L : Nat → Nat) (s0 i : Nat) (g : Nat → Int32) : Prop := (∀ p, p < N → (p < s0 ∨ s0 + i ≤ p) → g (L p) = nI p) ∧ (∀ p, s0 ≤ p → p < s0 + i → g (L p) = -1) ∧ ∀ v, v < 1000 → (∀ p, p < N → L p ≠ v) → g v = -1
theorem ol_t1_0 {N : Nat} {L : Nat → Nat} {s0 : Nat} {g : Nat → Int32} (hg : ol_g N L g) : ol_t1 N L s0 0 g := ⟨fun p hp _ => hg.1 p hp, fun p h1 h2 => by omega, hg.2⟩
theorem ol_t1_s {N : Nat} {L : Nat → Nat} {s0 i : Nat} {g : Nat → Int32} (ok : ol_ok N L) (h : ol_t1 N L s0 i g) (hi : s0 + i < N) : ol_t1 N L s0 (i + 1) (upd g (L (s0 + i)) (-1)) := by
  obtain ⟨h1, h2, h3⟩ := h
  have inj := ok.2.2.2.2
  refine ⟨fun p hp c => ?_, fun p c1 c2 => ?_, fun v hv hn => ?_⟩
  · rw [pk_un (fun e => by have := inj p (s0 + i) hp hi e; omega)]
    exact h1 p hp (by omega)
  · by_cases e : p = s0 + i
    · subst e; exact pk_us
    · rw [pk_un (fun q => e (inj p (s0 + i) (by omega) hi q))]
      exact h2 p c1 (by omega)
  · rw [pk_un (fun e => hn (s0 + i) hi e.symm)]
    exact h3 v hv hn
def ol_t2 (N : Nat) (L : Nat → Nat) (s0 w j : Nat) (f g : Nat → Int32) : Prop := (∀ p, p < s0 → f p = nI (L p) ∧ g (L p) = nI p) ∧ (∀ p, s0 ≤ p → p < s0 + j → f p = nI (L (p + w)) ∧ g (L (p + w)) = nI p) ∧ (∀ p, s0 + w + j ≤ p → p < N → f p = nI (L p)) ∧ ∀ v, v < 1000 → (∀ p, p < N → (p < s0 ∨ s0 + w ≤ p) → L p ≠ v) → g v = -1
theorem ol_t2_0 {N : Nat} {L : Nat → Nat} {s0 w : Nat} {f g : Nat → Int32} (hf : ol_f N L f) (h : ol_t1 N L s0 w g) (hs : s0 + w ≤ N) : ol_t2 N L s0 w 0 f g := by
  refine ⟨fun p hp => ⟨hf p (by omega), h.1 p (by omega) (by omega)⟩, fun p a b => by omega, fun p a b => hf p b, fun v hv hn => ?_⟩
  by_cases c : ∃ p, p < N ∧ L p = v
  · obtain ⟨p, hp, e⟩ := c
    have h4 : ¬ (p < s0 ∨ s0 + w ≤ p) := fun q => hn p hp q e
    rw [← e]
    exact h.2.1 p (by omega) (by omega)
  · exact h.2.2 v hv (fun p hp e => c ⟨p, hp, e⟩)
theorem ol_t2_s {N : Nat} {L : Nat → Nat} {s0 w j : Nat} {f g : Nat → Int32} (ok : ol_ok N L) (h : ol_t2 N L s0 w j f g) (hj : s0 + w + j < N) : ol_t2 N L s0 w (j + 1) (upd f (s0 + j) (nI (L (s0 + w + j)))) (upd g (L (s0 + w + j)) (nI (s0 + j))) := by
  obtain ⟨h1, h2, h3, h4⟩ := h
  have inj := ok.2.2.2.2
  refine ⟨fun p hp => ⟨?_, ?_⟩, fun p c1 c2 => ?_, fun p c1 c2 => ?_, fun v hv hn => ?_⟩
  · rw [pk_un (by omega)]; exact (h1 p hp).1
  · rw [pk_un (fun e => by have := inj p (s0 + w + j) (by omega) hj e; omega)]; exact (h1 p hp).2
  · by_cases e : p = s0 + j
    · subst e
      have e2 : s0 + j + w = s0 + w + j := by omega
      rw [e2]
      exact ⟨pk_us, pk_us⟩
    · rw [pk_un e, pk_un (fun q => e (by have := inj (p + w) (s0 + w + j) (by omega) hj q; omega))]
      exact h2 p c1 (by omega)
  · rw [pk_un (by omega)]; exact h3 p (by omega) c2
  · rw [pk_un (fun e => hn (s0 + w + j) hj (by omega) e.symm)]
    exact h4 v hv hn
theorem ol_t2_e {N : Nat} {L : Nat → Nat} {s0 w : Nat} {f g : Nat → Int32} (h : ol_t2 N L s0 w (N - (s0 + w)) f g) (hs : s0 + w ≤ N) : ol_f (N - w) (ol_rem L s0 w) f ∧ ol_g (N - w) (ol_rem L s0 w) g := by
  obtain ⟨h1, h2, -, h4⟩ := h
  refine ⟨fun p hp => ?_, fun p hp => ?_, fun v hv hn => ?_⟩
  · rcases Nat.lt_or_ge p s0 with c | c
    · rw [ol_rem_lo c]; exact (h1 p c).1
    · rw [ol_rem_hi c]; exact (h2 p c (by omega)).1
  · rcases Nat.lt_or_ge p s0 with c | c
    · rw [ol_rem_lo c]; exact (h1 p c).2
    · rw [ol_rem_hi c]; exact (h2 p c (by omega)).2
  · refine h4 v hv (fun p hp c e => ?_)
    rcases c with c | c
    · exact hn p (by omega) (by rw [ol_rem_lo c]; exact e)
    · refine hn (p - w) (by omega) ?_
      rw [ol_rem_hi (by omega), show p - w + w = p by omega]
      exact e
/-- the gap: the places from k on have moved by w -/
def ol_o (N : Nat) (L : Nat → Nat) (w k : Nat) (f g : Nat → Int32) : Prop := (∀ p, p < k → f p = nI (L p) ∧ g (L p) = nI p) ∧ (∀ p, k ≤ p → p < N → f (p + w) = nI (L p) ∧ g (L p) = nI (p + w)) ∧ ∀ v, v < 1000 → (∀ p, p < N → L p ≠ v) → g v = -1
theorem ol_o_0 {N : Nat} {L : Nat → Nat} {w : Nat} {f g : Nat → Int32} (hf : ol_f N L f) (hg : ol_g N L g) : ol_o N L w N f g := ⟨fun p hp => ⟨hf p hp, hg.1 p hp⟩, fun p a b => by omega, hg.2⟩
theorem ol_o_s {N : Nat} {L : Nat → Nat} {w k : Nat} {f g : Nat → Int32} (ok : ol_ok N L) (h : ol_o N L w (k + 1) f g) (hk : k < N) : ol_o N L w k (upd f (k + w) (nI (L k))) (upd g (L k) (nI (k + w))) := by
  obtain ⟨h1, h2, h3⟩ := h
  have inj := ok.2.2.2.2
  refine ⟨fun p hp => ⟨?_, ?_⟩, fun p c1 c2 => ?_, fun v hv hn => ?_⟩
  · rw [pk_un (by omega)]; exact (h1 p (by omega)).1
  · rw [pk_un (fun e => by have := inj p k (by omega) hk e; omega)]; exact (h1 p (by omega)).2
  · by_cases e : p = k
    · subst e; exact ⟨pk_us, pk_us⟩
    · rw [pk_un (by omega), pk_un (fun q => e (inj p k c2 hk q))]
      exact h2 p (by omega) c2
  · rw [pk_un (fun e => hn k hk e.symm)]; exact h3 v hv hn
/-- the gap is filled up to j, all numbers under v have been looked at -/
def ol_w (N : Nat) (L : Nat → Nat) (s0 w j v : Nat) (f g : Nat → Int32) : Prop :=
  (∀ p, p < s0 → f p = nI (L p) ∧ g (L p) = nI p) ∧ (∀ i, i < j → f (s0 + i) = nI (ol_many N L s0 j (s0 + i)) ∧ g (ol_many N L s0 j (s0 + i)) = nI (s0 + i)) ∧
  (∀ p, s0 ≤ p → p < N → f (p + w) = nI (L p) ∧ g (L p) = nI (p + w)) ∧ (∀ u, u < 1000 → (∀ p, p < N + j → ol_many N L s0 j p ≠ u) → g u = -1) ∧ ∀ u, u < v → ∃ p, p < N + j ∧ ol_many N L s0 j p = u
theorem ol_w_0 {N : Nat} {L : Nat → Nat} {s0 w : Nat} {f g : Nat → Int32} (h : ol_o N L w s0 f g) : ol_w N L s0 w 0 0 f g :=
  ⟨h.1, fun i hi => by omega, h.2.1, fun u hu hn => h.2.2 u hu hn, fun u hu => by omega⟩
theorem ol_w_used {N : Nat} {L : Nat → Nat} {s0 w j v : Nat} {f g : Nat → Int32} (h : ol_w N L s0 w j v f g) (hs : s0 ≤ N) {p : Nat} (hp : p < N + j) : ∃ q, q < N + w + j ∧ g (ol_many N L s0 j p) = nI q := by
  obtain ⟨h1, h2, h3, -, -⟩ := h
  rcases Nat.lt_or_ge p s0 with c | c
  · exact ⟨p, by omega, by rw [ol_many_lo c]; exact (h1 p c).2⟩
  · rcases Nat.lt_or_ge p (s0 + j) with c2 | c2
    · have e : p = s0 + (p - s0) := by omega
      have h5 := (h2 (p - s0) (by omega)).2
      rw [← e] at h5
      exact ⟨p, by omega, h5⟩
    · exact ⟨p - j + w, by omega, by rw [ol_many_hi j p c2]; exact (h3 (p - j) (by omega) (by omega)).2⟩
theorem ol_w_skip {N : Nat} {L : Nat → Nat} {s0 w j v : Nat} {f g : Nat → Int32} (h : ol_w N L s0 w j v f g) (hv : v < 1000) (hg : g v ≠ -1) : ol_w N L s0 w j (v + 1) f g := by
  obtain ⟨h1, h2, h3, h4, h5⟩ := h
  refine ⟨h1, h2, h3, h4, fun u hu => ?_⟩
  rcases Nat.lt_or_ge u v with c | c
  · exact h5 u c
  · have e : u = v := by omega
    subst e
    by_cases hx : ∃ p, p < N + j ∧ ol_many N L s0 j p = u
    · exact hx
    · exact absurd (h4 u hv (fun p hp e => hx ⟨p, hp, e⟩)) hg
theorem ol_w_free {N : Nat} {L : Nat → Nat} {s0 w j v : Nat} {f g : Nat → Int32} (h : ol_w N L s0 w j v f g) (hs : s0 ≤ N) (hN : N + w + j < 2 ^ 31) (hv : v < 1000) (hg : g v = -1) : ol_fr (N + j) (ol_many N L s0 j) = v := by
  refine ol_fr_of ⟨by omega, h.2.2.2.2, fun _ p hp e => ?_⟩
  obtain ⟨q, hq, e2⟩ := ol_w_used h hs hp
  rw [e, hg] at e2
  exact ol_m1 (by omega) e2.symm
theorem ol_w_put {N : Nat} {L : Nat → Nat} {s0 w j v : Nat} {f g : Nat → Int32} (ok : ol_ok N L) (h1s : 1 ≤ s0) (h : ol_w N L s0 w j v f g) (hs : s0 ≤ N) (hj : j < w) (hN : N + w ≤ 1000) (hv : v < 1000) (hg : g v = -1) : ol_w N L s0 w (j + 1) (v + 1) (upd f (s0 + j) (nI v)) (upd g v (nI (s0 + j))) := by
  have hfr := ol_w_free h hs (by omega) hv hg
  have hM : ol_many N L s0 (j + 1) = ol_ins (ol_many N L s0 j) (s0 + j) v := by
    show ol_ins (ol_many N L s0 j) (s0 + j) (ol_fr (N + j) (ol_many N L s0 j)) = _
    rw [hfr]
  have hne : ∀ p, p < N + j → ol_many N L s0 j p ≠ v := by
    have h6 := (ol_fr_lf (N + j) (ol_many N L s0 j)).2.2
    rw [hfr] at h6
    exact h6 hv
  obtain ⟨h1, h2, h3, h4, h5⟩ := h
  refine ⟨fun p hp => ⟨?_, ?_⟩, fun i hi => ?_, fun p c1 c2 => ⟨?_, ?_⟩, fun u hu hn => ?_, fun u hu => ?_⟩
  · rw [pk_un (by omega)]; exact (h1 p hp).1
  · rw [pk_un (fun e => hne p (by omega) (by rw [ol_many_lo hp]; exact e))]; exact (h1 p hp).2
  · rw [hM]
    by_cases e : i = j
    · subst e
      rw [ol_ins_at]
      exact ⟨pk_us, pk_us⟩
    · rw [ol_ins_lo (by omega), pk_un (by omega), pk_un (hne (s0 + i) (by omega))]
      exact h2 i (by omega)
  · rw [pk_un (by omega)]; exact (h3 p c1 c2).1
  · rw [pk_un (fun e => hne (p + j) (by omega) (by rw [ol_many_hi j (p + j) (by omega), show p + j - j = p by omega]; exact e))]
    exact (h3 p c1 c2).2
  · rw [hM] at hn
    have hu2 : u ≠ v := fun e => hn (s0 + j) (by omega) (by rw [ol_ins_at]; exact e.symm)
    rw [pk_un hu2]
    refine h4 u hu (fun p hp e => ?_)
    rcases Nat.lt_or_ge p (s0 + j) with c | c
    · exact hn p (by omega) (by rw [ol_ins_lo c]; exact e)
    · exact hn (p + 1) (by omega) (by rw [ol_ins_hi (by omega)]; exact e)
  · rw [hM]
    rcases Nat.lt_or_ge u v with c | c
    · obtain ⟨p, hp, e⟩ := h5 u c
      rcases Nat.lt_or_ge p (s0 + j) with c2 | c2
      · exact ⟨p, by omega, by rw [ol_ins_lo c2]; exact e⟩
      · exact ⟨p + 1, by omega, by rw [ol_ins_hi (by omega)]; exact e⟩
    · exact ⟨s0 + j, by omega, by rw [ol_ins_at]; omega⟩
theorem ol_w_all {N : Nat} {L : Nat → Nat} {s0 w j : Nat} {f g : Nat → Int32} (ok : ol_ok N L) (h1s : 1 ≤ s0) (h : ol_w N L s0 w j 1000 f g) (hs : s0 ≤ N) (hN : N + w ≤ 1000) (hj : j < w) : False := by
  have h2 := ol_fr_lt (ol_ok_many ok h1s hs j (by omega)) (by omega)
  obtain ⟨p, hp, e⟩ := h.2.2.2.2 _ h2
  exact (ol_fr_lf (N + j) (ol_many N L s0 j)).2.2 h2 p hp e
theorem ol_w_e {N : Nat} {L : Nat → Nat} {s0 w v : Nat} {f g : Nat → Int32} (h : ol_w N L s0 w w v f g) (hs : s0 ≤ N) : ol_f (N + w) (ol_many N L s0 w) f ∧ ol_g (N + w) (ol_many N L s0 w) g := by
  obtain ⟨h1, h2, h3, h4, -⟩ := h
  have key : ∀ p, p < N + w → f p = nI (ol_many N L s0 w p) ∧ g (ol_many N L s0 w p) = nI p := by
    intro p hp
    rcases Nat.lt_or_ge p s0 with c | c
    · rw [ol_many_lo c]; exact h1 p c
    · rcases Nat.lt_or_ge p (s0 + w) with c2 | c2
      · have h5 := h2 (p - s0) (by omega)
        rw [show s0 + (p - s0) = p by omega] at h5
        exact h5
      · have h5 := h3 (p - w) (by omega) (by omega)
        rw [show p - w + w = p by omega] at h5
        rw [ol_many_hi w p c2]
        exact h5
  exact ⟨fun p hp => (key p hp).1, fun p hp => (key p hp).2, h4⟩
/-- two change places -/
def ol_sw (L : Nat → Nat) (a b : Nat) : Nat → Nat := fun p => if p = a then L b else if p = b then L a else L p
theorem ol_sw_a (L : Nat → Nat) (a b : Nat) : ol_sw L a b a = L b := if_pos rfl
theorem ol_sw_b (L : Nat → Nat) {a b : Nat} (h : a ≠ b) : ol_sw L a b b = L a := by
  unfold ol_sw
  rw [if_neg (fun e => h e.symm), if_pos rfl]
theorem ol_sw_o (L : Nat → Nat) {a b p : Nat} (h1 : p ≠ a) (h2 : p ≠ b) : ol_sw L a b p = L p := by
  unfold ol_sw
  rw [if_neg h1, if_neg h2]
theorem ol_sw_cases (L : Nat → Nat) (a b p : Nat) : ∃ q, ol_sw L a b p = L q ∧ ((p = a ∧ q = b) ∨ (p ≠ a ∧ p = b ∧ q = a) ∨ (p ≠ a ∧ p ≠ b ∧ q = p)) := by
  by_cases e1 : p = a
  · exact ⟨b, by rw [e1, ol_sw_a], Or.inl ⟨e1, rfl⟩⟩
  · by_cases e2 : p = b
    · exact ⟨a, by rw [e2, ol_sw_b L (fun e => e1 (by rw [e2, e]))], Or.inr (Or.inl ⟨e1, e2, rfl⟩)⟩
    · exact ⟨p, ol_sw_o L e1 e2, Or.inr (Or.inr ⟨e1, e2, rfl⟩)⟩
theorem ol_ok_sw {N : Nat} {L : Nat → Nat} (h : ol_ok N L) {a b : Nat} (ha : 1 ≤ a) (hb : 1 ≤ b) (haN : a < N) (hbN : b < N) : ol_ok N (ol_sw L a b) := by
  obtain ⟨g1, g2, g3, g4, g5⟩ := h
  refine ⟨g1, g2, by rw [ol_sw_o L (by omega) (by omega)]; exact g3, fun p hp => ?_, fun p q hp hq e => ?_⟩
  · obtain ⟨q, e, c⟩ := ol_sw_cases L a b p
    rw [e]
    exact g4 q (by omega)
  · obtain ⟨p', e1, c1⟩ := ol_sw_cases L a b p
    obtain ⟨q', e2, c2⟩ := ol_sw_cases L a b q
    rw [e1, e2] at e
    have := g5 p' q' (by omega) (by omega) e
    omega
theorem ol_sw_rep {N : Nat} {L : Nat → Nat} {f g : Nat → Int32} (ok : ol_ok N L) (hf : ol_f N L f) (hg : ol_g N L g) {a b : Nat} (hab : a ≠ b) (ha : a < N) (hb : b < N) :
    ol_f N (ol_sw L a b) (upd (upd f a (nI (L b))) b (nI (L a))) ∧ ol_g N (ol_sw L a b) (upd (upd g (L b) (nI a)) (L a) (nI b)) := by
  have inj := ok.2.2.2.2
  refine ⟨fun p hp => ?_, fun p hp => ?_, fun v hv hn => ?_⟩
  · by_cases e2 : p = b
    · subst e2; rw [ol_sw_b L hab]; exact pk_us
    · rw [pk_un e2]
      by_cases e1 : p = a
      · subst e1; rw [ol_sw_a]; exact pk_us
      · rw [pk_un e1, ol_sw_o L e1 e2]; exact hf p hp
  · by_cases e1 : p = a
    · subst e1
      rw [ol_sw_a, pk_un (fun e => hab (inj b p hb hp e).symm)]
      exact pk_us
    · by_cases e2 : p = b
      · subst e2; rw [ol_sw_b L hab]; exact pk_us
      · rw [ol_sw_o L e1 e2, pk_un (fun e => e1 (inj p a hp ha e)), pk_un (fun e => e2 (inj p b hp hb e))]
        exact hg.1 p hp
  · rw [pk_un (fun e => hn b hb (by rw [ol_sw_b L hab]; exact e.symm)), pk_un (fun e => hn a ha (by rw [ol_sw_a]; exact e.symm))]
    refine hg.2 v hv (fun p hp e => ?_)
    by_cases e1 : p = a
    · subst e1; exact hn b hb (by rw [ol_sw_b L hab]; exact e)
    · by_cases e2 : p = b
      · subst e2; exact hn a ha (by rw [ol_sw_a]; exact e)
      · exact hn p hp (by rw [ol_sw_o L e1 e2]; exact e)
/-- i turned at either end -/
def ol_rv (L : Nat → Nat) (s e i : Nat) : Nat → Nat := fun p => if (s ≤ p ∧ p < s + i) ∨ (e ≤ p + i ∧ p < e) then L (s + e - 1 - p) else L p
theorem ol_rv_in {L : Nat → Nat} {s e i p : Nat} (h : (s ≤ p ∧ p < s + i) ∨ (e ≤ p + i ∧ p < e)) : ol_rv L s e i p = L (s + e - 1 - p) := if_pos h
theorem ol_rv_out {L : Nat → Nat} {s e i p : Nat} (h : ¬ ((s ≤ p ∧ p < s + i) ∨ (e ≤ p + i ∧ p < e))) : ol_rv L s e i p = L p := if_neg h
theorem ol_rv_0 (L : Nat → Nat) (s e : Nat) : ol_rv L s e 0 = L := by
  funext p
  exact ol_rv_out (by omega)
theorem ol_rv_s (L : Nat → Nat) {s e i : Nat} (h : s + i + 1 + i < e) : ol_sw (ol_rv L s e i) (s + i) (e - 1 - i) = ol_rv L s e (i + 1) := by
  funext p
  by_cases e1 : p = s + i
  · subst e1
    rw [ol_sw_a, ol_rv_out (by omega), ol_rv_in (by omega)]
    congr 1
    omega
  · by_cases e2 : p = e - 1 - i
    · subst e2
      rw [ol_sw_b _ (by omega), ol_rv_out (by omega), ol_rv_in (by omega)]
      congr 1
      omega
    · rw [ol_sw_o _ e1 e2]
      by_cases c : (s ≤ p ∧ p < s + i) ∨ (e ≤ p + i ∧ p < e)
      · rw [ol_rv_in c, ol_rv_in (by omega)]
      · rw [ol_rv_out c, ol_rv_out (by omega)]
theorem ol_rv_e (L : Nat → Nat) {s e i : Nat} (h : e ≤ s + i + 1 + i) (h2 : i = 0 ∨ s + i + i ≤ e) : ol_rv L s e i = ol_rev L s e := by
  funext p
  by_cases c : s ≤ p ∧ p < e
  · rw [ol_rev_in c.1 c.2]
    by_cases d : (s ≤ p ∧ p < s + i) ∨ (e ≤ p + i ∧ p < e)
    · exact ol_rv_in d
    · rw [ol_rv_out d]
      congr 1
      omega
  · rw [ol_rev_out (by omega), ol_rv_out (by omega)]
/-! WHAT EACH CALL ANSWERS, in the line's own words -/
def ol_fd (N : Nat) (L : Nat → Nat) (x r : Int32) : Prop := (∀ p, ol_at N L x p → r = nI p) ∧ (ol_no N L x → r = -1)
theorem ol_fd_at {N : Nat} {L : Nat → Nat} (ok : ol_ok N L) {x : Int32} {p : Nat} (h : ol_at N L x p) : ol_fd N L x (nI p) := ⟨fun q hq => by rw [ol_at_un ok h hq], fun hn => (ol_at_no h hn).elim⟩
theorem ol_fd_no {N : Nat} {L : Nat → Nat} {x : Int32} (h : ol_no N L x) : ol_fd N L x (-1) := ⟨fun _ hq => (ol_at_no hq h).elim, fun _ => rfl⟩
theorem ol_fd_ex {N : Nat} {L : Nat → Nat} (ok : ol_ok N L) (x : Int32) : ∃ r, ol_fd N L x r ∧ ((∃ p, ol_at N L x p ∧ r = nI p) ∨ (ol_no N L x ∧ r = -1)) := by
  rcases ol_dec N L x with ⟨p, h⟩ | h
  · exact ⟨nI p, ol_fd_at ok h, Or.inl ⟨p, h, rfl⟩⟩
  · exact ⟨-1, ol_fd_no h, Or.inr ⟨h, rfl⟩⟩
def ol_hs (N : Nat) (L : Nat → Nat) (x r : Int32) : Prop := ((∃ p, ol_at N L x p) → r = 1) ∧ (ol_no N L x → r = 0)
theorem ol_hs_ex (N : Nat) (L : Nat → Nat) (x : Int32) : ∃ r, ol_hs N L x r ∧ ((r = 1 ∧ ∃ p, ol_at N L x p) ∨ (r = 0 ∧ ol_no N L x)) := by
  rcases ol_dec N L x with ⟨p, h⟩ | h
  · exact ⟨1, ⟨fun _ => rfl, fun hn => (ol_at_no h hn).elim⟩, Or.inl ⟨rfl, p, h⟩⟩
  · exact ⟨0, ⟨fun ⟨p, hp⟩ => (ol_at_no hp h).elim, fun _ => rfl⟩, Or.inr ⟨rfl, h⟩⟩
def ol_ps (N : Nat) (L : Nat → Nat) (x r : Int32) : Prop := (∀ p, p < N → x = nI p → r = nI (L p)) ∧ ((∀ p, p < N → x ≠ nI p) → r = -1)
theorem ol_ps_ex {N : Nat} (hN : N ≤ 1000) (L : Nat → Nat) (x : Int32) : ∃ r, ol_ps N L x r := by
  by_cases h : ∃ p, p < N ∧ x = nI p
  · obtain ⟨p, hp, e⟩ := h
    refine ⟨nI (L p), fun q hq e2 => ?_, fun hn => absurd e (hn p hp)⟩
    have e3 : p = q := (nI_eq (by omega) (by omega)).mp (e.symm.trans e2)
    rw [e3]
  · exact ⟨-1, fun q hq e2 => absurd ⟨q, hq, e2⟩ h, fun _ => rfl⟩
theorem ol_ps_at {N : Nat} {L : Nat → Nat} {p : Nat} (hN : N ≤ 1000) (hp : p < N) : ol_ps N L (nI p) (nI (L p)) := ⟨fun q hq e => by rw [(nI_eq (by omega) (by omega)).mp e], fun hn => absurd rfl (hn p hp)⟩
theorem ol_ps_hi {N : Nat} {L : Nat → Nat} {p : Nat} (hN : N ≤ 1000) (hp : p < 2 ^ 31) (h : N ≤ p) : ol_ps N L (nI p) (-1) := ⟨fun q hq e => by have := (nI_eq (by omega) (by omega)).mp e; omega, fun _ => rfl⟩
theorem ol_ps_m1 {N : Nat} {L : Nat → Nat} (hN : N ≤ 1000) : ol_ps N L (-1) (-1) := ⟨fun q hq e => (ol_m1 (by omega) e.symm).elim, fun _ => rfl⟩
/-- the least number that none has, as an answer -/
noncomputable def ol_fi (N : Nat) (L : Nat → Nat) : Int32 := if ol_fr N L < 1000 then nI (ol_fr N L) else -1
theorem ol_fi_lt {N : Nat} {L : Nat → Nat} (h : ol_fr N L < 1000) : ol_fi N L = nI (ol_fr N L) := if_pos h
theorem ol_fi_ge {N : Nat} {L : Nat → Nat} (h : ¬ ol_fr N L < 1000) : ol_fi N L = -1 := if_neg h
/-- the stamp x has the place p, and n more may come: r, then N' stamps L' -/
def ol_cmp (a b : Nat) : Int32 := if a < b then -1 else if a = b then 0 else 1
theorem ol_cmp_lt {a b : Nat} (h : a < b) : ol_cmp a b = -1 := if_pos h
theorem ol_cmp_eq {a : Nat} : ol_cmp a a = 0 := by
  unfold ol_cmp
  rw [if_neg (Nat.lt_irrefl a), if_pos rfl]
theorem ol_cmp_gt {a b : Nat} (h : b < a) : ol_cmp a b = 1 := by
  unfold ol_cmp
  rw [if_neg (by omega), if_neg (by omega)]
noncomputable def ol_lk (N : Nat) (L : Nat → Nat) (x : Int32) : Int32 := if x = 0 then nI N else if x = 1 then nI (L (N - 1)) else if x = 2 then ol_fi N L else -1
theorem ol_many1 (N : Nat) (L : Nat → Nat) (q : Nat) : ol_many N L q 1 = ol_ins L q (ol_fr N L) := rfl
theorem ol_f_up {N : Nat} {L : Nat → Nat} {f : Nat → Int32} (h : ol_f N L f) : ol_f N L f := h
theorem nI_m1 {n : Nat} (h : 1 ≤ n) : nI n - 1 = nI (n - 1) := by
  obtain ⟨k, rfl⟩ : ∃ k, n = k + 1 := ⟨n - 1, by omega⟩
  exact nI_pred k
theorem nI_0m1 : nI 0 - 1 = -1 := by decide +kernel
theorem ol_le {a b : Nat} (ha : a < 2 ^ 31) (hb : b < 2 ^ 31) (h : nI a ≤ nI b) : a ≤ b := (nI_leI ha hb).mp h
theorem ol_nle {a b : Nat} (ha : a < 2 ^ 31) (hb : b < 2 ^ 31) (h : ¬ nI a ≤ nI b) : b < a := Nat.lt_of_not_le (fun q => h ((nI_leI ha hb).mpr q))
theorem ol_lt {a b : Nat} (ha : a < 2 ^ 31) (hb : b < 2 ^ 31) (h : nI a < nI b) : a < b := (nI_ltI ha hb).mp h
theorem ol_nlt {a b : Nat} (ha : a < 2 ^ 31) (hb : b < 2 ^ 31) (h : ¬ nI a < nI b) : b ≤ a := Nat.le_of_not_lt (fun q => h ((nI_ltI ha hb).mpr q))
theorem ol_eq {a b : Nat} (ha : a < 2 ^ 31) (hb : b < 2 ^ 31) (h : nI a = nI b) : a = b := (nI_eq ha hb).mp h
theorem ol_ne {a b : Nat} (ha : a < 2 ^ 31) (hb : b < 2 ^ 31) (h : ¬ nI a = nI b) : a ≠ b := fun q => h (by rw [q])
/-- do three lack: 1, else 0 -/
def ol_lc (N : Nat) (L : Nat → Nat) (x y z r : Int32) : Prop := ((∃ p, ol_at N L x p) → (∃ p, ol_at N L y p) → (∃ p, ol_at N L z p) → r = 0) ∧ ((ol_no N L x ∨ ol_no N L y ∨ ol_no N L z) → r = 1)
theorem ol_lc_no {N : Nat} {L : Nat → Nat} {x y z : Int32} (h : ol_no N L x ∨ ol_no N L y ∨ ol_no N L z) : ol_lc N L x y z 1 := by
  refine ⟨fun ⟨p1, h1⟩ ⟨p2, h2⟩ ⟨p3, h3⟩ => ?_, fun _ => rfl⟩
  rcases h with h | h | h
  · exact (ol_at_no h1 h).elim
  · exact (ol_at_no h2 h).elim
  · exact (ol_at_no h3 h).elim
theorem ol_lc_at {N : Nat} {L : Nat → Nat} {x y z : Int32} {p q r : Nat} (h1 : ol_at N L x p) (h2 : ol_at N L y q) (h3 : ol_at N L z r) : ol_lc N L x y z 0 := by
  refine ⟨fun _ _ _ => rfl, fun h => ?_⟩
  rcases h with h | h | h
  · exact (ol_at_no h1 h).elim
  · exact (ol_at_no h2 h).elim
  · exact (ol_at_no h3 h).elim
/-- what behind, several .. answer and leave, the stamps being there -/
def sp_bh (N : Nat) (L : Nat → Nat) (p : Nat) (r : Int32) (N' : Nat) (L' : Nat → Nat) : Prop := (N < 1000 ∧ r = nI (ol_fr N L) ∧ N' = N + 1 ∧ L' = ol_many N L (p + 1) 1) ∨ (N = 1000 ∧ r = -1 ∧ N' = N ∧ L' = L)
def sp_sv (N : Nat) (L : Nat → Nat) (p : Nat) (z r : Int32) (N' : Nat) (L' : Nat → Nat) : Prop := (∃ w, 2 ≤ w ∧ w ≤ 64 ∧ z = nI w ∧ N + w ≤ 1000 ∧ r = nI (ol_fr N L) ∧ N' = N + w ∧ L' = ol_many N L (p + 1) w) ∨ ((∀ w, 2 ≤ w → w ≤ 64 → N + w ≤ 1000 → z ≠ nI w) ∧ r = -1 ∧ N' = N ∧ L' = L)
def sp_rm (N : Nat) (L : Nat → Nat) (x r : Int32) (N' : Nat) (L' : Nat → Nat) : Prop := (∃ p, ol_at N L x p ∧ 1 ≤ p ∧ r = 1 ∧ N' = N - 1 ∧ L' = ol_rem L p 1) ∨ ((ol_no N L x ∨ ol_at N L x 0) ∧ r = 0 ∧ N' = N ∧ L' = L)
def sp_cl (N : Nat) (L : Nat → Nat) (a b : Nat) (r : Int32) (N' : Nat) (L' : Nat → Nat) : Prop := r = nI (b - (a + 1)) ∧ N' = N - (b - (a + 1)) ∧ L' = ol_rem L (a + 1) (b - (a + 1))
def sp_cr (N : Nat) (L : Nat → Nat) (a b c : Nat) (r : Int32) (N' : Nat) (L' : Nat → Nat) : Prop := N' = N ∧ (((b ≤ a ∨ (a < c ∧ c < b)) ∧ r = -1 ∧ L' = L) ∨ (a < b ∧ c ≤ a ∧ r = nI (b - a - 1) ∧ L' = ol_swp L (c + 1) (a + 1) b) ∨ (a < b ∧ b ≤ c ∧ r = nI (b - a - 1) ∧ L' = ol_swp L (a + 1) b (c + 1)))
theorem ol_addm1 (p : Nat) : nI p + (-1) = nI p - 1 := (Int32.sub_eq_add_neg (nI p) 1).symm
theorem ol_two64 {z : Int32} (h1 : ¬ z < nI 2) (h2 : ¬ nI 64 < z) : ∃ w, 2 ≤ w ∧ w ≤ 64 ∧ z = nI w := by
  have h3 : ¬ z < 0 := fun h => h1 (Int32.lt_trans h (by decide))
  obtain ⟨j, hj, rfl⟩ := nI_of h3
  exact ⟨j, ol_nlt hj (by omega) h1, ol_nlt (by omega) hj h2, rfl⟩
theorem ol_ok_carry {N : Nat} {L : Nat → Nat} (ok : ol_ok N L) {a w c : Nat} (h : a + 1 + w ≤ N) (hc : c + 1 ≤ N - w) : ∀ j, j ≤ w → ol_ok (N - w + j) (ol_blk (ol_rem L (a + 1) w) (fun j => L (a + 1 + j)) (c + 1) j) := by
  intro j
  induction j with
  | zero =>
    intro _
    rw [ol_blk_0]
    exact ol_ok_rem ok (by omega) h
  | succ j ih =>
    intro hj
    have h1 := ih (by omega)
    have hN := ok.2.1
    have inj := ok.2.2.2.2
    rw [← ol_blk_1]
    refine ol_ok_ins h1 (by omega) (by omega) (by omega) (ok.2.2.2.1 _ (by omega)) (fun p hp e => ?_)
    have e : ol_blk (ol_rem L (a + 1) w) (fun j => L (a + 1 + j)) (c + 1) j p = L (a + 1 + j) := e
    rcases Nat.lt_or_ge p (c + 1) with k | k
    · rw [ol_blk_lo k] at e
      rcases Nat.lt_or_ge p (a + 1) with k2 | k2
      · rw [ol_rem_lo k2] at e; have := inj _ _ (by omega) (by omega) e; omega
      · rw [ol_rem_hi k2] at e; have := inj _ _ (by omega) (by omega) e; omega
    · rcases Nat.lt_or_ge p (c + 1 + j) with k2 | k2
      · rw [ol_blk_in k k2] at e
        have e : L (a + 1 + (p - (c + 1))) = L (a + 1 + j) := e
        have := inj _ _ (by omega) (by omega) e; omega
      · rw [ol_blk_hi k2] at e
        rcases Nat.lt_or_ge (p - j) (a + 1) with k3 | k3
        · rw [ol_rem_lo k3] at e; have := inj _ _ (by omega) (by omega) e; omega
        · rw [ol_rem_hi k3] at e; have := inj _ _ (by omega) (by omega) e; omega
theorem ol_sw3 {x : Int32} (h0 : ¬ x = 0) (h1 : ¬ x = 1) (h2 : ¬ x = 2) : x.toInt < 0 ∨ 2 < x.toInt := by
  have e0 : x.toInt ≠ 0 := fun e => h0 (Int32.toInt_inj.mp (e.trans (by decide)))
  have e1 : x.toInt ≠ 1 := fun e => h1 (Int32.toInt_inj.mp (e.trans (by decide)))
  have e2 : x.toInt ≠ 2 := fun e => h2 (Int32.toInt_inj.mp (e.trans (by decide)))
  omega
