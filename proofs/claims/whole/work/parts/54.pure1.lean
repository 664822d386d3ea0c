/-! ===== pure: houses, tiles, bits ===== -/
abbrev HT : Type := Nat → Nat → Nat
def hOK (P : Nat → Nat) : Prop := (2 ≤ P 0 ∧ P 0 ≤ 6) ∧ (2 ≤ P 1 ∧ P 1 ≤ 4) ∧ (1 ≤ P 2 ∧ P 2 ≤ 7) ∧ P 1 * P 2 ≤ szN (P 0) ∧ P 3 ≤ 1 ∧ (P 4 = 108 ∨ P 4 = 115 ∨ P 4 = 110)
def WH (P : Nat → Nat) : GS := hW (P 0) (P 1 : Int) (P 2 : Int) (P 3 : Int) (P 4 : Int)
theorem WH_0 (P : Nat → Nat) : WH P 3 0 = P 0 := rfl
theorem WH_1 (P : Nat → Nat) : WH P 3 1 = P 1 := rfl
theorem WH_2 (P : Nat → Nat) : WH P 3 2 = P 2 := rfl
theorem WH_3 (P : Nat → Nat) : WH P 3 3 = P 3 := rfl
theorem WH_4 (P : Nat → Nat) : WH P 3 4 = P 4 := rfl
theorem WH_5 (P : Nat → Nat) : WH P 3 5 = szN (P 0) := rfl
theorem WH_lo (P : Nat → Nat) {t : Nat} (h : t < szN (P 0)) : WH P 0 t = lowN (P 0) t := by
  show cp (szN (P 0)) (fun k => (lowN (P 0) k : Int)) (fun _ => 0) t = _
  unfold cp
  rw [if_pos h]
theorem WH_hi (P : Nat → Nat) {t : Nat} (h : t < szN (P 0)) : WH P 1 t = highN (P 0) t := by
  show cp (szN (P 0)) (fun k => (highN (P 0) k : Int)) (fun _ => 0) t = _
  unfold cp
  rw [if_pos h]
theorem WH_be (P : Nat → Nat) (v : Nat) : WH P 2 v = bearT (P 0) (szN (P 0)) v := rfl
theorem bearT_b (p v : Nat) : ∀ n t, (bearT p n v).testBit t = true ↔ t < n ∧ (lowN p t = v ∨ highN p t = v) := by
  intro n
  induction n with
  | zero =>
    intro t
    show (0 : Nat).testBit t = true ↔ _
    rw [Nat.zero_testBit]
    constructor
    · intro h; cases h
    · intro h; omega
  | succ n ih =>
    intro t
    show (bearT p n v ||| (if lowN p n = v ∨ highN p n = v then 2 ^ n else 0)).testBit t = true ↔ _
    rw [Nat.testBit_or, Bool.or_eq_true, ih]
    by_cases hv : lowN p n = v ∨ highN p n = v
    · rw [if_pos hv, Nat.testBit_two_pow]
      constructor
      · intro h
        rcases h with h | h
        · exact ⟨by omega, h.2⟩
        · have : n = t := by simpa using h
          subst this
          exact ⟨by omega, hv⟩
      · intro h
        by_cases htn : n = t
        · exact Or.inr (by simpa using htn)
        · exact Or.inl ⟨by omega, h.2⟩
    · rw [if_neg hv, Nat.zero_testBit]
      constructor
      · intro h
        rcases h with h | h
        · exact ⟨by omega, h.2⟩
        · cases h
      · intro h
        refine Or.inl ⟨?_, h.2⟩
        by_cases htn : t = n
        · subst htn; exact absurd h.2 hv
        · omega
theorem tile_ok : ∀ p, p < 7 → ∀ t, t < szN p → tileN p (lowN p t) (highN p t) = t ∧ tileN p (highN p t) (lowN p t) = t := by decide +kernel
theorem szN_1 : ∀ p, p < 7 → 2 ≤ p → 6 ≤ szN p := by decide
theorem pipN_Q (P : Nat → Nat) (m : Nat) : ∀ n, n ≤ szN (P 0) → pipN (WH P) m n = pipQ (P 0) m n := by
  intro n hn
  refine sumTo_c n (fun k hk => ?_)
  rw [WH_lo P (by omega), WH_hi P (by omega)]
/- bits of hands -/
theorem bit_out {m t : Nat} (ht : t < 28) (hm : m < 2 ^ 28) (i : Nat) : (m &&& (2 ^ t ^^^ 4294967295)).testBit i = (m.testBit i && !decide (i = t)) := by
  rw [Nat.testBit_and, Nat.testBit_xor, Nat.testBit_two_pow]
  by_cases hi : i < 32
  · rw [show (4294967295 : Nat) = 2 ^ 32 - 1 from rfl, Nat.testBit_two_pow_sub_one]
    by_cases h2 : t = i
    · subst h2; simp [hi]
    · have h3 : ¬ i = t := fun q => h2 q.symm
      simp [h2, h3, hi]
  · have : m.testBit i = false := Nat.testBit_lt_two_pow (Nat.lt_of_lt_of_le hm (Nat.pow_le_pow_right (by decide) (by omega)))
    rw [this, Bool.false_and, Bool.false_and]
theorem bit_out_lt {m t n : Nat} (hm : m < 2 ^ n) : (m &&& (2 ^ t ^^^ 4294967295)) < 2 ^ n := Nat.lt_of_le_of_lt Nat.and_le_left hm
theorem bit_xor {m t : Nat} (ht : t < 28) (hm : m < 2 ^ 28) (hb : m.testBit t = true) : m ^^^ 2 ^ t = m &&& (2 ^ t ^^^ 4294967295) := by
  apply Nat.eq_of_testBit_eq
  intro i
  rw [bit_out ht hm, Nat.testBit_xor, Nat.testBit_two_pow]
  by_cases h2 : t = i
  · subst h2; simp [hb]
  · have h3 : ¬ i = t := fun q => h2 q.symm
    simp [h2, h3]
theorem bit_in (m t i : Nat) : (m ||| 2 ^ t).testBit i = (m.testBit i || decide (t = i)) := by
  rw [Nat.testBit_or, Nat.testBit_two_pow]
theorem pct_c {m m' : Nat} : ∀ k, (∀ i, i < k → m.testBit i = m'.testBit i) → pct m k = pct m' k := by
  intro k
  induction k with
  | zero => intro _; rfl
  | succ k ih =>
    intro h
    show pct m k + _ = pct m' k + _
    rw [ih (fun i hi => h i (by omega)), h k (by omega)]
theorem pct_in {m t : Nat} (hb : m.testBit t = false) : ∀ k, pct (m ||| 2 ^ t) k = pct m k + (if t < k then 1 else 0) := by
  intro k
  induction k with
  | zero => rfl
  | succ k ih =>
    show pct (m ||| 2 ^ t) k + _ = pct m k + _ + _
    rw [ih, bit_in]
    by_cases h1 : t = k
    · subst h1
      rw [hb, if_neg (Nat.lt_irrefl t), if_pos (Nat.lt_succ_self t)]
      simp
    · rw [show decide (t = k) = false from decide_eq_false h1, Bool.or_false]
      generalize (if m.testBit k = true then 1 else 0) = x
      by_cases h2 : t < k
      · rw [if_pos h2, if_pos (show t < k + 1 by omega)]; omega
      · rw [if_neg h2, if_neg (show ¬ t < k + 1 by omega)]; omega
theorem pct_out {m t : Nat} (ht : t < 28) (hm : m < 2 ^ 28) (hb : m.testBit t = true) : ∀ k, pct (m &&& (2 ^ t ^^^ 4294967295)) k + (if t < k then 1 else 0) = pct m k := by
  intro k
  induction k with
  | zero => rfl
  | succ k ih =>
    show pct _ k + _ + _ = pct m k + _
    rw [← ih, bit_out ht hm]
    by_cases h1 : t = k
    · subst h1
      rw [hb, if_neg (Nat.lt_irrefl t), if_pos (Nat.lt_succ_self t)]
      simp
    · rw [show decide (k = t) = false from decide_eq_false (fun q => h1 q.symm), Bool.not_false, Bool.and_true]
      generalize (if m.testBit k = true then 1 else 0) = x
      by_cases h2 : t < k
      · rw [if_pos h2, if_pos (show t < k + 1 by omega)]; omega
      · rw [if_neg h2, if_neg (show ¬ t < k + 1 by omega)]; omega
theorem pct_0 : ∀ k, pct 0 k = 0 := by
  intro k
  induction k with
  | zero => rfl
  | succ k ih =>
    show pct 0 k + _ = 0
    rw [ih, Nat.zero_testBit]
    rfl
theorem pct_pos {m t : Nat} (hb : m.testBit t = true) : ∀ k, t < k → 1 ≤ pct m k := by
  intro k
  induction k with
  | zero => intro h; omega
  | succ k ih =>
    intro h
    show 1 ≤ pct m k + _
    by_cases h1 : t = k
    · subst h1; rw [if_pos hb]; omega
    · have := ih (by omega); omega
theorem sumN_c {f g : Nat → Nat} : ∀ n : Nat, (∀ k, k < n → f k = g k) → sumN f n = sumN g n := by
  intro n
  induction n with
  | zero => intro _; rfl
  | succ n ih =>
    intro h
    show sumN f n + f n = sumN g n + g n
    rw [ih (fun k hk => h k (by omega)), h n (by omega)]
theorem sumN_u {f g : Nat → Nat} {w a b : Nat} : ∀ n : Nat, w < n → (∀ k, k < n → k ≠ w → f k = g k) → f w + a = g w + b → sumN f n + a = sumN g n + b := by
  intro n
  induction n with
  | zero => intro h; omega
  | succ n ih =>
    intro hw h e
    show sumN f n + f n + a = sumN g n + g n + b
    by_cases h1 : w = n
    · subst h1
      rw [sumN_c w (fun k hk => h k (by omega) (by omega))]
      omega
    · have := ih (by omega) (fun k hk => h k (by omega)) e
      rw [h n (by omega) (fun q => h1 q.symm)]
      omega
theorem sumN_one {f : Nat → Nat} {w : Nat} : ∀ n : Nat, w < n → f w ≤ sumN f n := by
  intro n
  induction n with
  | zero => intro h; omega
  | succ n ih =>
    intro hw
    show f w ≤ sumN f n + f n
    by_cases h1 : w = n
    · subst h1; omega
    · have := ih (by omega); omega
theorem orT_b (f : Nat → Nat) (t : Nat) : ∀ n, (orT f n).testBit t = true ↔ ∃ k, k < n ∧ (f k).testBit t = true := by
  intro n
  induction n with
  | zero =>
    show (0 : Nat).testBit t = true ↔ _
    rw [Nat.zero_testBit]
    constructor
    · intro h; cases h
    · rintro ⟨k, hk, -⟩; omega
  | succ n ih =>
    show (orT f n ||| f n).testBit t = true ↔ _
    rw [Nat.testBit_or, Bool.or_eq_true, ih]
    constructor
    · rintro (⟨k, hk, h⟩ | h)
      · exact ⟨k, by omega, h⟩
      · exact ⟨n, by omega, h⟩
    · rintro ⟨k, hk, h⟩
      by_cases h1 : k = n
      · subst h1; exact Or.inr h
      · exact Or.inl ⟨k, by omega, h⟩
theorem orT_lt {f : Nat → Nat} {m : Nat} : ∀ n, (∀ k, k < n → f k < 2 ^ m) → orT f n < 2 ^ m := by
  intro n
  induction n with
  | zero => intro _; exact Nat.two_pow_pos _
  | succ n ih =>
    intro h
    exact Nat.or_lt_two_pow (ih (fun k hk => h k (by omega))) (h n (by omega))
theorem full_eq {m n : Nat} (hm : m < 2 ^ n) (h : ∀ t, t < n → m.testBit t = true) : m = 2 ^ n - 1 := by
  apply Nat.eq_of_testBit_eq
  intro i
  rw [Nat.testBit_two_pow_sub_one]
  by_cases hi : i < n
  · rw [h i hi, decide_eq_true hi]
  · rw [decide_eq_false hi]
    exact Nat.testBit_lt_two_pow (Nat.lt_of_lt_of_le hm (Nat.pow_le_pow_right (by decide) (by omega)))
/- dealt hands -/
theorem dm_b (o : Nat → Nat) (p0 t : Nat) : ∀ c, (dm o p0 c).testBit t = true ↔ ∃ k, k < c ∧ o (p0 + k) = t := by
  intro c
  induction c with
  | zero =>
    show (0 : Nat).testBit t = true ↔ _
    rw [Nat.zero_testBit]
    constructor
    · intro h; cases h
    · rintro ⟨k, hk, -⟩; omega
  | succ c ih =>
    show (dm o p0 c ||| 2 ^ o (p0 + c)).testBit t = true ↔ _
    rw [bit_in, Bool.or_eq_true, ih]
    constructor
    · rintro (⟨k, hk, h⟩ | h)
      · exact ⟨k, by omega, h⟩
      · exact ⟨c, by omega, by simpa using h⟩
    · rintro ⟨k, hk, h⟩
      by_cases h1 : k = c
      · subst h1; exact Or.inr (by simpa using h)
      · exact Or.inl ⟨k, by omega, h⟩
theorem dm_lt {o : Nat → Nat} {p0 n : Nat} : ∀ c, (∀ k, k < c → o (p0 + k) < n) → dm o p0 c < 2 ^ n := by
  intro c
  induction c with
  | zero => intro _; exact Nat.two_pow_pos _
  | succ c ih =>
    intro h
    exact Nat.or_lt_two_pow (ih (fun k hk => h k (by omega))) (Nat.pow_lt_pow_right (by decide) (h c (by omega)))
theorem dm_ct {o : Nat → Nat} {p0 : Nat} : ∀ c, (∀ j k, j < k → k < c → o (p0 + j) ≠ o (p0 + k)) → (∀ k, k < c → o (p0 + k) < 32) → pct (dm o p0 c) 32 = c := by
  intro c
  induction c with
  | zero => intro _ _; exact pct_0 32
  | succ c ih =>
    intro h h2
    have h3 : (dm o p0 c).testBit (o (p0 + c)) = false := by
      rw [Bool.eq_false_iff]
      intro q
      obtain ⟨k, hk, e⟩ := (dm_b o p0 _ c).mp q
      exact h k c hk (by omega) e
    show pct (dm o p0 c ||| 2 ^ o (p0 + c)) 32 = c + 1
    rw [pct_in h3, ih (fun j k hj hk => h j k hj (by omega)) (fun k hk => h2 k (by omega)), if_pos (h2 c (by omega))]
/- the shuffle -/
def permF (f : Nat → Int) (n : Nat) : Prop := (∀ k, k < n → 0 ≤ f k ∧ f k < n) ∧ (∀ j k, j < k → k < n → f j ≠ f k) ∧ (∀ t : Nat, t < n → ∃ k, k < n ∧ f k = t)
theorem perm_sw {f : Nat → Int} {n a b : Nat} (h : permF f n) (ha : a < n) (hb : b < n) : permF (st1 (st1 f a (f b)) b (f a)) n := by
  obtain ⟨h1, h2, h3⟩ := h
  have hv : ∀ k, st1 (st1 f a (f b)) b (f a) k = f (if k = b then a else if k = a then b else k) := by
    intro k
    unfold st1
    by_cases q1 : k = b
    · rw [if_pos q1, if_pos q1]
    · rw [if_neg q1, if_neg q1]
      by_cases q2 : k = a
      · rw [if_pos q2, if_pos q2]
      · rw [if_neg q2, if_neg q2]
  have hne : ∀ j k, j ≠ k → j < n → k < n → f j ≠ f k := by
    intro j k hjk hj hk
    rcases Nat.lt_or_gt_of_ne hjk with q | q
    · exact h2 j k q hk
    · exact fun e => h2 k j q hj e.symm
  refine ⟨fun k hk => ?_, fun j k hj hk => ?_, fun t ht => ?_⟩
  · rw [hv]
    refine h1 _ ?_
    split
    · exact ha
    · split
      · exact hb
      · exact hk
  · rw [hv, hv]
    refine hne _ _ ?_ ?_ ?_
    · repeat' split
      all_goals omega
    · repeat' split
      all_goals omega
    · repeat' split
      all_goals omega
  · obtain ⟨k, hk, e⟩ := h3 t ht
    refine ⟨if k = b then a else if k = a then b else k, ?_, ?_⟩
    · repeat' split
      all_goals omega
    · rw [hv, ← e]
      congr 1
      repeat' split
      all_goals omega
theorem shf_p {f : Nat → Int} {n : Nat} {seed : Int} (hn : 1 ≤ n) : ∀ i, i ≤ n - 1 → permF (shf f n seed i).1 n := by
  intro i
  induction i with
  | zero =>
    intro _
    have e : ∀ k, k < n → (shf f n seed 0).1 k = k := by
      intro k hk
      show cp n (fun k => (k : Int)) f k = _
      unfold cp
      rw [if_pos hk]
    refine ⟨fun k hk => ?_, fun j k hj hk => ?_, fun t ht => ⟨t, ht, e t ht⟩⟩
    · rw [e k hk]; omega
    · rw [e k hk, e j (by omega)]; omega
  | succ i ih =>
    intro hi
    have h1 : 0 ≤ lcg (shf f n seed i).2 / 65536 % ((n - 1 - i : Nat) + 1) := Int.emod_nonneg _ (by omega)
    have h2 : lcg (shf f n seed i).2 / 65536 % ((n - 1 - i : Nat) + 1) < ((n - 1 - i : Nat) : Int) + 1 := Int.emod_lt_of_pos _ (by omega)
    exact perm_sw (ih (by omega)) (by omega) (by omega)
/- the shuffle doesn't look behind the set -/
theorem shf_c {f g : Nat → Int} {n : Nat} {seed : Int} (hn : 1 ≤ n) : ∀ i, i ≤ n - 1 → (∀ k, k < n → (shf f n seed i).1 k = (shf g n seed i).1 k) ∧ (shf f n seed i).2 = (shf g n seed i).2 := by
  intro i
  induction i with
  | zero =>
    intro _
    refine ⟨fun k hk => ?_, rfl⟩
    show cp n (fun k => (k : Int)) f k = cp n (fun k => (k : Int)) g k
    unfold cp
    rw [if_pos hk, if_pos hk]
  | succ i ih =>
    intro hi
    obtain ⟨a1, a2⟩ := ih (by omega)
    have h1 : 0 ≤ lcg (shf g n seed i).2 / 65536 % ((n - 1 - i : Nat) + 1) := Int.emod_nonneg _ (by omega)
    have h2 : lcg (shf g n seed i).2 / 65536 % ((n - 1 - i : Nat) + 1) < ((n - 1 - i : Nat) : Int) + 1 := Int.emod_lt_of_pos _ (by omega)
    refine ⟨fun k hk => ?_, ?_⟩
    · show st1 (st1 _ _ _) _ _ k = st1 (st1 _ _ _) _ _ k
      rw [a2]
      unfold st1
      rw [a1 (n - 1 - i) (by omega), a1 (lcg (shf g n seed i).2 / 65536 % ((n - 1 - i : Nat) + 1)).toNat (by omega), a1 k hk]
    · show lcg _ = lcg _
      rw [a2]
