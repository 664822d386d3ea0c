/-! ===== fewer frames: what a method's run can call at all ===== -/
def rkL : List Nat := [1, 2, 1, 2, 1, 1, 1, 1, 2, 1, 1, 3, 4, 3, 3, 2, 3, 3, 2, 2, 3, 2, 1, 1, 1, 1, 2, 2, 1, 3, 3, 1, 1, 3, 2, 3, 2, 2, 3, 1, 3, 2, 2, 3, 3, 4, 2, 1, 1, 1, 1, 1, 2, 4, 1, 4, 3, 1, 1, 1, 5, 1, 2, 3, 3, 2, 3, 2, 1, 3, 2, 4, 3, 3, 3, 3, 4, 3, 4, 5, 8, 9, 9, 9, 9, 8, 8, 8, 8, 8, 8, 8, 8, 8, 7, 9, 7, 8, 8, 1, 9, 8, 2, 2, 8, 8, 2, 7, 8, 7, 7, 4, 7, 2, 7, 1, 7, 7, 2, 7, 1, 8, 4, 6, 2, 1, 1, 1, 1, 2, 2, 1, 1, 1, 2, 7, 6, 3, 1, 3, 5, 3, 4, 1, 2, 1, 1, 8, 2, 1, 3, 8, 3, 8, 8, 3, 4, 4, 4, 4, 4, 4, 4, 4, 4, 1, 2, 8, 3, 4, 4, 1, 1, 8, 4, 1, 1, 2, 3, 3, 1, 7, 2, 2, 3, 3, 2, 3, 2, 1, 1, 1, 1, 1, 2, 3, 4, 4, 5, 1, 1, 3, 6, 7, 3, 2, 3, 2, 2, 2, 1, 9, 10, 10, 10, 10, 9, 9, 9, 9, 9, 9, 9, 9, 9, 8, 10, 8, 9, 9, 10, 9, 9, 9, 9, 8, 8, 8, 11]
def rk (k : Nat) : Nat := rkL.getD k 0
def rkd (k : Nat) (i : Instr) (x : Nat) : Bool := match i with
  | .new _ => Nat.blt x 900 || Nat.ble 7 (rk k)
  | .invokestatic _ => cond (Nat.beq x 1000 || Nat.beq x 1001 || Nat.beq x 1004 || Nat.beq x 1005) (Nat.ble 2 (rk k)) (Nat.blt (rk x) (rk k))
  | .invokevirtual _ => cond (Nat.beq x 1003) (Nat.ble 2 (rk k)) (cond (Nat.beq x 500) (Nat.blt (rk 12) (rk k) && (Nat.blt (rk 14) (rk k) && (Nat.blt (rk 45) (rk k) && (Nat.blt (rk 74) (rk k) && (Nat.blt (rk 76) (rk k) && Nat.blt (rk 78) (rk k)))))) (Nat.blt (rk x) (rk k)))
  | .invokespecial _ => cond (Nat.beq x 0) (Nat.ble 2 (rk k)) (Nat.blt (rk x) (rk k))
  | _ => true
noncomputable def rkA : Nat → List MI → Bool
  | _, [] => true
  | k, r :: l => (mI r).all (fun t => rkd k t.2.2.1 t.2.2.2.2.1) && rkA (k + 1) l
theorem rkA_ok : rkA 0 mtab = true := by decide +kernel
theorem rkA_at : ∀ (l : List MI) (k0 k : Nat) (r : MI), rkA k0 l = true → l[k]? = some r → ∀ t ∈ mI r, rkd (k0 + k) t.2.2.1 t.2.2.2.2.1 = true := by
  intro l
  induction l with
  | nil => intro k0 k r _ h; simp at h
  | cons q l ih =>
    intro k0 k r h0 hk
    unfold rkA at h0
    obtain ⟨h1, h2⟩ := Bool.and_eq_true_iff.mp h0
    cases k with
    | zero =>
      have e : q = r := by simpa using hk
      subst e
      intro t ht
      exact List.all_eq_true.mp h1 t ht
    | succ k =>
      have e : l[k]? = some r := by simpa using hk
      have := ih (k0 + 1) k r h2 e
      rw [show k0 + (k + 1) = k0 + 1 + k by omega]
      exact this
theorem rk_at {k : Nat} {r : MI} (h : mtab[k]? = some r) : ∀ t ∈ mI r, rkd k t.2.2.1 t.2.2.2.2.1 = true := by
  have := rkA_at mtab 0 k r rkA_ok h
  rw [Nat.zero_add] at this
  exact this
theorem rk_pos {k : Nat} {r : MI} (h : mtab[k]? = some r) : 0 < rk k := by
  have h1 : k < 239 := by
    have h2 : k < mtab.length := (List.getElem?_eq_some_iff.mp h).1
    have h3 : mtab.length = 239 := by decide +kernel
    omega
  have h4 : ∀ k : Nat, k < 239 → 0 < rk k := by decide +kernel
  exact h4 k h1
section LOWF
variable {E : EX} {mcs : Nat → Nat × Nat} {call call' : CT} {d d' k : Nat} {r : MI} {Q : QT} {X : AST} {n x y pc : Nat} {L : LV} {S : List Value} {h : AH} {sz nc ns : Nat}
theorem cal_lo {cm : Nat} {as rest : List Value} (hc : ∀ as h sz Qc, call cm as h sz Qc → call' cm as h sz Qc) (k : cal mcs call r Q X cm as pc n L rest h sz nc ns) : cal mcs call' r Q X cm as pc n L rest h sz nc ns := by
  obtain ⟨k1, k2, k3, Qc, k4, k5⟩ := k
  exact ⟨k1, k2, k3, Qc, hc _ _ _ _ k4, k5⟩
theorem vdo_6 (ci : Nat) : vdo ci = 12 ∨ vdo ci = 14 ∨ vdo ci = 45 ∨ vdo ci = 74 ∨ vdo ci = 76 ∨ vdo ci = 78 := by
  unfold vdo
  repeat' split
  all_goals simp
theorem stI_lo {i : Instr} (h6 : 6 ≤ d) (hk : rk k ≤ d' + 1) (hc : ∀ cm as h sz Qc, rk cm ≤ d' → call cm as h sz Qc → call' cm as h sz Qc) (hb : rkd k i x = true) (hs : stI E mcs call d r Q X i n x y pc L S h sz nc ns) : stI E mcs call' d' r Q X i n x y pc L S h sz nc ns := by
  have e0 : 2 ≤ rk k → (1 ≤ d) = (1 ≤ d') := fun _ => propext ⟨fun _ => by omega, fun _ => by omega⟩
  cases i
  case new q =>
    rw [sI_new] at hs ⊢
    have hb' : (Nat.blt x 900 || Nat.ble 7 (rk k)) = true := hb
    by_cases h9 : 900 ≤ x
    · rw [if_pos h9] at hs ⊢
      have h7 : 7 ≤ rk k := by
        rcases Bool.or_eq_true_iff.mp hb' with q | q
        · have := Nat.le_of_ble_eq_true q
          omega
        · exact Nat.le_of_ble_eq_true q
      exact ⟨by omega, hs.2⟩
    · rw [if_neg h9] at hs ⊢
      exact hs
  case invokestatic q =>
    have hb' : (cond (Nat.beq x 1000 || Nat.beq x 1001 || Nat.beq x 1004 || Nat.beq x 1005) (Nat.ble 2 (rk k)) (Nat.blt (rk x) (rk k))) = true := hb
    rw [sI_invokestatic] at hs ⊢
    by_cases c : x = 1000 ∨ x = 1001 ∨ x = 1004 ∨ x = 1005
    · have h2 : 2 ≤ rk k := by rcases c with rfl | rfl | rfl | rfl <;> exact Nat.le_of_ble_eq_true hb'
      rw [e0 h2] at hs
      rcases c with rfl | rfl | rfl | rfl
      · rw [if_pos rfl] at hs ⊢
        exact hs
      · rw [if_neg (by decide), if_pos rfl] at hs ⊢
        exact hs
      · rw [if_neg (by decide), if_neg (by decide), if_pos rfl] at hs ⊢
        exact hs
      · rw [if_neg (by decide), if_neg (by decide), if_neg (by decide), if_pos rfl] at hs ⊢
        exact hs
    · have e1 : (Nat.beq x 1000 || Nat.beq x 1001 || Nat.beq x 1004 || Nat.beq x 1005) = false := by
        have g1 : Nat.beq x 1000 = false := Bool.eq_false_iff.mpr (fun q => c (Or.inl (Nat.eq_of_beq_eq_true q)))
        have g2 : Nat.beq x 1001 = false := Bool.eq_false_iff.mpr (fun q => c (Or.inr (Or.inl (Nat.eq_of_beq_eq_true q))))
        have g3 : Nat.beq x 1004 = false := Bool.eq_false_iff.mpr (fun q => c (Or.inr (Or.inr (Or.inl (Nat.eq_of_beq_eq_true q)))))
        have g4 : Nat.beq x 1005 = false := Bool.eq_false_iff.mpr (fun q => c (Or.inr (Or.inr (Or.inr (Nat.eq_of_beq_eq_true q)))))
        rw [g1, g2, g3, g4]
        rfl
      rw [e1] at hb'
      have hl : rk x + 1 ≤ rk k := Nat.le_of_ble_eq_true hb'
      rw [if_neg (by omega), if_neg (by omega), if_neg (by omega), if_neg (by omega)] at hs ⊢
      revert hs
      cases tk y [] S with
      | none => exact id
      | some p =>
        obtain ⟨as, rest⟩ := p
        exact cal_lo (fun as h sz Qc => hc x as h sz Qc (by omega))
  case invokevirtual q =>
    have hb' : (cond (Nat.beq x 1003) (Nat.ble 2 (rk k)) (cond (Nat.beq x 500) (Nat.blt (rk 12) (rk k) && (Nat.blt (rk 14) (rk k) && (Nat.blt (rk 45) (rk k) && (Nat.blt (rk 74) (rk k) && (Nat.blt (rk 76) (rk k) && Nat.blt (rk 78) (rk k)))))) (Nat.blt (rk x) (rk k)))) = true := hb
    rw [sI_invokevirtual] at hs ⊢
    by_cases c : x = 1003
    · subst c
      rw [e0 (Nat.le_of_ble_eq_true hb')] at hs
      rw [if_pos rfl] at hs ⊢
      exact hs
    · have g1 : Nat.beq x 1003 = false := Bool.eq_false_iff.mpr (fun q => c (Nat.eq_of_beq_eq_true q))
      rw [g1] at hb'
      rw [if_neg c] at hs ⊢
      revert hs
      cases tk (y % 16) [] S with
      | none => exact id
      | some p =>
        obtain ⟨as, rest⟩ := p
        cases rest with
        | nil => exact id
        | cons v rest =>
          cases v
          case ref b =>
            dsimp only
            cases h b with
            | none => exact id
            | some e =>
              cases e with
              | inl _ => exact id
              | inr u =>
                obtain ⟨ci, fs⟩ := u
                dsimp only
                by_cases c5 : x = 500
                · rw [if_pos c5, if_pos c5]
                  subst c5
                  have hb2 : (Nat.blt (rk 12) (rk k) && (Nat.blt (rk 14) (rk k) && (Nat.blt (rk 45) (rk k) && (Nat.blt (rk 74) (rk k) && (Nat.blt (rk 76) (rk k) && Nat.blt (rk 78) (rk k)))))) = true := hb'
                  simp only [Bool.and_eq_true] at hb2
                  obtain ⟨b1, b2, b3, b4, b5, b6⟩ := hb2
                  have b1 : rk 12 + 1 ≤ rk k := Nat.le_of_ble_eq_true b1
                  have b2 : rk 14 + 1 ≤ rk k := Nat.le_of_ble_eq_true b2
                  have b3 : rk 45 + 1 ≤ rk k := Nat.le_of_ble_eq_true b3
                  have b4 : rk 74 + 1 ≤ rk k := Nat.le_of_ble_eq_true b4
                  have b5 : rk 76 + 1 ≤ rk k := Nat.le_of_ble_eq_true b5
                  have b6 : rk 78 + 1 ≤ rk k := Nat.le_of_ble_eq_true b6
                  have hv : rk (vdo ci) ≤ d' := by
                    rcases vdo_6 ci with q | q | q | q | q | q <;> rw [q] <;> omega
                  rintro ⟨u1, u2⟩
                  exact ⟨u1, cal_lo (fun as h sz Qc => hc _ as h sz Qc hv) u2⟩
                · rw [if_neg c5, if_neg c5]
                  have g5 : Nat.beq x 500 = false := Bool.eq_false_iff.mpr (fun q => c5 (Nat.eq_of_beq_eq_true q))
                  rw [g5] at hb'
                  have hl : rk x + 1 ≤ rk k := Nat.le_of_ble_eq_true hb'
                  rintro ⟨u1, u2⟩
                  exact ⟨u1, cal_lo (fun as h sz Qc => hc _ as h sz Qc (by omega)) u2⟩
          all_goals exact id
  case invokespecial q =>
    have hb' : (cond (Nat.beq x 0) (Nat.ble 2 (rk k)) (Nat.blt (rk x) (rk k))) = true := hb
    rw [sI_invokespecial] at hs ⊢
    by_cases c : x = 0
    · subst c
      rw [e0 (Nat.le_of_ble_eq_true hb')] at hs
      rw [if_pos rfl] at hs ⊢
      exact hs
    · have g1 : Nat.beq x 0 = false := Bool.eq_false_iff.mpr (fun q => c (Nat.eq_of_beq_eq_true q))
      rw [g1] at hb'
      have hl : rk x + 1 ≤ rk k := Nat.le_of_ble_eq_true hb'
      rw [if_neg c] at hs ⊢
      revert hs
      cases tk y [] S with
      | none => exact id
      | some p =>
        obtain ⟨as, rest⟩ := p
        cases rest with
        | nil => exact id
        | cons v rest =>
          cases v
          case ref b => exact cal_lo (fun as h sz Qc => hc x as h sz Qc (by omega))
          all_goals exact id
  all_goals exact hs
theorem Rr_lo (h6 : 6 ≤ d) (hk : rk k ≤ d' + 1) (hc : ∀ cm as h sz Qc, rk cm ≤ d' → call cm as h sz Qc → call' cm as h sz Qc) (hb : ∀ t ∈ mI r, rkd k t.2.2.1 t.2.2.2.2.1 = true) (hR : Rr E mcs call d r Q pc L S h sz nc ns) : Rr E mcs call' d' r Q pc L S h sz nc ns := fun X hX hw => hR X (fun pc L S h sz nc ns Y hY hs => hX pc L S h sz nc ns Y hY (by
    unfold stp at hs ⊢
    revert hs
    cases hl : lkp pc (mI r) with
    | none => exact id
    | some q =>
      obtain ⟨b, i, n, x, y⟩ := q
      intro hs
      exact stI_lo h6 hk hc (hb _ (lkp_mem hl)) hs)) hw
end LOWF
theorem Sp_low {E : EX} : ∀ (n d m : Nat) (as : List Value) (h : AH) (sz : Nat) (Q : QT), rk m ≤ n → n + 6 ≤ d → Sp E d m as h sz Q → Sp E n m as h sz Q := by
  intro n
  induction n with
  | zero =>
    intro d m as h sz Q h0 hd hs
    obtain ⟨e, rfl⟩ : ∃ e, d = e + 1 := ⟨d - 1, by omega⟩
    obtain ⟨r, hr, -⟩ := hs
    have := rk_pos hr
    omega
  | succ n ih =>
    intro d m as h sz Q h0 hd hs
    obtain ⟨e, rfl⟩ : ∃ e, d = e + 1 := ⟨d - 1, by omega⟩
    obtain ⟨r, hr, hlen, hR⟩ := hs
    exact ⟨r, hr, hlen, Rr_lo (k := m) (by omega) (by omega) (fun cm as h sz Qc hq hh => ih e cm as h sz Qc hq (by omega) hh) (rk_at hr) hR⟩
