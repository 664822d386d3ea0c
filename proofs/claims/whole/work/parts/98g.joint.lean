/-! ===== the class and the reference in one heap ===== -/
def retg (v : Option Value) (h1 : AH) (s1 : Nat) : QT := fun o h' sz' => o = .ok v ∧ h' = h1 ∧ s1 ≤ sz'
theorem retg_ok (v w : Option Value) (h1 h' : AH) (s1 s' : Nat) : retg v h1 s1 (.ok w) h' s' = (w = v ∧ h' = h1 ∧ s1 ≤ s') := by
  unfold retg
  rw [Except.ok.injEq]
def LO (f : Nat → Int64) : va_E := .inl (4, 1, .inr (.inl f))
def LD (f : Nat → UInt64) : va_E := .inl (5, 1, .inr (.inr (.inr (.inl f))))
section XCV
variable {E : EX} {mcs : Nat → Nat × Nat} {call : CT} {d : Nat} {r : MI} {Q : QT} {pc n x y q p a ci s1 : Nat} {L : LV} {S rest as : List Value} {h h1 : AH} {sz nc ns : Nat} {b : Bool} {fs : List Value} {e : String} {v : Option Value}
theorem cal_x {X : AST} (hs : call x as h sz (thrs e h1 s1)) (hc : catS rest ≤ 8) (b1 : nc + (mcs x).1 ≤ mC r) (b2 : ns + (mcs x).2 ≤ mS r) (hh : hnd (mH r) pc e = some p) (k : ∀ sz' q : Nat, s1 ≤ sz' → X p L [.ref q] h1 sz' (nc + (mcs x).1) (ns + (mcs x).2)) : cal mcs call r Q X x as pc n L rest h sz nc ns := by
  refine ⟨hc, b1, b2, _, hs, ?_⟩
  rintro o h' sz' ⟨rfl, rfl, h3⟩
  unfold aft
  dsimp only
  rw [hh]
  exact fun q => k sz' q h3
theorem R_xV (hl : lkp pc (mI r) = some (b, .invokevirtual q, n, x, y)) (hx3 : x ≠ 1003) (hx5 : x ≠ 500) (ht : tk (y % 16) [] S = some (as, .ref a :: rest)) (ha : h a = some (.inr (ci, fs))) (hci : ci = y / 16) (hs : call x (.ref a :: as) h sz (thrs e h1 s1)) (hc : catS rest ≤ 8) (b1 : nc + (mcs x).1 ≤ mC r) (b2 : ns + (mcs x).2 ≤ mS r) (hh : hnd (mH r) pc e = some p) (k : ∀ sz' q : Nat, s1 ≤ sz' → Rr E mcs call d r Q p L [.ref q] h1 sz' (nc + (mcs x).1) (ns + (mcs x).2)) : Rr E mcs call d r Q pc L S h sz nc ns := by
  refine R_intro ?_
  unfold stp
  rw [hl]
  show (if x = 1003 then _ else _)
  rw [if_neg hx3, ht]
  dsimp only
  rw [ha]
  dsimp only
  rw [if_neg hx5]
  exact ⟨hci, cal_x hs hc b1 b2 hh k⟩
theorem cal_g {X : AST} (hs : call x as h sz (retg v h1 s1)) (hc : catS rest ≤ 8) (b1 : nc + (mcs x).1 ≤ mC r) (b2 : ns + (mcs x).2 ≤ mS r) (k : ∀ sz', s1 ≤ sz' → X n L (vpu v rest) h1 sz' (nc + (mcs x).1) (ns + (mcs x).2)) : cal mcs call r Q X x as pc n L rest h sz nc ns := by
  refine ⟨hc, b1, b2, _, hs, ?_⟩
  rintro o h' sz' ⟨rfl, rfl, h3⟩
  cases v <;> exact k sz' h3
theorem R_gS (hl : lkp pc (mI r) = some (b, .invokestatic q, n, x, y)) (hx : ¬ (1000 ≤ x ∧ x ≤ 1005)) (ht : tk y [] S = some (as, rest)) (hs : call x as h sz (retg v h1 s1)) (hc : catS rest ≤ 8) (b1 : nc + (mcs x).1 ≤ mC r) (b2 : ns + (mcs x).2 ≤ mS r) (k : ∀ sz', s1 ≤ sz' → Rr E mcs call d r Q n L (vpu v rest) h1 sz' (nc + (mcs x).1) (ns + (mcs x).2)) : Rr E mcs call d r Q pc L S h sz nc ns := by
  refine R_intro ?_
  unfold stp
  rw [hl]
  show (if x = 1000 then _ else _)
  rw [if_neg (by omega), if_neg (by omega), if_neg (by omega), if_neg (by omega), ht]
  exact cal_g hs hc b1 b2 k
end XCV
theorem rk12 : ∀ k : Nat, k < 238 → rk k ≤ 12 := by decide +kernel
section JNT
variable {E : EX} {d : Nat} {h h' h1 hw : AH} {sz sz' s1 s2 x base m : Nat} {H H' : HT} {nh nh' : Nat} {J J' : GS} {n n' fl fl' : Nat} {cu cu' : Nat → Nat} {nc nc' : Nat} {rf uf ue rf' uf' ue' : Int} {N N' : TT} {M M' : GS} {f f' : Nat → Int64} {g g' : Nat → UInt64}
theorem hup_self {a : Nat} {c : va_E} (k : h a = some c) : hup h a c = h := by
  funext q
  unfold hup
  by_cases hq : q = a
  · rw [if_pos hq, hq, k]
  · rw [if_neg hq]
theorem isC_ext (hC : isC E h sz x base H nh J n fl cu nc rf uf ue N) (hs : sz ≤ sz') : isC E h sz' x base H nh J n fl cu nc rf uf ue N := by
  obtain ⟨ha, ea, ca, a1, a2, a3, A, C, hCx⟩ := hC
  have z3 := hCx.2.2.2.2.2.2.2.2.2.2.2.2.1
  exact ⟨ha, ea, ca, a1, a2, a3, A, C, isCx_ext hCx (fun _ _ => rfl) (fun q hq => z3 q (by omega)) hs⟩
theorem isC_z (hC : isC E h sz x base H nh J n fl cu nc rf uf ue N) : h E.2.1 = none ∧ base ≤ sz ∧ tEq H (At H J n) N := by
  obtain ⟨ha, ea, ca, a1, a2, a3, A, C, hCx⟩ := hC
  exact ⟨hCx.2.2.2.2.2.2.2.2.2.2.1, hCx.2.2.2.2.2.2.2.2.2.2.2.2.2.2, hCx.2.2.2.2.2.2.2.2.2.1.1⟩
theorem isC_hole (hC : isC E h sz x base H nh J n fl cu nc rf uf ue N) (hx : ∀ q, (q < x + 122 ∨ base ≤ q) → h' q = h q) (hE : h' E.2.1 = none) : isC E h' sz x base H nh J n fl cu nc rf uf ue N := by
  obtain ⟨ha, ea, ca, a1, a2, a3, A, C, hCx⟩ := hC
  refine ⟨ha, ea, ca, a1, a2, a3, A, C, ?_⟩
  obtain ⟨c1, c2, c3, c4, ⟨c5, c5n, c5a⟩, c6, c7, c8, r, t, ⟨z1, z2, z3, z4, z5⟩⟩ := hCx
  have ke : kee h h' base := fun q c hb hc _ => by rw [hx q (Or.inr hb), hc]
  have ar : ∀ {a}, (a = E.2.1 ∨ base ≤ a) → h' a = h a := fun k => by
    rcases k with k | k
    · rw [k, hE, z1]
    · exact hx _ (Or.inr k)
  have lo : ∀ q, q < x + 122 → h' q = h q := fun q hq => hx q (Or.inl hq)
  exact ⟨by rw [lo x (by omega), c1], kL c2 (lo _ (by omega)) (ar r.1) (fun i hi => (c6 i hi).2) ke, kL c3 (lo _ (by omega)) (ar r.2.1) (fun i hi => (c7 i hi).2) ke, kL c4 (lo _ (by omega)) (ar r.2.2.1) (fun i hi => (c8 i hi).2.2.2) ke, ⟨c5, fun j hj => by rw [lo _ (by omega), c5n j hj], fun j hj => by rw [lo _ (by omega), c5a j hj]⟩, fun i hi => ⟨kH (c6 i hi).1 (c6 i hi).2 ke, (c6 i hi).2⟩, fun i hi => ⟨kE (c7 i hi).1 (c7 i hi).2 ke, (c7 i hi).2⟩, fun c hc => ⟨kT (c8 c hc).1 (c8 c hc).2.2.2 ke, (c8 c hc).2⟩, r, t, ⟨hE, z2, fun q hq => by rw [hx q (Or.inr (by omega)), z3 q hq], z4, z5⟩⟩
theorem mh_at {j : Nat} (k : mh h m M = h) (hj : j < 33) : h (m + j) = some (MB m M j) := by
  rw [← k]
  exact blk_at hj
theorem mh_fr (k : mh h m M = h) (fr : ∀ j, j < 33 → h' (m + j) = h (m + j)) : mh h' m M = h' :=
  (blk_eq (fun j hj => by rw [fr j hj, mh_at k hj]) (fun _ _ => rfl)).symm
/-- the class at x, the reference at x + 122, the law's two arrays behind it; the script lies lower -/
def JX (E : EX) (h : AH) (sz x : Nat) (H : HT) (nh : Nat) (J : GS) (n fl : Nat) (cu : Nat → Nat) (nc : Nat) (rf uf ue : Int) (N : TT) (M : GS) (f : Nat → Int64) (g : Nat → UInt64) : Prop :=
  isC E h sz x (x + 157) H nh J n fl cu nc rf uf ue N ∧ sC H nh J n fl cu nc rf uf ue ∧ rC H nh J n fl cu nc rf uf ue N M ∧ mh h (x + 122) M = h ∧ h (x + 155) = some (LO f) ∧ h (x + 156) = some (LD g) ∧ E.1.1 < x ∧ h E.1.1 = none
def JS (E : EX) (x : Nat) (h : AH) (sz : Nat) : Prop := ∃ H nh J n fl cu nc rf uf ue N M f g, JX E h sz x H nh J n fl cu nc rf uf ue N M f g
theorem JX_fr (j : JX E h sz x H nh J n fl cu nc rf uf ue N M f g) (fr : frm h h1 x (x + 157)) : mh h1 (x + 122) M = h1 ∧ h1 (x + 155) = some (LO f) ∧ h1 (x + 156) = some (LD g) ∧ h1 E.1.1 = none := by
  obtain ⟨j1, j2, j3, j4, j5, j6, j7, j8⟩ := j
  exact ⟨mh_fr j4 (fun i hi => fr _ (by omega) (Or.inr (by omega))), by rw [fr _ (by omega) (Or.inr (by omega)), j5], by rw [fr _ (by omega) (Or.inr (by omega)), j6], by rw [fr _ (by omega) (Or.inl j7), j8]⟩
theorem JX_to (j : JX E h sz x H nh J n fl cu nc rf uf ue N M f g) (fr : frm h h1 x (x + 157)) (hC1 : isC E h1 s1 x (x + 157) H' nh' J' n' fl' cu' nc' rf' uf' ue' N') (hS1 : sC H' nh' J' n' fl' cu' nc' rf' uf' ue') (hle : s1 ≤ s2) (w1 : ∀ q, q ≠ x + 155 → q ≠ x + 156 → hw q = h1 q) (w2 : hw (x + 155) = some (LO f')) (w3 : hw (x + 156) = some (LD g')) (hr : rC H' nh' J' n' fl' cu' nc' rf' uf' ue' N' M') : mh hw (x + 122) M = hw ∧ JX E (mh hw (x + 122) M') s2 x H' nh' J' n' fl' cu' nc' rf' uf' ue' N' M' f' g' := by
  obtain ⟨k1, k2, k3, k4⟩ := JX_fr j fr
  obtain ⟨z1, z2, z3⟩ := isC_z hC1
  obtain ⟨j1, j2, j3, j4, j5, j6, j7, j8⟩ := j
  have nE : E.2.1 < x + 122 ∨ x + 157 ≤ E.2.1 := by
    rcases Nat.lt_or_ge E.2.1 (x + 122) with q | q
    · exact Or.inl q
    · rcases Nat.lt_or_ge E.2.1 (x + 157) with q2 | q2
      · exfalso
        by_cases q3 : E.2.1 = x + 155
        · rw [q3, k2] at z1; cases z1
        · by_cases q4 : E.2.1 = x + 156
          · rw [q4, k3] at z1; cases z1
          · have := mh_at (j := E.2.1 - (x + 122)) k1 (by omega)
            rw [show x + 122 + (E.2.1 - (x + 122)) = E.2.1 by omega, z1] at this
            cases this
      · exact Or.inr q2
  have out : ∀ q, (q < x + 122 ∨ x + 157 ≤ q) → mh hw (x + 122) M' q = h1 q := fun q hq => by
    have e1 : mh hw (x + 122) M' q = hw q := blk_out (by omega)
    rw [e1, w1 q (by omega) (by omega)]
  refine ⟨mh_fr k1 (fun i hi => w1 _ (by omega) (by omega)), isC_hole (isC_ext hC1 hle) out (by rw [out _ nE, z1]), hS1, hr, mh_mh hw _ _ _, ?_, ?_, j7, ?_⟩
  · have e1 : mh hw (x + 122) M' (x + 155) = hw (x + 155) := blk_out (by omega)
    rw [e1, w2]
  · have e1 : mh hw (x + 122) M' (x + 156) = hw (x + 156) := blk_out (by omega)
    rw [e1, w3]
  · rw [out _ (by omega), k4]
/- what `thrown` says -/
set_option maxRecDepth 16384 in
theorem m_125 : Sp E (d + 21) 125 [.ref m] (mh h m M) sz (rets (some (.int (z (M 0 0)))) (mh h m M) sz) := by
  refine ⟨mi_125, mt_125, Nat.le_of_ble_eq_true rfl, ?_⟩
  change Rr _ _ _ _ mi_125 _ 0 [some (.ref m)] [] _ _ 0 0
  refine R_run 60 ?_
  simp only [run_s, run_0, isc, Bool.or_false, Bool.false_or, Bool.or_true, Bool.true_or, Bool.or_self, cond_false, cond_true, gl, sl, stl, stl2, c2, isw, nf, pf, lnb, tk, true_and, and_true, nsg0, nsg1, Int.cast_ofNat_Int, Int.natCast_zero, Int.natCast_one, zero_z, z_add, z_sub, z_mul, z_neg, cnd_eq, cnd_ne, cnd_lt, cnd_ge, cnd_gt, cnd_le, vok_0, vok_3r, vok_3n, vok_4, Nat.add_zero, Nat.zero_add, Nat.reduceAdd, Nat.reduceSub, Nat.reduceMod, Nat.reduceDiv, Nat.reduceEqDiff, Nat.reduceLeDiff, Nat.reduceMul, Int.reduceNeg, if_true, if_false, ite_true, ite_false, reduceIte, hup_app, Nat.add_left_cancel_iff, Nat.left_eq_add, Nat.add_eq_left, reduceCtorEq, subc_0, subc_1, subc_2, subc_3, subc_4, subc_5, subc_6, subc_7, subc_8, subc_9, subc_10, subc_11, subc_12, sube_2, sube_3, sube_5, sube_8, sube_9, sube_10, rets_ok, va_rfs, true_or, or_true, or_false, false_or, sI_aload_n, sI_getfield, sI_ireturn, ix_125_0, ix_125_1, ix_125_4, mC_125, mS_125, mH_125, sr_at, mr_0, mn_0]
/-- one of the law's steps: the class's answer, or which exception it threw, beside the reference's -/
def Ans (E : EX) (x w cm : Nat) (as : List Value) (ty : Value → Prop) (rel : Value → Int64 → Prop) (h : AH) (sz : Nat) : Prop :=
  ∃ (c : Int) (h1 : AH) (s1 : Nat), (0 ≤ c ∧ c ≤ 4) ∧ Sp E 12 w (.ref x :: (as ++ [.ref (x + 155)])) h sz (retg (some (.int (z c))) h1 s1) ∧ ∀ s2, s1 ≤ s2 → ∃ (bv : Value) (h2 : AH), Sp E 12 cm (.ref (x + 122) :: as) h1 s2 (rets (some bv) h2 s2) ∧ Sp E 12 125 [.ref (x + 122)] h2 s2 (rets (some (.int (z c))) h2 s2) ∧ ty bv ∧ (c = 0 → ∃ f, h2 (x + 155) = some (LO f) ∧ rel bv (f 0)) ∧ JS E x h2 s2 ∧ (∃ fs, h1 (x + 122) = some (.inr (12, fs))) ∧ (∃ fs, h2 (x + 122) = some (.inr (12, fs))) ∧ h1 E.1.1 = none
theorem ans {w cm : Nat} {as : List Value} {ty : Value → Prop} {rel : Value → Int64 → Prop} {c : Int} {bv : Value} (j : JX E h sz x H nh J n fl cu nc rf uf ue N M f g) (fr : frm h h1 x (x + 157)) (hC1 : isC E h1 s1 x (x + 157) H' nh' J' n' fl' cu' nc' rf' uf' ue' N') (hS1 : sC H' nh' J' n' fl' cu' nc' rf' uf' ue') (hc : 0 ≤ c ∧ c ≤ 4) (hw : Sp E 21 w (.ref x :: (as ++ [.ref (x + 155)])) h sz (retg (some (.int (z c))) (hup h1 (x + 155) (LO f')) s1)) (r1 : w < 238) (r2 : cm < 238) (hm : ∀ (k : AH) (s2 : Nat), ∃ M', Sp E 21 cm (.ref (x + 122) :: as) (mh k (x + 122) M) s2 (rets (some bv) (mh k (x + 122) M') s2) ∧ rC H' nh' J' n' fl' cu' nc' rf' uf' ue' N' M' ∧ M' 0 0 = c) (ht : ty bv) (hv : c = 0 → rel bv (f' 0)) : Ans E x w cm as ty rel h sz := by
  refine ⟨c, _, s1, hc, Sp_low 12 21 w _ _ _ _ (rk12 w r1) (by decide) hw, fun s2 hle => ?_⟩
  obtain ⟨M', hs, hr, h0⟩ := hm (hup h1 (x + 155) (LO f')) s2
  obtain ⟨k1, k2, k3, k4⟩ := JX_fr j fr
  obtain ⟨e1, j'⟩ := JX_to j fr hC1 hS1 hle (hw := hup h1 (x + 155) (LO f')) (fun q hq _ => hup_ne _ _ hq) (hup_eq _ _ _) (by rw [hup_ne _ _ (by omega), k3]) hr
  rw [e1] at hs
  have t := m_125 (E := E) (d := 0) (h := hup h1 (x + 155) (LO f')) (m := x + 122) (M := M') (sz := s2)
  rw [h0] at t
  refine ⟨bv, _, Sp_low 12 21 cm _ _ _ _ (rk12 cm r2) (by decide) hs, Sp_low 12 21 125 _ _ _ _ (rk12 125 (by decide)) (by decide) t, ht, fun c0 => ⟨f', j'.2.2.2.2.1, hv c0⟩, ⟨_, _, _, _, _, _, _, _, _, _, _, _, _, _, j'⟩, ⟨MF (x + 122) (M 0), ?_⟩, ⟨_, mr_0⟩, ?_⟩
  · exact mh_at (j := 0) e1 (by decide)
  · rw [hup_ne _ _ (by have := j.2.2.2.2.2.2.1; omega), k4]
/- refused: nothing but the exception -/
theorem ansT {w cm : Nat} {as : List Value} {ty : Value → Prop} {rel : Value → Int64 → Prop} {c : Int} {bv : Value} (j : JX E h sz x H nh J n fl cu nc rf uf ue N M f g) (fr : frm h h1 x (x + 157)) (hC1 : isC E h1 s1 x (x + 157) H' nh' J' n' fl' cu' nc' rf' uf' ue' N') (hS1 : sC H' nh' J' n' fl' cu' nc' rf' uf' ue') (hc : 1 ≤ c ∧ c ≤ 4) (hw : Sp E 21 w (.ref x :: (as ++ [.ref (x + 155)])) h sz (retg (some (.int (z c))) h1 s1)) (r1 : w < 238) (r2 : cm < 238) (hm : ∀ (k : AH) (s2 : Nat), ∃ M', Sp E 21 cm (.ref (x + 122) :: as) (mh k (x + 122) M) s2 (rets (some bv) (mh k (x + 122) M') s2) ∧ rC H' nh' J' n' fl' cu' nc' rf' uf' ue' N' M' ∧ M' 0 0 = c) (ht : ty bv) : Ans E x w cm as ty rel h sz := by
  obtain ⟨k1, k2, k3, k4⟩ := JX_fr j fr
  refine ans (f' := f) j fr hC1 hS1 (by omega) ?_ r1 r2 hm ht (fun q => by omega)
  rw [hup_self k2]
  exact hw
/- refused, nothing changed -/
theorem ansR {w cm : Nat} {as : List Value} {ty : Value → Prop} {rel : Value → Int64 → Prop} {c : Int} {bv : Value} (j : JX E h sz x H nh J n fl cu nc rf uf ue N M f g) (hc : 1 ≤ c ∧ c ≤ 4) (hw : Sp E 21 w (.ref x :: (as ++ [.ref (x + 155)])) h sz (retg (some (.int (z c))) h sz)) (r1 : w < 238) (r2 : cm < 238) (hm : ∀ (k : AH) (s2 : Nat), Sp E 21 cm (.ref (x + 122) :: as) (mh k (x + 122) M) s2 (rets (some bv) (mh k (x + 122) (th M c)) s2)) (ht : ty bv) : Ans E x w cm as ty rel h sz :=
  ansT j frm_r j.1 j.2.1 hc hw r1 r2 (fun k s2 => ⟨_, hm k s2, rC_th c j.2.2.1, th_0 c⟩) ht
/- asked, nothing changed -/
theorem ansQ {w cm : Nat} {as : List Value} {ty : Value → Prop} {rel : Value → Int64 → Prop} {bv : Value} {l : Int64} (j : JX E h sz x H nh J n fl cu nc rf uf ue N M f g) (hw : Sp E 21 w (.ref x :: (as ++ [.ref (x + 155)])) h sz (retg (some (.int (z 0))) (hup h (x + 155) (LO (vp_updL f 0 l))) sz)) (r1 : w < 238) (r2 : cm < 238) (hm : ∀ (k : AH) (s2 : Nat), Sp E 21 cm (.ref (x + 122) :: as) (mh k (x + 122) M) s2 (rets (some bv) (mh k (x + 122) (th M 0)) s2)) (ht : ty bv) (hv : rel bv l) : Ans E x w cm as ty rel h sz :=
  ans j frm_r j.1 j.2.1 (by decide) hw r1 r2 (fun k s2 => ⟨_, hm k s2, rC_th 0 j.2.2.1, th_0 0⟩) ht (fun _ => by
    have e : vp_updL f 0 l 0 = l := by unfold vp_updL; rw [if_pos rfl]
    rw [e]
    exact hv)
end JNT
def tI (v : Value) : Prop := ∃ b : Int32, v = .int b
def tL (v : Value) : Prop := ∃ b : Int64, v = .long b
def rI (v : Value) (l : Int64) : Prop := ∃ b : Int32, v = .int b ∧ l = b.toInt64
def rZ (v : Value) (l : Int64) : Prop := ∃ b : Int, (b = 0 ∨ b = 1) ∧ v = .int (z b) ∧ l = zl b
def rL (v : Value) (l : Int64) : Prop := v = .long l
