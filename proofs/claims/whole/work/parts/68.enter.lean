/-! ===== the class's state ===== -/
def isCx (E : EX) (h : AH) (sz x base : Nat) (H : HT) (nh : Nat) (J : GS) (n fl : Nat) (cu : Nat → Nat) (nc : Nat) (rf uf ue : Int) (N : TT) (ha ea ca : Nat → Nat) (a1 a2 a3 : Nat) (A : TT) (C : Nat → TT) : Prop :=
  h x = some (.inr (11, XF x (fl : Int) rf uf ue)) ∧ isL E h (x + 1) a1 nh ha ∧ isL E h (x + 2) a2 n ea ∧ isL E h (x + 3) a3 nc ca ∧ (ha 4 = x + 4 ∧ isT h (x + 8) ha N ∧ isT h (x + 65) ha A) ∧ (∀ i, i < nh → isH h (ha i) (WH (H i)) ∧ base ≤ ha i) ∧ (∀ i, i < n → h (ea i) = some (EB ha (J i)) ∧ base ≤ ea i) ∧ (∀ c, c < nc → isT h (ca c) ha (C c) ∧ tEq H (At H J (cu c)) (C c) ∧ tix nh (C c) ∧ base ≤ ca c) ∧ ((a1 = E.2.1 ∨ base ≤ a1) ∧ (a2 = E.2.1 ∨ base ≤ a2) ∧ (a3 = E.2.1 ∨ base ≤ a3) ∧ (a1 = a2 → a1 = E.2.1) ∧ (a1 = a3 → a1 = E.2.1) ∧ (a2 = a3 → a2 = E.2.1)) ∧ (tEq H (At H J n) N ∧ tix nh N ∧ tix nh A) ∧ (h E.2.1 = none ∧ E.2.1 < sz ∧ (∀ q, sz ≤ q → h q = none) ∧ x + 122 ≤ base ∧ base ≤ sz)
def sC (H : HT) (nh : Nat) (J : GS) (n fl : Nat) (cu : Nat → Nat) (nc : Nat) (rf uf ue : Int) : Prop := hsOK H nh ∧ vJ H nh J n ∧ n ≤ 400 ∧ fl ≤ n ∧ nc ≤ 5 ∧ (∀ c, c < nc → cu c ≤ fl) ∧ (∀ c, c + 1 < nc → cu c ≤ cu (c + 1)) ∧ (rf = 0 ∨ rf = 1) ∧ (uf = 0 ∨ uf = 1) ∧ (0 ≤ ue ∧ ue ≤ 6)
def isC (E : EX) (h : AH) (sz x base : Nat) (H : HT) (nh : Nat) (J : GS) (n fl : Nat) (cu : Nat → Nat) (nc : Nat) (rf uf ue : Int) (N : TT) : Prop := ∃ ha ea ca a1 a2 a3 A C, isCx E h sz x base H nh J n fl cu nc rf uf ue N ha ea ca a1 a2 a3 A C
/- what else is in the heap stays -/
def frm (h h' : AH) (x base : Nat) : Prop := ∀ q, q < base → (q < x ∨ x + 122 ≤ q) → h' q = h q
/- all cells from base on but arrays of objects stay -/
def kee (h h' : AH) (base : Nat) : Prop := ∀ q c, base ≤ q → h q = some c → (∀ u, c ≠ .inl (3, u)) → h' q = some c
section KEE
variable {E : EX} {h h' h2 : AH} {base a t l arr n sz x : Nat} {W : GS} {ha : Nat → Nat} {T : TT} {f : Nat → Nat} {e : Nat → Int}
theorem kee_t (k : kee h h' base) (k2 : kee h' h2 base) : kee h h2 base := fun q c h1 h3 h4 => k2 q c h1 (k q c h1 h3 h4) h4
theorem frm_t (k : frm h h' x base) (k2 : frm h' h2 x base) : frm h h2 x base := fun q h1 h3 => (k2 q h1 h3).trans (k q h1 h3)
theorem frm_r : frm h h x base := fun _ _ _ => rfl
theorem kH (k : isH h a W) (hb : base ≤ a) (kk : kee h h' base) : isH h' a W := by
  obtain ⟨w0, w1, w2, w3⟩ := k
  exact ⟨kk _ _ hb w0 (fun u q => by cases q), kk _ _ (by omega) w1 (fun u q => by cases q), kk _ _ (by omega) w2 (fun u q => by cases q), kk _ _ (by omega) w3 (fun u q => by cases q)⟩
theorem BB_n3 (b : Nat) (G : GS) (k : Nat) (u : vp_A) : BB b G k ≠ .inl (3, u) := by
  match k with
  | 0 => intro q; cases q
  | 1 => intro q; cases q
  | 2 => intro q; cases q
  | 3 => intro q; cases q
  | k + 4 => intro q; cases q
theorem GB_n3 (g hs : Nat) (G : GS) (k : Nat) (u : vp_A) : GB g hs G k ≠ .inl (3, u) := by
  match k with
  | 0 => intro q; cases q
  | 1 => intro q; cases q
  | 2 => intro q; cases q
  | 3 => intro q; cases q
  | k + 4 => exact BB_n3 _ _ _ _
theorem TB_n3 (t : Nat) (ha : Nat → Nat) (T : TT) (k : Nat) (u : vp_A) : TB t ha T k ≠ .inl (3, u) := by
  unfold TB
  split
  · intro q; cases q
  · split
    · intro q; cases q
    · split
      · intro q; cases q
      · exact GB_n3 _ _ _ _ _
theorem kT (k : isT h t ha T) (hb : base ≤ t) (kk : kee h h' base) : isT h' t ha T := fun j hj => kk _ _ (by omega) (k j hj) (fun u => TB_n3 _ _ _ _ u)
theorem EB_n3 (u : vp_A) : EB ha e ≠ .inl (3, u) := by
  unfold EB
  repeat' split
  all_goals intro q; cases q
theorem kE (k : h a = some (EB ha e)) (hb : base ≤ a) (kk : kee h h' base) : h' a = some (EB ha e) := kk _ _ hb k (fun u => EB_n3 u)
theorem kL (k : isL E h l arr n f) (hl : h' l = h l) (har : h' arr = h arr) (hf : ∀ i, i < n → base ≤ f i) (kk : kee h h' base) : isL E h' l arr n f := by
  obtain ⟨mc, cap, g, h0, h1, h2, h3, h4, h5⟩ := k
  refine ⟨mc, cap, g, by rw [hl, h0], by rw [har]; exact h1, h2, h3, h4, fun i hi => ?_⟩
  obtain ⟨ci, fs, e1, e2⟩ := h5 i hi
  exact ⟨ci, fs, kk _ _ (hf i hi) e1 (fun u q => by cases q), e2⟩
theorem arr_k (k : isL E h l arr n f) : (arr = E.2.1 ∧ h arr = none) ∨ ∃ u, h arr = some (.inl (3, u)) := by
  obtain ⟨mc, cap, g, h0, h1, -⟩ := k
  rcases h1 with ⟨h1, -, h2⟩ | ⟨-, h1⟩
  · exact Or.inl ⟨h1, h2⟩
  · exact Or.inr ⟨_, h1⟩
theorem l_obj (k : isL E h l arr n f) : ∃ fs, h l = some (.inr (0, fs)) := by
  obtain ⟨mc, cap, g, h0, -⟩ := k
  exact ⟨_, h0⟩
/- a list beside a table that changes -/
theorem isT_no (k : isT h t ha T) {q : Nat} (hq : h q = none) : q < t ∨ t + 57 ≤ q := by
  rcases Nat.lt_or_ge q t with h1 | h1
  · exact Or.inl h1
  · rcases Nat.lt_or_ge q (t + 57) with h2 | h2
    · have := k (q - t) (by omega)
      rw [show t + (q - t) = q by omega, hq] at this
      cases this
    · exact Or.inr h2
theorem isT_n3 (k : isT h t ha T) {q : Nat} {u : vp_A} (hq : h q = some (.inl (3, u))) : q < t ∨ t + 57 ≤ q := by
  rcases Nat.lt_or_ge q t with h1 | h1
  · exact Or.inl h1
  · rcases Nat.lt_or_ge q (t + 57) with h2 | h2
    · have := k (q - t) (by omega)
      rw [show t + (q - t) = q by omega, hq] at this
      exact absurd (Option.some.inj this).symm (TB_n3 _ _ _ _ _)
    · exact Or.inr h2
theorem arr_T (k : isL E h l arr n f) (kt : isT h t ha T) : arr < t ∨ t + 57 ≤ arr := by
  rcases arr_k k with ⟨-, h1⟩ | ⟨u, h1⟩
  · exact isT_no kt h1
  · exact isT_n3 kt h1
theorem isL_bk {F : Nat → va_E} (k : isL E h l arr n f) (hl : l < t ∨ t + 57 ≤ l) (har : arr < t ∨ t + 57 ≤ arr) (hf : ∀ i, i < n → f i < t ∨ t + 57 ≤ f i) : isL E (blk h t 57 F) l arr n f := by
  obtain ⟨mc, cap, g, h0, h1, h2, h3, h4, h5⟩ := k
  refine ⟨mc, cap, g, by rw [blk_out (by omega), h0], by rw [blk_out (by omega)]; exact h1, h2, h3, h4, fun i hi => ?_⟩
  obtain ⟨ci, fs, e1, e2⟩ := h5 i hi
  have := hf i hi
  exact ⟨ci, fs, by rw [blk_out (by omega), e1], e2⟩
theorem kee_bk {F : Nat → va_E} (ht : t + 57 ≤ base) : kee h (blk h t 57 F) base := fun q c h1 h2 _ => by rw [blk_out (by omega), h2]
end KEE
def jA (J : GS) (n : Nat) (e : Nat → Int) : GS := fun i => if i = n then e else J i
theorem jA_lt {J : GS} {n : Nat} {e : Nat → Int} (k : Nat) (hk : k < n) : jA J n e k = J k := if_neg (by omega)
theorem jA_eq {J : GS} {n : Nat} {e : Nat → Int} : jA J n e n = e := if_pos rfl
theorem At_A {H : HT} {J : GS} {n : Nat} {e : Nat → Int} {k : Nat} (hk : k ≤ n) : At H (jA J n e) k = At H J k := At_c k (fun j hj => jA_lt j (by omega))
theorem At_A1 {H : HT} {J : GS} {n : Nat} {e : Nat → Int} : At H (jA J n e) (n + 1) = pStep H (At H J n) e := by
  show pStep H (At H (jA J n e) n) (jA J n e n) = _
  rw [At_A (Nat.le_refl _), jA_eq]
theorem sC_A {H : HT} {nh : Nat} {J : GS} {n fl : Nat} {cu : Nat → Nat} {nc : Nat} {rf uf ue : Int} {e : Nat → Int} (h : sC H nh J n fl cu nc rf uf ue) (hn : n < 400) (hv : vE H nh (At H J n) e) : sC H nh (jA J n e) (n + 1) fl cu nc rf uf ue := by
  obtain ⟨s1, s2, s3, s4, s5⟩ := h
  refine ⟨s1, fun k hk => ?_, by omega, by omega, s5⟩
  by_cases hkn : k = n
  · subst hkn
    rw [At_A (Nat.le_refl _), jA_eq]
    exact hv
  · rw [At_A (by omega), jA_lt k (by omega)]
    exact s2 k (by omega)
section ENT
variable {E : EX} {d : Nat} {h : AH} {sz x base q0 : Nat} {H : HT} {nh : Nat} {J : GS} {n fl : Nat} {cu : Nat → Nat} {nc : Nat} {rf uf ue : Int} {N : TT} {ha ea ca : Nat → Nat} {a1 a2 a3 : Nat} {A : TT} {C : Nat → TT} {e : Nat → Int}
theorem cNV (hS : sC H nh J n fl cu nc rf uf ue) (q : tEq H (At H J n) N) : TV H nh N ∧ TV H nh (At H J n) ∧ TM H (At H J n) := by
  obtain ⟨v1, v2⟩ := At_v hS.1 n hS.2.1
  exact ⟨TV_e hS.1 v1 q, v1, v2⟩
/- coins, too, of an alike table -/
theorem TM_e (hH : hsOK H nh) {T K : TT} (hT : TV H nh T) (hM : TM H T) (q : tEq H T K) : TM H K := by
  have e1 := q.1 1 (by decide)
  have e2 := q.1 2 (by decide)
  have h6 := hT.1
  have pp : sumTo (K 6 0) 4 = sumTo (T 6 0) 4 := sumTo_c 4 (fun b hb => q.2.1 b hb)
  have gg : ∀ i, i < (T 6 1 1).toNat → oC (K i) = oC (T i) ∧ vC (K i) = vC (T i) ∧ lC (K i) = lC (T i) ∧ dC (K i) = dC (T i) ∧ ∀ b, tB2 (H (hxi K i)) (K i) b = tB2 (H (hxi T i)) (T i) b := fun i hi => by
    have qi := q.2.2 i (by omega)
    obtain ⟨c1, c2, c3, c4⟩ := curB_e qi 0
    have hx := tEq_hx q (i := i) (by omega)
    refine ⟨by unfold oC; rw [c3, c4], by unfold vC; rw [c3, c4], by unfold lC; rw [c2, c3, c4], by unfold dC; rw [c4], fun b => ?_⟩
    have cb := (curB_e qi b).1
    obtain ⟨⟨h7, ⟨h0, h1, h2⟩, h9, h10, hb⟩, h11⟩ := qi
    have hp := (hH.2 (hxi T i) (by have := (hT.2 i (by omega)).1; unfold hxi; omega)).2.1
    have hw : wlP (H (hxi T i)) (K i) = wlP (H (hxi T i)) (T i) := by
      unfold wlP
      rw [rw1_c _ (fun q hq => h1 q (by omega))]
    have hsh : ∀ w, shB (K i) w b = shB (T i) w b := fun w => by
      unfold shB
      rw [h9]
      refine sumTo_c _ (fun k hk => ?_)
      rw [(hb k (by omega)).1, payF_lk (fun k hk => (hb k (by omega)).2.1) (fun k hk => (hb k (by omega)).2.2.1) h10 hk]
    unfold tB2
    rw [hx, h7 5 (by decide), hw, hsh, h7 3 (by decide), hsh, cb]
  obtain ⟨m1, m2, m3, m4, m5⟩ := hM
  unfold TM
  rw [e1, e2, pp, sumTo_c (f := fun i => oC (K i)) (g := fun i => oC (T i)) _ (fun i hi => (gg i hi).1), sumTo_c (f := fun i => lC (K i)) (g := fun i => lC (T i)) _ (fun i hi => (gg i hi).2.2.1), sumTo_c (f := fun i => vC (K i)) (g := fun i => vC (T i)) _ (fun i hi => (gg i hi).2.1), sumN_c (f := fun i => dC (K i)) (g := fun i => dC (T i)) _ (fun i hi => (gg i hi).2.2.2.1)]
  refine ⟨m1, m2, fun b hb => ?_, m4, m5⟩
  rw [q.2.1 b hb, sumTo_c (f := fun i => tB2 (H (hxi K i)) (K i) b) (g := fun i => tB2 (H (hxi T i)) (T i) b) _ (fun i hi => (gg i hi).2.2.2.2 b)]
  exact m3 b hb
theorem cNM (hS : sC H nh J n fl cu nc rf uf ue) (q : tEq H (At H J n) N) : TM H N := by
  obtain ⟨v0, v1, v2⟩ := cNV hS q
  exact TM_e hS.1 v1 v2 q
theorem hsk_x (hC : isCx E h sz x base H nh J n fl cu nc rf uf ue N ha ea ca a1 a2 a3 A C) {t : Nat} (ht : t + 57 ≤ base) : hsk h t ha H nh := fun i hi => by
  obtain ⟨-, -, -, -, -, c6, -⟩ := hC
  have := c6 i hi
  exact ⟨this.1, Or.inr (by omega)⟩
set_option maxRecDepth 16384 in
theorem sp_121 (hS : sC H nh J n fl cu nc rf uf ue) (hC : isCx E h sz x base H nh J n fl cu nc rf uf ue N ha ea ca a1 a2 a3 A C) (hq : h q0 = some (EB ha e)) (hqb : base ≤ q0) (hn : n < 400) (hv : vE H nh N e) : ∃ h' sz' ea' a2', Sp E (d + 14) 121 [.ref x, .ref q0] h sz (rets none h' sz') ∧ isCx E h' sz' x base H nh (jA J n e) (n + 1) fl cu nc rf uf ue (pStep H N e) ha ea' ca a1 a2' a3 A C ∧ frm h h' x base ∧ sz ≤ sz' := by
  have hC' := hC
  obtain ⟨v0, v1, v2⟩ := cNV hS hC.2.2.2.2.2.2.2.2.2.1.1
  have vM := cNM hS hC.2.2.2.2.2.2.2.2.2.1.1
  obtain ⟨c1, c2, c3, c4, ⟨c5, c5n, c5a⟩, c6, c7, c8, ⟨r1, r2, r3, r4, r5, r6⟩, ⟨t1, t2, t3⟩, ⟨z1, z2, z3, z4, z5⟩⟩ := hC
  obtain ⟨ci, fs, eb1, eb2, eb3⟩ := EB_s ha e (vE_k hv)
  obtain ⟨h1, sz1, a2', s203, L2, sz1a, sz1b, ar, fr, z3', z2'⟩ := sp_203 (E := E) (d := d + 5) c3 (by omega) (by rw [hq, eb1]) eb3 z3 z2 z1
  -- what the list's growth leaves
  have f1 : ∀ q, q < base → q ≠ x + 2 → h1 q = h q := fun q hq1 hq2 => fr q (by omega) hq2 (fun q3 => by rcases r2 with r2 | r2 <;> omega)
  have ke1 : kee h h1 base := fun q c hb hc hu => by
    have hqz : q < sz := isL_lt (hz := z3) hc
    rw [fr q hqz (by omega) (fun q3 => ?_), hc]
    rcases arr_k c3 with ⟨k1, -⟩ | ⟨u, k1⟩
    · exact k1
    · rw [← q3, hc] at k1
      exact absurd (Option.some.inj k1) (hu u)
  have hE1 : h1 E.2.1 = none := by
    rw [fr E.2.1 z2 (fun q => by obtain ⟨fs, q2⟩ := l_obj c3; rw [← q, z1] at q2; cases q2) (fun q => q.symm), z1]
  have a1k : h1 a1 = h a1 := by
    rcases r1 with r1 | r1
    · rw [r1, hE1, z1]
    · rcases arr_k c2 with ⟨k1, -⟩ | ⟨u, k1⟩
      · rw [k1, hE1, z1]
      · exact fr a1 (isL_lt (hz := z3) k1) (by omega) (fun q => by have := r4 q; omega)
  have a3k : h1 a3 = h a3 := by
    rcases r3 with r3 | r3
    · rw [r3, hE1, z1]
    · rcases arr_k c4 with ⟨k1, -⟩ | ⟨u, k1⟩
      · rw [k1, hE1, z1]
      · exact fr a3 (isL_lt (hz := z3) k1) (by omega) (fun q => r6 q.symm)
  have N1 : isT h1 (x + 8) ha N := fun j hj => by rw [f1 _ (by omega) (by omega)]; exact c5n j hj
  have A1 : isT h1 (x + 65) ha A := fun j hj => by rw [f1 _ (by omega) (by omega)]; exact c5a j hj
  have hk1 : hsk h1 (x + 8) ha H nh := fun i hi => ⟨kH (c6 i hi).1 (c6 i hi).2 ke1, Or.inr (by have := (c6 i hi).2; omega)⟩
  have hq1 := kE hq hqb ke1
  have s60 := sp_60v (E := E) (d := d + 8) (sz := sz1) hS.1 N1 v0 vM hv hk1 hq1 (by omega)
  have ke2 : kee h1 (blk h1 (x + 8) 57 (TB (x + 8) ha (pStep H N e))) base := kee_bk (by omega)
  have ke := kee_t ke1 ke2
  have E_o := isT_no N1 hE1
  refine ⟨blk h1 (x + 8) 57 (TB (x + 8) ha (pStep H N e)), sz1, (fun i => if i = n then q0 else ea i), a2', ?_, ?_, ?_, sz1a⟩
  · obtain ⟨fs2, l2⟩ := l_obj c3
    have l2' : h (x + 2) = some (.inr (0, fs2)) := l2
    refine ⟨mi_121, mt_121, Nat.le_of_ble_eq_true rfl, ?_⟩
    change Rr _ _ _ _ mi_121 _ 0 [some (.ref x), some (.ref q0)] [] _ _ 0 0
    refine R_run 60 ?_
    simp only [run_s, run_0, isc, Bool.or_false, Bool.false_or, Bool.or_true, Bool.true_or, Bool.or_self, cond_false, cond_true, gl, sl, stl, stl2, c2, isw, nf, pf, lnb, tk, true_and, and_true, nsg0, nsg1, Int.cast_ofNat_Int, Int.natCast_zero, Int.natCast_one, zero_z, z_add, z_sub, z_mul, z_neg, cnd_eq, cnd_ne, cnd_lt, cnd_ge, cnd_gt, cnd_le, vok_0, vok_3r, vok_3n, vok_4, Nat.add_zero, Nat.zero_add, Nat.reduceAdd, Nat.reduceSub, Nat.reduceMod, Nat.reduceDiv, Nat.reduceEqDiff, Nat.reduceLeDiff, Nat.reduceMul, Int.reduceNeg, if_true, if_false, ite_true, ite_false, reduceIte, hup_app, Nat.add_left_cancel_iff, Nat.left_eq_add, Nat.add_eq_left, reduceCtorEq, subc_0, subc_1, subc_2, subc_3, subc_4, subc_5, subc_6, subc_7, subc_8, subc_9, subc_10, subc_11, subc_12, sube_2, sube_3, sube_5, sube_8, sube_9, sube_10, rets_ok, va_rfs, true_or, or_true, or_false, false_or, sI_aload_n, sI_getfield, sI_invokevirtual, sI_pop, sI_return_, ix_121_0, ix_121_1, ix_121_4, ix_121_5, ix_121_8, ix_121_9, ix_121_10, ix_121_13, ix_121_14, ix_121_17, mC_121, mS_121, mH_121, c1, XF]
    refine R_cV ix_121_5 (by decide) (by decide) rfl (l2') rfl (s203) (Nat.le_of_ble_eq_true rfl) (by rw [mcs_203, mC_121]; omega) (by rw [mcs_203, mS_121]; omega) ?_
    simp only [mcs_203, vpu, Nat.add_zero, Nat.zero_add, Nat.reduceAdd]
    refine R_run 60 ?_
    simp only [run_s, run_0, isc, Bool.or_false, Bool.false_or, Bool.or_true, Bool.true_or, Bool.or_self, cond_false, cond_true, gl, sl, stl, stl2, c2, isw, nf, pf, lnb, tk, true_and, and_true, nsg0, nsg1, Int.cast_ofNat_Int, Int.natCast_zero, Int.natCast_one, zero_z, z_add, z_sub, z_mul, z_neg, cnd_eq, cnd_ne, cnd_lt, cnd_ge, cnd_gt, cnd_le, vok_0, vok_3r, vok_3n, vok_4, Nat.add_zero, Nat.zero_add, Nat.reduceAdd, Nat.reduceSub, Nat.reduceMod, Nat.reduceDiv, Nat.reduceEqDiff, Nat.reduceLeDiff, Nat.reduceMul, Int.reduceNeg, if_true, if_false, ite_true, ite_false, reduceIte, hup_app, Nat.add_left_cancel_iff, Nat.left_eq_add, Nat.add_eq_left, reduceCtorEq, subc_0, subc_1, subc_2, subc_3, subc_4, subc_5, subc_6, subc_7, subc_8, subc_9, subc_10, subc_11, subc_12, sube_2, sube_3, sube_5, sube_8, sube_9, sube_10, rets_ok, va_rfs, true_or, or_true, or_false, false_or, sI_aload_n, sI_getfield, sI_invokevirtual, sI_pop, sI_return_, ix_121_0, ix_121_1, ix_121_4, ix_121_5, ix_121_8, ix_121_9, ix_121_10, ix_121_13, ix_121_14, ix_121_17, mC_121, mS_121, mH_121, f1 x (by omega) (by omega), c1, XF]
    refine R_cV ix_121_14 (by decide) (by decide) rfl (isT_0 N1) rfl (s60) (Nat.le_of_ble_eq_true rfl) (by rw [mcs_60, mC_121]; omega) (by rw [mcs_60, mS_121]; omega) ?_
    simp only [mcs_60, vpu, Nat.add_zero, Nat.zero_add, Nat.reduceAdd]
    refine R_run 60 ?_
    simp only [run_s, run_0, isc, Bool.or_false, Bool.false_or, Bool.or_true, Bool.true_or, Bool.or_self, cond_false, cond_true, gl, sl, stl, stl2, c2, isw, nf, pf, lnb, tk, true_and, and_true, nsg0, nsg1, Int.cast_ofNat_Int, Int.natCast_zero, Int.natCast_one, zero_z, z_add, z_sub, z_mul, z_neg, cnd_eq, cnd_ne, cnd_lt, cnd_ge, cnd_gt, cnd_le, vok_0, vok_3r, vok_3n, vok_4, Nat.add_zero, Nat.zero_add, Nat.reduceAdd, Nat.reduceSub, Nat.reduceMod, Nat.reduceDiv, Nat.reduceEqDiff, Nat.reduceLeDiff, Nat.reduceMul, Int.reduceNeg, if_true, if_false, ite_true, ite_false, reduceIte, hup_app, Nat.add_left_cancel_iff, Nat.left_eq_add, Nat.add_eq_left, reduceCtorEq, subc_0, subc_1, subc_2, subc_3, subc_4, subc_5, subc_6, subc_7, subc_8, subc_9, subc_10, subc_11, subc_12, sube_2, sube_3, sube_5, sube_8, sube_9, sube_10, rets_ok, va_rfs, true_or, or_true, or_false, false_or, sI_aload_n, sI_getfield, sI_invokevirtual, sI_pop, sI_return_, ix_121_0, ix_121_1, ix_121_4, ix_121_5, ix_121_8, ix_121_9, ix_121_10, ix_121_13, ix_121_14, ix_121_17, mC_121, mS_121, mH_121]
  · refine ⟨?_, ?_, ?_, ?_, ⟨c5, isT_blk, isT_out A1 (by omega)⟩, fun i hi => ⟨kH (c6 i hi).1 (c6 i hi).2 ke, (c6 i hi).2⟩, fun i hi => ?_, fun c hc => ?_, ⟨r1, ?_, r3, ?_, r5, ?_⟩, ⟨?_, tix_s v0 hS.1 hv t2, t3⟩, ⟨?_, z2', ?_, z4, by omega⟩⟩
    · rw [blk_out (by omega), f1 x (by omega) (by omega), c1]
    · refine kL c2 ?_ ?_ (fun i hi => (c6 i hi).2) ke
      · rw [blk_out (by omega), f1 _ (by omega) (by omega)]
      · have o1 : a1 < x + 8 ∨ x + 8 + 57 ≤ a1 := arr_T c2 c5n
        rw [blk_out (by omega), a1k]
    · refine isL_bk L2 (by omega) (arr_T L2 N1) (fun i hi => ?_)
      try dsimp only
      by_cases hin : i = n
      · rw [if_pos hin]; omega
      · rw [if_neg hin]
        have := (c7 i (by omega)).2
        omega
    · refine kL c4 ?_ ?_ (fun c hc => (c8 c hc).2.2.2) ke
      · rw [blk_out (by omega), f1 _ (by omega) (by omega)]
      · have o1 : a3 < x + 8 ∨ x + 8 + 57 ≤ a3 := arr_T c4 c5n
        rw [blk_out (by omega), a3k]
    · try dsimp only
      by_cases hin : i = n
      · rw [if_pos hin, hin, jA_eq]
        exact ⟨kE hq hqb ke, hqb⟩
      · rw [if_neg hin, jA_lt i (by omega)]
        exact ⟨kE (c7 i (by omega)).1 (c7 i (by omega)).2 ke, (c7 i (by omega)).2⟩
    · obtain ⟨d1, d2, d3, d4⟩ := c8 c hc
      have := hS.2.2.2.2.2.1 c hc
      have := hS.2.2.2.1
      rw [At_A (by omega)]
      exact ⟨kT d1 d4 ke, d2, d3, d4⟩
    · rcases ar with ar | ar
      · rw [ar]; exact r2
      · exact Or.inr (by omega)
    · intro q
      rcases ar with ar | ar
      · rw [ar] at q; exact r4 q
      · rcases r1 with r1 | r1
        · exact r1
        · rcases arr_k c2 with ⟨k1, -⟩ | ⟨u, k1⟩
          · exact k1
          · have := isL_lt (hz := z3) k1
            omega
    · intro q
      rcases ar with ar | ar
      · rw [ar] at q ⊢; exact r6 q
      · rcases arr_k c4 with ⟨k1, -⟩ | ⟨u, k1⟩
        · rw [q]; exact k1
        · have := isL_lt (hz := z3) k1
          omega
    · rw [At_A1]
      exact tEq_st hS.1 v1 t1 (by
        have := vE_e v0 (tEq_s t1) hv
        exact this)
    · rw [blk_out (by omega), hE1]
    · intro q hq3
      rw [blk_out (by omega), z3' q hq3]
  · intro q hq3 hq4
    rw [blk_out (by omega), f1 q hq3 (by omega)]
end ENT
