/-! ===== the law, a call: asked ===== -/
section OPSA
variable {E : EX} {h : AH} {sz x : Nat}
theorem sC_e {H : HT} {nh : Nat} {J : GS} {n fl : Nat} {cu : Nat → Nat} {nc : Nat} {rf uf ue : Int} {N : TT} {e : Nat → Int} (h : sC H nh J n fl cu nc rf uf ue) (q : tEq H (At H J n) N) (hn : n < 400) (hv : vE H nh N e) : sC H nh (jA J n e) (n + 1) fl cu nc rf uf ue := sC_A h hn (vE_e (cNV h q).1 (tEq_s q) hv)
theorem sC_r {H : HT} {nh : Nat} {J : GS} {n fl : Nat} {cu : Nat → Nat} {nc : Nat} {rf uf ue : Int} (h : sC H nh J n fl cu nc rf uf ue) (rf' uf' ue' : Int) (h1 : rf' = 0 ∨ rf' = 1) (h2 : uf' = 0 ∨ uf' = 1) (h3 : 0 ≤ ue' ∧ ue' ≤ 6) : sC H nh J n fl cu nc rf' uf' ue' := by
  obtain ⟨s1, s2, s3, s4, s5, s6, s7, -⟩ := h
  exact ⟨s1, s2, s3, s4, s5, s6, s7, h1, h2, h3⟩
theorem endV_6 {H : HT} {nh : Nat} {J : GS} {n fl : Nat} {cu : Nat → Nat} {nc : Nat} {rf uf ue : Int} {N : TT} {g t : Nat} {lf : Bool} (hS : sC H nh J n fl cu nc rf uf ue) (hV : TV H nh N) (hg : (g : Int) < N 6 1 1) (hf : ¬ fitQ (H (hxi N g) 0) (N g) t lf) : 0 ≤ endV (N g) lf ∧ endV (N g) lf ≤ 6 := by
  obtain ⟨a1, a2, a3⟩ := hV.2 g hg
  have h6 := hV.1
  have hP := hS.1.2 (hxi N g) (by unfold hxi; omega)
  have h7 := hP.1
  have t5 := a2.2.2.2.2.2.2.1
  have hl : N g 7 1 ≠ 0 := fun q => hf (Or.inl q)
  have v := a2.1.2.1
  unfold endV
  split
  · have := t5 (by omega) 0 (by omega)
    omega
  · have := t5 (by omega) (N g 7 1).toNat (by omega)
    omega
theorem hOK_mk {p pl ti dr ru : Nat} (e : (2 ≤ (p : Int) ∧ (p : Int) ≤ 6) ∧ (2 ≤ (pl : Int) ∧ (pl : Int) ≤ 4) ∧ (1 ≤ (ti : Int) ∧ (ti : Int) ≤ 7) ∧ ((ru : Int) = 108 ∨ (ru : Int) = 115 ∨ (ru : Int) = 110) ∧ (pl : Int) * (ti : Int) ≤ (szN (p : Int).toNat : Int)) (hd : dr ≤ 1) : hOK (mkP p pl ti dr ru) := by
  obtain ⟨x1, x2, x3, x4, x5⟩ := e
  rw [Int.toNat_natCast, ← Int.natCast_mul] at x5
  have x6 : pl * ti ≤ szN p := Int.ofNat_le.mp x5
  show (2 ≤ p ∧ p ≤ 6) ∧ (2 ≤ pl ∧ pl ≤ 4) ∧ (1 ≤ ti ∧ ti ≤ 7) ∧ pl * ti ≤ szN p ∧ dr ≤ 1 ∧ (ru = 108 ∨ ru = 115 ∨ ru = 110)
  exact ⟨by omega, by omega, by omega, x6, hd, by omega⟩
theorem zint (a : Int32) : ∃ u : Int, a = z u ∧ (-2147483648 ≤ u ∧ u ≤ 2147483647) := ⟨a.toInt, (z_back a).symm, by have := Int32.le_toInt a; omega, by have := Int32.toInt_lt a; omega⟩
theorem upL0 (f : Nat → Int64) (l : Int64) : vp_updL f 0 l 0 = l := by unfold vp_updL; rw [if_pos rfl]
theorem At_cnt {H : HT} {nh : Nat} {J : GS} (hH : hsOK H nh) : ∀ n : Nat, vJ H nh J n → At H J n 6 1 0 = (n : Int) := by
  intro n
  induction n with
  | zero => intro _; rfl
  | succ n ih =>
    intro hJ
    obtain ⟨a1, a2⟩ := At_v hH n (vJ_le hJ (by omega))
    rw [show At H J (n + 1) = pStep H (At H J n) (J n) from rfl, (pStep_6 a1 (hJ n (by omega))).1, ih (vJ_le hJ (by omega))]
    omega
theorem op_216 {a1 : Int32} (jj : JS E x h sz) : Ans E x 216 156 [.int a1] tI rI h sz := by
  obtain ⟨H, nh, J, n, fl, cu, nc, rf, uf, ue, N, M, f, gd, j⟩ := jj
  obtain ⟨hC, hS, hR, -, ho, -⟩ := id j
  obtain ⟨ha, ea, ca, aa1, aa2, aa3, A, C, hCx⟩ := id hC
  have q0 := (isC_z hC).2.2
  obtain ⟨hV, -⟩ := cNV hS q0
  have hM := cNM hS q0
  have hH := hS.1
  obtain ⟨hX, hL, hT, hkk, hxz⟩ := cx hCx
  obtain ⟨u1, rfl, r1⟩ := zint a1
  by_cases hgn : u1 < 0 ∨ N 6 1 1 ≤ u1
  · exact ansR j (c := 1) (by decide) (wt_216_1 (d := 0) hX (sp_85n (d := 0) hX hT hV r1 hgn)) (by decide) (by decide) (fun k s2 => m_156n (d := 0) hV hR r1 hgn) ⟨_, rfl⟩
  · obtain ⟨g, rfl, hg⟩ : ∃ g : Nat, u1 = (g : Int) ∧ (g : Int) < N 6 1 1 := ⟨u1.toNat, by omega, by omega⟩
    by_cases hw : N g 7 6 = -2
    · exact ansQ j (wy_216 (d := 0) hX (sp_85y (d := 0) hX hT hV hg hw) ho) (by decide) (by decide) (fun k s2 => m_156y (d := 0) hS hV hR hg hw) ⟨_, rfl⟩ ⟨_, rfl, rfl⟩
    · exact ansR j (c := 2) (by decide) (wt_216_2 (d := 0) hX (sp_85o (d := 0) hX hT hV hH hg hw)) (by decide) (by decide) (fun k s2 => m_156e (d := 0) hS hV hR hg hw) ⟨_, rfl⟩
theorem op_217 {a1 a2 : Int32} (jj : JS E x h sz) : Ans E x 217 157 [.int a1, .int a2] tL rL h sz := by
  obtain ⟨H, nh, J, n, fl, cu, nc, rf, uf, ue, N, M, f, gd, j⟩ := jj
  obtain ⟨hC, hS, hR, -, ho, -⟩ := id j
  obtain ⟨ha, ea, ca, aa1, aa2, aa3, A, C, hCx⟩ := id hC
  have q0 := (isC_z hC).2.2
  obtain ⟨hV, -⟩ := cNV hS q0
  have hM := cNM hS q0
  have hH := hS.1
  obtain ⟨hX, hL, hT, hkk, hxz⟩ := cx hCx
  obtain ⟨u1, rfl, r1⟩ := zint a1
  obtain ⟨u2, rfl, r2⟩ := zint a2
  by_cases hgn : u1 < 0 ∨ N 6 1 1 ≤ u1
  · exact ansR j (c := 1) (by decide) (wt_217_1 (d := 0) hX (sp_86n (d := 0) hX hT hV r1 hgn)) (by decide) (by decide) (fun k s2 => m_157n (d := 0) hV hR r1 hgn) ⟨_, rfl⟩
  · obtain ⟨g, rfl, hg⟩ : ∃ g : Nat, u1 = (g : Int) ∧ (g : Int) < N 6 1 1 := ⟨u1.toNat, by omega, by omega⟩
    by_cases hp : u2 < 0 ∨ (H (hxi N g) 1 : Int) ≤ u2
    · exact ansR j (c := 1) (by decide) (wt_217_1 (d := 0) hX (sp_86p (d := 0) hX hT hV hH hkk hg r2 hp)) (by decide) (by decide) (fun k s2 => m_157e (d := 0) hS hV hR hg r2 hp) ⟨_, rfl⟩
    · obtain ⟨p, rfl, hp2⟩ : ∃ p : Nat, u2 = (p : Int) ∧ p < H (hxi N g) 1 := ⟨u2.toNat, by omega, by omega⟩
      exact ansQ j (wy_217 (d := 0) hX (sp_86y (d := 0) hX hT hV hH hkk hg hp2) ho) (by decide) (by decide) (fun k s2 => m_157y (d := 0) hS hV hR hg hp2) ⟨_, rfl⟩ rfl
theorem op_218 {a1 : Int32} (jj : JS E x h sz) : Ans E x 218 158 [.int a1] tI rI h sz := by
  obtain ⟨H, nh, J, n, fl, cu, nc, rf, uf, ue, N, M, f, gd, j⟩ := jj
  obtain ⟨hC, hS, hR, -, ho, -⟩ := id j
  obtain ⟨ha, ea, ca, aa1, aa2, aa3, A, C, hCx⟩ := id hC
  have q0 := (isC_z hC).2.2
  obtain ⟨hV, -⟩ := cNV hS q0
  have hM := cNM hS q0
  have hH := hS.1
  obtain ⟨hX, hL, hT, hkk, hxz⟩ := cx hCx
  obtain ⟨u1, rfl, r1⟩ := zint a1
  by_cases hgn : u1 < 0 ∨ N 6 1 1 ≤ u1
  · exact ansR j (c := 1) (by decide) (wt_218_1 (d := 0) hX (sp_87n (d := 0) hX hT hV r1 hgn)) (by decide) (by decide) (fun k s2 => m_158n (d := 0) hV hR r1 hgn) ⟨_, rfl⟩
  · obtain ⟨g, rfl, hg⟩ : ∃ g : Nat, u1 = (g : Int) ∧ (g : Int) < N 6 1 1 := ⟨u1.toNat, by omega, by omega⟩
    exact ansQ j (wy_218 (d := 0) hX (sp_87y (d := 0) hX hT hV hH hkk hg) ho) (by decide) (by decide) (fun k s2 => m_158y (d := 0) hS hV hR hg) ⟨_, rfl⟩ ⟨_, rfl, rfl⟩
theorem op_219 {a1 : Int32} {b1 : Int} (hb1 : b1 = 0 ∨ b1 = 1) (jj : JS E x h sz) : Ans E x 219 159 [.int a1, .int (z b1)] tI rI h sz := by
  obtain ⟨H, nh, J, n, fl, cu, nc, rf, uf, ue, N, M, f, gd, j⟩ := jj
  obtain ⟨hC, hS, hR, -, ho, -⟩ := id j
  obtain ⟨ha, ea, ca, aa1, aa2, aa3, A, C, hCx⟩ := id hC
  have q0 := (isC_z hC).2.2
  obtain ⟨hV, -⟩ := cNV hS q0
  have hM := cNM hS q0
  have hH := hS.1
  obtain ⟨hX, hL, hT, hkk, hxz⟩ := cx hCx
  obtain ⟨u1, rfl, r1⟩ := zint a1
  by_cases hgn : u1 < 0 ∨ N 6 1 1 ≤ u1
  · exact ansR j (c := 1) (by decide) (wt_219_1 (d := 0) hX (sp_88n (d := 0) hX hT hV r1 hgn)) (by decide) (by decide) (fun k s2 => m_159n (d := 0) hV hR r1 hgn) ⟨_, rfl⟩
  · obtain ⟨g, rfl, hg⟩ : ∃ g : Nat, u1 = (g : Int) ∧ (g : Int) < N 6 1 1 := ⟨u1.toNat, by omega, by omega⟩
    by_cases hl : N g 7 1 = 0
    · exact ansR j (c := 2) (by decide) (wt_219_2 (d := 0) hX (sp_88e (d := 0) hX hT hV hH hkk hg hl)) (by decide) (by decide) (fun k s2 => m_159e (d := 0) hS hV hR hg hl) ⟨_, rfl⟩
    · exact ansQ j (wy_219 (d := 0) hX (sp_88y (d := 0) hX hT hV hH hkk hg hb1 hl) ho) (by decide) (by decide) (fun k s2 => m_159y (d := 0) hS hV hR hg hb1 hl) ⟨_, rfl⟩ ⟨_, rfl, rfl⟩
theorem op_220 {a1 : Int32} (jj : JS E x h sz) : Ans E x 220 160 [.int a1] tI rI h sz := by
  obtain ⟨H, nh, J, n, fl, cu, nc, rf, uf, ue, N, M, f, gd, j⟩ := jj
  obtain ⟨hC, hS, hR, -, ho, -⟩ := id j
  obtain ⟨ha, ea, ca, aa1, aa2, aa3, A, C, hCx⟩ := id hC
  have q0 := (isC_z hC).2.2
  obtain ⟨hV, -⟩ := cNV hS q0
  have hM := cNM hS q0
  have hH := hS.1
  obtain ⟨hX, hL, hT, hkk, hxz⟩ := cx hCx
  obtain ⟨u1, rfl, r1⟩ := zint a1
  by_cases hgn : u1 < 0 ∨ N 6 1 1 ≤ u1
  · exact ansR j (c := 1) (by decide) (wt_220_1 (d := 0) hX (sp_89n (d := 0) hX hT hV r1 hgn)) (by decide) (by decide) (fun k s2 => m_160n (d := 0) hV hR r1 hgn) ⟨_, rfl⟩
  · obtain ⟨g, rfl, hg⟩ : ∃ g : Nat, u1 = (g : Int) ∧ (g : Int) < N 6 1 1 := ⟨u1.toNat, by omega, by omega⟩
    have e5 : N g 7 1 * 5 = 5 * N g 7 1 := Int.mul_comm _ _
    have s := sp_89y (E := E) (sz := sz) (d := 0) hX hT hV hH hkk hg
    rw [e5] at s
    exact ansQ j (wy_220 (d := 0) hX (s) ho) (by decide) (by decide) (fun k s2 => m_160y (d := 0) hS hV hR hg) ⟨_, rfl⟩ ⟨_, rfl, rfl⟩
theorem op_221 {a1 a2 : Int32} {b1 : Int} (hb1 : b1 = 0 ∨ b1 = 1) (jj : JS E x h sz) : Ans E x 221 161 [.int a1, .int a2, .int (z b1)] tI rI h sz := by
  obtain ⟨H, nh, J, n, fl, cu, nc, rf, uf, ue, N, M, f, gd, j⟩ := jj
  obtain ⟨hC, hS, hR, -, ho, -⟩ := id j
  obtain ⟨ha, ea, ca, aa1, aa2, aa3, A, C, hCx⟩ := id hC
  have q0 := (isC_z hC).2.2
  obtain ⟨hV, -⟩ := cNV hS q0
  have hM := cNM hS q0
  have hH := hS.1
  obtain ⟨hX, hL, hT, hkk, hxz⟩ := cx hCx
  obtain ⟨u1, rfl, r1⟩ := zint a1
  obtain ⟨u2, rfl, r2⟩ := zint a2
  by_cases hgn : u1 < 0 ∨ N 6 1 1 ≤ u1
  · exact ansR j (c := 1) (by decide) (wt_221_1 (d := 0) hX (sp_90n (d := 0) hX hT hV r1 hgn)) (by decide) (by decide) (fun k s2 => m_161n (d := 0) hV hR r1 hgn) ⟨_, rfl⟩
  · obtain ⟨g, rfl, hg⟩ : ∃ g : Nat, u1 = (g : Int) ∧ (g : Int) < N 6 1 1 := ⟨u1.toNat, by omega, by omega⟩
    by_cases hp : u2 < 0 ∨ 5 * N g 7 1 ≤ u2
    · exact ansR j (c := 2) (by decide) (wt_221_2 (d := 0) hX (sp_90e (d := 0) hX hT hV hH hkk hg r2 hp)) (by decide) (by decide) (fun k s2 => m_161e (d := 0) hS hV hR hg r2 hp) ⟨_, rfl⟩
    · rcases hb1 with rfl | rfl
      · exact ansQ j (wy_221 (d := 0) hX (sp_90y (d := 0) hX hT hV hH hkk hg (Or.inl rfl) (by omega)) ho) (by decide) (by decide) (fun k s2 => m_161_0 (d := 0) hS hV hR hg (by omega)) ⟨_, rfl⟩ ⟨_, rfl, rfl⟩
      · exact ansQ j (wy_221 (d := 0) hX (sp_90y (d := 0) hX hT hV hH hkk hg (Or.inr rfl) (by omega)) ho) (by decide) (by decide) (fun k s2 => m_161_1 (d := 0) hS hV hR hg (by omega)) ⟨_, rfl⟩ ⟨_, rfl, rfl⟩
theorem op_222 {a1 : Int32} (jj : JS E x h sz) : Ans E x 222 162 [.int a1] tI rZ h sz := by
  obtain ⟨H, nh, J, n, fl, cu, nc, rf, uf, ue, N, M, f, gd, j⟩ := jj
  obtain ⟨hC, hS, hR, -, ho, -⟩ := id j
  obtain ⟨ha, ea, ca, aa1, aa2, aa3, A, C, hCx⟩ := id hC
  have q0 := (isC_z hC).2.2
  obtain ⟨hV, -⟩ := cNV hS q0
  have hM := cNM hS q0
  have hH := hS.1
  obtain ⟨hX, hL, hT, hkk, hxz⟩ := cx hCx
  obtain ⟨u1, rfl, r1⟩ := zint a1
  by_cases hgn : u1 < 0 ∨ N 6 1 1 ≤ u1
  · exact ansR j (c := 1) (by decide) (wt_222_1 (d := 0) hX (sp_91n (d := 0) hX hT hV r1 hgn)) (by decide) (by decide) (fun k s2 => m_162n (d := 0) hV hR r1 hgn) ⟨_, rfl⟩
  · obtain ⟨g, rfl, hg⟩ : ∃ g : Nat, u1 = (g : Int) ∧ (g : Int) < N 6 1 1 := ⟨u1.toNat, by omega, by omega⟩
    have hb : (if N g 7 6 = -2 then 0 else 1 : Int) = 0 ∨ (if N g 7 6 = -2 then 0 else 1 : Int) = 1 := by split <;> simp
    exact ansQ j (wy_222 (d := 0) hb hX (sp_91y (d := 0) hX hT hV hH hkk hg) ho) (by decide) (by decide) (fun k s2 => m_162y (d := 0) hS hV hR hg) ⟨_, rfl⟩ ⟨_, hb, rfl, rfl⟩
theorem op_223 {a1 : Int32} (jj : JS E x h sz) : Ans E x 223 163 [.int a1] tI rZ h sz := by
  obtain ⟨H, nh, J, n, fl, cu, nc, rf, uf, ue, N, M, f, gd, j⟩ := jj
  obtain ⟨hC, hS, hR, -, ho, -⟩ := id j
  obtain ⟨ha, ea, ca, aa1, aa2, aa3, A, C, hCx⟩ := id hC
  have q0 := (isC_z hC).2.2
  obtain ⟨hV, -⟩ := cNV hS q0
  have hM := cNM hS q0
  have hH := hS.1
  obtain ⟨hX, hL, hT, hkk, hxz⟩ := cx hCx
  obtain ⟨u1, rfl, r1⟩ := zint a1
  by_cases hgn : u1 < 0 ∨ N 6 1 1 ≤ u1
  · exact ansR j (c := 1) (by decide) (wt_223_1 (d := 0) hX (sp_92n (d := 0) hX hT hV r1 hgn)) (by decide) (by decide) (fun k s2 => m_163n (d := 0) hV hR r1 hgn) ⟨_, rfl⟩
  · obtain ⟨g, rfl, hg⟩ : ∃ g : Nat, u1 = (g : Int) ∧ (g : Int) < N 6 1 1 := ⟨u1.toNat, by omega, by omega⟩
    have hb : N g 7 5 = 0 ∨ N g 7 5 = 1 := (hV.2 g hg).2.1.1.2.2.2.2.2.1
    exact ansQ j (wy_223 (d := 0) hb hX (sp_92y (d := 0) hX hT hV hH hkk hg) ho) (by decide) (by decide) (fun k s2 => m_163y (d := 0) hS hV hR hg) ⟨_, rfl⟩ ⟨_, hb, rfl, rfl⟩
theorem op_224 {a1 : Int32} (jj : JS E x h sz) : Ans E x 224 164 [.int a1] tI rI h sz := by
  obtain ⟨H, nh, J, n, fl, cu, nc, rf, uf, ue, N, M, f, gd, j⟩ := jj
  obtain ⟨hC, hS, hR, -, ho, -⟩ := id j
  obtain ⟨ha, ea, ca, aa1, aa2, aa3, A, C, hCx⟩ := id hC
  have q0 := (isC_z hC).2.2
  obtain ⟨hV, -⟩ := cNV hS q0
  have hM := cNM hS q0
  have hH := hS.1
  obtain ⟨hX, hL, hT, hkk, hxz⟩ := cx hCx
  obtain ⟨u1, rfl, r1⟩ := zint a1
  by_cases hgn : u1 < 0 ∨ N 6 1 1 ≤ u1
  · exact ansR j (c := 1) (by decide) (wt_224_1 (d := 0) hX (sp_93n (d := 0) hX hT hV r1 hgn)) (by decide) (by decide) (fun k s2 => m_164n (d := 0) hV hR r1 hgn) ⟨_, rfl⟩
  · obtain ⟨g, rfl, hg⟩ : ∃ g : Nat, u1 = (g : Int) ∧ (g : Int) < N 6 1 1 := ⟨u1.toNat, by omega, by omega⟩
    by_cases hw : N g 7 6 = -2
    · exact ansR j (c := 2) (by decide) (wt_224_2 (d := 0) hX (sp_93e (d := 0) hX hT hV hH hkk hg hw)) (by decide) (by decide) (fun k s2 => m_164e (d := 0) hS hV hR hg hw) ⟨_, rfl⟩
    · exact ansQ j (wy_224 (d := 0) hX (sp_93y (d := 0) hX hT hV hH hkk hg hw) ho) (by decide) (by decide) (fun k s2 => m_164y (d := 0) hS hV hR hg hw) ⟨_, rfl⟩ ⟨_, rfl, rfl⟩
theorem op_225 {a1 : Int32} (jj : JS E x h sz) : Ans E x 225 165 [.int a1] tI rI h sz := by
  obtain ⟨H, nh, J, n, fl, cu, nc, rf, uf, ue, N, M, f, gd, j⟩ := jj
  obtain ⟨hC, hS, hR, -, ho, -⟩ := id j
  obtain ⟨ha, ea, ca, aa1, aa2, aa3, A, C, hCx⟩ := id hC
  have q0 := (isC_z hC).2.2
  obtain ⟨hV, -⟩ := cNV hS q0
  have hM := cNM hS q0
  have hH := hS.1
  obtain ⟨hX, hL, hT, hkk, hxz⟩ := cx hCx
  obtain ⟨u1, rfl, r1⟩ := zint a1
  obtain ⟨y1, y2, y3⟩ := hS.2.2.2.2.2.2.2
  by_cases hk : rf = 1 ∧ (u1 = 0 ∨ (uf = 1 ∧ u1 = 1))
  · exact ansQ j (wy_225 (d := 0) hX (sp_94y (d := 0) hX y1 y2 y3 r1 hk) ho) (by decide) (by decide) (fun k s2 => m_165y (d := 0) hS hR r1 hk) ⟨_, rfl⟩ ⟨_, rfl, rfl⟩
  · exact ansR j (c := 1) (by decide) (wt_225_1 (d := 0) hX (sp_94e (d := 0) hX y1 y2 y3 r1 hk)) (by decide) (by decide) (fun k s2 => m_165e (d := 0) hS hR r1 hk) ⟨_, rfl⟩
theorem op_227 {a1 : Int32} (jj : JS E x h sz) : Ans E x 227 168 [.int a1] tI rI h sz := by
  obtain ⟨H, nh, J, n, fl, cu, nc, rf, uf, ue, N, M, f, gd, j⟩ := jj
  obtain ⟨hC, hS, hR, -, ho, -⟩ := id j
  obtain ⟨ha, ea, ca, aa1, aa2, aa3, A, C, hCx⟩ := id hC
  have q0 := (isC_z hC).2.2
  obtain ⟨hV, -⟩ := cNV hS q0
  have hM := cNM hS q0
  have hH := hS.1
  obtain ⟨hX, hL, hT, hkk, hxz⟩ := cx hCx
  obtain ⟨u1, rfl, r1⟩ := zint a1
  by_cases hb : u1 < 0 ∨ 4 ≤ u1
  · exact ansR j (c := 1) (by decide) (wt_227_1 (d := 0) hX (sp_96e (d := 0) hX r1 hb)) (by decide) (by decide) (fun k s2 => m_168e (d := 0) r1 hb) ⟨_, rfl⟩
  · obtain ⟨b, rfl, hb2⟩ : ∃ b : Nat, u1 = (b : Int) ∧ b < 4 := ⟨u1.toNat, by omega, by omega⟩
    exact ansQ j (wy_227 (d := 0) hX (sp_96y (d := 0) hX hT hb2) ho) (by decide) (by decide) (fun k s2 => m_168y (d := 0) hR hb2) ⟨_, rfl⟩ ⟨_, rfl, rfl⟩
theorem op_228 {a1 : Int32} (jj : JS E x h sz) : Ans E x 228 169 [.int a1] tI rI h sz := by
  obtain ⟨H, nh, J, n, fl, cu, nc, rf, uf, ue, N, M, f, gd, j⟩ := jj
  obtain ⟨hC, hS, hR, -, ho, -⟩ := id j
  obtain ⟨ha, ea, ca, aa1, aa2, aa3, A, C, hCx⟩ := id hC
  have q0 := (isC_z hC).2.2
  obtain ⟨hV, -⟩ := cNV hS q0
  have hM := cNM hS q0
  have hH := hS.1
  obtain ⟨hX, hL, hT, hkk, hxz⟩ := cx hCx
  obtain ⟨u1, rfl, r1⟩ := zint a1
  by_cases hgn : u1 < 0 ∨ N 6 1 1 ≤ u1
  · exact ansR j (c := 1) (by decide) (wt_228_1 (d := 0) hX (sp_97n (d := 0) hX hT hV r1 hgn)) (by decide) (by decide) (fun k s2 => m_169n (d := 0) hV hR r1 hgn) ⟨_, rfl⟩
  · obtain ⟨g, rfl, hg⟩ : ∃ g : Nat, u1 = (g : Int) ∧ (g : Int) < N 6 1 1 := ⟨u1.toNat, by omega, by omega⟩
    exact ansQ j (wy_228 (d := 0) hX (sp_97y (d := 0) hX hT hV hH hkk hg) ho) (by decide) (by decide) (fun k s2 => m_169y (d := 0) hS hV hR hg) ⟨_, rfl⟩ ⟨_, rfl, rfl⟩
theorem op_229 {a1 a2 : Int32} (jj : JS E x h sz) : Ans E x 229 170 [.int a1, .int a2] tI rI h sz := by
  obtain ⟨H, nh, J, n, fl, cu, nc, rf, uf, ue, N, M, f, gd, j⟩ := jj
  obtain ⟨hC, hS, hR, -, ho, -⟩ := id j
  obtain ⟨ha, ea, ca, aa1, aa2, aa3, A, C, hCx⟩ := id hC
  have q0 := (isC_z hC).2.2
  obtain ⟨hV, -⟩ := cNV hS q0
  have hM := cNM hS q0
  have hH := hS.1
  obtain ⟨hX, hL, hT, hkk, hxz⟩ := cx hCx
  obtain ⟨u1, rfl, r1⟩ := zint a1
  obtain ⟨u2, rfl, r2⟩ := zint a2
  by_cases hgn : u1 < 0 ∨ N 6 1 1 ≤ u1
  · exact ansR j (c := 1) (by decide) (wt_229_1 (d := 0) hX (sp_98n (d := 0) hX hT hV r1 hgn)) (by decide) (by decide) (fun k s2 => m_170n (d := 0) hV hR r1 hgn) ⟨_, rfl⟩
  · obtain ⟨g, rfl, hg⟩ : ∃ g : Nat, u1 = (g : Int) ∧ (g : Int) < N 6 1 1 := ⟨u1.toNat, by omega, by omega⟩
    by_cases hp : u2 < 0 ∨ N g 7 9 ≤ u2
    · exact ansR j (c := 1) (by decide) (wt_229_1 (d := 0) hX (sp_98e (d := 0) hX hT hV hH hkk hg r2 hp)) (by decide) (by decide) (fun k s2 => m_170e (d := 0) hS hV hR hg r2 hp) ⟨_, rfl⟩
    · obtain ⟨p, rfl, hp2⟩ : ∃ p : Nat, u2 = (p : Int) ∧ (p : Int) < N g 7 9 := ⟨u2.toNat, by omega, by omega⟩
      exact ansQ j (wy_229 (d := 0) hX (sp_98y (d := 0) hX hT hV hH hkk hg hp2) ho) (by decide) (by decide) (fun k s2 => m_170y (d := 0) hS hV hR hg hp2) ⟨_, rfl⟩ ⟨_, rfl, rfl⟩
theorem op_231 {a1 : Int32} (jj : JS E x h sz) : Ans E x 231 174 [.int a1] tI rI h sz := by
  obtain ⟨H, nh, J, n, fl, cu, nc, rf, uf, ue, N, M, f, gd, j⟩ := jj
  obtain ⟨hC, hS, hR, -, ho, -⟩ := id j
  obtain ⟨ha, ea, ca, aa1, aa2, aa3, A, C, hCx⟩ := id hC
  have q0 := (isC_z hC).2.2
  obtain ⟨hV, -⟩ := cNV hS q0
  have hM := cNM hS q0
  have hH := hS.1
  obtain ⟨hX, hL, hT, hkk, hxz⟩ := cx hCx
  obtain ⟨u1, rfl, r1⟩ := zint a1
  by_cases hgn : u1 < 0 ∨ N 6 1 1 ≤ u1
  · exact ansR j (c := 1) (by decide) (wt_231_1 (d := 0) hX (sp_101n (d := 0) hX hT hV r1 hgn)) (by decide) (by decide) (fun k s2 => m_174n (d := 0) hV hR r1 hgn) ⟨_, rfl⟩
  · obtain ⟨g, rfl, hg⟩ : ∃ g : Nat, u1 = (g : Int) ∧ (g : Int) < N 6 1 1 := ⟨u1.toNat, by omega, by omega⟩
    exact ansQ j (wy_231 (d := 0) hX (sp_101y (d := 0) hX hT hV hH hkk hg) ho) (by decide) (by decide) (fun k s2 => m_174y (d := 0) hS hV hR hg) ⟨_, rfl⟩ ⟨_, rfl, rfl⟩
theorem op_232 {a1 : Int32} (jj : JS E x h sz) : Ans E x 232 178 [.int a1] tI rI h sz := by
  obtain ⟨H, nh, J, n, fl, cu, nc, rf, uf, ue, N, M, f, gd, j⟩ := jj
  obtain ⟨hC, hS, hR, -, ho, -⟩ := id j
  obtain ⟨ha, ea, ca, aa1, aa2, aa3, A, C, hCx⟩ := id hC
  have q0 := (isC_z hC).2.2
  obtain ⟨hV, -⟩ := cNV hS q0
  have hM := cNM hS q0
  have hH := hS.1
  obtain ⟨hX, hL, hT, hkk, hxz⟩ := cx hCx
  obtain ⟨u1, rfl, r1⟩ := zint a1
  have hn4 := hS.2.2.1
  by_cases hi : u1 < 0 ∨ (n : Int) ≤ u1
  · exact ansR j (c := 1) (by decide) (wt_232_1 (d := 0) hX (sp_104e (d := 0) hX hL hn4 r1 hi)) (by decide) (by decide) (fun k s2 => m_178e (d := 0) hS hR r1 hi) ⟨_, rfl⟩
  · obtain ⟨i, rfl, hi2⟩ : ∃ i : Nat, u1 = (i : Int) ∧ i < n := ⟨u1.toNat, by omega, by omega⟩
    have hk := vE_k (hS.2.1 i hi2)
    have he := (hCx.2.2.2.2.2.2.1 i hi2).1
    exact ansQ j (wy_232 (d := 0) hX (sp_104y (d := 0) hX hL hi2 hn4 he hk) ho) (by decide) (by decide) (fun k s2 => m_178y (d := 0) hS hR hi2 (by omega)) ⟨_, rfl⟩ ⟨_, rfl, rfl⟩
theorem op_233 {a1 : Int32} (jj : JS E x h sz) : Ans E x 233 179 [.int a1] tI rI h sz := by
  obtain ⟨H, nh, J, n, fl, cu, nc, rf, uf, ue, N, M, f, gd, j⟩ := jj
  obtain ⟨hC, hS, hR, -, ho, -⟩ := id j
  obtain ⟨ha, ea, ca, aa1, aa2, aa3, A, C, hCx⟩ := id hC
  have q0 := (isC_z hC).2.2
  obtain ⟨hV, -⟩ := cNV hS q0
  have hM := cNM hS q0
  have hH := hS.1
  obtain ⟨hX, hL, hT, hkk, hxz⟩ := cx hCx
  obtain ⟨u1, rfl, r1⟩ := zint a1
  have hn4 := hS.2.2.1
  by_cases hi : u1 < 0 ∨ (n : Int) ≤ u1
  · exact ansR j (c := 1) (by decide) (wt_233_1 (d := 0) hX (sp_105e (d := 0) hX hL hn4 r1 hi)) (by decide) (by decide) (fun k s2 => m_179e (d := 0) hS hR r1 hi) ⟨_, rfl⟩
  · obtain ⟨i, rfl, hi2⟩ : ∃ i : Nat, u1 = (i : Int) ∧ i < n := ⟨u1.toNat, by omega, by omega⟩
    have hk := vE_k (hS.2.1 i hi2)
    have he := (hCx.2.2.2.2.2.2.1 i hi2).1
    exact ansQ j (wy_233 (d := 0) hX (sp_105y (d := 0) hX hL hi2 hn4 he hk) ho) (by decide) (by decide) (fun k s2 => m_179y (d := 0) hS hR hi2) ⟨_, rfl⟩ ⟨_, rfl, rfl⟩
theorem op_235 {a1 : Int32} (jj : JS E x h sz) : Ans E x 235 184 [.int a1] tI rI h sz := by
  obtain ⟨H, nh, J, n, fl, cu, nc, rf, uf, ue, N, M, f, gd, j⟩ := jj
  obtain ⟨hC, hS, hR, -, ho, -⟩ := id j
  obtain ⟨ha, ea, ca, aa1, aa2, aa3, A, C, hCx⟩ := id hC
  have q0 := (isC_z hC).2.2
  obtain ⟨hV, -⟩ := cNV hS q0
  have hM := cNM hS q0
  have hH := hS.1
  obtain ⟨hX, hL, hT, hkk, hxz⟩ := cx hCx
  obtain ⟨u1, rfl, r1⟩ := zint a1
  have hn4 := hS.2.2.2.2.1
  have hL3 := hCx.2.2.2.1
  by_cases hi : u1 < 0 ∨ (nc : Int) ≤ u1
  · exact ansR j (c := 1) (by decide) (wt_235_1 (d := 0) hX (sp_109e (d := 0) hX hL3 hn4 r1 hi)) (by decide) (by decide) (fun k s2 => m_184e (d := 0) hS hR r1 hi) ⟨_, rfl⟩
  · obtain ⟨i, rfl, hi2⟩ : ∃ i : Nat, u1 = (i : Int) ∧ i < nc := ⟨u1.toNat, by omega, by omega⟩
    obtain ⟨c1, c2, -⟩ := hCx.2.2.2.2.2.2.2.1 i hi2
    have e1 : C i 6 1 0 = (cu i : Int) := by
      have := c2.1 0 (by decide)
      rw [At_cnt hS.1 (cu i) (vJ_le hS.2.1 (by have := hS.2.2.2.2.2.1 i hi2; have := hS.2.2.2.1; omega))] at this
      exact this
    have s := sp_109y (E := E) (d := 0) (sz := sz) hX hL hL3 hi2 hn4 c1
    rw [e1] at s
    exact ansQ j (wy_235 (d := 0) hX (s) ho) (by decide) (by decide) (fun k s2 => m_184y (d := 0) hS hR hi2) ⟨_, rfl⟩ ⟨_, rfl, rfl⟩
theorem op_236 {a1 : Int32} (jj : JS E x h sz) : Ans E x 236 185 [.int a1] tL rL h sz := by
  obtain ⟨H, nh, J, n, fl, cu, nc, rf, uf, ue, N, M, f, gd, j⟩ := jj
  obtain ⟨hC, hS, hR, -, ho, -⟩ := id j
  obtain ⟨ha, ea, ca, aa1, aa2, aa3, A, C, hCx⟩ := id hC
  have q0 := (isC_z hC).2.2
  obtain ⟨hV, -⟩ := cNV hS q0
  have hM := cNM hS q0
  have hH := hS.1
  obtain ⟨hX, hL, hT, hkk, hxz⟩ := cx hCx
  obtain ⟨u1, rfl, r1⟩ := zint a1
  by_cases hi : u1 < -1 ∨ (nc : Int) ≤ u1
  · exact ansR j (c := 1) (by decide) (wt_236_1 (d := 0) hX (sp_110e (d := 0) hS hC r1 hi)) (by decide) (by decide) (fun k s2 => m_185e (d := 0) hS hR r1 hi) ⟨_, rfl⟩
  · obtain ⟨h', s, c1, fr⟩ := sp_110y (E := E) (d := 0) hS hC (k := u1) (by omega)
    obtain ⟨-, k2, -⟩ := JX_fr j fr
    refine ans j fr c1 hS (c := 0) (by decide) (wy_236 (d := 0) hX s k2) (by decide) (by decide) (fun k s2 => ⟨_, m_185y (d := 0) hS q0 hR (by omega), rC_th 0 hR, th_0 0⟩) ⟨_, rfl⟩ (fun _ => ?_)
    rw [upL0]
    rfl
end OPSA
