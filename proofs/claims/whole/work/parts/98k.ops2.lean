/-! ===== the law, a call: entered ===== -/
section OPSB
variable {E : EX} {h : AH} {sz x : Nat}
theorem op_214 {a1 : Int32} (jj : JS E x h sz) : Ans E x 214 153 [.int a1] tI rI h sz := by
  obtain ⟨H, nh, J, n, fl, cu, nc, rf, uf, ue, N, M, f, gd, j⟩ := jj
  obtain ⟨hC, hS, hR, -, ho, -⟩ := id j
  obtain ⟨ha, ea, ca, aa1, aa2, aa3, A, C, hCx⟩ := id hC
  have q0 := (isC_z hC).2.2
  obtain ⟨hV, -⟩ := cNV hS q0
  have hM := cNM hS q0
  have hH := hS.1
  obtain ⟨hX, hL, hT, hkk, hxz⟩ := cx hCx
  obtain ⟨u1, rfl, r1⟩ := zint a1
  by_cases hgn : u1 < 0 ∨ N 6 1 1 ≤ u1
  · exact ansR j (c := 1) (by decide) (wt_214_1 (d := 0) hX (sp_83n (d := 0) hX hT hV r1 hgn)) (by decide) (by decide) (fun k s2 => m_153n (d := 0) hV hR r1 hgn) ⟨_, rfl⟩
  · obtain ⟨g, rfl, hg⟩ : ∃ g : Nat, u1 = (g : Int) ∧ (g : Int) < N 6 1 1 := ⟨u1.toNat, by omega, by omega⟩
    by_cases hw : N g 7 6 ≠ -2 ∨ n = 400
    · exact ansR j (c := 2) (by decide) (wt_214_2 (d := 0) hX (sp_83o (d := 0) hS hC hg hw)) (by decide) (by decide) (fun k s2 => m_153o (d := 0) hS hV hR hg hw) ⟨_, rfl⟩
    · have hn4 := hS.2.2.1
      have hw' : N g 7 6 = -2 := by omega
      by_cases hc : canL (H (hxi N g)) (N g) ∨ ¬ (H (hxi N g) 3 = 1 ∧ N g 7 0 < (szN (H (hxi N g) 0) : Int))
      · exact ansR j (c := 3) (by decide) (wt_214_3 (d := 0) hX (sp_83u (d := 0) hS hC hg hw' (by omega) hc)) (by decide) (by decide) (fun k s2 => m_153u (d := 0) hS hV hR hg hw' (by omega) hc) ⟨_, rfl⟩
      · rw [not_or, Classical.not_not] at hc
        obtain ⟨h', sz', s, hC1, fr, hle⟩ := sp_83y (E := E) (d := 0) hS hC hg hw' (by omega) hc.1 hc.2
        obtain ⟨-, k2, -⟩ := JX_fr j fr
        refine ans j fr hC1 (sC_e hS q0 (by omega) (Or.inr ⟨⟨show (0 : Int) ≤ g by omega, hg⟩, Or.inr (Or.inl ⟨rfl, hw', hc.2⟩), fun q => absurd (show (100 : Int) = 98 from q) (by decide)⟩)) (c := 0) (by decide) (wy_214 (d := 0) hX s k2) (by decide) (by decide) (fun k s2 => m_153y (d := 0) hS q0 hR hg hw' (by omega) hc.1 hc.2) ⟨_, rfl⟩ (fun _ => ?_)
        rw [upL0]
        exact ⟨_, rfl, rfl⟩
theorem op_215 {a1 : Int32} (jj : JS E x h sz) : Ans E x 215 154 [.int a1] tI rZ h sz := by
  obtain ⟨H, nh, J, n, fl, cu, nc, rf, uf, ue, N, M, f, gd, j⟩ := jj
  obtain ⟨hC, hS, hR, -, ho, -⟩ := id j
  obtain ⟨ha, ea, ca, aa1, aa2, aa3, A, C, hCx⟩ := id hC
  have q0 := (isC_z hC).2.2
  obtain ⟨hV, -⟩ := cNV hS q0
  have hM := cNM hS q0
  have hH := hS.1
  obtain ⟨hX, hL, hT, hkk, hxz⟩ := cx hCx
  obtain ⟨u1, rfl, r1⟩ := zint a1
  by_cases hgn : u1 < 0 ∨ N 6 1 1 ≤ u1
  · exact ansR j (c := 1) (by decide) (wt_215_1 (d := 0) hX (sp_84n (d := 0) hX hT hV r1 hgn)) (by decide) (by decide) (fun k s2 => m_154n (d := 0) hV hR r1 hgn) ⟨_, rfl⟩
  · obtain ⟨g, rfl, hg⟩ : ∃ g : Nat, u1 = (g : Int) ∧ (g : Int) < N 6 1 1 := ⟨u1.toNat, by omega, by omega⟩
    by_cases hw : N g 7 6 ≠ -2 ∨ n = 400
    · exact ansR j (c := 2) (by decide) (wt_215_2 (d := 0) hX (sp_84o (d := 0) hS hC hg hw)) (by decide) (by decide) (fun k s2 => m_154o (d := 0) hS hV hR hg hw) ⟨_, rfl⟩
    · have hn4 := hS.2.2.1
      have hw' : N g 7 6 = -2 := by omega
      by_cases hc : canL (H (hxi N g)) (N g) ∨ (H (hxi N g) 3 = 1 ∧ N g 7 0 < (szN (H (hxi N g) 0) : Int))
      · exact ansR j (c := 3) (by decide) (wt_215_3 (d := 0) hX (sp_84u (d := 0) hS hC hg hw' (by omega) hc)) (by decide) (by decide) (fun k s2 => m_154u (d := 0) hS hV hR hg hw' (by omega) hc) ⟨_, rfl⟩
      · rw [not_or] at hc
        have hb : (if pStep H N (en 112 g 0 0 0) g 7 6 = -2 then 0 else 1 : Int) = 0 ∨ (if pStep H N (en 112 g 0 0 0) g 7 6 = -2 then 0 else 1 : Int) = 1 := by split <;> simp
        obtain ⟨h', sz', s, hC1, fr, hle⟩ := sp_84y (E := E) (d := 0) hS hC hg hw' (by omega) hc.1 hc.2
        obtain ⟨-, k2, -⟩ := JX_fr j fr
        refine ans j fr hC1 (sC_e hS q0 (by omega) (Or.inr ⟨⟨show (0 : Int) ≤ g by omega, hg⟩, Or.inr (Or.inr (Or.inl ⟨rfl, hw'⟩)), fun q => absurd (show (112 : Int) = 98 from q) (by decide)⟩)) (c := 0) (by decide) (wy_215 (d := 0) hb hX s k2) (by decide) (by decide) (fun k s2 => m_154y (d := 0) hS q0 hR hg hw' (by omega) hc.1 hc.2) ⟨_, rfl⟩ (fun _ => ?_)
        rw [upL0]
        exact ⟨_, hb, rfl, rfl⟩
theorem op_213 {a1 a2 : Int32} {b1 : Int} (hb1 : b1 = 0 ∨ b1 = 1) (jj : JS E x h sz) : Ans E x 213 151 [.int a1, .int a2, .int (z b1)] tI rZ h sz := by
  obtain ⟨H, nh, J, n, fl, cu, nc, rf, uf, ue, N, M, f, gd, j⟩ := jj
  obtain ⟨hC, hS, hR, -, ho, -⟩ := id j
  obtain ⟨ha, ea, ca, aa1, aa2, aa3, A, C, hCx⟩ := id hC
  have q0 := (isC_z hC).2.2
  obtain ⟨hV, -⟩ := cNV hS q0
  have hM := cNM hS q0
  have hH := hS.1
  obtain ⟨hX, hL, hT, hkk, hxz⟩ := cx hCx
  obtain ⟨u1, rfl, r1⟩ := zint a1
  obtain ⟨u2, rfl, r2⟩ := zint a2
  by_cases hgn : u1 < 0 ∨ N 6 1 1 ≤ u1
  · exact ansR j (c := 1) (by decide) (wt_213_1 (d := 0) hX (sp_82n (d := 0) hX hT hV r1 hgn)) (by decide) (by decide) (fun k s2 => m_151n (d := 0) hV hR r1 hgn) ⟨_, rfl⟩
  · obtain ⟨g, rfl, hg⟩ : ∃ g : Nat, u1 = (g : Int) ∧ (g : Int) < N 6 1 1 := ⟨u1.toNat, by omega, by omega⟩
    by_cases ht : u2 < 0 ∨ (szN (H (hxi N g) 0) : Int) ≤ u2
    · exact ansR j (c := 2) (by decide) (wt_213_2 (d := 0) hX (sp_82r (d := 0) hS hC hg r2 ht)) (by decide) (by decide) (fun k s2 => m_151r (d := 0) hS hV hR hg r2 ht) ⟨_, rfl⟩
    · obtain ⟨t, rfl, ht2⟩ : ∃ t : Nat, u2 = (t : Int) ∧ t < szN (H (hxi N g) 0) := ⟨u2.toNat, by omega, by omega⟩
      by_cases hw : N g 7 6 ≠ -2 ∨ n = 400
      · exact ansR j (c := 3) (by decide) (wt_213_3 (d := 0) hX (sp_82o (d := 0) hS hC hg ht2 hw)) (by decide) (by decide) (fun k s2 => m_151o (d := 0) hS hV hR hg ht2 hw) ⟨_, rfl⟩
      · have hn4 := hS.2.2.1
        have hw' : N g 7 6 = -2 := by omega
        cases hb : (N g 1 (N g 7 2).toNat).toNat.testBit t with
        | false =>
          obtain ⟨h', s, hC1, fr⟩ := sp_82h (E := E) (d := 0) (b1 := b1) hS hC hg ht2 hw' (by omega) hb
          exact ansT j fr hC1 (sC_r hS 1 0 0 (by decide) (by decide) (by decide)) (c := 4) (by decide) (wt_213_4 (d := 0) hX s) (by decide) (by decide) (fun k s2 => m_151h (d := 0) hS hV hR hg ht2 hw' (by omega) hb) ⟨_, rfl⟩
        | true =>
          by_cases hf : fitQ (H (hxi N g) 0) (N g) t (decide (b1 = 1))
          · have hbb : (if pStep H N (en 116 g t b1 0) g 7 6 = -2 then 0 else 1 : Int) = 0 ∨ (if pStep H N (en 116 g t b1 0) g 7 6 = -2 then 0 else 1 : Int) = 1 := by split <;> simp
            obtain ⟨h', sz', s, hC1, fr, hle⟩ := sp_82y (E := E) (d := 0) hS hC hg ht2 hb1 hw' (by omega) hb hf
            obtain ⟨-, k2, -⟩ := JX_fr j fr
            refine ans j fr hC1 (sC_e hS q0 (by omega) (Or.inr ⟨⟨show (0 : Int) ≤ g by omega, hg⟩, Or.inl ⟨rfl, hw', ⟨show (0 : Int) ≤ t by omega, show (t : Int) < szN (H (hxi N g) 0) by omega⟩, hb, hb1, hf⟩, fun q => absurd (show (116 : Int) = 98 from q) (by decide)⟩)) (c := 0) (by decide) (wy_213 (d := 0) hbb hX s k2) (by decide) (by decide) (fun k s2 => m_151y (d := 0) hS q0 hR hg ht2 hb1 hw' (by omega) hb hf) ⟨_, rfl⟩ (fun _ => ?_)
            rw [upL0]
            exact ⟨_, hbb, rfl, rfl⟩
          · obtain ⟨h', s, hC1, fr⟩ := sp_82f (E := E) (d := 0) hS hC hg ht2 hb1 hw' (by omega) hb hf
            exact ansT j fr hC1 (sC_r hS 1 1 _ (by decide) (by decide) (endV_6 hS hV hg hf)) (c := 4) (by decide) (wt_213_4 (d := 0) hX s) (by decide) (by decide) (fun k s2 => m_151f (d := 0) hS hV hR hg ht2 hb1 hw' (by omega) hb hf) ⟨_, rfl⟩
theorem op_212 {a1 a2 : Int32} (jj : JS E x h sz) : Ans E x 212 147 [.int a1, .int a2] tI rI h sz := by
  obtain ⟨H, nh, J, n, fl, cu, nc, rf, uf, ue, N, M, f, gd, j⟩ := jj
  obtain ⟨hC, hS, hR, -, ho, -⟩ := id j
  obtain ⟨ha, ea, ca, aa1, aa2, aa3, A, C, hCx⟩ := id hC
  have q0 := (isC_z hC).2.2
  obtain ⟨hV, -⟩ := cNV hS q0
  have hM := cNM hS q0
  have hH := hS.1
  obtain ⟨hX, hL, hT, hkk, hxz⟩ := cx hCx
  obtain ⟨u1, rfl, r1⟩ := zint a1
  obtain ⟨u2, rfl, r2⟩ := zint a2
  have hn4 := hS.2.2.1
  have h66 := hV.1
  by_cases e1 : u1 < 0 ∨ (nh : Int) ≤ u1
  · exact ansR j (c := 1) (by decide) (wt_212_1 (d := 0) hX (sp_81e (d := 0) hS hC ⟨r1, r2⟩ (Or.inl ⟨e1, rfl⟩))) (by decide) (by decide) (fun k s2 => m_147e (d := 0) hS q0 hR ⟨r1, r2⟩ (Or.inl ⟨e1, rfl⟩)) ⟨_, rfl⟩
  · by_cases e2 : u2 < 0 ∨ 999999 < u2
    · exact ansR j (c := 2) (by decide) (wt_212_2 (d := 0) hX (sp_81e (d := 0) hS hC ⟨r1, r2⟩ (Or.inr (Or.inl ⟨by omega, e2, rfl⟩)))) (by decide) (by decide) (fun k s2 => m_147e (d := 0) hS q0 hR ⟨r1, r2⟩ (Or.inr (Or.inl ⟨by omega, e2, rfl⟩))) ⟨_, rfl⟩
    · by_cases e3 : N 6 1 1 = 6 ∨ n = 400
      · exact ansR j (c := 3) (by decide) (wt_212_3 (d := 0) hX (sp_81e (d := 0) hS hC ⟨r1, r2⟩ (Or.inr (Or.inr ⟨by omega, by omega, e3, rfl⟩)))) (by decide) (by decide) (fun k s2 => m_147e (d := 0) hS q0 hR ⟨r1, r2⟩ (Or.inr (Or.inr ⟨by omega, by omega, e3, rfl⟩))) ⟨_, rfl⟩
      · obtain ⟨w, rfl, hw⟩ : ∃ w : Nat, u1 = (w : Int) ∧ w < nh := ⟨u1.toNat, by omega, by omega⟩
        obtain ⟨h', sz', s, hC1, fr, hle⟩ := sp_81y (E := E) (d := 0) hS hC hw (s := u2) (by omega) (by omega) (by omega)
        obtain ⟨-, k2, -⟩ := JX_fr j fr
        refine ans j fr hC1 (sC_e hS q0 (by omega) (Or.inl ⟨rfl, rfl, show N 6 1 1 < 6 by omega, ⟨show (0 : Int) ≤ w by omega, show (w : Int) < nh by omega⟩, show 0 ≤ u2 ∧ u2 ≤ 999999 by omega⟩)) (c := 0) (by decide) (wy_212 (d := 0) hX s k2) (by decide) (by decide) (fun k s2 => m_147y (d := 0) hS q0 hR hw (by omega) (by omega) (by omega)) ⟨_, rfl⟩ (fun _ => ?_)
        rw [upL0]
        exact ⟨_, rfl, rfl⟩
theorem op_226 {a1 a2 a3 a4 : Int32} (jj : JS E x h sz) : Ans E x 226 167 [.int a1, .int a2, .int a3, .int a4] tI rI h sz := by
  obtain ⟨H, nh, J, n, fl, cu, nc, rf, uf, ue, N, M, f, gd, j⟩ := jj
  obtain ⟨hC, hS, hR, -, ho, -⟩ := id j
  obtain ⟨ha, ea, ca, aa1, aa2, aa3, A, C, hCx⟩ := id hC
  have q0 := (isC_z hC).2.2
  obtain ⟨hV, -⟩ := cNV hS q0
  have hM := cNM hS q0
  have hH := hS.1
  obtain ⟨hX, hL, hT, hkk, hxz⟩ := cx hCx
  obtain ⟨u1, rfl, r1⟩ := zint a1
  obtain ⟨u2, rfl, r2⟩ := zint a2
  obtain ⟨u3, rfl, r3⟩ := zint a3
  obtain ⟨u4, rfl, r4⟩ := zint a4
  have hn4 := hS.2.2.1
  by_cases e1 : u1 < 0 ∨ 4 ≤ u1
  · exact ansR j (c := 1) (by decide) (wt_226_1 (d := 0) hX (sp_95b (d := 0) hS hC r1 e1)) (by decide) (by decide) (fun k s2 => m_167b (d := 0) r1 e1) ⟨_, rfl⟩
  · obtain ⟨b, rfl, hb⟩ : ∃ b : Nat, u1 = (b : Int) ∧ b < 4 := ⟨u1.toNat, by omega, by omega⟩
    by_cases hgn : u2 < 0 ∨ N 6 1 1 ≤ u2
    · exact ansR j (c := 1) (by decide) (wt_226_1 (d := 0) hX (sp_95g (d := 0) hS hC hb r2 hgn)) (by decide) (by decide) (fun k s2 => m_167g (d := 0) hV hR hb r2 hgn) ⟨_, rfl⟩
    · obtain ⟨g, rfl, hg⟩ : ∃ g : Nat, u2 = (g : Int) ∧ (g : Int) < N 6 1 1 := ⟨u2.toNat, by omega, by omega⟩
      have h10 := (hV.2 g hg).2.1.1.2.2.2.2.2.2.2.2.2.2
      by_cases e3 : u3 < 0 ∨ (H (hxi N g) 1 : Int) ≤ u3
      · exact ansR j (c := 1) (by decide) (wt_226_1 (d := 0) hX (sp_95e (d := 0) hS hC hb hg r3 r4 (Or.inl ⟨e3, rfl⟩))) (by decide) (by decide) (fun k s2 => m_167e (d := 0) hS q0 hR hb hg r3 r4 (Or.inl ⟨e3, rfl⟩)) ⟨_, rfl⟩
      · by_cases e4 : u4 < 1 ∨ N 6 0 b < u4
        · exact ansR j (c := 2) (by decide) (wt_226_2 (d := 0) hX (sp_95e (d := 0) hS hC hb hg r3 r4 (Or.inr (Or.inl ⟨by omega, e4, rfl⟩)))) (by decide) (by decide) (fun k s2 => m_167e (d := 0) hS q0 hR hb hg r3 r4 (Or.inr (Or.inl ⟨by omega, e4, rfl⟩))) ⟨_, rfl⟩
        · by_cases e5 : N g 7 6 ≠ -2 ∨ n = 400
          · exact ansR j (c := 3) (by decide) (wt_226_3 (d := 0) hX (sp_95e (d := 0) hS hC hb hg r3 r4 (Or.inr (Or.inr (Or.inl ⟨by omega, by omega, e5, rfl⟩))))) (by decide) (by decide) (fun k s2 => m_167e (d := 0) hS q0 hR hb hg r3 r4 (Or.inr (Or.inr ⟨by omega, by omega, by omega, rfl⟩))) ⟨_, rfl⟩
          · by_cases e6 : N g 7 9 = 10
            · exact ansR j (c := 3) (by decide) (wt_226_3 (d := 0) hX (sp_95e (d := 0) hS hC hb hg r3 r4 (Or.inr (Or.inr (Or.inr ⟨by omega, by omega, by omega, e6, rfl⟩))))) (by decide) (by decide) (fun k s2 => m_167e (d := 0) hS q0 hR hb hg r3 r4 (Or.inr (Or.inr ⟨by omega, by omega, by omega, rfl⟩))) ⟨_, rfl⟩
            · obtain ⟨h', sz', s, hC1, fr, hle⟩ := sp_95y (E := E) (d := 0) hS hC hb hg (p := u3) (c := u4) (by omega) (by omega) (by omega) (by omega) (by omega)
              obtain ⟨-, k2, -⟩ := JX_fr j fr
              refine ans j fr hC1 (sC_e hS q0 (by omega) (Or.inr ⟨⟨show (0 : Int) ≤ g by omega, hg⟩, Or.inr (Or.inr (Or.inr (Or.inl ⟨rfl, show N g 7 6 = -2 by omega, ⟨show (0 : Int) ≤ b by omega, show (b : Int) < 4 by omega⟩, show 0 ≤ u3 ∧ u3 < (H (hxi N g) 1 : Int) by omega, show 1 ≤ u4 by omega, show N g 7 9 < 10 by omega⟩))), fun _ => show u4 ≤ N 6 0 b by omega⟩)) (c := 0) (by decide) (wy_226 (d := 0) hX s k2) (by decide) (by decide) (fun k s2 => m_167y (d := 0) hS q0 hR hb hg (by omega) (by omega) (by omega) (by omega) (by omega)) ⟨_, rfl⟩ (fun _ => ?_)
              rw [upL0]
              exact ⟨_, rfl, rfl⟩
theorem op_230 {a1 : Int32} {c1 : Int} (hc1 : 0 ≤ c1 ∧ c1 ≤ 65535) (jj : JS E x h sz) : Ans E x 230 173 [.int a1, .int (z c1)] tI rI h sz := by
  obtain ⟨H, nh, J, n, fl, cu, nc, rf, uf, ue, N, M, f, gd, j⟩ := jj
  obtain ⟨hC, hS, hR, -, ho, -⟩ := id j
  obtain ⟨ha, ea, ca, aa1, aa2, aa3, A, C, hCx⟩ := id hC
  have q0 := (isC_z hC).2.2
  obtain ⟨hV, -⟩ := cNV hS q0
  have hM := cNM hS q0
  have hH := hS.1
  obtain ⟨hX, hL, hT, hkk, hxz⟩ := cx hCx
  obtain ⟨u1, rfl, r1⟩ := zint a1
  by_cases hgn : u1 < 0 ∨ N 6 1 1 ≤ u1
  · exact ansR j (c := 1) (by decide) (wt_230_1 (d := 0) hX (sp_100n (d := 0) hX hT hV r1 hgn)) (by decide) (by decide) (fun k s2 => m_173n (d := 0) hV hR r1 hgn) ⟨_, rfl⟩
  · obtain ⟨g, rfl, hg⟩ : ∃ g : Nat, u1 = (g : Int) ∧ (g : Int) < N 6 1 1 := ⟨u1.toNat, by omega, by omega⟩
    have hn4 := hS.2.2.1
    have h8 := (hV.2 g hg).2.1.1.2.2.2.2.2.2.2.2.2.1
    by_cases e1 : ¬ (c1 = 108 ∨ c1 = 115 ∨ c1 = 110)
    · exact ansR j (c := 2) (by decide) (wt_230_2 (d := 0) hX (sp_100e (d := 0) hS hC hg hc1 (Or.inl ⟨e1, rfl⟩))) (by decide) (by decide) (fun k s2 => m_173e (d := 0) hS q0 hR hg hc1 (Or.inl ⟨e1, rfl⟩)) ⟨_, rfl⟩
    · have e1 := Classical.not_not.mp e1
      by_cases e2 : N g 7 5 ≠ 1 ∨ N g 7 7 = c1 ∨ 2 ≤ N g 7 8
      · exact ansR j (c := 3) (by decide) (wt_230_3 (d := 0) hX (sp_100e (d := 0) hS hC hg hc1 (Or.inr (Or.inl ⟨e1, e2, rfl⟩)))) (by decide) (by decide) (fun k s2 => m_173e (d := 0) hS q0 hR hg hc1 (Or.inr (Or.inl ⟨e1, e2, rfl⟩))) ⟨_, rfl⟩
      · by_cases e3 : ovC H J cu nc g ∨ n = 400
        · exact ansR j (c := 4) (by decide) (wt_230_4 (d := 0) hX (sp_100e (d := 0) hS hC hg hc1 (Or.inr (Or.inr ⟨e1, by omega, e3, rfl⟩)))) (by decide) (by decide) (fun k s2 => m_173e (d := 0) hS q0 hR hg hc1 (Or.inr (Or.inr ⟨e1, by omega, e3, rfl⟩))) ⟨_, rfl⟩
        · rw [not_or] at e3
          obtain ⟨h', sz', s, hC1, fr, hle⟩ := sp_100y (E := E) (d := 0) hS hC hg e1 (by omega) (by omega) (by omega) e3.1 (by omega)
          obtain ⟨-, k2, -⟩ := JX_fr j fr
          refine ans j fr hC1 (sC_e hS q0 (by omega) (Or.inr ⟨⟨show (0 : Int) ≤ g by omega, hg⟩, Or.inr (Or.inr (Or.inr (Or.inr ⟨rfl, show N g 7 5 = 1 by omega, e1, show N g 7 8 < 2 by omega⟩))), fun q => absurd (show (97 : Int) = 98 from q) (by decide)⟩)) (c := 0) (by decide) (wy_230 (d := 0) hX s k2) (by decide) (by decide) (fun k s2 => m_173y (d := 0) hS q0 hR hg e1 (by omega) (by omega) (by omega) e3.1 (by omega)) ⟨_, rfl⟩ (fun _ => ?_)
          rw [upL0]
          exact ⟨_, rfl, rfl⟩
theorem op_234 (jj : JS E x h sz) : Ans E x 234 182 [] tI rI h sz := by
  obtain ⟨H, nh, J, n, fl, cu, nc, rf, uf, ue, N, M, f, gd, j⟩ := jj
  obtain ⟨hC, hS, hR, -, ho, -⟩ := id j
  obtain ⟨ha, ea, ca, aa1, aa2, aa3, A, C, hCx⟩ := id hC
  have q0 := (isC_z hC).2.2
  obtain ⟨hV, -⟩ := cNV hS q0
  have hM := cNM hS q0
  have hH := hS.1
  obtain ⟨hX, hL, hT, hkk, hxz⟩ := cx hCx
  by_cases e1 : 0 < opC N (N 6 1 1).toNat
  · exact ansR j (c := 1) (by decide) (wt_234_1 (d := 0) hX (sp_108u (d := 0) hS hC e1)) (by decide) (by decide) (fun k s2 => m_182e (d := 0) hS hV hR (Or.inl ⟨e1, rfl⟩)) ⟨_, rfl⟩
  · by_cases e2 : nc = 5
    · exact ansR j (c := 2) (by decide) (wt_234_2 (d := 0) hX (sp_108s (d := 0) hS hC e1 e2)) (by decide) (by decide) (fun k s2 => m_182e (d := 0) hS hV hR (Or.inr ⟨e1, e2, rfl⟩)) ⟨_, rfl⟩
    · have h5 := hS.2.2.2.2.1
      obtain ⟨h', sz', s, hC1, fr, hle⟩ := sp_108y (E := E) (d := 0) hS hC e1 (by omega)
      obtain ⟨-, k2, -⟩ := JX_fr j fr
      refine ans j fr hC1 (sC_k hS (by omega)) (c := 0) (by decide) (wy_234 (d := 0) hX s k2) (by decide) (by decide) (fun k s2 => m_182y (d := 0) hS hV hR e1 (by omega)) ⟨_, rfl⟩ (fun _ => ?_)
      rw [upL0]
      exact ⟨_, rfl, rfl⟩
theorem op_211 {a1 a2 a3 : Int32} {b1 c1 : Int} (hb1 : b1 = 0 ∨ b1 = 1) (hc1 : 0 ≤ c1 ∧ c1 ≤ 65535) (jj : JS E x h sz) : Ans E x 211 134 [.int a1, .int a2, .int a3, .int (z b1), .int (z c1)] tI rI h sz := by
  obtain ⟨H, nh, J, n, fl, cu, nc, rf, uf, ue, N, M, f, gd, j⟩ := jj
  obtain ⟨hC, hS, hR, -, ho, -⟩ := id j
  obtain ⟨ha, ea, ca, aa1, aa2, aa3, A, C, hCx⟩ := id hC
  have q0 := (isC_z hC).2.2
  obtain ⟨hV, -⟩ := cNV hS q0
  have hM := cNM hS q0
  have hH := hS.1
  obtain ⟨hX, hL, hT, hkk, hxz⟩ := cx hCx
  obtain ⟨u1, rfl, r1⟩ := zint a1
  obtain ⟨u2, rfl, r2⟩ := zint a2
  obtain ⟨u3, rfl, r3⟩ := zint a3
  have h4 := hS.1.1
  by_cases e1 : (2 ≤ u1 ∧ u1 ≤ 6) ∧ (2 ≤ u2 ∧ u2 ≤ 4) ∧ (1 ≤ u3 ∧ u3 ≤ 7) ∧ (c1 = 108 ∨ c1 = 115 ∨ c1 = 110) ∧ u2 * u3 ≤ (szN u1.toNat : Int)
  · by_cases e2 : nh = 4
    · exact ansR j (c := 2) (by decide) (wt_211_2 (d := 0) hX (sp_80e (d := 0) hS hC ⟨r1, r2, r3, hc1⟩ (Or.inr ⟨e1, e2, rfl⟩))) (by decide) (by decide) (fun k s2 => m_134e (d := 0) hS hR ⟨r1, r2, r3, hc1⟩ (Or.inr ⟨e1, e2, rfl⟩)) ⟨_, rfl⟩
    · obtain ⟨p, rfl⟩ : ∃ p : Nat, u1 = (p : Int) := ⟨u1.toNat, by omega⟩
      obtain ⟨pl, rfl⟩ : ∃ p : Nat, u2 = (p : Int) := ⟨u2.toNat, by omega⟩
      obtain ⟨ti, rfl⟩ : ∃ p : Nat, u3 = (p : Int) := ⟨u3.toNat, by omega⟩
      obtain ⟨dr, rfl⟩ : ∃ p : Nat, b1 = (p : Int) := ⟨b1.toNat, by omega⟩
      obtain ⟨ru, rfl⟩ : ∃ p : Nat, c1 = (p : Int) := ⟨c1.toNat, by omega⟩
      have hP : hOK (mkP p pl ti dr ru) := hOK_mk e1 (by omega)
      obtain ⟨h', sz', s, hC1, fr, hle⟩ := sp_80y (E := E) (d := 0) hS hC hP (by omega)
      obtain ⟨-, k2, -⟩ := JX_fr j fr
      refine ans j fr hC1 (sC_h hS hP (by omega)) (c := 0) (by decide) (wy_211 (d := 0) hX s k2) (by decide) (by decide) (fun k s2 => m_134y (d := 0) hS hV hR hP (by omega)) ⟨_, rfl⟩ (fun _ => ?_)
      rw [upL0]
      exact ⟨_, rfl, rfl⟩
  · exact ansR j (c := 1) (by decide) (wt_211_1 (d := 0) hX (sp_80e (d := 0) hS hC ⟨r1, r2, r3, hc1⟩ (Or.inl ⟨e1, rfl⟩))) (by decide) (by decide) (fun k s2 => m_134e (d := 0) hS hR ⟨r1, r2, r3, hc1⟩ (Or.inl ⟨e1, rfl⟩)) ⟨_, rfl⟩
end OPSB
