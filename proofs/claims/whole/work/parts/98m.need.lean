/-! ===== the law's steps: what they need ===== -/
theorem i2c_any (a : Int32) : ∃ w : Int, (0 ≤ w ∧ w ≤ 65535) ∧ (a.toUInt32 % 65536).toInt32 = z w := by
  obtain ⟨w, hw⟩ : ∃ w : Nat, (a.toUInt32 % 65536).toNat = w := ⟨_, rfl⟩
  have h1 : w < 65536 := by
    rw [← hw, UInt32.toNat_mod]
    exact Nat.mod_lt _ (by decide)
  refine ⟨(w : Int), by omega, ?_⟩
  have e : a.toUInt32 % 65536 = UInt32.ofNat w := by
    rw [← hw]
    exact (UInt32.ofNat_toNat).symm
  rw [e]
  rfl
theorem JS_E {E : EX} {x sz : Nat} {h : AH} (jj : JS E x h sz) : h E.1.1 = none := by
  obtain ⟨H, nh, J, n, fl, cu, nc, rf, uf, ue, N, M, f, gd, j⟩ := jj
  exact j.2.2.2.2.2.2.2
theorem dcmp_n {a : UInt64} (h : Jvm.FP.Core.dIsNaN a = false) (op : ClassFile.CmpOp) : Op.cmpValue (FP.dcmp a a) op = z 0 := by
  have e : FP.dcmp a a = some .eq := Jvm.FP.Core.dcmp_self ((Jvm.FP.Core.notNaN_iff a).mp h)
  rw [e]
  rfl
theorem lcmp_s (a : Int64) : lg_cmp a a = z 0 := by
  unfold lg_cmp
  simp
  rfl
