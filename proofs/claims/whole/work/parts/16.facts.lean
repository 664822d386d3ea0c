/-! ===== the facts of the printed instructions: methods ===== -/
theorem dm_0 : tb_0.all (dcB mi_0) = true := by decide +kernel
set_option maxRecDepth 4096 in
theorem wd_0 : WDs mi_0 tb_0 := trivial
theorem sf_0 : ∀ t ∈ mI mi_0, SF mi_0 t := SF_all dm_0 wd_0
theorem hf_0 : HF mi_0 := ⟨(fun _ h => nomatch h), List.Pairwise.nil⟩
theorem dm_1 : tb_1.all (dcB mi_1) = true := by decide +kernel
set_option maxRecDepth 4096 in
theorem wd_1 : WDs mi_1 tb_1 := And.intro (Or.inl ⟨rfl, w_128, w_38, w_39⟩) (And.intro w_109 (And.intro (FP_one fk_0_9 rfl (rr := (RX0, TX0, 6)) rfl rfl (Or.inr ⟨rfl, rfl⟩)) (And.intro w_109 (And.intro (FP_one fk_0_15 rfl (rr := (RX0, TX0, 6)) rfl rfl (Or.inr ⟨rfl, rfl⟩)) (And.intro w_109 (And.intro (FP_one fk_0_18 rfl (rr := (RX0, TX0, 6)) rfl rfl (Or.inr ⟨rfl, rfl⟩)) (And.intro w_109 (And.intro (FP_one fk_0_21 rfl (rr := (RX0, TX0, 6)) rfl rfl (Or.inr ⟨rfl, rfl⟩)) (trivial)))))))))
theorem sf_1 : ∀ t ∈ mI mi_1, SF mi_1 t := SF_all dm_1 wd_1
theorem hf_1 : HF mi_1 := ⟨(fun _ h => nomatch h), List.Pairwise.nil⟩
theorem dm_2 : tb_2.all (dcB mi_2) = true := by decide +kernel
set_option maxRecDepth 4096 in
theorem wd_2 : WDs mi_2 tb_2 := And.intro (FP_one fk_0_24 rfl (rr := (RX0, TX0, 6)) rfl rfl (Or.inl rfl)) (And.intro (FP_one fk_0_28 rfl (rr := (RX0, TX0, 6)) rfl rfl (Or.inl rfl)) (trivial))
theorem sf_2 : ∀ t ∈ mI mi_2, SF mi_2 t := SF_all dm_2 wd_2
theorem hf_2 : HF mi_2 := ⟨(fun _ h => nomatch h), List.Pairwise.nil⟩
theorem dm_3 : tb_3.all (dcB mi_3) = true := by decide +kernel
set_option maxRecDepth 4096 in
theorem wd_3 : WDs mi_3 tb_3 := And.intro fk_0_24 (And.intro (FP_one fk_0_24 rfl (rr := (RX0, TX0, 6)) rfl rfl (Or.inl rfl)) (And.intro fk_0_28 (And.intro (FP_one fk_0_28 rfl (rr := (RX0, TX0, 6)) rfl rfl (Or.inl rfl)) (And.intro fk_0_9 (And.intro fk_0_9 (And.intro (Or.inl ⟨Or.inl rfl, w_322, w_296, w_295, w_18⟩) (And.intro fk_0_15 (And.intro fk_0_15 (And.intro (Or.inl ⟨Or.inl rfl, w_322, w_296, w_295, w_18⟩) (And.intro fk_0_18 (And.intro fk_0_18 (And.intro (Or.inl ⟨Or.inl rfl, w_322, w_296, w_295, w_18⟩) (And.intro fk_0_21 (And.intro fk_0_21 (And.intro (Or.inl ⟨Or.inl rfl, w_322, w_296, w_295, w_18⟩) (trivial))))))))))))))))
theorem sf_3 : ∀ t ∈ mI mi_3, SF mi_3 t := SF_all dm_3 wd_3
theorem hf_3 : HF mi_3 := ⟨(fun _ h => nomatch h), List.Pairwise.nil⟩
theorem dm_4 : tb_4.all (dcB mi_4) = true := by decide +kernel
set_option maxRecDepth 4096 in
theorem wd_4 : WDs mi_4 tb_4 := And.intro fk_0_24 (And.intro fk_0_24 (And.intro fk_0_28 (And.intro fk_0_28 (And.intro fk_0_24 (And.intro fk_0_9 (And.intro fk_0_9 (And.intro fk_0_15 (And.intro fk_0_15 (And.intro fk_0_18 (And.intro fk_0_18 (And.intro fk_0_21 (And.intro fk_0_21 (trivial)))))))))))))
theorem sf_4 : ∀ t ∈ mI mi_4, SF mi_4 t := SF_all dm_4 wd_4
theorem hf_4 : HF mi_4 := ⟨(fun _ h => nomatch h), List.Pairwise.nil⟩
theorem dm_5 : tb_5.all (dcB mi_5) = true := by decide +kernel
set_option maxRecDepth 4096 in
theorem wd_5 : WDs mi_5 tb_5 := And.intro fk_0_24 (And.intro fk_0_24 (And.intro fk_0_9 (And.intro fk_0_24 (And.intro fk_0_15 (And.intro fk_0_24 (And.intro fk_0_18 (And.intro fk_0_24 (And.intro fk_0_21 (And.intro fk_0_24 (And.intro fk_0_24 (And.intro (FP_one fk_0_24 rfl (rr := (RX0, TX0, 6)) rfl rfl (Or.inl rfl)) (And.intro fk_0_28 (And.intro (FP_one fk_0_28 rfl (rr := (RX0, TX0, 6)) rfl rfl (Or.inl rfl)) (trivial))))))))))))))
theorem sf_5 : ∀ t ∈ mI mi_5, SF mi_5 t := SF_all dm_5 wd_5
theorem hf_5 : HF mi_5 := ⟨(fun _ h => nomatch h), List.Pairwise.nil⟩
theorem dm_6 : tb_6.all (dcB mi_6) = true := by decide +kernel
set_option maxRecDepth 4096 in
theorem wd_6 : WDs mi_6 tb_6 := And.intro fk_0_9 (trivial)
theorem sf_6 : ∀ t ∈ mI mi_6, SF mi_6 t := SF_all dm_6 wd_6
theorem hf_6 : HF mi_6 := ⟨(fun _ h => nomatch h), List.Pairwise.nil⟩
theorem dm_7 : tb_7.all (dcB mi_7) = true := by decide +kernel
set_option maxRecDepth 4096 in
theorem wd_7 : WDs mi_7 tb_7 := And.intro fk_0_21 (trivial)
theorem sf_7 : ∀ t ∈ mI mi_7, SF mi_7 t := SF_all dm_7 wd_7
theorem hf_7 : HF mi_7 := ⟨(fun _ h => nomatch h), List.Pairwise.nil⟩
theorem dm_8 : tb_8.all (dcB mi_8) = true := by decide +kernel
set_option maxRecDepth 4096 in
theorem wd_8 : WDs mi_8 tb_8 := And.intro (Or.inr (Or.inr ⟨by decide, by decide, mi_10, (RX0, TX0, 6), mk_1_10, rfl, rfl, w_478⟩)) (And.intro fk_0_28 (And.intro fk_0_24 (And.intro fk_0_21 (And.intro fk_0_15 (And.intro fk_0_21 (And.intro fk_0_28 (And.intro fk_0_18 (And.intro fk_0_21 (trivial)))))))))
theorem sf_8 : ∀ t ∈ mI mi_8, SF mi_8 t := SF_all dm_8 wd_8
theorem hf_8 : HF mi_8 := ⟨(fun _ h => nomatch h), List.Pairwise.nil⟩
theorem dm_9 : tb_9.all (dcB mi_9) = true := by decide +kernel
set_option maxRecDepth 4096 in
theorem wd_9 : WDs mi_9 tb_9 := And.intro fk_0_28 (And.intro fk_0_24 (And.intro fk_0_21 (trivial)))
theorem sf_9 : ∀ t ∈ mI mi_9, SF mi_9 t := SF_all dm_9 wd_9
theorem hf_9 : HF mi_9 := ⟨(fun _ h => nomatch h), List.Pairwise.nil⟩
theorem dm_10 : tb_10.all (dcB mi_10) = true := by decide +kernel
set_option maxRecDepth 4096 in
theorem wd_10 : WDs mi_10 tb_10 := And.intro fk_0_24 (And.intro fk_0_15 (And.intro fk_0_18 (trivial)))
theorem sf_10 : ∀ t ∈ mI mi_10, SF mi_10 t := SF_all dm_10 wd_10
theorem hf_10 : HF mi_10 := ⟨(fun _ h => nomatch h), List.Pairwise.nil⟩
theorem dm_11 : tb_11.all (dcB mi_11) = true := by decide +kernel
set_option maxRecDepth 4096 in
theorem wd_11 : WDs mi_11 tb_11 := And.intro (Or.inr ⟨by decide, mi_15, mk_2_15, w_1092⟩) (And.intro (FP_one fk_1_7 rfl (rr := (RX1, TX1, 3)) rfl rfl (Or.inr ⟨rfl, rfl⟩)) (trivial))
theorem sf_11 : ∀ t ∈ mI mi_11, SF mi_11 t := SF_all dm_11 wd_11
theorem hf_11 : HF mi_11 := ⟨(fun _ h => nomatch h), List.Pairwise.nil⟩
theorem dm_12 : tb_12.all (dcB mi_12) = true := by decide +kernel
set_option maxRecDepth 4096 in
theorem wd_12 : WDs mi_12 tb_12 := And.intro fk_1_13 (And.intro (Or.inr (Or.inr ⟨by decide, by decide, mi_57, (RX7, TX7, 5), mk_1_57, rfl, rfl, w_339⟩)) (And.intro (Or.inr (Or.inr ⟨by decide, by decide, mi_64, (RX7, TX7, 5), mk_1_64, rfl, rfl, w_343⟩)) (And.intro fk_1_7 (And.intro (Or.inr (Or.inr ⟨by decide, by decide, mi_40, (RX4, TX4, 14), mk_1_40, rfl, rfl, w_367⟩)) (trivial)))))
theorem sf_12 : ∀ t ∈ mI mi_12, SF mi_12 t := SF_all dm_12 wd_12
theorem hf_12 : HF mi_12 := ⟨(fun _ h => nomatch h), List.Pairwise.nil⟩
theorem dm_13 : tb_13.all (dcB mi_13) = true := by decide +kernel
set_option maxRecDepth 4096 in
theorem wd_13 : WDs mi_13 tb_13 := And.intro (Or.inr ⟨by decide, mi_15, mk_2_15, w_1037⟩) (And.intro (FP_one fk_2_7 rfl (rr := (RX2, TX2, 5)) rfl rfl (Or.inr ⟨rfl, rfl⟩)) (And.intro (FP_one fk_2_13 rfl (rr := (RX2, TX2, 5)) rfl rfl (Or.inr ⟨rfl, rfl⟩)) (And.intro (FP_one fk_2_16 rfl (rr := (RX2, TX2, 5)) rfl rfl (Or.inr ⟨rfl, rfl⟩)) (trivial))))
theorem sf_13 : ∀ t ∈ mI mi_13, SF mi_13 t := SF_all dm_13 wd_13
theorem hf_13 : HF mi_13 := ⟨(fun _ h => nomatch h), List.Pairwise.nil⟩
theorem dm_14 : tb_14.all (dcB mi_14) = true := by decide +kernel
set_option maxRecDepth 4096 in
theorem wd_14 : WDs mi_14 tb_14 := And.intro fk_2_19 (And.intro (Or.inr (Or.inr ⟨by decide, by decide, mi_57, (RX7, TX7, 5), mk_1_57, rfl, rfl, w_382⟩)) (And.intro fk_2_7 (And.intro fk_2_13 (And.intro fk_2_16 (And.intro (Or.inr (Or.inr ⟨by decide, by decide, mi_62, (RX7, TX7, 5), mk_1_62, rfl, rfl, w_383⟩)) (trivial))))))
theorem sf_14 : ∀ t ∈ mI mi_14, SF mi_14 t := SF_all dm_14 wd_14
theorem hf_14 : HF mi_14 := ⟨(fun _ h => nomatch h), List.Pairwise.nil⟩
theorem dm_15 : tb_15.all (dcB mi_15) = true := by decide +kernel
set_option maxRecDepth 4096 in
theorem wd_15 : WDs mi_15 tb_15 := And.intro (Or.inl ⟨rfl, w_765, w_38, w_39⟩) (And.intro (FP_e fk_3_7 (all6 (fun rr h => by cases h; exact ⟨rfl, Or.inr ⟨rfl, rfl⟩⟩) (fun rr h => by cases h; exact ⟨rfl, Or.inr ⟨rfl, rfl⟩⟩) (fun rr h => by cases h; exact ⟨rfl, Or.inr ⟨rfl, rfl⟩⟩) (fun rr h => by cases h; exact ⟨rfl, Or.inr ⟨rfl, rfl⟩⟩) (fun rr h => by cases h; exact ⟨rfl, Or.inr ⟨rfl, rfl⟩⟩) (fun rr h => by cases h; exact ⟨rfl, Or.inr ⟨rfl, rfl⟩⟩))) (And.intro (FP_e fk_3_13 (all6 (fun rr h => by cases h; exact ⟨rfl, Or.inr ⟨rfl, rfl⟩⟩) (fun rr h => by cases h; exact ⟨rfl, Or.inr ⟨rfl, rfl⟩⟩) (fun rr h => by cases h; exact ⟨rfl, Or.inr ⟨rfl, rfl⟩⟩) (fun rr h => by cases h; exact ⟨rfl, Or.inr ⟨rfl, rfl⟩⟩) (fun rr h => by cases h; exact ⟨rfl, Or.inr ⟨rfl, rfl⟩⟩) (fun rr h => by cases h; exact ⟨rfl, Or.inr ⟨rfl, rfl⟩⟩))) (trivial)))
theorem sf_15 : ∀ t ∈ mI mi_15, SF mi_15 t := SF_all dm_15 wd_15
theorem hf_15 : HF mi_15 := ⟨(fun _ h => nomatch h), List.Pairwise.nil⟩
theorem dm_16 : tb_16.all (dcB mi_16) = true := by decide +kernel
set_option maxRecDepth 4096 in
theorem wd_16 : WDs mi_16 tb_16 := And.intro (Or.inl ⟨rfl, w_122, w_38, w_39⟩) (And.intro (FP_one fk_4_9 rfl (rr := (RX4, TX4, 14)) rfl rfl (Or.inl rfl)) (And.intro w_109 (And.intro (FP_one fk_4_15 rfl (rr := (RX4, TX4, 14)) rfl rfl (Or.inr ⟨rfl, rfl⟩)) (And.intro w_109 (And.intro (FP_one fk_4_19 rfl (rr := (RX4, TX4, 14)) rfl rfl (Or.inr ⟨rfl, rfl⟩)) (And.intro w_109 (And.intro (FP_one fk_4_22 rfl (rr := (RX4, TX4, 14)) rfl rfl (Or.inr ⟨rfl, rfl⟩)) (And.intro (Or.inr ⟨by decide, (RX0, TX0, 6), rfl, w_123, w_124, w_8, rfl⟩) (And.intro (Or.inr ⟨by decide, mi_1, mk_2_1, w_125⟩) (And.intro (FP_one fk_4_28 rfl (rr := (RX4, TX4, 14)) rfl rfl (Or.inr ⟨rfl, rfl⟩)) (trivial)))))))))))
theorem sf_16 : ∀ t ∈ mI mi_16, SF mi_16 t := SF_all dm_16 wd_16
theorem hf_16 : HF mi_16 := ⟨(fun _ h => nomatch h), List.Pairwise.nil⟩
theorem dm_17 : tb_17.all (dcB mi_17) = true := by decide +kernel
set_option maxRecDepth 4096 in
theorem wd_17 : WDs mi_17 tb_17 := And.intro (FP_one fk_4_9 rfl (rr := (RX4, TX4, 14)) rfl rfl (Or.inl rfl)) (And.intro (Or.inr (Or.inr ⟨by decide, by decide, mi_18, (RX4, TX4, 14), mk_1_18, rfl, rfl, w_402⟩)) (And.intro (Or.inr (Or.inr ⟨by decide, by decide, mi_19, (RX4, TX4, 14), mk_1_19, rfl, rfl, w_413⟩)) (And.intro (FP_one fk_4_39 rfl (rr := (RX4, TX4, 14)) rfl rfl (Or.inl rfl)) (And.intro (FP_one fk_4_43 rfl (rr := (RX4, TX4, 14)) rfl rfl (Or.inl rfl)) (And.intro (FP_one fk_4_46 rfl (rr := (RX4, TX4, 14)) rfl rfl (Or.inl rfl)) (And.intro (FP_one fk_4_49 rfl (rr := (RX4, TX4, 14)) rfl rfl (Or.inl rfl)) (And.intro (FP_one fk_4_52 rfl (rr := (RX4, TX4, 14)) rfl rfl (Or.inl rfl)) (And.intro (FP_one fk_4_56 rfl (rr := (RX4, TX4, 14)) rfl rfl (Or.inl rfl)) (And.intro fk_4_59 (And.intro (FP_one fk_4_65 rfl (rr := (RX4, TX4, 14)) rfl rfl (Or.inl rfl)) (And.intro (FP_one fk_4_66 rfl (rr := (RX4, TX4, 14)) rfl rfl (Or.inl rfl)) (And.intro fk_4_28 (And.intro (Or.inr (Or.inr ⟨by decide, by decide, mi_2, (RX0, TX0, 6), mk_1_2, rfl, rfl, w_421⟩)) (trivial))))))))))))))
theorem sf_17 : ∀ t ∈ mI mi_17, SF mi_17 t := SF_all dm_17 wd_17
theorem hf_17 : HF mi_17 := ⟨(fun _ h => nomatch h), List.Pairwise.nil⟩
theorem dm_18 : tb_18.all (dcB mi_18) = true := by decide +kernel
set_option maxRecDepth 4096 in
theorem wd_18 : WDs mi_18 tb_18 := And.intro fk_4_9 (And.intro fk_4_72 (And.intro fk_4_15 (And.intro fk_4_9 (And.intro fk_4_72 (And.intro (Or.inr (Or.inl ⟨rfl, w_406, w_407, w_16, w_408⟩)) (And.intro (Or.inl ⟨rfl, w_409⟩) (And.intro (Or.inl ⟨rfl, w_410⟩) (And.intro (Or.inl ⟨rfl, w_411⟩) (And.intro (Or.inl ⟨rfl, w_412⟩) (And.intro fk_4_15 (And.intro fk_4_15 (And.intro fk_4_15 (And.intro fk_4_15 (trivial))))))))))))))
theorem sf_18 : ∀ t ∈ mI mi_18, SF mi_18 t := SF_all dm_18 wd_18
theorem hf_18 : HF mi_18 := ⟨(fun _ h => nomatch h), List.Pairwise.nil⟩
theorem dm_19 : tb_19.all (dcB mi_19) = true := by decide +kernel
set_option maxRecDepth 4096 in
theorem wd_19 : WDs mi_19 tb_19 := And.intro (FP_one fk_4_89 rfl (rr := (RX4, TX4, 14)) rfl rfl (Or.inl rfl)) (And.intro fk_4_9 (And.intro fk_4_92 (And.intro fk_4_19 (And.intro fk_4_9 (And.intro fk_4_95 (And.intro fk_4_19 (And.intro (Or.inr (Or.inr ⟨by decide, by decide, mi_32, (RX4, TX4, 14), mk_1_32, rfl, rfl, w_417⟩)) (And.intro fk_4_89 (And.intro (FP_one fk_4_89 rfl (rr := (RX4, TX4, 14)) rfl rfl (Or.inl rfl)) (trivial))))))))))
theorem sf_19 : ∀ t ∈ mI mi_19, SF mi_19 t := SF_all dm_19 wd_19
theorem hf_19 : HF mi_19 := ⟨(fun _ h => nomatch h), List.Pairwise.nil⟩
theorem dm_20 : tb_20.all (dcB mi_20) = true := by decide +kernel
set_option maxRecDepth 4096 in
theorem wd_20 : WDs mi_20 tb_20 := And.intro fk_4_9 (And.intro (FP_one fk_4_9 rfl (rr := (RX4, TX4, 14)) rfl rfl (Or.inl rfl)) (And.intro fk_4_15 (And.intro fk_4_15 (And.intro (Or.inl ⟨Or.inl rfl, w_317, w_296, w_295, w_18⟩) (And.intro fk_4_89 (And.intro (FP_one fk_4_89 rfl (rr := (RX4, TX4, 14)) rfl rfl (Or.inl rfl)) (And.intro fk_4_19 (And.intro fk_4_19 (And.intro (Or.inl ⟨Or.inl rfl, w_317, w_296, w_295, w_18⟩) (And.intro fk_4_22 (And.intro fk_4_22 (And.intro (Or.inl ⟨Or.inl rfl, w_317, w_296, w_295, w_18⟩) (And.intro fk_4_39 (And.intro (FP_one fk_4_39 rfl (rr := (RX4, TX4, 14)) rfl rfl (Or.inl rfl)) (And.intro fk_4_43 (And.intro (FP_one fk_4_43 rfl (rr := (RX4, TX4, 14)) rfl rfl (Or.inl rfl)) (And.intro fk_4_46 (And.intro (FP_one fk_4_46 rfl (rr := (RX4, TX4, 14)) rfl rfl (Or.inl rfl)) (And.intro fk_4_49 (And.intro (FP_one fk_4_49 rfl (rr := (RX4, TX4, 14)) rfl rfl (Or.inl rfl)) (And.intro fk_4_52 (And.intro (FP_one fk_4_52 rfl (rr := (RX4, TX4, 14)) rfl rfl (Or.inl rfl)) (And.intro fk_4_56 (And.intro (FP_one fk_4_56 rfl (rr := (RX4, TX4, 14)) rfl rfl (Or.inl rfl)) (And.intro fk_4_65 (And.intro (FP_one fk_4_65 rfl (rr := (RX4, TX4, 14)) rfl rfl (Or.inl rfl)) (And.intro fk_4_66 (And.intro (FP_one fk_4_66 rfl (rr := (RX4, TX4, 14)) rfl rfl (Or.inl rfl)) (And.intro fk_4_28 (And.intro fk_4_28 (And.intro (Or.inr (Or.inr ⟨by decide, by decide, mi_3, (RX0, TX0, 6), mk_1_3, rfl, rfl, w_318⟩)) (trivial))))))))))))))))))))))))))))))))
theorem sf_20 : ∀ t ∈ mI mi_20, SF mi_20 t := SF_all dm_20 wd_20
theorem hf_20 : HF mi_20 := ⟨(fun _ h => nomatch h), List.Pairwise.nil⟩
theorem dm_21 : tb_21.all (dcB mi_21) = true := by decide +kernel
set_option maxRecDepth 4096 in
theorem wd_21 : WDs mi_21 tb_21 := And.intro fk_4_9 (And.intro fk_4_9 (And.intro fk_4_89 (And.intro fk_4_89 (And.intro fk_4_39 (And.intro fk_4_39 (And.intro fk_4_43 (And.intro fk_4_43 (And.intro fk_4_46 (And.intro fk_4_46 (And.intro fk_4_49 (And.intro fk_4_49 (And.intro fk_4_52 (And.intro fk_4_52 (And.intro fk_4_56 (And.intro fk_4_56 (And.intro fk_4_65 (And.intro fk_4_65 (And.intro fk_4_66 (And.intro fk_4_66 (And.intro (Or.inr (Or.inr ⟨by decide, by decide, mi_22, (RX4, TX4, 14), mk_1_22, rfl, rfl, w_523⟩)) (And.intro fk_4_28 (And.intro fk_4_28 (And.intro (Or.inr (Or.inr ⟨by decide, by decide, mi_4, (RX0, TX0, 6), mk_1_4, rfl, rfl, w_527⟩)) (trivial))))))))))))))))))))))))
theorem sf_21 : ∀ t ∈ mI mi_21, SF mi_21 t := SF_all dm_21 wd_21
theorem hf_21 : HF mi_21 := ⟨(fun _ h => nomatch h), List.Pairwise.nil⟩
theorem dm_22 : tb_22.all (dcB mi_22) = true := by decide +kernel
set_option maxRecDepth 4096 in
theorem wd_22 : WDs mi_22 tb_22 := And.intro fk_4_89 (And.intro fk_4_9 (And.intro fk_4_72 (And.intro fk_4_15 (And.intro fk_4_15 (And.intro fk_4_9 (And.intro fk_4_92 (And.intro fk_4_19 (And.intro fk_4_19 (And.intro fk_4_39 (And.intro fk_4_39 (And.intro fk_4_22 (And.intro fk_4_22 (trivial)))))))))))))
theorem sf_22 : ∀ t ∈ mI mi_22, SF mi_22 t := SF_all dm_22 wd_22
theorem hf_22 : HF mi_22 := ⟨(fun _ h => nomatch h), List.Pairwise.nil⟩
theorem dm_23 : tb_23.all (dcB mi_23) = true := by decide +kernel
set_option maxRecDepth 4096 in
theorem wd_23 : WDs mi_23 tb_23 := And.intro fk_4_9 (And.intro fk_4_92 (trivial))
theorem sf_23 : ∀ t ∈ mI mi_23, SF mi_23 t := SF_all dm_23 wd_23
theorem hf_23 : HF mi_23 := ⟨(fun _ h => nomatch h), List.Pairwise.nil⟩
theorem dm_24 : tb_24.all (dcB mi_24) = true := by decide +kernel
set_option maxRecDepth 4096 in
theorem wd_24 : WDs mi_24 tb_24 := And.intro fk_4_56 (trivial)
theorem sf_24 : ∀ t ∈ mI mi_24, SF mi_24 t := SF_all dm_24 wd_24
theorem hf_24 : HF mi_24 := ⟨(fun _ h => nomatch h), List.Pairwise.nil⟩
theorem dm_25 : tb_25.all (dcB mi_25) = true := by decide +kernel
set_option maxRecDepth 4096 in
theorem wd_25 : WDs mi_25 tb_25 := And.intro fk_4_19 (trivial)
theorem sf_25 : ∀ t ∈ mI mi_25, SF mi_25 t := SF_all dm_25 wd_25
theorem hf_25 : HF mi_25 := ⟨(fun _ h => nomatch h), List.Pairwise.nil⟩
theorem dm_26 : tb_26.all (dcB mi_26) = true := by decide +kernel
set_option maxRecDepth 4096 in
theorem wd_26 : WDs mi_26 tb_26 := And.intro fk_4_43 (And.intro (Or.inr (Or.inr ⟨by decide, by decide, mi_25, (RX4, TX4, 14), mk_1_25, rfl, rfl, w_496⟩)) (trivial))
theorem sf_26 : ∀ t ∈ mI mi_26, SF mi_26 t := SF_all dm_26 wd_26
theorem hf_26 : HF mi_26 := ⟨(fun _ h => nomatch h), List.Pairwise.nil⟩
theorem dm_27 : tb_27.all (dcB mi_27) = true := by decide +kernel
set_option maxRecDepth 4096 in
theorem wd_27 : WDs mi_27 tb_27 := And.intro fk_4_39 (And.intro (Or.inr (Or.inr ⟨by decide, by decide, mi_28, (RX4, TX4, 14), mk_1_28, rfl, rfl, w_545⟩)) (trivial))
theorem sf_27 : ∀ t ∈ mI mi_27, SF mi_27 t := SF_all dm_27 wd_27
theorem hf_27 : HF mi_27 := ⟨(fun _ h => nomatch h), List.Pairwise.nil⟩
theorem dm_28 : tb_28.all (dcB mi_28) = true := by decide +kernel
set_option maxRecDepth 4096 in
theorem wd_28 : WDs mi_28 tb_28 := And.intro fk_4_22 (trivial)
theorem sf_28 : ∀ t ∈ mI mi_28, SF mi_28 t := SF_all dm_28 wd_28
theorem hf_28 : HF mi_28 := ⟨(fun _ h => nomatch h), List.Pairwise.nil⟩
theorem dm_29 : tb_29.all (dcB mi_29) = true := by decide +kernel
set_option maxRecDepth 4096 in
theorem wd_29 : WDs mi_29 tb_29 := And.intro fk_4_39 (And.intro fk_4_9 (And.intro (Or.inr (Or.inr ⟨by decide, by decide, mi_27, (RX4, TX4, 14), mk_1_27, rfl, rfl, w_845⟩)) (And.intro (Or.inr (Or.inr ⟨by decide, by decide, mi_50, (RX6, TX6, 9), mk_1_50, rfl, rfl, w_849⟩)) (trivial))))
theorem sf_29 : ∀ t ∈ mI mi_29, SF mi_29 t := SF_all dm_29 wd_29
theorem hf_29 : HF mi_29 := ⟨(fun _ h => nomatch h), List.Pairwise.nil⟩
theorem dm_30 : tb_30.all (dcB mi_30) = true := by decide +kernel
set_option maxRecDepth 4096 in
theorem wd_30 : WDs mi_30 tb_30 := And.intro fk_4_9 (And.intro (Or.inr (Or.inr ⟨by decide, by decide, mi_27, (RX4, TX4, 14), mk_1_27, rfl, rfl, w_845⟩)) (And.intro (Or.inr (Or.inr ⟨by decide, by decide, mi_50, (RX6, TX6, 9), mk_1_50, rfl, rfl, w_849⟩)) (And.intro fk_4_9 (And.intro (Or.inr (Or.inr ⟨by decide, by decide, mi_27, (RX4, TX4, 14), mk_1_27, rfl, rfl, w_845⟩)) (And.intro (Or.inr (Or.inr ⟨by decide, by decide, mi_50, (RX6, TX6, 9), mk_1_50, rfl, rfl, w_849⟩)) (And.intro fk_4_39 (And.intro fk_4_43 (And.intro (Or.inr (Or.inr ⟨by decide, by decide, mi_25, (RX4, TX4, 14), mk_1_25, rfl, rfl, w_496⟩)) (trivial)))))))))
theorem sf_30 : ∀ t ∈ mI mi_30, SF mi_30 t := SF_all dm_30 wd_30
theorem hf_30 : HF mi_30 := ⟨(fun _ h => nomatch h), List.Pairwise.nil⟩
theorem dm_31 : tb_31.all (dcB mi_31) = true := by decide +kernel
set_option maxRecDepth 4096 in
theorem wd_31 : WDs mi_31 tb_31 := And.intro fk_4_9 (And.intro fk_4_134 (And.intro fk_4_89 (And.intro fk_4_9 (And.intro fk_4_72 (trivial)))))
theorem sf_31 : ∀ t ∈ mI mi_31, SF mi_31 t := SF_all dm_31 wd_31
theorem hf_31 : HF mi_31 := ⟨(fun _ h => nomatch h), List.Pairwise.nil⟩
theorem dm_32 : tb_32.all (dcB mi_32) = true := by decide +kernel
set_option maxRecDepth 4096 in
theorem wd_32 : WDs mi_32 tb_32 := And.intro fk_4_89 (And.intro fk_4_89 (And.intro fk_4_15 (And.intro fk_4_89 (trivial))))
theorem sf_32 : ∀ t ∈ mI mi_32, SF mi_32 t := SF_all dm_32 wd_32
theorem hf_32 : HF mi_32 := ⟨(fun _ h => nomatch h), List.Pairwise.nil⟩
theorem dm_33 : tb_33.all (dcB mi_33) = true := by decide +kernel
set_option maxRecDepth 4096 in
theorem wd_33 : WDs mi_33 tb_33 := And.intro (Or.inr (Or.inr ⟨by decide, by decide, mi_34, (RX4, TX4, 14), mk_1_34, rfl, rfl, w_984⟩)) (And.intro (Or.inr (Or.inr ⟨by decide, by decide, mi_34, (RX4, TX4, 14), mk_1_34, rfl, rfl, w_984⟩)) (trivial))
theorem sf_33 : ∀ t ∈ mI mi_33, SF mi_33 t := SF_all dm_33 wd_33
theorem hf_33 : HF mi_33 := ⟨(fun _ h => nomatch h), List.Pairwise.nil⟩
theorem dm_34 : tb_34.all (dcB mi_34) = true := by decide +kernel
set_option maxRecDepth 4096 in
theorem wd_34 : WDs mi_34 tb_34 := And.intro fk_4_39 (And.intro (Or.inr (Or.inr ⟨by decide, by decide, mi_28, (RX4, TX4, 14), mk_1_28, rfl, rfl, w_545⟩)) (trivial))
theorem sf_34 : ∀ t ∈ mI mi_34, SF mi_34 t := SF_all dm_34 wd_34
theorem hf_34 : HF mi_34 := ⟨(fun _ h => nomatch h), List.Pairwise.nil⟩
theorem dm_35 : tb_35.all (dcB mi_35) = true := by decide +kernel
set_option maxRecDepth 4096 in
theorem wd_35 : WDs mi_35 tb_35 := And.intro fk_4_9 (And.intro (Or.inr (Or.inr ⟨by decide, by decide, mi_48, (RX6, TX6, 9), mk_1_48, rfl, rfl, w_441⟩)) (And.intro fk_4_9 (And.intro (Or.inr (Or.inr ⟨by decide, by decide, mi_49, (RX6, TX6, 9), mk_1_49, rfl, rfl, w_445⟩)) (And.intro (Or.inr (Or.inr ⟨by decide, by decide, mi_36, (RX4, TX4, 14), mk_1_36, rfl, rfl, w_449⟩)) (And.intro (FP_one fk_4_49 rfl (rr := (RX4, TX4, 14)) rfl rfl (Or.inl rfl)) (And.intro fk_4_43 (And.intro fk_4_43 (And.intro fk_4_43 (And.intro (FP_one fk_4_46 rfl (rr := (RX4, TX4, 14)) rfl rfl (Or.inl rfl)) (And.intro fk_4_19 (And.intro fk_4_43 (And.intro fk_4_19 (And.intro fk_4_43 (And.intro fk_4_43 (And.intro (FP_one fk_4_56 rfl (rr := (RX4, TX4, 14)) rfl rfl (Or.inl rfl)) (And.intro (Or.inr (Or.inr ⟨by decide, by decide, mi_39, (RX4, TX4, 14), mk_1_39, rfl, rfl, w_453⟩)) (trivial)))))))))))))))))
theorem sf_35 : ∀ t ∈ mI mi_35, SF mi_35 t := SF_all dm_35 wd_35
theorem hf_35 : HF mi_35 := ⟨(fun _ h => nomatch h), List.Pairwise.nil⟩
theorem dm_36 : tb_36.all (dcB mi_36) = true := by decide +kernel
set_option maxRecDepth 4096 in
theorem wd_36 : WDs mi_36 tb_36 := And.intro fk_4_39 (And.intro fk_4_39 (And.intro fk_4_39 (And.intro fk_4_22 (And.intro fk_4_22 (And.intro fk_4_22 (And.intro fk_4_22 (And.intro fk_4_22 (And.intro fk_4_39 (And.intro (Or.inl ⟨Or.inl rfl, w_317, w_296, w_295, w_18⟩) (And.intro fk_4_22 (And.intro fk_4_22 (And.intro fk_4_39 (And.intro fk_4_22 (And.intro fk_4_39 (And.intro fk_4_39 (And.intro (FP_one fk_4_39 rfl (rr := (RX4, TX4, 14)) rfl rfl (Or.inl rfl)) (trivial)))))))))))))))))
theorem sf_36 : ∀ t ∈ mI mi_36, SF mi_36 t := SF_all dm_36 wd_36
theorem hf_36 : HF mi_36 := ⟨(fun _ h => nomatch h), List.Pairwise.nil⟩
theorem dm_37 : tb_37.all (dcB mi_37) = true := by decide +kernel
set_option maxRecDepth 4096 in
theorem wd_37 : WDs mi_37 tb_37 := And.intro fk_4_43 (And.intro fk_4_43 (And.intro fk_4_89 (And.intro fk_4_9 (And.intro fk_4_72 (And.intro fk_4_19 (And.intro fk_4_43 (And.intro (Or.inr (Or.inr ⟨by decide, by decide, mi_32, (RX4, TX4, 14), mk_1_32, rfl, rfl, w_417⟩)) (And.intro fk_4_89 (And.intro (FP_one fk_4_89 rfl (rr := (RX4, TX4, 14)) rfl rfl (Or.inl rfl)) (trivial))))))))))
theorem sf_37 : ∀ t ∈ mI mi_37, SF mi_37 t := SF_all dm_37 wd_37
theorem hf_37 : HF mi_37 := ⟨(fun _ h => nomatch h), List.Pairwise.nil⟩
theorem dm_38 : tb_38.all (dcB mi_38) = true := by decide +kernel
set_option maxRecDepth 4096 in
theorem wd_38 : WDs mi_38 tb_38 := And.intro fk_4_49 (And.intro (FP_one fk_4_49 rfl (rr := (RX4, TX4, 14)) rfl rfl (Or.inl rfl)) (And.intro fk_4_49 (And.intro fk_4_9 (And.intro fk_4_92 (And.intro (FP_one fk_4_52 rfl (rr := (RX4, TX4, 14)) rfl rfl (Or.inl rfl)) (And.intro (Or.inr (Or.inr ⟨by decide, by decide, mi_41, (RX4, TX4, 14), mk_1_41, rfl, rfl, w_371⟩)) (And.intro (FP_one fk_4_56 rfl (rr := (RX4, TX4, 14)) rfl rfl (Or.inl rfl)) (And.intro (Or.inr (Or.inr ⟨by decide, by decide, mi_39, (RX4, TX4, 14), mk_1_39, rfl, rfl, w_453⟩)) (trivial)))))))))
theorem sf_38 : ∀ t ∈ mI mi_38, SF mi_38 t := SF_all dm_38 wd_38
theorem hf_38 : HF mi_38 := ⟨(fun _ h => nomatch h), List.Pairwise.nil⟩
theorem dm_39 : tb_39.all (dcB mi_39) = true := by decide +kernel
set_option maxRecDepth 4096 in
theorem wd_39 : WDs mi_39 tb_39 := And.intro fk_4_43 (And.intro fk_4_9 (And.intro fk_4_92 (And.intro fk_4_43 (And.intro (FP_one fk_4_43 rfl (rr := (RX4, TX4, 14)) rfl rfl (Or.inl rfl)) (trivial)))))
theorem sf_39 : ∀ t ∈ mI mi_39, SF mi_39 t := SF_all dm_39 wd_39
theorem hf_39 : HF mi_39 := ⟨(fun _ h => nomatch h), List.Pairwise.nil⟩
theorem dm_40 : tb_40.all (dcB mi_40) = true := by decide +kernel
set_option maxRecDepth 4096 in
theorem wd_40 : WDs mi_40 tb_40 := And.intro (FP_one fk_4_65 rfl (rr := (RX4, TX4, 14)) rfl rfl (Or.inl rfl)) (And.intro fk_4_66 (And.intro (FP_one fk_4_66 rfl (rr := (RX4, TX4, 14)) rfl rfl (Or.inl rfl)) (And.intro (Or.inr (Or.inr ⟨by decide, by decide, mi_41, (RX4, TX4, 14), mk_1_41, rfl, rfl, w_371⟩)) (And.intro (FP_one fk_4_56 rfl (rr := (RX4, TX4, 14)) rfl rfl (Or.inl rfl)) (trivial)))))
theorem sf_40 : ∀ t ∈ mI mi_40, SF mi_40 t := SF_all dm_40 wd_40
theorem hf_40 : HF mi_40 := ⟨(fun _ h => nomatch h), List.Pairwise.nil⟩
theorem dm_41 : tb_41.all (dcB mi_41) = true := by decide +kernel
set_option maxRecDepth 4096 in
theorem wd_41 : WDs mi_41 tb_41 := And.intro fk_4_65 (And.intro fk_4_46 (And.intro fk_4_65 (And.intro fk_4_9 (And.intro fk_4_19 (And.intro (Or.inr (Or.inr ⟨by decide, by decide, mi_51, (RX6, TX6, 9), mk_1_51, rfl, rfl, w_375⟩)) (And.intro fk_4_9 (And.intro fk_4_92 (And.intro fk_4_9 (And.intro fk_4_19 (And.intro (Or.inr (Or.inr ⟨by decide, by decide, mi_51, (RX6, TX6, 9), mk_1_51, rfl, rfl, w_375⟩)) (trivial)))))))))))
theorem sf_41 : ∀ t ∈ mI mi_41, SF mi_41 t := SF_all dm_41 wd_41
theorem hf_41 : HF mi_41 := ⟨(fun _ h => nomatch h), List.Pairwise.nil⟩
theorem dm_42 : tb_42.all (dcB mi_42) = true := by decide +kernel
set_option maxRecDepth 4096 in
theorem wd_42 : WDs mi_42 tb_42 := And.intro (Or.inl ⟨rfl, w_495⟩) (And.intro fk_4_39 (And.intro fk_4_9 (And.intro fk_4_92 (And.intro (Or.inl ⟨rfl, w_495⟩) (And.intro (Or.inr (Or.inr ⟨by decide, by decide, mi_25, (RX4, TX4, 14), mk_1_25, rfl, rfl, w_496⟩)) (And.intro (Or.inl ⟨rfl, w_500⟩) (And.intro (Or.inl ⟨rfl, w_495⟩) (And.intro fk_4_56 (trivial)))))))))
theorem sf_42 : ∀ t ∈ mI mi_42, SF mi_42 t := SF_all dm_42 wd_42
theorem hf_42 : HF mi_42 := ⟨(fun _ h => nomatch h), List.Pairwise.nil⟩
theorem dm_43 : tb_43.all (dcB mi_43) = true := by decide +kernel
set_option maxRecDepth 4096 in
theorem wd_43 : WDs mi_43 tb_43 := And.intro fk_4_39 (And.intro fk_4_9 (And.intro fk_4_92 (And.intro (Or.inr (Or.inr ⟨by decide, by decide, mi_25, (RX4, TX4, 14), mk_1_25, rfl, rfl, w_496⟩)) (And.intro (Or.inr (Or.inr ⟨by decide, by decide, mi_25, (RX4, TX4, 14), mk_1_25, rfl, rfl, w_496⟩)) (And.intro (Or.inr (Or.inr (Or.inr ⟨by decide, by decide, by decide, by decide, mi_191, mk_0_191, w_539⟩))) (And.intro fk_4_89 (And.intro fk_4_9 (And.intro fk_4_72 (And.intro fk_4_15 (And.intro fk_4_39 (And.intro fk_4_9 (And.intro (Or.inr (Or.inr ⟨by decide, by decide, mi_28, (RX4, TX4, 14), mk_1_28, rfl, rfl, w_545⟩)) (And.intro (Or.inr (Or.inr ⟨by decide, by decide, mi_28, (RX4, TX4, 14), mk_1_28, rfl, rfl, w_545⟩)) (And.intro (Or.inr (Or.inr ⟨by decide, by decide, mi_52, (RX6, TX6, 9), mk_1_52, rfl, rfl, w_549⟩)) (And.intro fk_4_9 (And.intro fk_4_72 (And.intro fk_4_9 (And.intro fk_4_72 (trivial)))))))))))))))))))
theorem sf_43 : ∀ t ∈ mI mi_43, SF mi_43 t := SF_all dm_43 wd_43
theorem hf_43 : HF mi_43 := ⟨(fun _ h => nomatch h), List.Pairwise.nil⟩
theorem dm_44 : tb_44.all (dcB mi_44) = true := by decide +kernel
set_option maxRecDepth 4096 in
theorem wd_44 : WDs mi_44 tb_44 := And.intro (Or.inr ⟨by decide, mi_15, mk_2_15, w_762⟩) (And.intro (FP_one fk_5_7 rfl (rr := (RX5, TX5, 4)) rfl rfl (Or.inr ⟨rfl, rfl⟩)) (And.intro (FP_one fk_5_13 rfl (rr := (RX5, TX5, 4)) rfl rfl (Or.inr ⟨rfl, rfl⟩)) (trivial)))
theorem sf_44 : ∀ t ∈ mI mi_44, SF mi_44 t := SF_all dm_44 wd_44
theorem hf_44 : HF mi_44 := ⟨(fun _ h => nomatch h), List.Pairwise.nil⟩
theorem dm_45 : tb_45.all (dcB mi_45) = true := by decide +kernel
set_option maxRecDepth 4096 in
theorem wd_45 : WDs mi_45 tb_45 := And.intro (Or.inr (Or.inr ⟨by decide, by decide, mi_61, (RX7, TX7, 5), mk_1_61, rfl, rfl, w_394⟩)) (And.intro fk_5_7 (And.intro fk_5_13 (And.intro (Or.inr (Or.inr ⟨by decide, by decide, mi_17, (RX4, TX4, 14), mk_1_17, rfl, rfl, w_398⟩)) (trivial))))
theorem sf_45 : ∀ t ∈ mI mi_45, SF mi_45 t := SF_all dm_45 wd_45
theorem hf_45 : HF mi_45 := ⟨(fun _ h => nomatch h), List.Pairwise.nil⟩
theorem dm_46 : tb_46.all (dcB mi_46) = true := by decide +kernel
set_option maxRecDepth 4096 in
theorem wd_46 : WDs mi_46 tb_46 := And.intro (Or.inl ⟨rfl, w_71, w_38, w_39⟩) (And.intro (FP_one fk_6_9 rfl (rr := (RX6, TX6, 9)) rfl rfl (Or.inr ⟨rfl, rfl⟩)) (And.intro (FP_one fk_6_15 rfl (rr := (RX6, TX6, 9)) rfl rfl (Or.inr ⟨rfl, rfl⟩)) (And.intro (FP_one fk_6_18 rfl (rr := (RX6, TX6, 9)) rfl rfl (Or.inr ⟨rfl, rfl⟩)) (And.intro (FP_one fk_6_21 rfl (rr := (RX6, TX6, 9)) rfl rfl (Or.inr ⟨rfl, rfl⟩)) (And.intro (FP_one fk_6_25 rfl (rr := (RX6, TX6, 9)) rfl rfl (Or.inr ⟨rfl, rfl⟩)) (And.intro (Or.inr (Or.inr (Or.inr ⟨by decide, by decide, by decide, by decide, mi_47, mk_0_47, w_72⟩))) (And.intro (FP_one fk_6_33 rfl (rr := (RX6, TX6, 9)) rfl rfl (Or.inr ⟨rfl, rfl⟩)) (And.intro w_109 (And.intro (FP_one fk_6_36 rfl (rr := (RX6, TX6, 9)) rfl rfl (Or.inr ⟨rfl, rfl⟩)) (And.intro w_109 (And.intro (FP_one fk_6_40 rfl (rr := (RX6, TX6, 9)) rfl rfl (Or.inr ⟨rfl, rfl⟩)) (And.intro w_109 (And.intro (FP_one fk_6_43 rfl (rr := (RX6, TX6, 9)) rfl rfl (Or.inr ⟨rfl, rfl⟩)) (And.intro fk_6_36 (And.intro fk_6_40 (And.intro fk_6_43 (And.intro fk_6_43 (trivial))))))))))))))))))
theorem sf_46 : ∀ t ∈ mI mi_46, SF mi_46 t := SF_all dm_46 wd_46
theorem hf_46 : HF mi_46 := ⟨(fun _ h => nomatch h), List.Pairwise.nil⟩
theorem dm_47 : tb_47.all (dcB mi_47) = true := by decide +kernel
set_option maxRecDepth 4096 in
theorem wd_47 : WDs mi_47 tb_47 := trivial
theorem sf_47 : ∀ t ∈ mI mi_47, SF mi_47 t := SF_all dm_47 wd_47
theorem hf_47 : HF mi_47 := ⟨(fun _ h => nomatch h), List.Pairwise.nil⟩
theorem dm_48 : tb_48.all (dcB mi_48) = true := by decide +kernel
set_option maxRecDepth 4096 in
theorem wd_48 : WDs mi_48 tb_48 := And.intro fk_6_36 (trivial)
theorem sf_48 : ∀ t ∈ mI mi_48, SF mi_48 t := SF_all dm_48 wd_48
theorem hf_48 : HF mi_48 := ⟨(fun _ h => nomatch h), List.Pairwise.nil⟩
theorem dm_49 : tb_49.all (dcB mi_49) = true := by decide +kernel
set_option maxRecDepth 4096 in
theorem wd_49 : WDs mi_49 tb_49 := And.intro fk_6_40 (trivial)
theorem sf_49 : ∀ t ∈ mI mi_49, SF mi_49 t := SF_all dm_49 wd_49
theorem hf_49 : HF mi_49 := ⟨(fun _ h => nomatch h), List.Pairwise.nil⟩
theorem dm_50 : tb_50.all (dcB mi_50) = true := by decide +kernel
set_option maxRecDepth 4096 in
theorem wd_50 : WDs mi_50 tb_50 := And.intro fk_6_43 (trivial)
theorem sf_50 : ∀ t ∈ mI mi_50, SF mi_50 t := SF_all dm_50 wd_50
theorem hf_50 : HF mi_50 := ⟨(fun _ h => nomatch h), List.Pairwise.nil⟩
theorem dm_51 : tb_51.all (dcB mi_51) = true := by decide +kernel
set_option maxRecDepth 4096 in
theorem wd_51 : WDs mi_51 tb_51 := And.intro fk_6_33 (And.intro fk_6_36 (And.intro fk_6_40 (trivial)))
theorem sf_51 : ∀ t ∈ mI mi_51, SF mi_51 t := SF_all dm_51 wd_51
theorem hf_51 : HF mi_51 := ⟨(fun _ h => nomatch h), List.Pairwise.nil⟩
theorem dm_52 : tb_52.all (dcB mi_52) = true := by decide +kernel
set_option maxRecDepth 4096 in
theorem wd_52 : WDs mi_52 tb_52 := And.intro (Or.inr (Or.inl ⟨rfl, w_553, w_407, w_16, w_408⟩)) (And.intro (Or.inr (Or.inr (Or.inl ⟨rfl, w_554, w_555, w_16, w_556⟩))) (And.intro fk_6_9 (trivial)))
theorem sf_52 : ∀ t ∈ mI mi_52, SF mi_52 t := SF_all dm_52 wd_52
theorem hf_52 : HF mi_52 := ⟨(fun _ h => nomatch h), List.Pairwise.nil⟩
theorem dm_53 : tb_53.all (dcB mi_53) = true := by decide +kernel
set_option maxRecDepth 4096 in
theorem wd_53 : WDs mi_53 tb_53 := And.intro (Or.inl ⟨rfl, w_115, w_38, w_39⟩) (And.intro (⟨"Dominofs$Game", rfl, Or.inl rfl, w_116⟩) (And.intro (FP_one fk_7_11 rfl (rr := (RX7, TX7, 5)) rfl rfl (Or.inr ⟨rfl, rfl⟩)) (And.intro fk_7_11 (And.intro (Or.inr ⟨by decide, (RX4, TX4, 14), rfl, w_116, w_118, w_7, rfl⟩) (And.intro (Or.inr ⟨by decide, mi_16, mk_2_16, w_119⟩) (And.intro w_109 (And.intro (FP_one fk_7_20 rfl (rr := (RX7, TX7, 5)) rfl rfl (Or.inr ⟨rfl, rfl⟩)) (And.intro fk_7_20 (trivial)))))))))
theorem sf_53 : ∀ t ∈ mI mi_53, SF mi_53 t := SF_all dm_53 wd_53
theorem hf_53 : HF mi_53 := ⟨(fun _ h => nomatch h), List.Pairwise.nil⟩
theorem dm_54 : tb_54.all (dcB mi_54) = true := by decide +kernel
set_option maxRecDepth 4096 in
theorem wd_54 : WDs mi_54 tb_54 := And.intro (FP_one fk_7_24 rfl (rr := (RX7, TX7, 5)) rfl rfl (Or.inl rfl)) (And.intro (FP_one fk_7_28 rfl (rr := (RX7, TX7, 5)) rfl rfl (Or.inl rfl)) (And.intro fk_7_20 (And.intro (FP_one fk_7_31 rfl (rr := (RX7, TX7, 5)) rfl rfl (Or.inl rfl)) (trivial))))
theorem sf_54 : ∀ t ∈ mI mi_54, SF mi_54 t := SF_all dm_54 wd_54
theorem hf_54 : HF mi_54 := ⟨(fun _ h => nomatch h), List.Pairwise.nil⟩
theorem dm_55 : tb_55.all (dcB mi_55) = true := by decide +kernel
set_option maxRecDepth 4096 in
theorem wd_55 : WDs mi_55 tb_55 := And.intro fk_7_24 (And.intro (FP_one fk_7_24 rfl (rr := (RX7, TX7, 5)) rfl rfl (Or.inl rfl)) (And.intro fk_7_28 (And.intro (FP_one fk_7_28 rfl (rr := (RX7, TX7, 5)) rfl rfl (Or.inl rfl)) (And.intro fk_7_28 (And.intro fk_7_11 (And.intro fk_7_11 (And.intro (Or.inr (Or.inr ⟨by decide, by decide, mi_20, (RX4, TX4, 14), mk_1_20, rfl, rfl, w_313⟩)) (And.intro fk_7_20 (And.intro fk_7_20 (And.intro (Or.inl ⟨Or.inl rfl, w_323, w_296, w_295, w_18⟩) (And.intro fk_7_31 (And.intro (FP_one fk_7_31 rfl (rr := (RX7, TX7, 5)) rfl rfl (Or.inl rfl)) (trivial)))))))))))))
theorem sf_55 : ∀ t ∈ mI mi_55, SF mi_55 t := SF_all dm_55 wd_55
theorem hf_55 : HF mi_55 := ⟨(fun _ h => nomatch h), List.Pairwise.nil⟩
theorem dm_56 : tb_56.all (dcB mi_56) = true := by decide +kernel
set_option maxRecDepth 4096 in
theorem wd_56 : WDs mi_56 tb_56 := And.intro fk_7_24 (And.intro fk_7_24 (And.intro fk_7_28 (And.intro fk_7_28 (And.intro fk_7_31 (And.intro fk_7_31 (And.intro fk_7_28 (And.intro fk_7_11 (And.intro fk_7_11 (And.intro (Or.inr (Or.inr ⟨by decide, by decide, mi_21, (RX4, TX4, 14), mk_1_21, rfl, rfl, w_519⟩)) (And.intro fk_7_20 (And.intro fk_7_20 (trivial))))))))))))
theorem sf_56 : ∀ t ∈ mI mi_56, SF mi_56 t := SF_all dm_56 wd_56
theorem hf_56 : HF mi_56 := ⟨(fun _ h => nomatch h), List.Pairwise.nil⟩
theorem dm_57 : tb_57.all (dcB mi_57) = true := by decide +kernel
set_option maxRecDepth 4096 in
theorem wd_57 : WDs mi_57 tb_57 := And.intro fk_7_28 (And.intro fk_7_11 (trivial))
theorem sf_57 : ∀ t ∈ mI mi_57, SF mi_57 t := SF_all dm_57 wd_57
theorem hf_57 : HF mi_57 := ⟨(fun _ h => nomatch h), List.Pairwise.nil⟩
theorem dm_58 : tb_58.all (dcB mi_58) = true := by decide +kernel
set_option maxRecDepth 4096 in
theorem wd_58 : WDs mi_58 tb_58 := And.intro fk_7_20 (trivial)
theorem sf_58 : ∀ t ∈ mI mi_58, SF mi_58 t := SF_all dm_58 wd_58
theorem hf_58 : HF mi_58 := ⟨(fun _ h => nomatch h), List.Pairwise.nil⟩
theorem dm_59 : tb_59.all (dcB mi_59) = true := by decide +kernel
set_option maxRecDepth 4096 in
theorem wd_59 : WDs mi_59 tb_59 := And.intro fk_7_20 (trivial)
theorem sf_59 : ∀ t ∈ mI mi_59, SF mi_59 t := SF_all dm_59 wd_59
theorem hf_59 : HF mi_59 := ⟨(fun _ h => nomatch h), List.Pairwise.nil⟩
theorem dm_60 : tb_60.all (dcB mi_60) = true := by decide +kernel
set_option maxRecDepth 4096 in
theorem wd_60 : WDs mi_60 tb_60 := And.intro fk_7_24 (And.intro (FP_one fk_7_24 rfl (rr := (RX7, TX7, 5)) rfl rfl (Or.inl rfl)) (And.intro (Or.inr (Or.inl ⟨rfl, rfl, do_7_48⟩)) (And.intro fk_7_54 (And.intro (Or.inr (Or.inr ⟨by decide, by decide, mi_57, (RX7, TX7, 5), mk_1_57, rfl, rfl, w_465⟩)) (And.intro (Or.inr (Or.inr ⟨by decide, by decide, mi_24, (RX4, TX4, 14), mk_1_24, rfl, rfl, w_466⟩)) (And.intro (Or.inr (Or.inr ⟨by decide, by decide, mi_63, (RX7, TX7, 5), mk_1_63, rfl, rfl, w_470⟩)) (trivial)))))))
theorem sf_60 : ∀ t ∈ mI mi_60, SF mi_60 t := SF_all dm_60 wd_60
theorem hf_60 : HF mi_60 := ⟨(fun _ h => nomatch h), List.Pairwise.nil⟩
theorem dm_61 : tb_61.all (dcB mi_61) = true := by decide +kernel
set_option maxRecDepth 4096 in
theorem wd_61 : WDs mi_61 tb_61 := And.intro fk_7_28 (And.intro fk_7_28 (And.intro fk_7_28 (And.intro (FP_one fk_7_28 rfl (rr := (RX7, TX7, 5)) rfl rfl (Or.inl rfl)) (And.intro fk_7_11 (And.intro fk_7_28 (trivial))))))
theorem sf_61 : ∀ t ∈ mI mi_61, SF mi_61 t := SF_all dm_61 wd_61
theorem hf_61 : HF mi_61 := ⟨(fun _ h => nomatch h), List.Pairwise.nil⟩
theorem dm_62 : tb_62.all (dcB mi_62) = true := by decide +kernel
set_option maxRecDepth 4096 in
theorem wd_62 : WDs mi_62 tb_62 := And.intro (Or.inr (Or.inr ⟨by decide, by decide, mi_59, (RX7, TX7, 5), mk_1_59, rfl, rfl, w_363⟩)) (And.intro fk_7_72 (And.intro (Or.inr (Or.inr ⟨by decide, by decide, mi_5, (RX0, TX0, 6), mk_1_5, rfl, rfl, w_387⟩)) (trivial)))
theorem sf_62 : ∀ t ∈ mI mi_62, SF mi_62 t := SF_all dm_62 wd_62
theorem hf_62 : HF mi_62 := ⟨(fun _ h => nomatch h), List.Pairwise.nil⟩
theorem dm_63 : tb_63.all (dcB mi_63) = true := by decide +kernel
set_option maxRecDepth 4096 in
theorem wd_63 : WDs mi_63 tb_63 := And.intro fk_7_31 (And.intro fk_7_72 (And.intro fk_7_82 (And.intro (Or.inr (Or.inr ⟨by decide, by decide, mi_8, (RX0, TX0, 6), mk_1_8, rfl, rfl, w_474⟩)) (And.intro (FP_one fk_7_31 rfl (rr := (RX7, TX7, 5)) rfl rfl (Or.inl rfl)) (And.intro (Or.inr (Or.inr ⟨by decide, by decide, mi_65, (RX7, TX7, 5), mk_1_65, rfl, rfl, w_351⟩)) (trivial))))))
theorem sf_63 : ∀ t ∈ mI mi_63, SF mi_63 t := SF_all dm_63 wd_63
theorem hf_63 : HF mi_63 := ⟨(fun _ h => nomatch h), List.Pairwise.nil⟩
theorem dm_64 : tb_64.all (dcB mi_64) = true := by decide +kernel
set_option maxRecDepth 4096 in
theorem wd_64 : WDs mi_64 tb_64 := And.intro fk_7_31 (And.intro fk_7_72 (And.intro (Or.inr (Or.inr ⟨by decide, by decide, mi_9, (RX0, TX0, 6), mk_1_9, rfl, rfl, w_347⟩)) (And.intro (FP_one fk_7_31 rfl (rr := (RX7, TX7, 5)) rfl rfl (Or.inl rfl)) (And.intro (Or.inr (Or.inr ⟨by decide, by decide, mi_65, (RX7, TX7, 5), mk_1_65, rfl, rfl, w_351⟩)) (trivial)))))
theorem sf_64 : ∀ t ∈ mI mi_64, SF mi_64 t := SF_all dm_64 wd_64
theorem hf_64 : HF mi_64 := ⟨(fun _ h => nomatch h), List.Pairwise.nil⟩
theorem dm_65 : tb_65.all (dcB mi_65) = true := by decide +kernel
set_option maxRecDepth 4096 in
theorem wd_65 : WDs mi_65 tb_65 := And.intro fk_7_72 (And.intro fk_7_97 (And.intro fk_7_72 (And.intro (Or.inr (Or.inr ⟨by decide, by decide, mi_6, (RX0, TX0, 6), mk_1_6, rfl, rfl, w_355⟩)) (And.intro fk_7_72 (And.intro (Or.inr (Or.inr ⟨by decide, by decide, mi_7, (RX0, TX0, 6), mk_1_7, rfl, rfl, w_359⟩)) (And.intro (Or.inr (Or.inr ⟨by decide, by decide, mi_59, (RX7, TX7, 5), mk_1_59, rfl, rfl, w_363⟩)) (trivial)))))))
theorem sf_65 : ∀ t ∈ mI mi_65, SF mi_65 t := SF_all dm_65 wd_65
theorem hf_65 : HF mi_65 := ⟨(fun _ h => nomatch h), List.Pairwise.nil⟩
theorem dm_66 : tb_66.all (dcB mi_66) = true := by decide +kernel
set_option maxRecDepth 4096 in
theorem wd_66 : WDs mi_66 tb_66 := And.intro (Or.inr (Or.inr ⟨by decide, by decide, mi_67, (RX7, TX7, 5), mk_1_67, rfl, rfl, w_562⟩)) (trivial)
theorem sf_66 : ∀ t ∈ mI mi_66, SF mi_66 t := SF_all dm_66 wd_66
theorem hf_66 : HF mi_66 := ⟨(fun _ h => nomatch h), List.Pairwise.nil⟩
theorem dm_67 : tb_67.all (dcB mi_67) = true := by decide +kernel
set_option maxRecDepth 4096 in
theorem wd_67 : WDs mi_67 tb_67 := And.intro fk_7_28 (And.intro fk_7_11 (And.intro (Or.inr (Or.inr ⟨by decide, by decide, mi_24, (RX4, TX4, 14), mk_1_24, rfl, rfl, w_466⟩)) (And.intro fk_7_11 (And.intro fk_7_72 (And.intro fk_7_109 (trivial))))))
theorem sf_67 : ∀ t ∈ mI mi_67, SF mi_67 t := SF_all dm_67 wd_67
theorem hf_67 : HF mi_67 := ⟨(fun _ h => nomatch h), List.Pairwise.nil⟩
theorem dm_68 : tb_68.all (dcB mi_68) = true := by decide +kernel
set_option maxRecDepth 4096 in
theorem wd_68 : WDs mi_68 tb_68 := And.intro fk_7_20 (trivial)
theorem sf_68 : ∀ t ∈ mI mi_68, SF mi_68 t := SF_all dm_68 wd_68
theorem hf_68 : HF mi_68 := ⟨(fun _ h => nomatch h), List.Pairwise.nil⟩
theorem dm_69 : tb_69.all (dcB mi_69) = true := by decide +kernel
set_option maxRecDepth 4096 in
theorem wd_69 : WDs mi_69 tb_69 := And.intro (Or.inr (Or.inr ⟨by decide, by decide, mi_68, (RX7, TX7, 5), mk_1_68, rfl, rfl, w_561⟩)) (And.intro fk_7_31 (And.intro (Or.inr (Or.inr ⟨by decide, by decide, mi_67, (RX7, TX7, 5), mk_1_67, rfl, rfl, w_562⟩)) (trivial)))
theorem sf_69 : ∀ t ∈ mI mi_69, SF mi_69 t := SF_all dm_69 wd_69
theorem hf_69 : HF mi_69 := ⟨(fun _ h => nomatch h), List.Pairwise.nil⟩
theorem dm_70 : tb_70.all (dcB mi_70) = true := by decide +kernel
set_option maxRecDepth 4096 in
theorem wd_70 : WDs mi_70 tb_70 := And.intro fk_7_28 (And.intro fk_7_11 (And.intro (Or.inr (Or.inr ⟨by decide, by decide, mi_24, (RX4, TX4, 14), mk_1_24, rfl, rfl, w_466⟩)) (trivial)))
theorem sf_70 : ∀ t ∈ mI mi_70, SF mi_70 t := SF_all dm_70 wd_70
theorem hf_70 : HF mi_70 := ⟨(fun _ h => nomatch h), List.Pairwise.nil⟩
theorem dm_71 : tb_71.all (dcB mi_71) = true := by decide +kernel
set_option maxRecDepth 4096 in
theorem wd_71 : WDs mi_71 tb_71 := And.intro fk_7_28 (And.intro fk_7_11 (And.intro (Or.inr (Or.inr ⟨by decide, by decide, mi_43, (RX4, TX4, 14), mk_1_43, rfl, rfl, w_535⟩)) (trivial)))
theorem sf_71 : ∀ t ∈ mI mi_71, SF mi_71 t := SF_all dm_71 wd_71
theorem hf_71 : HF mi_71 := ⟨(fun _ h => nomatch h), List.Pairwise.nil⟩
theorem dm_72 : tb_72.all (dcB mi_72) = true := by decide +kernel
set_option maxRecDepth 4096 in
theorem wd_72 : WDs mi_72 tb_72 := And.intro (Or.inl ⟨rfl, w_490⟩) (And.intro fk_7_28 (And.intro fk_7_11 (And.intro (Or.inr (Or.inr ⟨by decide, by decide, mi_42, (RX4, TX4, 14), mk_1_42, rfl, rfl, w_491⟩)) (And.intro (Or.inl ⟨rfl, w_501⟩) (And.intro fk_7_20 (And.intro (Or.inl ⟨rfl, w_501⟩) (And.intro fk_7_31 (trivial))))))))
theorem sf_72 : ∀ t ∈ mI mi_72, SF mi_72 t := SF_all dm_72 wd_72
theorem hf_72 : HF mi_72 := ⟨(fun _ h => nomatch h), List.Pairwise.nil⟩
theorem dm_73 : tb_73.all (dcB mi_73) = true := by decide +kernel
set_option maxRecDepth 4096 in
theorem wd_73 : WDs mi_73 tb_73 := And.intro (Or.inr ⟨by decide, mi_15, mk_2_15, w_892⟩) (trivial)
theorem sf_73 : ∀ t ∈ mI mi_73, SF mi_73 t := SF_all dm_73 wd_73
theorem hf_73 : HF mi_73 := ⟨(fun _ h => nomatch h), List.Pairwise.nil⟩
theorem dm_74 : tb_74.all (dcB mi_74) = true := by decide +kernel
set_option maxRecDepth 4096 in
theorem wd_74 : WDs mi_74 tb_74 := And.intro fk_8_7 (And.intro (Or.inr (Or.inr ⟨by decide, by decide, mi_57, (RX7, TX7, 5), mk_1_57, rfl, rfl, w_428⟩)) (And.intro (Or.inr (Or.inr ⟨by decide, by decide, mi_37, (RX4, TX4, 14), mk_1_37, rfl, rfl, w_429⟩)) (trivial)))
theorem sf_74 : ∀ t ∈ mI mi_74, SF mi_74 t := SF_all dm_74 wd_74
theorem hf_74 : HF mi_74 := ⟨(fun _ h => nomatch h), List.Pairwise.nil⟩
theorem dm_75 : tb_75.all (dcB mi_75) = true := by decide +kernel
set_option maxRecDepth 4096 in
theorem wd_75 : WDs mi_75 tb_75 := And.intro (Or.inr ⟨by decide, mi_15, mk_2_15, w_860⟩) (And.intro (FP_one fk_9_7 rfl (rr := (RX9, TX9, 4)) rfl rfl (Or.inr ⟨rfl, rfl⟩)) (And.intro (FP_one fk_9_13 rfl (rr := (RX9, TX9, 4)) rfl rfl (Or.inr ⟨rfl, rfl⟩)) (trivial)))
theorem sf_75 : ∀ t ∈ mI mi_75, SF mi_75 t := SF_all dm_75 wd_75
theorem hf_75 : HF mi_75 := ⟨(fun _ h => nomatch h), List.Pairwise.nil⟩
theorem dm_76 : tb_76.all (dcB mi_76) = true := by decide +kernel
set_option maxRecDepth 4096 in
theorem wd_76 : WDs mi_76 tb_76 := And.intro fk_9_17 (And.intro (Or.inr (Or.inr ⟨by decide, by decide, mi_57, (RX7, TX7, 5), mk_1_57, rfl, rfl, w_436⟩)) (And.intro fk_9_7 (And.intro fk_9_13 (And.intro (Or.inr (Or.inr ⟨by decide, by decide, mi_35, (RX4, TX4, 14), mk_1_35, rfl, rfl, w_437⟩)) (trivial)))))
theorem sf_76 : ∀ t ∈ mI mi_76, SF mi_76 t := SF_all dm_76 wd_76
theorem hf_76 : HF mi_76 := ⟨(fun _ h => nomatch h), List.Pairwise.nil⟩
theorem dm_77 : tb_77.all (dcB mi_77) = true := by decide +kernel
set_option maxRecDepth 4096 in
theorem wd_77 : WDs mi_77 tb_77 := And.intro (Or.inr ⟨by decide, mi_15, mk_2_15, w_909⟩) (trivial)
theorem sf_77 : ∀ t ∈ mI mi_77, SF mi_77 t := SF_all dm_77 wd_77
theorem hf_77 : HF mi_77 := ⟨(fun _ h => nomatch h), List.Pairwise.nil⟩
theorem dm_78 : tb_78.all (dcB mi_78) = true := by decide +kernel
set_option maxRecDepth 4096 in
theorem wd_78 : WDs mi_78 tb_78 := And.intro fk_10_7 (And.intro (Or.inr (Or.inr ⟨by decide, by decide, mi_57, (RX7, TX7, 5), mk_1_57, rfl, rfl, w_460⟩)) (And.intro (Or.inr (Or.inr ⟨by decide, by decide, mi_38, (RX4, TX4, 14), mk_1_38, rfl, rfl, w_461⟩)) (trivial)))
theorem sf_78 : ∀ t ∈ mI mi_78, SF mi_78 t := SF_all dm_78 wd_78
theorem hf_78 : HF mi_78 := ⟨(fun _ h => nomatch h), List.Pairwise.nil⟩
theorem dm_79 : tb_79.all (dcB mi_79) = true := by decide +kernel
set_option maxRecDepth 4096 in
theorem wd_79 : WDs mi_79 tb_79 := And.intro (Or.inl ⟨rfl, w_37, w_38, w_39⟩) (And.intro (Or.inr ⟨by decide, (RJx4a65c, TJx4a65c, 3), rfl, w_40, w_41, w_4, rfl⟩) (And.intro (Or.inr ⟨by decide, mi_196, mk_2_196, w_42⟩) (And.intro (FP_one fk_11_10 rfl (rr := (RX11, TX11, 10)) rfl rfl (Or.inr ⟨rfl, rfl⟩)) (And.intro (Or.inr ⟨by decide, (RJx4a65c, TJx4a65c, 3), rfl, w_40, w_41, w_4, rfl⟩) (And.intro (Or.inr ⟨by decide, mi_196, mk_2_196, w_42⟩) (And.intro (FP_one fk_11_16 rfl (rr := (RX11, TX11, 10)) rfl rfl (Or.inr ⟨rfl, rfl⟩)) (And.intro (Or.inr ⟨by decide, (RJx4a65c, TJx4a65c, 3), rfl, w_40, w_41, w_4, rfl⟩) (And.intro (Or.inr ⟨by decide, mi_196, mk_2_196, w_42⟩) (And.intro (FP_one fk_11_19 rfl (rr := (RX11, TX11, 10)) rfl rfl (Or.inr ⟨rfl, rfl⟩)) (And.intro (Or.inr ⟨by decide, (RX6, TX6, 9), rfl, w_66, w_67, w_5, rfl⟩) (And.intro (Or.inr ⟨by decide, mi_46, mk_2_46, w_68⟩) (And.intro (FP_one fk_11_27 rfl (rr := (RX11, TX11, 10)) rfl rfl (Or.inr ⟨rfl, rfl⟩)) (And.intro (Or.inr ⟨by decide, (RX7, TX7, 5), rfl, w_110, w_111, w_6, rfl⟩) (And.intro fk_11_27 (And.intro (Or.inr ⟨by decide, mi_53, mk_2_53, w_112⟩) (And.intro (FP_one fk_11_36 rfl (rr := (RX11, TX11, 10)) rfl rfl (Or.inr ⟨rfl, rfl⟩)) (And.intro (Or.inr ⟨by decide, (RX7, TX7, 5), rfl, w_110, w_111, w_6, rfl⟩) (And.intro fk_11_27 (And.intro (Or.inr ⟨by decide, mi_53, mk_2_53, w_112⟩) (And.intro (FP_one fk_11_40 rfl (rr := (RX11, TX11, 10)) rfl rfl (Or.inr ⟨rfl, rfl⟩)) (trivial)))))))))))))))))))))
theorem sf_79 : ∀ t ∈ mI mi_79, SF mi_79 t := SF_all dm_79 wd_79
theorem hf_79 : HF mi_79 := ⟨(fun _ h => nomatch h), List.Pairwise.nil⟩
theorem dm_80 : tb_80.all (dcB mi_80) = true := by decide +kernel
set_option maxRecDepth 4096 in
theorem wd_80 : WDs mi_80 tb_80 := And.intro (Or.inl ⟨by decide, 45, 47, 7, "pips or players out of range", Bundle.six, w_575, w_13, List.mem_of_getElem? (i := 0) rfl, by decide +kernel, ⟨by decide +kernel, by decide +kernel, by decide +kernel, by decide +kernel⟩, th_47, by decide +kernel, Or.inl ⟨by decide +kernel, by decide +kernel, by decide +kernel⟩, rfl⟩) (And.intro (Or.inr (Or.inr (Or.inr ⟨by decide, by decide, by decide, by decide, mi_115, mk_0_115, w_645⟩))) (And.intro (Or.inl ⟨by decide, 54, 47, 7, "tiles out of range, or no such ruling", Bundle.six, w_575, w_13, List.mem_of_getElem? (i := 1) rfl, by decide +kernel, ⟨by decide +kernel, by decide +kernel, by decide +kernel, by decide +kernel⟩, th_47, by decide +kernel, Or.inl ⟨by decide +kernel, by decide +kernel, by decide +kernel⟩, rfl⟩) (And.intro (Or.inr (Or.inr (Or.inr ⟨by decide, by decide, by decide, by decide, mi_47, mk_0_47, w_649⟩))) (And.intro (Or.inl ⟨by decide, 60, 47, 7, "the set has not so many tiles", Bundle.six, w_575, w_13, List.mem_of_getElem? (i := 2) rfl, by decide +kernel, ⟨by decide +kernel, by decide +kernel, by decide +kernel, by decide +kernel⟩, th_47, by decide +kernel, Or.inl ⟨by decide +kernel, by decide +kernel, by decide +kernel⟩, rfl⟩) (And.intro fk_11_10 (And.intro (Or.inr (Or.inr ⟨by decide, by decide, mi_199, (RJx4a65c, TJx4a65c, 3), mk_1_199, rfl, rfl, w_264⟩)) (And.intro (Or.inl ⟨by decide, 68, 70, 7, "too many houses", Bundle.six, w_651, w_14, List.mem_of_getElem? (i := 3) rfl, by decide +kernel, ⟨by decide +kernel, by decide +kernel, by decide +kernel, by decide +kernel⟩, th_70, by decide +kernel, Or.inl ⟨by decide +kernel, by decide +kernel, by decide +kernel⟩, rfl⟩) (And.intro fk_11_10 (And.intro (Or.inr ⟨by decide, (RX6, TX6, 9), rfl, w_66, w_67, w_5, rfl⟩) (And.intro (Or.inr ⟨by decide, mi_46, mk_2_46, w_68⟩) (And.intro (Or.inr (Or.inr ⟨by decide, by decide, mi_203, (RJx4a65c, TJx4a65c, 3), mk_1_203, rfl, rfl, w_667⟩)) (And.intro fk_11_10 (And.intro (Or.inr (Or.inr ⟨by decide, by decide, mi_199, (RJx4a65c, TJx4a65c, 3), mk_1_199, rfl, rfl, w_264⟩)) (trivial))))))))))))))
theorem sf_80 : ∀ t ∈ mI mi_80, SF mi_80 t := SF_all dm_80 wd_80
theorem hf_80 : HF mi_80 := ⟨(fun _ h => nomatch h), List.Pairwise.nil⟩
theorem dm_81 : tb_81.all (dcB mi_81) = true := by decide +kernel
set_option maxRecDepth 4096 in
theorem wd_81 : WDs mi_81 tb_81 := And.intro fk_11_10 (And.intro (Or.inr (Or.inr ⟨by decide, by decide, mi_199, (RJx4a65c, TJx4a65c, 3), mk_1_199, rfl, rfl, w_264⟩)) (And.intro (Or.inl ⟨by decide, 77, 79, 7, "no such house", Bundle.six, w_734, w_19, List.mem_of_getElem? (i := 4) rfl, by decide +kernel, ⟨by decide +kernel, by decide +kernel, by decide +kernel, by decide +kernel⟩, th_79, by decide +kernel, Or.inl ⟨by decide +kernel, by decide +kernel, by decide +kernel⟩, rfl⟩) (And.intro (Or.inr ⟨by decide, w_750⟩) (And.intro (Or.inl ⟨by decide, 81, 47, 7, "seed out of range", Bundle.six, w_575, w_13, List.mem_of_getElem? (i := 5) rfl, by decide +kernel, ⟨by decide +kernel, by decide +kernel, by decide +kernel, by decide +kernel⟩, th_47, by decide +kernel, Or.inl ⟨by decide +kernel, by decide +kernel, by decide +kernel⟩, rfl⟩) (And.intro fk_11_36 (And.intro fk_11_83 (And.intro (Or.inr (Or.inr ⟨by decide, by decide, mi_118, (RX11, TX11, 10), mk_1_118, rfl, rfl, w_752⟩)) (And.intro (Or.inl ⟨by decide, 91, 70, 7, "too many games or entries", Bundle.six, w_651, w_14, List.mem_of_getElem? (i := 6) rfl, by decide +kernel, ⟨by decide +kernel, by decide +kernel, by decide +kernel, by decide +kernel⟩, th_70, by decide +kernel, Or.inl ⟨by decide +kernel, by decide +kernel, by decide +kernel⟩, rfl⟩) (And.intro fk_11_36 (And.intro fk_11_83 (And.intro (Or.inr ⟨by decide, (RX5, TX5, 4), rfl, w_757, w_758, w_21, rfl⟩) (And.intro fk_11_10 (And.intro (Or.inr (Or.inr ⟨by decide, by decide, mi_201, (RJx4a65c, TJx4a65c, 3), mk_1_201, rfl, rfl, w_301⟩)) (And.intro (⟨"Dominofs$House", w_66, fun ci rr hs hr => by (have hc : ci = 6 := by (simp only [subc, Bool.or_eq_true] at hs; rcases hs with h | h; exact (Nat.eq_of_beq_eq_true h).symm; exact absurd h (by simp [Nat.beq]))); subst hc; cases hr; exact Or.inl rfl⟩) (And.intro (Or.inr ⟨by decide, mi_44, mk_2_44, w_759⟩) (And.intro (Or.inr (Or.inr ⟨by decide, by decide, mi_121, (RX11, TX11, 10), mk_1_121, rfl, rfl, w_792⟩)) (trivial)))))))))))))))))
theorem sf_81 : ∀ t ∈ mI mi_81, SF mi_81 t := SF_all dm_81 wd_81
theorem hf_81 : HF mi_81 := ⟨(fun _ h => nomatch h), List.Pairwise.nil⟩
theorem dm_82 : tb_82.all (dcB mi_82) = true := by decide +kernel
set_option maxRecDepth 4096 in
theorem wd_82 : WDs mi_82 tb_82 := And.intro (Or.inr (Or.inr ⟨by decide, by decide, mi_116, (RX11, TX11, 10), mk_1_116, rfl, rfl, w_804⟩)) (And.intro fk_11_110 (And.intro fk_11_115 (And.intro (Or.inl ⟨by decide, 117, 47, 7, "no such tile in the set", Bundle.six, w_575, w_13, List.mem_of_getElem? (i := 8) rfl, by decide +kernel, ⟨by decide +kernel, by decide +kernel, by decide +kernel, by decide +kernel⟩, th_47, by decide +kernel, Or.inl ⟨by decide +kernel, by decide +kernel, by decide +kernel⟩, rfl⟩) (And.intro (Or.inr (Or.inr ⟨by decide, by decide, mi_119, (RX11, TX11, 10), mk_1_119, rfl, rfl, w_811⟩)) (And.intro (Or.inr (Or.inr ⟨by decide, by decide, mi_26, (RX4, TX4, 14), mk_1_26, rfl, rfl, w_817⟩)) (And.intro (Or.inr (Or.inr ⟨by decide, by decide, mi_120, (RX11, TX11, 10), mk_1_120, rfl, rfl, w_821⟩)) (And.intro (Or.inl ⟨by decide, 133, 135, 7, "not in the hand", Bundle.six, w_825, w_24, List.mem_of_getElem? (i := 10) rfl, by decide +kernel, ⟨by decide +kernel, by decide +kernel, by decide +kernel, by decide +kernel⟩, th_135, by decide +kernel, Or.inl ⟨by decide +kernel, by decide +kernel, by decide +kernel⟩, rfl⟩) (And.intro (Or.inr (Or.inr ⟨by decide, by decide, mi_29, (RX4, TX4, 14), mk_1_29, rfl, rfl, w_841⟩)) (And.intro (Or.inr (Or.inr ⟨by decide, by decide, mi_27, (RX4, TX4, 14), mk_1_27, rfl, rfl, w_853⟩)) (And.intro (Or.inr (Or.inr ⟨by decide, by decide, mi_120, (RX11, TX11, 10), mk_1_120, rfl, rfl, w_821⟩)) (And.intro (Or.inl ⟨by decide, 144, 135, 7, "does not fit", Bundle.six, w_825, w_24, List.mem_of_getElem? (i := 11) rfl, by decide +kernel, ⟨by decide +kernel, by decide +kernel, by decide +kernel, by decide +kernel⟩, th_135, by decide +kernel, Or.inl ⟨by decide +kernel, by decide +kernel, by decide +kernel⟩, rfl⟩) (And.intro (Or.inr ⟨by decide, (RX9, TX9, 4), rfl, w_855, w_856, w_25, rfl⟩) (And.intro (Or.inr ⟨by decide, mi_75, mk_2_75, w_857⟩) (And.intro (Or.inr (Or.inr ⟨by decide, by decide, mi_121, (RX11, TX11, 10), mk_1_121, rfl, rfl, w_792⟩)) (And.intro (Or.inr (Or.inr ⟨by decide, by decide, mi_24, (RX4, TX4, 14), mk_1_24, rfl, rfl, w_815⟩)) (trivial))))))))))))))))
theorem sf_82 : ∀ t ∈ mI mi_82, SF mi_82 t := SF_all dm_82 wd_82
theorem hf_82 : HF mi_82 := ⟨(fun _ h => nomatch h), List.Pairwise.nil⟩
theorem dm_83 : tb_83.all (dcB mi_83) = true := by decide +kernel
set_option maxRecDepth 4096 in
theorem wd_83 : WDs mi_83 tb_83 := And.intro (Or.inr (Or.inr ⟨by decide, by decide, mi_116, (RX11, TX11, 10), mk_1_116, rfl, rfl, w_804⟩)) (And.intro (Or.inr (Or.inr ⟨by decide, by decide, mi_119, (RX11, TX11, 10), mk_1_119, rfl, rfl, w_811⟩)) (And.intro (Or.inr (Or.inr ⟨by decide, by decide, mi_30, (RX4, TX4, 14), mk_1_30, rfl, rfl, w_877⟩)) (And.intro (Or.inr (Or.inr ⟨by decide, by decide, mi_31, (RX4, TX4, 14), mk_1_31, rfl, rfl, w_881⟩)) (And.intro (Or.inl ⟨by decide, 160, 135, 7, "a tile fits, or none can be drawn", Bundle.six, w_825, w_24, List.mem_of_getElem? (i := 12) rfl, by decide +kernel, ⟨by decide +kernel, by decide +kernel, by decide +kernel, by decide +kernel⟩, th_135, by decide +kernel, Or.inl ⟨by decide +kernel, by decide +kernel, by decide +kernel⟩, rfl⟩) (And.intro (Or.inr (Or.inr ⟨by decide, by decide, mi_32, (RX4, TX4, 14), mk_1_32, rfl, rfl, w_886⟩)) (And.intro (Or.inr ⟨by decide, (RX8, TX8, 2), rfl, w_887, w_888, w_26, rfl⟩) (And.intro (Or.inr ⟨by decide, mi_73, mk_2_73, w_889⟩) (And.intro (Or.inr (Or.inr ⟨by decide, by decide, mi_121, (RX11, TX11, 10), mk_1_121, rfl, rfl, w_792⟩)) (trivial)))))))))
theorem sf_83 : ∀ t ∈ mI mi_83, SF mi_83 t := SF_all dm_83 wd_83
theorem hf_83 : HF mi_83 := ⟨(fun _ h => nomatch h), List.Pairwise.nil⟩
theorem dm_84 : tb_84.all (dcB mi_84) = true := by decide +kernel
set_option maxRecDepth 4096 in
theorem wd_84 : WDs mi_84 tb_84 := And.intro (Or.inr (Or.inr ⟨by decide, by decide, mi_116, (RX11, TX11, 10), mk_1_116, rfl, rfl, w_804⟩)) (And.intro (Or.inr (Or.inr ⟨by decide, by decide, mi_119, (RX11, TX11, 10), mk_1_119, rfl, rfl, w_811⟩)) (And.intro (Or.inr (Or.inr ⟨by decide, by decide, mi_30, (RX4, TX4, 14), mk_1_30, rfl, rfl, w_877⟩)) (And.intro (Or.inr (Or.inr ⟨by decide, by decide, mi_31, (RX4, TX4, 14), mk_1_31, rfl, rfl, w_881⟩)) (And.intro (Or.inl ⟨by decide, 170, 135, 7, "a tile fits, or one can be drawn", Bundle.six, w_825, w_24, List.mem_of_getElem? (i := 13) rfl, by decide +kernel, ⟨by decide +kernel, by decide +kernel, by decide +kernel, by decide +kernel⟩, th_135, by decide +kernel, Or.inl ⟨by decide +kernel, by decide +kernel, by decide +kernel⟩, rfl⟩) (And.intro (Or.inr ⟨by decide, (RX10, TX10, 2), rfl, w_904, w_905, w_27, rfl⟩) (And.intro (Or.inr ⟨by decide, mi_77, mk_2_77, w_906⟩) (And.intro (Or.inr (Or.inr ⟨by decide, by decide, mi_121, (RX11, TX11, 10), mk_1_121, rfl, rfl, w_792⟩)) (And.intro (Or.inr (Or.inr ⟨by decide, by decide, mi_24, (RX4, TX4, 14), mk_1_24, rfl, rfl, w_815⟩)) (trivial)))))))))
theorem sf_84 : ∀ t ∈ mI mi_84, SF mi_84 t := SF_all dm_84 wd_84
theorem hf_84 : HF mi_84 := ⟨(fun _ h => nomatch h), List.Pairwise.nil⟩
theorem dm_85 : tb_85.all (dcB mi_85) = true := by decide +kernel
set_option maxRecDepth 4096 in
theorem wd_85 : WDs mi_85 tb_85 := And.intro (Or.inr (Or.inr ⟨by decide, by decide, mi_116, (RX11, TX11, 10), mk_1_116, rfl, rfl, w_804⟩)) (And.intro (Or.inr (Or.inr ⟨by decide, by decide, mi_24, (RX4, TX4, 14), mk_1_24, rfl, rfl, w_815⟩)) (And.intro (Or.inl ⟨by decide, 175, 70, 7, "the game is over", Bundle.six, w_651, w_14, List.mem_of_getElem? (i := 14) rfl, by decide +kernel, ⟨by decide +kernel, by decide +kernel, by decide +kernel, by decide +kernel⟩, th_70, by decide +kernel, Or.inl ⟨by decide +kernel, by decide +kernel, by decide +kernel⟩, rfl⟩) (And.intro fk_11_177 (trivial))))
theorem sf_85 : ∀ t ∈ mI mi_85, SF mi_85 t := SF_all dm_85 wd_85
theorem hf_85 : HF mi_85 := ⟨(fun _ h => nomatch h), List.Pairwise.nil⟩
theorem dm_86 : tb_86.all (dcB mi_86) = true := by decide +kernel
set_option maxRecDepth 4096 in
theorem wd_86 : WDs mi_86 tb_86 := And.intro (Or.inr (Or.inr ⟨by decide, by decide, mi_116, (RX11, TX11, 10), mk_1_116, rfl, rfl, w_804⟩)) (And.intro (Or.inr (Or.inr ⟨by decide, by decide, mi_23, (RX4, TX4, 14), mk_1_23, rfl, rfl, w_928⟩)) (And.intro (Or.inl ⟨by decide, 183, 79, 7, "no such player", Bundle.six, w_734, w_19, List.mem_of_getElem? (i := 15) rfl, by decide +kernel, ⟨by decide +kernel, by decide +kernel, by decide +kernel, by decide +kernel⟩, th_79, by decide +kernel, Or.inl ⟨by decide +kernel, by decide +kernel, by decide +kernel⟩, rfl⟩) (And.intro (Or.inr (Or.inr ⟨by decide, by decide, mi_25, (RX4, TX4, 14), mk_1_25, rfl, rfl, w_933⟩)) (trivial))))
theorem sf_86 : ∀ t ∈ mI mi_86, SF mi_86 t := SF_all dm_86 wd_86
theorem hf_86 : HF mi_86 := ⟨(fun _ h => nomatch h), List.Pairwise.nil⟩
theorem dm_87 : tb_87.all (dcB mi_87) = true := by decide +kernel
set_option maxRecDepth 4096 in
theorem wd_87 : WDs mi_87 tb_87 := And.intro (Or.inr (Or.inr ⟨by decide, by decide, mi_116, (RX11, TX11, 10), mk_1_116, rfl, rfl, w_804⟩)) (And.intro fk_11_110 (And.intro fk_11_115 (And.intro fk_11_188 (trivial))))
theorem sf_87 : ∀ t ∈ mI mi_87, SF mi_87 t := SF_all dm_87 wd_87
theorem hf_87 : HF mi_87 := ⟨(fun _ h => nomatch h), List.Pairwise.nil⟩
theorem dm_88 : tb_88.all (dcB mi_88) = true := by decide +kernel
set_option maxRecDepth 4096 in
theorem wd_88 : WDs mi_88 tb_88 := And.intro (Or.inr (Or.inr ⟨by decide, by decide, mi_116, (RX11, TX11, 10), mk_1_116, rfl, rfl, w_804⟩)) (And.intro fk_11_191 (And.intro (Or.inl ⟨by decide, 196, 198, 13, "no tile lies", nse6, w_949, w_28, List.mem_of_getElem? (i := 16) rfl, by decide +kernel, ⟨by decide +kernel, by decide +kernel, by decide +kernel, by decide +kernel⟩, th_198, by decide +kernel, Or.inl ⟨by decide +kernel, by decide +kernel, by decide +kernel⟩, rfl⟩) (And.intro (Or.inr (Or.inr ⟨by decide, by decide, mi_27, (RX4, TX4, 14), mk_1_27, rfl, rfl, w_853⟩)) (trivial))))
theorem sf_88 : ∀ t ∈ mI mi_88, SF mi_88 t := SF_all dm_88 wd_88
theorem hf_88 : HF mi_88 := ⟨(fun _ h => nomatch h), List.Pairwise.nil⟩
theorem dm_89 : tb_89.all (dcB mi_89) = true := by decide +kernel
set_option maxRecDepth 4096 in
theorem wd_89 : WDs mi_89 tb_89 := And.intro (Or.inr (Or.inr ⟨by decide, by decide, mi_116, (RX11, TX11, 10), mk_1_116, rfl, rfl, w_804⟩)) (And.intro fk_11_191 (trivial))
theorem sf_89 : ∀ t ∈ mI mi_89, SF mi_89 t := SF_all dm_89 wd_89
theorem hf_89 : HF mi_89 := ⟨(fun _ h => nomatch h), List.Pairwise.nil⟩
theorem dm_90 : tb_90.all (dcB mi_90) = true := by decide +kernel
set_option maxRecDepth 4096 in
theorem wd_90 : WDs mi_90 tb_90 := And.intro (Or.inr (Or.inr ⟨by decide, by decide, mi_116, (RX11, TX11, 10), mk_1_116, rfl, rfl, w_804⟩)) (And.intro fk_11_191 (And.intro (Or.inl ⟨by decide, 199, 198, 13, "no such sign", nse6, w_949, w_28, List.mem_of_getElem? (i := 17) rfl, by decide +kernel, ⟨by decide +kernel, by decide +kernel, by decide +kernel, by decide +kernel⟩, th_198, by decide +kernel, Or.inl ⟨by decide +kernel, by decide +kernel, by decide +kernel⟩, rfl⟩) (And.intro (Or.inr (Or.inr ⟨by decide, by decide, mi_33, (RX4, TX4, 14), mk_1_33, rfl, rfl, w_980⟩)) (trivial))))
theorem sf_90 : ∀ t ∈ mI mi_90, SF mi_90 t := SF_all dm_90 wd_90
theorem hf_90 : HF mi_90 := ⟨(fun _ h => nomatch h), List.Pairwise.nil⟩
theorem dm_91 : tb_91.all (dcB mi_91) = true := by decide +kernel
set_option maxRecDepth 4096 in
theorem wd_91 : WDs mi_91 tb_91 := And.intro (Or.inr (Or.inr ⟨by decide, by decide, mi_116, (RX11, TX11, 10), mk_1_116, rfl, rfl, w_804⟩)) (And.intro (Or.inr (Or.inr ⟨by decide, by decide, mi_24, (RX4, TX4, 14), mk_1_24, rfl, rfl, w_815⟩)) (trivial))
theorem sf_91 : ∀ t ∈ mI mi_91, SF mi_91 t := SF_all dm_91 wd_91
theorem hf_91 : HF mi_91 := ⟨(fun _ h => nomatch h), List.Pairwise.nil⟩
theorem dm_92 : tb_92.all (dcB mi_92) = true := by decide +kernel
set_option maxRecDepth 4096 in
theorem wd_92 : WDs mi_92 tb_92 := And.intro (Or.inr (Or.inr ⟨by decide, by decide, mi_116, (RX11, TX11, 10), mk_1_116, rfl, rfl, w_804⟩)) (And.intro fk_11_205 (trivial))
theorem sf_92 : ∀ t ∈ mI mi_92, SF mi_92 t := SF_all dm_92 wd_92
theorem hf_92 : HF mi_92 := ⟨(fun _ h => nomatch h), List.Pairwise.nil⟩
theorem dm_93 : tb_93.all (dcB mi_93) = true := by decide +kernel
set_option maxRecDepth 4096 in
theorem wd_93 : WDs mi_93 tb_93 := And.intro (Or.inr (Or.inr ⟨by decide, by decide, mi_116, (RX11, TX11, 10), mk_1_116, rfl, rfl, w_804⟩)) (And.intro (Or.inr (Or.inr ⟨by decide, by decide, mi_24, (RX4, TX4, 14), mk_1_24, rfl, rfl, w_815⟩)) (And.intro (Or.inl ⟨by decide, 209, 198, 13, "the game is not over", nse6, w_949, w_28, List.mem_of_getElem? (i := 18) rfl, by decide +kernel, ⟨by decide +kernel, by decide +kernel, by decide +kernel, by decide +kernel⟩, th_198, by decide +kernel, Or.inl ⟨by decide +kernel, by decide +kernel, by decide +kernel⟩, rfl⟩) (And.intro fk_11_211 (trivial))))
theorem sf_93 : ∀ t ∈ mI mi_93, SF mi_93 t := SF_all dm_93 wd_93
theorem hf_93 : HF mi_93 := ⟨(fun _ h => nomatch h), List.Pairwise.nil⟩
theorem dm_94 : tb_94.all (dcB mi_94) = true := by decide +kernel
set_option maxRecDepth 4096 in
theorem wd_94 : WDs mi_94 tb_94 := And.intro fk_11_214 (And.intro fk_11_217 (And.intro fk_11_214 (And.intro fk_11_217 (And.intro fk_11_220 (And.intro (Or.inl ⟨by decide, 223, 198, 13, "none was refused, or no cause so deep", nse6, w_949, w_28, List.mem_of_getElem? (i := 19) rfl, by decide +kernel, ⟨by decide +kernel, by decide +kernel, by decide +kernel, by decide +kernel⟩, th_198, by decide +kernel, Or.inl ⟨by decide +kernel, by decide +kernel, by decide +kernel⟩, rfl⟩) (trivial))))))
theorem sf_94 : ∀ t ∈ mI mi_94, SF mi_94 t := SF_all dm_94 wd_94
theorem hf_94 : HF mi_94 := ⟨(fun _ h => nomatch h), List.Pairwise.nil⟩
theorem dm_95 : tb_95.all (dcB mi_95) = true := by decide +kernel
set_option maxRecDepth 4096 in
theorem wd_95 : WDs mi_95 tb_95 := And.intro (Or.inl ⟨by decide, 225, 79, 7, "no such better", Bundle.six, w_734, w_19, List.mem_of_getElem? (i := 20) rfl, by decide +kernel, ⟨by decide +kernel, by decide +kernel, by decide +kernel, by decide +kernel⟩, th_79, by decide +kernel, Or.inl ⟨by decide +kernel, by decide +kernel, by decide +kernel⟩, rfl⟩) (And.intro (Or.inr (Or.inr ⟨by decide, by decide, mi_116, (RX11, TX11, 10), mk_1_116, rfl, rfl, w_804⟩)) (And.intro (Or.inr (Or.inr ⟨by decide, by decide, mi_23, (RX4, TX4, 14), mk_1_23, rfl, rfl, w_928⟩)) (And.intro (Or.inl ⟨by decide, 183, 79, 7, "no such player", Bundle.six, w_734, w_19, List.mem_of_getElem? (i := 15) rfl, by decide +kernel, ⟨by decide +kernel, by decide +kernel, by decide +kernel, by decide +kernel⟩, th_79, by decide +kernel, Or.inl ⟨by decide +kernel, by decide +kernel, by decide +kernel⟩, rfl⟩) (And.intro fk_11_36 (And.intro (Or.inr (Or.inr ⟨by decide, by decide, mi_58, (RX7, TX7, 5), mk_1_58, rfl, rfl, w_1026⟩)) (And.intro (Or.inl ⟨by decide, 230, 47, 7, "too few or too many coins", Bundle.six, w_575, w_13, List.mem_of_getElem? (i := 21) rfl, by decide +kernel, ⟨by decide +kernel, by decide +kernel, by decide +kernel, by decide +kernel⟩, th_47, by decide +kernel, Or.inl ⟨by decide +kernel, by decide +kernel, by decide +kernel⟩, rfl⟩) (And.intro (Or.inr (Or.inr ⟨by decide, by decide, mi_119, (RX11, TX11, 10), mk_1_119, rfl, rfl, w_811⟩)) (And.intro fk_11_232 (And.intro fk_11_236 (And.intro (Or.inl ⟨by decide, 241, 70, 7, "too many bets", Bundle.six, w_651, w_14, List.mem_of_getElem? (i := 22) rfl, by decide +kernel, ⟨by decide +kernel, by decide +kernel, by decide +kernel, by decide +kernel⟩, th_70, by decide +kernel, Or.inl ⟨by decide +kernel, by decide +kernel, by decide +kernel⟩, rfl⟩) (And.intro (Or.inr ⟨by decide, (RX2, TX2, 5), rfl, w_1032, w_1033, w_29, rfl⟩) (And.intro (Or.inr ⟨by decide, mi_13, mk_2_13, w_1034⟩) (And.intro (Or.inr (Or.inr ⟨by decide, by decide, mi_121, (RX11, TX11, 10), mk_1_121, rfl, rfl, w_792⟩)) (And.intro fk_11_232 (And.intro fk_11_248 (trivial))))))))))))))))
theorem sf_95 : ∀ t ∈ mI mi_95, SF mi_95 t := SF_all dm_95 wd_95
theorem hf_95 : HF mi_95 := ⟨(fun _ h => nomatch h), List.Pairwise.nil⟩
theorem dm_96 : tb_96.all (dcB mi_96) = true := by decide +kernel
set_option maxRecDepth 4096 in
theorem wd_96 : WDs mi_96 tb_96 := And.intro (Or.inl ⟨by decide, 225, 79, 7, "no such better", Bundle.six, w_734, w_19, List.mem_of_getElem? (i := 20) rfl, by decide +kernel, ⟨by decide +kernel, by decide +kernel, by decide +kernel, by decide +kernel⟩, th_79, by decide +kernel, Or.inl ⟨by decide +kernel, by decide +kernel, by decide +kernel⟩, rfl⟩) (And.intro fk_11_36 (And.intro (Or.inr (Or.inr ⟨by decide, by decide, mi_58, (RX7, TX7, 5), mk_1_58, rfl, rfl, w_1026⟩)) (trivial)))
theorem sf_96 : ∀ t ∈ mI mi_96, SF mi_96 t := SF_all dm_96 wd_96
theorem hf_96 : HF mi_96 := ⟨(fun _ h => nomatch h), List.Pairwise.nil⟩
theorem dm_97 : tb_97.all (dcB mi_97) = true := by decide +kernel
set_option maxRecDepth 4096 in
theorem wd_97 : WDs mi_97 tb_97 := And.intro (Or.inr (Or.inr ⟨by decide, by decide, mi_116, (RX11, TX11, 10), mk_1_116, rfl, rfl, w_804⟩)) (And.intro fk_11_232 (And.intro fk_11_248 (trivial)))
theorem sf_97 : ∀ t ∈ mI mi_97, SF mi_97 t := SF_all dm_97 wd_97
theorem hf_97 : HF mi_97 := ⟨(fun _ h => nomatch h), List.Pairwise.nil⟩
theorem dm_98 : tb_98.all (dcB mi_98) = true := by decide +kernel
set_option maxRecDepth 4096 in
theorem wd_98 : WDs mi_98 tb_98 := And.intro (Or.inr (Or.inr ⟨by decide, by decide, mi_116, (RX11, TX11, 10), mk_1_116, rfl, rfl, w_804⟩)) (And.intro fk_11_232 (And.intro fk_11_236 (And.intro (Or.inl ⟨by decide, 251, 79, 7, "no such bet", Bundle.six, w_734, w_19, List.mem_of_getElem? (i := 23) rfl, by decide +kernel, ⟨by decide +kernel, by decide +kernel, by decide +kernel, by decide +kernel⟩, th_79, by decide +kernel, Or.inl ⟨by decide +kernel, by decide +kernel, by decide +kernel⟩, rfl⟩) (And.intro fk_11_232 (And.intro (Or.inr (Or.inr ⟨by decide, by decide, mi_7, (RX0, TX0, 6), mk_1_7, rfl, rfl, w_1072⟩)) (trivial))))))
theorem sf_98 : ∀ t ∈ mI mi_98, SF mi_98 t := SF_all dm_98 wd_98
theorem hf_98 : HF mi_98 := ⟨(fun _ h => nomatch h), List.Pairwise.nil⟩
theorem dm_99 : tb_99.all (dcB mi_99) = true := by decide +kernel
set_option maxRecDepth 4096 in
theorem wd_99 : WDs mi_99 tb_99 := And.intro fk_11_36 (And.intro fk_11_256 (trivial))
theorem sf_99 : ∀ t ∈ mI mi_99, SF mi_99 t := SF_all dm_99 wd_99
theorem hf_99 : HF mi_99 := ⟨(fun _ h => nomatch h), List.Pairwise.nil⟩
theorem dm_100 : tb_100.all (dcB mi_100) = true := by decide +kernel
set_option maxRecDepth 4096 in
theorem wd_100 : WDs mi_100 tb_100 := And.intro (Or.inr (Or.inr ⟨by decide, by decide, mi_116, (RX11, TX11, 10), mk_1_116, rfl, rfl, w_804⟩)) (And.intro (Or.inr (Or.inr (Or.inr ⟨by decide, by decide, by decide, by decide, mi_115, mk_0_115, w_645⟩))) (And.intro (Or.inl ⟨by decide, 259, 47, 7, "no such ruling", Bundle.six, w_575, w_13, List.mem_of_getElem? (i := 24) rfl, by decide +kernel, ⟨by decide +kernel, by decide +kernel, by decide +kernel, by decide +kernel⟩, th_47, by decide +kernel, Or.inr ⟨by decide +kernel, by decide +kernel, by decide +kernel⟩, rfl⟩) (And.intro fk_11_205 (And.intro fk_11_261 (And.intro fk_11_265 (And.intro (Or.inl ⟨by decide, 268, 135, 7, "not blocked, in force already, or too many appeals", Bundle.six, w_825, w_24, List.mem_of_getElem? (i := 25) rfl, by decide +kernel, ⟨by decide +kernel, by decide +kernel, by decide +kernel, by decide +kernel⟩, th_135, by decide +kernel, Or.inr ⟨by decide +kernel, by decide +kernel, by decide +kernel⟩, rfl⟩) (And.intro (Or.inr (Or.inr ⟨by decide, by decide, mi_122, (RX11, TX11, 10), mk_1_122, rfl, rfl, w_1082⟩)) (And.intro (Or.inr (Or.inr ⟨by decide, by decide, mi_118, (RX11, TX11, 10), mk_1_118, rfl, rfl, w_752⟩)) (And.intro (Or.inl ⟨by decide, 273, 70, 7, "a checkpoint since its end, or too many entries", Bundle.six, w_651, w_14, List.mem_of_getElem? (i := 26) rfl, by decide +kernel, ⟨by decide +kernel, by decide +kernel, by decide +kernel, by decide +kernel⟩, th_70, by decide +kernel, Or.inr ⟨by decide +kernel, by decide +kernel, by decide +kernel⟩, rfl⟩) (And.intro (Or.inr ⟨by decide, (RX1, TX1, 3), rfl, w_1087, w_1088, w_30, rfl⟩) (And.intro (Or.inr ⟨by decide, mi_11, mk_2_11, w_1089⟩) (And.intro (Or.inr (Or.inr ⟨by decide, by decide, mi_121, (RX11, TX11, 10), mk_1_121, rfl, rfl, w_792⟩)) (And.intro fk_11_211 (trivial))))))))))))))
theorem sf_100 : ∀ t ∈ mI mi_100, SF mi_100 t := SF_all dm_100 wd_100
theorem hf_100 : HF mi_100 := ⟨(fun _ h => nomatch h), List.Pairwise.nil⟩
theorem dm_101 : tb_101.all (dcB mi_101) = true := by decide +kernel
set_option maxRecDepth 4096 in
theorem wd_101 : WDs mi_101 tb_101 := And.intro (Or.inr (Or.inr ⟨by decide, by decide, mi_116, (RX11, TX11, 10), mk_1_116, rfl, rfl, w_804⟩)) (And.intro fk_11_261 (trivial))
theorem sf_101 : ∀ t ∈ mI mi_101, SF mi_101 t := SF_all dm_101 wd_101
theorem hf_101 : HF mi_101 := ⟨(fun _ h => nomatch h), List.Pairwise.nil⟩
theorem dm_102 : tb_102.all (dcB mi_102) = true := by decide +kernel
set_option maxRecDepth 4096 in
theorem wd_102 : WDs mi_102 tb_102 := And.intro fk_11_16 (And.intro (Or.inr (Or.inr ⟨by decide, by decide, mi_199, (RJx4a65c, TJx4a65c, 3), mk_1_199, rfl, rfl, w_264⟩)) (trivial))
theorem sf_102 : ∀ t ∈ mI mi_102, SF mi_102 t := SF_all dm_102 wd_102
theorem hf_102 : HF mi_102 := ⟨(fun _ h => nomatch h), List.Pairwise.nil⟩
theorem dm_103 : tb_103.all (dcB mi_103) = true := by decide +kernel
set_option maxRecDepth 4096 in
theorem wd_103 : WDs mi_103 tb_103 := And.intro fk_11_16 (And.intro (Or.inr (Or.inr ⟨by decide, by decide, mi_199, (RJx4a65c, TJx4a65c, 3), mk_1_199, rfl, rfl, w_264⟩)) (And.intro fk_11_280 (trivial)))
theorem sf_103 : ∀ t ∈ mI mi_103, SF mi_103 t := SF_all dm_103 wd_103
theorem hf_103 : HF mi_103 := ⟨(fun _ h => nomatch h), List.Pairwise.nil⟩
theorem dm_104 : tb_104.all (dcB mi_104) = true := by decide +kernel
set_option maxRecDepth 4096 in
theorem wd_104 : WDs mi_104 tb_104 := And.intro (Or.inr (Or.inr ⟨by decide, by decide, mi_117, (RX11, TX11, 10), mk_1_117, rfl, rfl, w_1113⟩)) (And.intro fk_11_287 (trivial))
theorem sf_104 : ∀ t ∈ mI mi_104, SF mi_104 t := SF_all dm_104 wd_104
theorem hf_104 : HF mi_104 := ⟨(fun _ h => nomatch h), List.Pairwise.nil⟩
theorem dm_105 : tb_105.all (dcB mi_105) = true := by decide +kernel
set_option maxRecDepth 4096 in
theorem wd_105 : WDs mi_105 tb_105 := And.intro (Or.inr (Or.inr ⟨by decide, by decide, mi_117, (RX11, TX11, 10), mk_1_117, rfl, rfl, w_1113⟩)) (And.intro fk_11_292 (trivial))
theorem sf_105 : ∀ t ∈ mI mi_105, SF mi_105 t := SF_all dm_105 wd_105
theorem hf_105 : HF mi_105 := ⟨(fun _ h => nomatch h), List.Pairwise.nil⟩
theorem dm_106 : tb_106.all (dcB mi_106) = true := by decide +kernel
set_option maxRecDepth 4096 in
theorem wd_106 : WDs mi_106 tb_106 := And.intro fk_11_16 (And.intro (Or.inr (Or.inr ⟨by decide, by decide, mi_199, (RJx4a65c, TJx4a65c, 3), mk_1_199, rfl, rfl, w_264⟩)) (And.intro fk_11_280 (And.intro fk_11_16 (And.intro (Or.inr (Or.inr ⟨by decide, by decide, mi_199, (RJx4a65c, TJx4a65c, 3), mk_1_199, rfl, rfl, w_264⟩)) (And.intro (FP_one fk_11_280 rfl (rr := (RX11, TX11, 10)) rfl rfl (Or.inl rfl)) (trivial))))))
theorem sf_106 : ∀ t ∈ mI mi_106, SF mi_106 t := SF_all dm_106 wd_106
theorem hf_106 : HF mi_106 := ⟨(fun _ h => nomatch h), List.Pairwise.nil⟩
theorem dm_107 : tb_107.all (dcB mi_107) = true := by decide +kernel
set_option maxRecDepth 4096 in
theorem wd_107 : WDs mi_107 tb_107 := And.intro fk_11_16 (And.intro (Or.inr (Or.inr ⟨by decide, by decide, mi_199, (RJx4a65c, TJx4a65c, 3), mk_1_199, rfl, rfl, w_264⟩)) (And.intro fk_11_280 (And.intro fk_11_16 (And.intro (Or.inr (Or.inr ⟨by decide, by decide, mi_199, (RJx4a65c, TJx4a65c, 3), mk_1_199, rfl, rfl, w_264⟩)) (And.intro fk_11_280 (And.intro fk_11_16 (And.intro (Or.inr (Or.inr ⟨by decide, by decide, mi_204, (RJx4a65c, TJx4a65c, 3), mk_1_204, rfl, rfl, w_280⟩)) (And.intro fk_11_36 (And.intro (Or.inr (Or.inr ⟨by decide, by decide, mi_123, (RX11, TX11, 10), mk_1_123, rfl, rfl, w_297⟩)) (trivial))))))))))
theorem sf_107 : ∀ t ∈ mI mi_107, SF mi_107 t := SF_all dm_107 wd_107
theorem hf_107 : HF mi_107 := ⟨(fun _ h => nomatch h), List.Pairwise.nil⟩
theorem dm_108 : tb_108.all (dcB mi_108) = true := by decide +kernel
set_option maxRecDepth 4096 in
theorem wd_108 : WDs mi_108 tb_108 := And.intro fk_11_36 (And.intro (Or.inr (Or.inr ⟨by decide, by decide, mi_66, (RX7, TX7, 5), mk_1_66, rfl, rfl, w_1132⟩)) (And.intro (Or.inl ⟨by decide, 305, 135, 7, "bets on a game that is not over", Bundle.six, w_825, w_24, List.mem_of_getElem? (i := 28) rfl, by decide +kernel, ⟨by decide +kernel, by decide +kernel, by decide +kernel, by decide +kernel⟩, th_135, by decide +kernel, Or.inr ⟨by decide +kernel, by decide +kernel, by decide +kernel⟩, rfl⟩) (And.intro fk_11_19 (And.intro (Or.inr (Or.inr ⟨by decide, by decide, mi_199, (RJx4a65c, TJx4a65c, 3), mk_1_199, rfl, rfl, w_264⟩)) (And.intro (Or.inl ⟨by decide, 307, 70, 7, "too many checkpoints", Bundle.six, w_651, w_14, List.mem_of_getElem? (i := 29) rfl, by decide +kernel, ⟨by decide +kernel, by decide +kernel, by decide +kernel, by decide +kernel⟩, th_70, by decide +kernel, Or.inr ⟨by decide +kernel, by decide +kernel, by decide +kernel⟩, rfl⟩) (And.intro fk_11_16 (And.intro (Or.inr (Or.inr ⟨by decide, by decide, mi_199, (RJx4a65c, TJx4a65c, 3), mk_1_199, rfl, rfl, w_264⟩)) (And.intro (FP_one fk_11_280 rfl (rr := (RX11, TX11, 10)) rfl rfl (Or.inl rfl)) (And.intro (Or.inr ⟨by decide, (RX7, TX7, 5), rfl, w_110, w_111, w_6, rfl⟩) (And.intro fk_11_27 (And.intro (Or.inr ⟨by decide, mi_53, mk_2_53, w_112⟩) (And.intro fk_11_36 (And.intro (Or.inr (Or.inr ⟨by decide, by decide, mi_55, (RX7, TX7, 5), mk_1_55, rfl, rfl, w_309⟩)) (And.intro fk_11_19 (And.intro (Or.inr (Or.inr ⟨by decide, by decide, mi_203, (RJx4a65c, TJx4a65c, 3), mk_1_203, rfl, rfl, w_667⟩)) (And.intro fk_11_19 (And.intro (Or.inr (Or.inr ⟨by decide, by decide, mi_199, (RJx4a65c, TJx4a65c, 3), mk_1_199, rfl, rfl, w_264⟩)) (trivial))))))))))))))))))
theorem sf_108 : ∀ t ∈ mI mi_108, SF mi_108 t := SF_all dm_108 wd_108
theorem hf_108 : HF mi_108 := ⟨(fun _ h => nomatch h), List.Pairwise.nil⟩
theorem dm_109 : tb_109.all (dcB mi_109) = true := by decide +kernel
set_option maxRecDepth 4096 in
theorem wd_109 : WDs mi_109 tb_109 := And.intro fk_11_19 (And.intro (Or.inr (Or.inr ⟨by decide, by decide, mi_199, (RJx4a65c, TJx4a65c, 3), mk_1_199, rfl, rfl, w_264⟩)) (And.intro (Or.inl ⟨by decide, 313, 79, 7, "no such checkpoint", Bundle.six, w_734, w_19, List.mem_of_getElem? (i := 30) rfl, by decide +kernel, ⟨by decide +kernel, by decide +kernel, by decide +kernel, by decide +kernel⟩, th_79, by decide +kernel, Or.inr ⟨by decide +kernel, by decide +kernel, by decide +kernel⟩, rfl⟩) (And.intro fk_11_16 (And.intro (Or.inr (Or.inr ⟨by decide, by decide, mi_199, (RJx4a65c, TJx4a65c, 3), mk_1_199, rfl, rfl, w_264⟩)) (And.intro fk_11_19 (And.intro (Or.inr (Or.inr ⟨by decide, by decide, mi_201, (RJx4a65c, TJx4a65c, 3), mk_1_201, rfl, rfl, w_301⟩)) (And.intro (⟨"Dominofs$Table", w_110, fun ci rr hs hr => by (have hc : ci = 7 := by (simp only [subc, Bool.or_eq_true] at hs; rcases hs with h | h; exact (Nat.eq_of_beq_eq_true h).symm; exact absurd h (by simp [Nat.beq]))); subst hc; cases hr; exact Or.inl rfl⟩) (And.intro fk_11_315 (trivial)))))))))
theorem sf_109 : ∀ t ∈ mI mi_109, SF mi_109 t := SF_all dm_109 wd_109
theorem hf_109 : HF mi_109 := ⟨(fun _ h => nomatch h), List.Pairwise.nil⟩
theorem dm_110 : tb_110.all (dcB mi_110) = true := by decide +kernel
set_option maxRecDepth 4096 in
theorem wd_110 : WDs mi_110 tb_110 := And.intro fk_11_19 (And.intro (Or.inr (Or.inr ⟨by decide, by decide, mi_199, (RJx4a65c, TJx4a65c, 3), mk_1_199, rfl, rfl, w_264⟩)) (And.intro (Or.inl ⟨by decide, 313, 79, 7, "no such checkpoint", Bundle.six, w_734, w_19, List.mem_of_getElem? (i := 30) rfl, by decide +kernel, ⟨by decide +kernel, by decide +kernel, by decide +kernel, by decide +kernel⟩, th_79, by decide +kernel, Or.inr ⟨by decide +kernel, by decide +kernel, by decide +kernel⟩, rfl⟩) (And.intro fk_11_40 (And.intro (Or.inr (Or.inr ⟨by decide, by decide, mi_123, (RX11, TX11, 10), mk_1_123, rfl, rfl, w_297⟩)) (And.intro fk_11_40 (And.intro (Or.inr (Or.inr ⟨by decide, by decide, mi_72, (RX7, TX7, 5), mk_1_72, rfl, rfl, w_486⟩)) (trivial)))))))
theorem sf_110 : ∀ t ∈ mI mi_110, SF mi_110 t := SF_all dm_110 wd_110
theorem hf_110 : HF mi_110 := ⟨(fun _ h => nomatch h), List.Pairwise.nil⟩
theorem dm_111 : tb_111.all (dcB mi_111) = true := by decide +kernel
set_option maxRecDepth 4096 in
theorem wd_111 : WDs mi_111 tb_111 := And.intro fk_11_36 (And.intro (Or.inr (Or.inr ⟨by decide, by decide, mi_72, (RX7, TX7, 5), mk_1_72, rfl, rfl, w_486⟩)) (trivial))
theorem sf_111 : ∀ t ∈ mI mi_111, SF mi_111 t := SF_all dm_111 wd_111
theorem hf_111 : HF mi_111 := ⟨(fun _ h => nomatch h), List.Pairwise.nil⟩
theorem dm_112 : tb_112.all (dcB mi_112) = true := by decide +kernel
set_option maxRecDepth 4096 in
theorem wd_112 : WDs mi_112 tb_112 := And.intro fk_11_36 (And.intro fk_11_83 (And.intro (Or.inl ⟨by decide, 322, 198, 13, "there are no games", nse6, w_949, w_28, List.mem_of_getElem? (i := 31) rfl, by decide +kernel, ⟨by decide +kernel, by decide +kernel, by decide +kernel, by decide +kernel⟩, th_198, by decide +kernel, Or.inr ⟨by decide +kernel, by decide +kernel, by decide +kernel⟩, rfl⟩) (And.intro fk_11_36 (And.intro (Or.inr (Or.inr ⟨by decide, by decide, mi_70, (RX7, TX7, 5), mk_1_70, rfl, rfl, w_1161⟩)) (And.intro fk_11_36 (And.intro fk_11_83 (trivial)))))))
theorem sf_112 : ∀ t ∈ mI mi_112, SF mi_112 t := SF_all dm_112 wd_112
theorem hf_112 : HF mi_112 := ⟨(fun _ h => nomatch h), List.Pairwise.nil⟩
theorem dm_113 : tb_113.all (dcB mi_113) = true := by decide +kernel
set_option maxRecDepth 4096 in
theorem wd_113 : WDs mi_113 tb_113 := And.intro fk_11_36 (And.intro (Or.inr (Or.inr ⟨by decide, by decide, mi_68, (RX7, TX7, 5), mk_1_68, rfl, rfl, w_506⟩)) (And.intro (Or.inr ⟨by decide, w_510⟩) (trivial)))
theorem sf_113 : ∀ t ∈ mI mi_113, SF mi_113 t := SF_all dm_113 wd_113
theorem hf_113 : HF mi_113 := ⟨(fun _ h => nomatch h), List.Pairwise.nil⟩
theorem dm_114 : tb_114.all (dcB mi_114) = true := by decide +kernel
set_option maxRecDepth 4096 in
theorem wd_114 : WDs mi_114 tb_114 := And.intro fk_11_19 (And.intro (Or.inr (Or.inr ⟨by decide, by decide, mi_199, (RJx4a65c, TJx4a65c, 3), mk_1_199, rfl, rfl, w_264⟩)) (And.intro fk_11_40 (And.intro (Or.inr (Or.inr ⟨by decide, by decide, mi_123, (RX11, TX11, 10), mk_1_123, rfl, rfl, w_297⟩)) (And.intro fk_11_40 (And.intro fk_11_36 (And.intro (Or.inr (Or.inr ⟨by decide, by decide, mi_56, (RX7, TX7, 5), mk_1_56, rfl, rfl, w_515⟩)) (And.intro fk_11_36 (And.intro (Or.inr (Or.inr ⟨by decide, by decide, mi_71, (RX7, TX7, 5), mk_1_71, rfl, rfl, w_531⟩)) (And.intro fk_11_36 (And.intro (Or.inr (Or.inr ⟨by decide, by decide, mi_69, (RX7, TX7, 5), mk_1_69, rfl, rfl, w_557⟩)) (trivial)))))))))))
theorem sf_114 : ∀ t ∈ mI mi_114, SF mi_114 t := SF_all dm_114 wd_114
theorem hf_114 : HF mi_114 := ⟨(fun _ h => nomatch h), List.Pairwise.nil⟩
theorem dm_115 : tb_115.all (dcB mi_115) = true := by decide +kernel
set_option maxRecDepth 4096 in
theorem wd_115 : WDs mi_115 tb_115 := trivial
theorem sf_115 : ∀ t ∈ mI mi_115, SF mi_115 t := SF_all dm_115 wd_115
theorem hf_115 : HF mi_115 := ⟨(fun _ h => nomatch h), List.Pairwise.nil⟩
theorem dm_116 : tb_116.all (dcB mi_116) = true := by decide +kernel
set_option maxRecDepth 4096 in
theorem wd_116 : WDs mi_116 tb_116 := And.intro fk_11_36 (And.intro (Or.inr (Or.inr ⟨by decide, by decide, mi_57, (RX7, TX7, 5), mk_1_57, rfl, rfl, w_808⟩)) (And.intro (Or.inl ⟨by decide, 345, 79, 7, "no such game", Bundle.six, w_734, w_19, List.mem_of_getElem? (i := 7) rfl, by decide +kernel, ⟨by decide +kernel, by decide +kernel, by decide +kernel, by decide +kernel⟩, th_79, by decide +kernel, Or.inr ⟨by decide +kernel, by decide +kernel, by decide +kernel⟩, rfl⟩) (trivial)))
theorem sf_116 : ∀ t ∈ mI mi_116, SF mi_116 t := SF_all dm_116 wd_116
theorem hf_116 : HF mi_116 := ⟨(fun _ h => nomatch h), List.Pairwise.nil⟩
theorem dm_117 : tb_117.all (dcB mi_117) = true := by decide +kernel
set_option maxRecDepth 4096 in
theorem wd_117 : WDs mi_117 tb_117 := And.intro fk_11_16 (And.intro (Or.inr (Or.inr ⟨by decide, by decide, mi_199, (RJx4a65c, TJx4a65c, 3), mk_1_199, rfl, rfl, w_264⟩)) (And.intro (Or.inl ⟨by decide, 347, 198, 13, "no such entry", nse6, w_949, w_28, List.mem_of_getElem? (i := 27) rfl, by decide +kernel, ⟨by decide +kernel, by decide +kernel, by decide +kernel, by decide +kernel⟩, th_198, by decide +kernel, Or.inr ⟨by decide +kernel, by decide +kernel, by decide +kernel⟩, rfl⟩) (And.intro fk_11_16 (And.intro (Or.inr (Or.inr ⟨by decide, by decide, mi_201, (RJx4a65c, TJx4a65c, 3), mk_1_201, rfl, rfl, w_301⟩)) (And.intro (⟨"Dominofs$Entry", w_328, fun ci rr hs hr => by rcases sub50 hs ⟨rr, hr⟩ with rfl | rfl | rfl | rfl | rfl | rfl <;> cases hr <;> first | exact Or.inr (List.mem_of_getElem? (i := 12) rfl) | exact Or.inr (List.mem_of_getElem? (i := 13) rfl) | exact Or.inr (List.mem_of_getElem? (i := 14) rfl) | exact Or.inr (List.mem_of_getElem? (i := 15) rfl) | exact Or.inr (List.mem_of_getElem? (i := 16) rfl) | exact Or.inr (List.mem_of_getElem? (i := 17) rfl)⟩) (trivial))))))
theorem sf_117 : ∀ t ∈ mI mi_117, SF mi_117 t := SF_all dm_117 wd_117
theorem hf_117 : HF mi_117 := ⟨(fun _ h => nomatch h), List.Pairwise.nil⟩
theorem dm_118 : tb_118.all (dcB mi_118) = true := by decide +kernel
set_option maxRecDepth 4096 in
theorem wd_118 : WDs mi_118 tb_118 := And.intro fk_11_16 (And.intro (Or.inr (Or.inr ⟨by decide, by decide, mi_199, (RJx4a65c, TJx4a65c, 3), mk_1_199, rfl, rfl, w_264⟩)) (trivial))
theorem sf_118 : ∀ t ∈ mI mi_118, SF mi_118 t := SF_all dm_118 wd_118
theorem hf_118 : HF mi_118 := ⟨(fun _ h => nomatch h), List.Pairwise.nil⟩
theorem dm_119 : tb_119.all (dcB mi_119) = true := by decide +kernel
set_option maxRecDepth 4096 in
theorem wd_119 : WDs mi_119 tb_119 := And.intro (Or.inr (Or.inr ⟨by decide, by decide, mi_24, (RX4, TX4, 14), mk_1_24, rfl, rfl, w_815⟩)) (And.intro (Or.inr (Or.inr ⟨by decide, by decide, mi_118, (RX11, TX11, 10), mk_1_118, rfl, rfl, w_752⟩)) (And.intro (Or.inl ⟨by decide, 349, 70, 7, "the game is over, or there are too many entries", Bundle.six, w_651, w_14, List.mem_of_getElem? (i := 9) rfl, by decide +kernel, ⟨by decide +kernel, by decide +kernel, by decide +kernel, by decide +kernel⟩, th_70, by decide +kernel, Or.inr ⟨by decide +kernel, by decide +kernel, by decide +kernel⟩, rfl⟩) (trivial)))
theorem sf_119 : ∀ t ∈ mI mi_119, SF mi_119 t := SF_all dm_119 wd_119
theorem hf_119 : HF mi_119 := ⟨(fun _ h => nomatch h), List.Pairwise.nil⟩
theorem dm_120 : tb_120.all (dcB mi_120) = true := by decide +kernel
set_option maxRecDepth 4096 in
theorem wd_120 : WDs mi_120 tb_120 := And.intro (FP_one fk_11_214 rfl (rr := (RX11, TX11, 10)) rfl rfl (Or.inl rfl)) (And.intro (FP_one fk_11_217 rfl (rr := (RX11, TX11, 10)) rfl rfl (Or.inl rfl)) (And.intro (FP_one fk_11_220 rfl (rr := (RX11, TX11, 10)) rfl rfl (Or.inl rfl)) (trivial)))
theorem sf_120 : ∀ t ∈ mI mi_120, SF mi_120 t := SF_all dm_120 wd_120
theorem hf_120 : HF mi_120 := ⟨(fun _ h => nomatch h), List.Pairwise.nil⟩
theorem dm_121 : tb_121.all (dcB mi_121) = true := by decide +kernel
set_option maxRecDepth 4096 in
theorem wd_121 : WDs mi_121 tb_121 := And.intro fk_11_16 (And.intro (Or.inr (Or.inr ⟨by decide, by decide, mi_203, (RJx4a65c, TJx4a65c, 3), mk_1_203, rfl, rfl, w_667⟩)) (And.intro fk_11_36 (And.intro (Or.inr (Or.inr ⟨by decide, by decide, mi_60, (RX7, TX7, 5), mk_1_60, rfl, rfl, w_329⟩)) (trivial))))
theorem sf_121 : ∀ t ∈ mI mi_121, SF mi_121 t := SF_all dm_121 wd_121
theorem hf_121 : HF mi_121 := ⟨(fun _ h => nomatch h), List.Pairwise.nil⟩
theorem dm_122 : tb_122.all (dcB mi_122) = true := by decide +kernel
set_option maxRecDepth 4096 in
theorem wd_122 : WDs mi_122 tb_122 := And.intro fk_11_19 (And.intro (Or.inr (Or.inr ⟨by decide, by decide, mi_199, (RJx4a65c, TJx4a65c, 3), mk_1_199, rfl, rfl, w_264⟩)) (And.intro fk_11_19 (And.intro (Or.inr (Or.inr ⟨by decide, by decide, mi_201, (RJx4a65c, TJx4a65c, 3), mk_1_201, rfl, rfl, w_301⟩)) (And.intro (⟨"Dominofs$Table", w_110, fun ci rr hs hr => by (have hc : ci = 7 := by (simp only [subc, Bool.or_eq_true] at hs; rcases hs with h | h; exact (Nat.eq_of_beq_eq_true h).symm; exact absurd h (by simp [Nat.beq]))); subst hc; cases hr; exact Or.inl rfl⟩) (And.intro (Or.inr (Or.inr ⟨by decide, by decide, mi_57, (RX7, TX7, 5), mk_1_57, rfl, rfl, w_808⟩)) (And.intro (Or.inr (Or.inr ⟨by decide, by decide, mi_24, (RX4, TX4, 14), mk_1_24, rfl, rfl, w_815⟩)) (trivial)))))))
theorem sf_122 : ∀ t ∈ mI mi_122, SF mi_122 t := SF_all dm_122 wd_122
theorem hf_122 : HF mi_122 := ⟨(fun _ h => nomatch h), List.Pairwise.nil⟩
theorem dm_123 : tb_123.all (dcB mi_123) = true := by decide +kernel
set_option maxRecDepth 4096 in
theorem wd_123 : WDs mi_123 tb_123 := And.intro fk_11_19 (And.intro (Or.inr (Or.inr ⟨by decide, by decide, mi_199, (RJx4a65c, TJx4a65c, 3), mk_1_199, rfl, rfl, w_264⟩)) (And.intro fk_11_19 (And.intro (Or.inr (Or.inr ⟨by decide, by decide, mi_201, (RJx4a65c, TJx4a65c, 3), mk_1_201, rfl, rfl, w_301⟩)) (And.intro (⟨"Dominofs$Table", w_110, fun ci rr hs hr => by (have hc : ci = 7 := by (simp only [subc, Bool.or_eq_true] at hs; rcases hs with h | h; exact (Nat.eq_of_beq_eq_true h).symm; exact absurd h (by simp [Nat.beq]))); subst hc; cases hr; exact Or.inl rfl⟩) (And.intro (Or.inr (Or.inr ⟨by decide, by decide, mi_55, (RX7, TX7, 5), mk_1_55, rfl, rfl, w_309⟩)) (And.intro (Or.inr (Or.inr ⟨by decide, by decide, mi_54, (RX7, TX7, 5), mk_1_54, rfl, rfl, w_324⟩)) (And.intro fk_11_315 (And.intro fk_11_16 (And.intro (Or.inr (Or.inr ⟨by decide, by decide, mi_199, (RJx4a65c, TJx4a65c, 3), mk_1_199, rfl, rfl, w_264⟩)) (And.intro fk_11_16 (And.intro (Or.inr (Or.inr ⟨by decide, by decide, mi_201, (RJx4a65c, TJx4a65c, 3), mk_1_201, rfl, rfl, w_301⟩)) (And.intro (⟨"Dominofs$Entry", w_328, fun ci rr hs hr => by rcases sub50 hs ⟨rr, hr⟩ with rfl | rfl | rfl | rfl | rfl | rfl <;> cases hr <;> first | exact Or.inr (List.mem_of_getElem? (i := 12) rfl) | exact Or.inr (List.mem_of_getElem? (i := 13) rfl) | exact Or.inr (List.mem_of_getElem? (i := 14) rfl) | exact Or.inr (List.mem_of_getElem? (i := 15) rfl) | exact Or.inr (List.mem_of_getElem? (i := 16) rfl) | exact Or.inr (List.mem_of_getElem? (i := 17) rfl)⟩) (And.intro (Or.inr (Or.inr ⟨by decide, by decide, mi_60, (RX7, TX7, 5), mk_1_60, rfl, rfl, w_329⟩)) (trivial))))))))))))))
theorem sf_123 : ∀ t ∈ mI mi_123, SF mi_123 t := SF_all dm_123 wd_123
theorem hf_123 : HF mi_123 := ⟨(fun _ h => nomatch h), List.Pairwise.nil⟩
theorem dm_124_0 : tb_124_0.all (dcB mi_124) = true := by decide +kernel
set_option maxRecDepth 4096 in
theorem wd_124_0 : WDs mi_124 tb_124_0 := And.intro (Or.inl ⟨rfl, w_1170, w_38, w_39⟩) (And.intro w_109 (And.intro (FP_one fk_12_7 rfl (rr := (RX12, TX12, 41)) rfl rfl (Or.inr ⟨rfl, rfl⟩)) (And.intro w_109 (And.intro (FP_one fk_12_13 rfl (rr := (RX12, TX12, 41)) rfl rfl (Or.inr ⟨rfl, rfl⟩)) (And.intro w_109 (And.intro (FP_one fk_12_16 rfl (rr := (RX12, TX12, 41)) rfl rfl (Or.inr ⟨rfl, rfl⟩)) (And.intro w_1295 (And.intro (FP_one fk_12_19 rfl (rr := (RX12, TX12, 41)) rfl rfl (Or.inr ⟨rfl, rfl⟩)) (And.intro w_109 (And.intro (FP_one fk_12_23 rfl (rr := (RX12, TX12, 41)) rfl rfl (Or.inr ⟨rfl, rfl⟩)) (And.intro w_109 (And.intro (FP_one fk_12_26 rfl (rr := (RX12, TX12, 41)) rfl rfl (Or.inr ⟨rfl, rfl⟩)) (And.intro w_109 (And.intro (FP_one fk_12_29 rfl (rr := (RX12, TX12, 41)) rfl rfl (Or.inr ⟨rfl, rfl⟩)) (And.intro w_109 (And.intro (FP_one fk_12_32 rfl (rr := (RX12, TX12, 41)) rfl rfl (Or.inr ⟨rfl, rfl⟩)) (And.intro w_109 (And.intro (FP_one fk_12_35 rfl (rr := (RX12, TX12, 41)) rfl rfl (Or.inr ⟨rfl, rfl⟩)) (And.intro w_109 (And.intro (FP_one fk_12_38 rfl (rr := (RX12, TX12, 41)) rfl rfl (Or.inr ⟨rfl, rfl⟩)) (And.intro w_109 (And.intro (FP_one fk_12_41 rfl (rr := (RX12, TX12, 41)) rfl rfl (Or.inr ⟨rfl, rfl⟩)) (And.intro w_109 (And.intro (FP_one fk_12_44 rfl (rr := (RX12, TX12, 41)) rfl rfl (Or.inr ⟨rfl, rfl⟩)) (And.intro w_109 (And.intro (FP_one fk_12_47 rfl (rr := (RX12, TX12, 41)) rfl rfl (Or.inr ⟨rfl, rfl⟩)) (And.intro w_109 (And.intro (FP_one fk_12_50 rfl (rr := (RX12, TX12, 41)) rfl rfl (Or.inr ⟨rfl, rfl⟩)) (And.intro w_109 (And.intro (FP_one fk_12_53 rfl (rr := (RX12, TX12, 41)) rfl rfl (Or.inr ⟨rfl, rfl⟩)) (And.intro w_109 (And.intro (FP_one fk_12_56 rfl (rr := (RX12, TX12, 41)) rfl rfl (Or.inr ⟨rfl, rfl⟩)) (And.intro w_109 (And.intro (FP_one fk_12_59 rfl (rr := (RX12, TX12, 41)) rfl rfl (Or.inr ⟨rfl, rfl⟩)) (And.intro w_109 (And.intro (FP_one fk_12_62 rfl (rr := (RX12, TX12, 41)) rfl rfl (Or.inr ⟨rfl, rfl⟩)) (And.intro w_109 (And.intro (FP_one fk_12_65 rfl (rr := (RX12, TX12, 41)) rfl rfl (Or.inr ⟨rfl, rfl⟩)) (And.intro w_109 (And.intro (FP_one fk_12_68 rfl (rr := (RX12, TX12, 41)) rfl rfl (Or.inr ⟨rfl, rfl⟩)) (And.intro w_109 (And.intro (FP_one fk_12_71 rfl (rr := (RX12, TX12, 41)) rfl rfl (Or.inr ⟨rfl, rfl⟩)) (And.intro w_1295 (And.intro (FP_one fk_12_74 rfl (rr := (RX12, TX12, 41)) rfl rfl (Or.inr ⟨rfl, rfl⟩)) (And.intro w_109 (And.intro (FP_one fk_12_77 rfl (rr := (RX12, TX12, 41)) rfl rfl (Or.inr ⟨rfl, rfl⟩)) (And.intro w_109 (And.intro (FP_one fk_12_80 rfl (rr := (RX12, TX12, 41)) rfl rfl (Or.inr ⟨rfl, rfl⟩)) (trivial)))))))))))))))))))))))))))))))))))))))))))))))))
theorem dm_124_1 : tb_124_1.all (dcB mi_124) = true := by decide +kernel
set_option maxRecDepth 4096 in
theorem wd_124_1 : WDs mi_124 tb_124_1 := And.intro w_109 (And.intro (FP_one fk_12_83 rfl (rr := (RX12, TX12, 41)) rfl rfl (Or.inr ⟨rfl, rfl⟩)) (And.intro w_109 (And.intro (FP_one fk_12_86 rfl (rr := (RX12, TX12, 41)) rfl rfl (Or.inr ⟨rfl, rfl⟩)) (And.intro w_109 (And.intro (FP_one fk_12_89 rfl (rr := (RX12, TX12, 41)) rfl rfl (Or.inr ⟨rfl, rfl⟩)) (And.intro w_109 (And.intro (FP_one fk_12_92 rfl (rr := (RX12, TX12, 41)) rfl rfl (Or.inr ⟨rfl, rfl⟩)) (And.intro w_109 (And.intro (FP_one fk_12_95 rfl (rr := (RX12, TX12, 41)) rfl rfl (Or.inr ⟨rfl, rfl⟩)) (And.intro w_109 (And.intro (FP_one fk_12_98 rfl (rr := (RX12, TX12, 41)) rfl rfl (Or.inr ⟨rfl, rfl⟩)) (And.intro w_109 (And.intro (FP_one fk_12_101 rfl (rr := (RX12, TX12, 41)) rfl rfl (Or.inr ⟨rfl, rfl⟩)) (And.intro w_109 (And.intro (FP_one fk_12_104 rfl (rr := (RX12, TX12, 41)) rfl rfl (Or.inr ⟨rfl, rfl⟩)) (And.intro (FP_one fk_12_107 rfl (rr := (RX12, TX12, 41)) rfl rfl (Or.inl rfl)) (And.intro (FP_one fk_12_111 rfl (rr := (RX12, TX12, 41)) rfl rfl (Or.inl rfl)) (And.intro (FP_one fk_12_114 rfl (rr := (RX12, TX12, 41)) rfl rfl (Or.inl rfl)) (trivial)))))))))))))))))))
theorem sf_124 : ∀ t ∈ mI mi_124, SF mi_124 t := SF_app (SF_all dm_124_0 wd_124_0) (SF_all dm_124_1 wd_124_1)
theorem hf_124 : HF mi_124 := ⟨(fun _ h => nomatch h), List.Pairwise.nil⟩
theorem dm_125 : tb_125.all (dcB mi_125) = true := by decide +kernel
set_option maxRecDepth 4096 in
theorem wd_125 : WDs mi_125 tb_125 := And.intro fk_12_114 (trivial)
theorem sf_125 : ∀ t ∈ mI mi_125, SF mi_125 t := SF_all dm_125 wd_125
theorem hf_125 : HF mi_125 := ⟨(fun _ h => nomatch h), List.Pairwise.nil⟩
theorem dm_126 : tb_126.all (dcB mi_126) = true := by decide +kernel
set_option maxRecDepth 4096 in
theorem wd_126 : WDs mi_126 tb_126 := trivial
theorem sf_126 : ∀ t ∈ mI mi_126, SF mi_126 t := SF_all dm_126 wd_126
theorem hf_126 : HF mi_126 := ⟨(fun _ h => nomatch h), List.Pairwise.nil⟩
theorem dm_127 : tb_127.all (dcB mi_127) = true := by decide +kernel
set_option maxRecDepth 4096 in
theorem wd_127 : WDs mi_127 tb_127 := trivial
theorem sf_127 : ∀ t ∈ mI mi_127, SF mi_127 t := SF_all dm_127 wd_127
theorem hf_127 : HF mi_127 := ⟨(fun _ h => nomatch h), List.Pairwise.nil⟩
theorem dm_128 : tb_128.all (dcB mi_128) = true := by decide +kernel
set_option maxRecDepth 4096 in
theorem wd_128 : WDs mi_128 tb_128 := trivial
theorem sf_128 : ∀ t ∈ mI mi_128, SF mi_128 t := SF_all dm_128 wd_128
theorem hf_128 : HF mi_128 := ⟨(fun _ h => nomatch h), List.Pairwise.nil⟩
theorem dm_129 : tb_129.all (dcB mi_129) = true := by decide +kernel
set_option maxRecDepth 4096 in
theorem wd_129 : WDs mi_129 tb_129 := And.intro fk_12_117 (And.intro (Or.inr (Or.inr (Or.inr ⟨by decide, by decide, by decide, by decide, mi_126, mk_0_126, w_1304⟩))) (trivial))
theorem sf_129 : ∀ t ∈ mI mi_129, SF mi_129 t := SF_all dm_129 wd_129
theorem hf_129 : HF mi_129 := ⟨(fun _ h => nomatch h), List.Pairwise.nil⟩
theorem dm_130 : tb_130.all (dcB mi_130) = true := by decide +kernel
set_option maxRecDepth 4096 in
theorem wd_130 : WDs mi_130 tb_130 := And.intro fk_12_7 (And.intro fk_12_44 (And.intro (Or.inr (Or.inr (Or.inr ⟨by decide, by decide, by decide, by decide, mi_127, mk_0_127, w_1310⟩))) (trivial)))
theorem sf_130 : ∀ t ∈ mI mi_130, SF mi_130 t := SF_all dm_130 wd_130
theorem hf_130 : HF mi_130 := ⟨(fun _ h => nomatch h), List.Pairwise.nil⟩
theorem dm_131 : tb_131.all (dcB mi_131) = true := by decide +kernel
set_option maxRecDepth 4096 in
theorem wd_131 : WDs mi_131 tb_131 := And.intro fk_12_13 (And.intro fk_12_44 (trivial))
theorem sf_131 : ∀ t ∈ mI mi_131, SF mi_131 t := SF_all dm_131 wd_131
theorem hf_131 : HF mi_131 := ⟨(fun _ h => nomatch h), List.Pairwise.nil⟩
theorem dm_132 : tb_132.all (dcB mi_132) = true := by decide +kernel
set_option maxRecDepth 4096 in
theorem wd_132 : WDs mi_132 tb_132 := trivial
theorem sf_132 : ∀ t ∈ mI mi_132, SF mi_132 t := SF_all dm_132 wd_132
theorem hf_132 : HF mi_132 := ⟨(fun _ h => nomatch h), List.Pairwise.nil⟩
theorem dm_133 : tb_133.all (dcB mi_133) = true := by decide +kernel
set_option maxRecDepth 4096 in
theorem wd_133 : WDs mi_133 tb_133 := trivial
theorem sf_133 : ∀ t ∈ mI mi_133, SF mi_133 t := SF_all dm_133 wd_133
theorem hf_133 : HF mi_133 := ⟨(fun _ h => nomatch h), List.Pairwise.nil⟩
theorem dm_134 : tb_134.all (dcB mi_134) = true := by decide +kernel
set_option maxRecDepth 4096 in
theorem wd_134 : WDs mi_134 tb_134 := And.intro (Or.inr (Or.inr (Or.inr ⟨by decide, by decide, by decide, by decide, mi_126, mk_0_126, w_1304⟩))) (And.intro (Or.inr (Or.inr (Or.inr ⟨by decide, by decide, by decide, by decide, mi_126, mk_0_126, w_1304⟩))) (And.intro (Or.inr (Or.inr (Or.inr ⟨by decide, by decide, by decide, by decide, mi_126, mk_0_126, w_1304⟩))) (And.intro (Or.inr (Or.inr (Or.inr ⟨by decide, by decide, by decide, by decide, mi_128, mk_0_128, w_1307⟩))) (And.intro (Or.inr (Or.inr (Or.inr ⟨by decide, by decide, by decide, by decide, mi_127, mk_0_127, w_1310⟩))) (And.intro fk_12_132 (And.intro (FP_one fk_12_114 rfl (rr := (RX12, TX12, 41)) rfl rfl (Or.inl rfl)) (And.intro fk_12_114 (And.intro fk_12_7 (And.intro fk_12_132 (And.intro fk_12_13 (And.intro fk_12_132 (And.intro fk_12_16 (And.intro fk_12_132 (And.intro fk_12_19 (And.intro fk_12_132 (And.intro fk_12_23 (And.intro fk_12_132 (And.intro fk_12_132 (And.intro (FP_one fk_12_132 rfl (rr := (RX12, TX12, 41)) rfl rfl (Or.inl rfl)) (And.intro fk_12_132 (trivial)))))))))))))))))))))
theorem sf_134 : ∀ t ∈ mI mi_134, SF mi_134 t := SF_all dm_134 wd_134
theorem hf_134 : HF mi_134 := ⟨(fun _ h => nomatch h), List.Pairwise.nil⟩
theorem dm_135 : tb_135.all (dcB mi_135) = true := by decide +kernel
set_option maxRecDepth 4096 in
theorem wd_135 : WDs mi_135 tb_135 := And.intro fk_12_26 (And.intro fk_12_135 (And.intro fk_12_29 (And.intro fk_12_135 (And.intro fk_12_32 (And.intro fk_12_135 (And.intro fk_12_35 (And.intro fk_12_135 (And.intro fk_12_38 (And.intro fk_12_135 (And.intro fk_12_135 (And.intro (FP_one fk_12_135 rfl (rr := (RX12, TX12, 41)) rfl rfl (Or.inl rfl)) (And.intro fk_12_135 (And.intro (Or.inr (Or.inr ⟨by decide, by decide, mi_136, (RX12, TX12, 41), mk_1_136, rfl, rfl, w_1326⟩)) (trivial))))))))))))))
theorem sf_135 : ∀ t ∈ mI mi_135, SF mi_135 t := SF_all dm_135 wd_135
theorem hf_135 : HF mi_135 := ⟨(fun _ h => nomatch h), List.Pairwise.nil⟩
theorem dm_136_0 : tb_136_0.all (dcB mi_136) = true := by decide +kernel
set_option maxRecDepth 4096 in
theorem wd_136_0 : WDs mi_136 tb_136_0 := And.intro fk_12_29 (And.intro fk_12_26 (And.intro fk_12_32 (And.intro fk_12_35 (And.intro (Or.inr (Or.inr ⟨by decide, by decide, mi_137, (RX12, TX12, 41), mk_1_137, rfl, rfl, w_1330⟩)) (And.intro fk_12_26 (And.intro fk_12_32 (And.intro fk_12_35 (And.intro (Or.inr (Or.inr ⟨by decide, by decide, mi_139, (RX12, TX12, 41), mk_1_139, rfl, rfl, w_1342⟩)) (And.intro fk_12_26 (And.intro fk_12_50 (And.intro fk_12_56 (And.intro fk_12_47 (And.intro fk_12_53 (And.intro fk_12_53 (And.intro fk_12_26 (And.intro (Or.inr (Or.inr ⟨by decide, by decide, mi_140, (RX12, TX12, 41), mk_1_140, rfl, rfl, w_1368⟩)) (trivial)))))))))))))))))
theorem dm_136_1 : tb_136_1.all (dcB mi_136) = true := by decide +kernel
set_option maxRecDepth 4096 in
theorem wd_136_1 : WDs mi_136 tb_136_1 := And.intro fk_12_26 (And.intro fk_12_89 (And.intro fk_12_92 (And.intro fk_12_32 (And.intro fk_12_95 (And.intro fk_12_35 (And.intro fk_12_98 (And.intro fk_12_38 (And.intro fk_12_101 (And.intro fk_12_89 (And.intro fk_12_104 (And.intro fk_12_32 (And.intro fk_12_38 (And.intro (Or.inr (Or.inr ⟨by decide, by decide, mi_144, (RX12, TX12, 41), mk_1_144, rfl, rfl, w_1356⟩)) (And.intro fk_12_80 (And.intro fk_12_32 (And.intro fk_12_83 (And.intro fk_12_77 (And.intro (Or.inr (Or.inr ⟨by decide, by decide, mi_142, (RX12, TX12, 41), mk_1_142, rfl, rfl, w_1372⟩)) (And.intro (Or.inr (Or.inr ⟨by decide, by decide, mi_144, (RX12, TX12, 41), mk_1_144, rfl, rfl, w_1356⟩)) (trivial))))))))))))))))))))
theorem sf_136 : ∀ t ∈ mI mi_136, SF mi_136 t := SF_app (SF_all dm_136_0 wd_136_0) (SF_all dm_136_1 wd_136_1)
theorem hf_136 : HF mi_136 := ⟨(fun _ h => nomatch h), List.Pairwise.nil⟩
theorem dm_137_0 : tb_137_0.all (dcB mi_137) = true := by decide +kernel
set_option maxRecDepth 4096 in
theorem wd_137_0 : WDs mi_137 tb_137_0 := And.intro (FP_one fk_12_117 rfl (rr := (RX12, TX12, 41)) rfl rfl (Or.inl rfl)) (And.intro fk_12_44 (And.intro (Or.inr (Or.inr ⟨by decide, by decide, mi_130, (RX12, TX12, 41), mk_1_130, rfl, rfl, w_1334⟩)) (And.intro fk_12_47 (And.intro (Or.inl ⟨rfl, w_1338⟩) (And.intro (Or.inl ⟨rfl, w_1339⟩) (And.intro (Or.inl ⟨rfl, w_1340⟩) (And.intro (Or.inl ⟨rfl, w_1341⟩) (And.intro fk_12_47 (And.intro fk_12_47 (And.intro fk_12_47 (And.intro fk_12_47 (And.intro fk_12_50 (trivial)))))))))))))
theorem dm_137_1 : tb_137_1.all (dcB mi_137) = true := by decide +kernel
set_option maxRecDepth 4096 in
theorem wd_137_1 : WDs mi_137 tb_137_1 := And.intro fk_12_53 (And.intro fk_12_13 (And.intro fk_12_16 (And.intro fk_12_50 (And.intro fk_12_47 (And.intro fk_12_53 (And.intro fk_12_53 (And.intro fk_12_56 (And.intro fk_12_59 (And.intro fk_12_62 (And.intro fk_12_68 (And.intro fk_12_71 (And.intro fk_12_74 (And.intro fk_12_77 (trivial))))))))))))))
theorem dm_137_2 : tb_137_2.all (dcB mi_137) = true := by decide +kernel
set_option maxRecDepth 4096 in
theorem wd_137_2 : WDs mi_137 tb_137_2 := And.intro fk_12_80 (And.intro fk_12_23 (And.intro fk_12_83 (And.intro fk_12_86 (And.intro fk_12_89 (trivial)))))
theorem sf_137 : ∀ t ∈ mI mi_137, SF mi_137 t := SF_app (SF_all dm_137_0 wd_137_0) (SF_app (SF_all dm_137_1 wd_137_1) (SF_all dm_137_2 wd_137_2))
theorem hf_137 : HF mi_137 := ⟨(fun _ h => nomatch h), List.Pairwise.nil⟩
theorem dm_138 : tb_138.all (dcB mi_138) = true := by decide +kernel
set_option maxRecDepth 4096 in
theorem wd_138 : WDs mi_138 tb_138 := And.intro fk_12_65 (And.intro fk_12_68 (And.intro fk_12_68 (And.intro fk_12_71 (trivial))))
theorem sf_138 : ∀ t ∈ mI mi_138, SF mi_138 t := SF_all dm_138 wd_138
theorem hf_138 : HF mi_138 := ⟨(fun _ h => nomatch h), List.Pairwise.nil⟩
theorem dm_139_0 : tb_139_0.all (dcB mi_139) = true := by decide +kernel
set_option maxRecDepth 4096 in
theorem wd_139_0 : WDs mi_139 tb_139_0 := And.intro fk_12_7 (And.intro fk_12_44 (And.intro (Or.inr (Or.inr (Or.inr ⟨by decide, by decide, by decide, by decide, mi_132, mk_0_132, w_1346⟩))) (And.intro fk_12_7 (And.intro fk_12_44 (And.intro (Or.inr (Or.inr (Or.inr ⟨by decide, by decide, by decide, by decide, mi_133, mk_0_133, w_1349⟩))) (And.intro fk_12_71 (And.intro fk_12_65 (And.intro fk_12_68 (And.intro (Or.inr (Or.inr ⟨by decide, by decide, mi_138, (RX12, TX12, 41), mk_1_138, rfl, rfl, w_1352⟩)) (And.intro fk_12_68 (And.intro fk_12_65 (And.intro fk_12_68 (And.intro (Or.inr (Or.inr ⟨by decide, by decide, mi_138, (RX12, TX12, 41), mk_1_138, rfl, rfl, w_1352⟩)) (And.intro fk_12_65 (And.intro fk_12_68 (And.intro fk_12_71 (trivial)))))))))))))))))
theorem dm_139_1 : tb_139_1.all (dcB mi_139) = true := by decide +kernel
set_option maxRecDepth 4096 in
theorem wd_139_1 : WDs mi_139 tb_139_1 := And.intro fk_12_71 (And.intro fk_12_56 (And.intro fk_12_50 (And.intro fk_12_62 (And.intro fk_12_59 (And.intro fk_12_50 (And.intro fk_12_77 (And.intro fk_12_86 (And.intro (Or.inr (Or.inr ⟨by decide, by decide, mi_144, (RX12, TX12, 41), mk_1_144, rfl, rfl, w_1356⟩)) (And.intro fk_12_56 (And.intro (Or.inr (Or.inr ⟨by decide, by decide, mi_131, (RX12, TX12, 41), mk_1_131, rfl, rfl, w_1364⟩)) (trivial)))))))))))
theorem sf_139 : ∀ t ∈ mI mi_139, SF mi_139 t := SF_app (SF_all dm_139_0 wd_139_0) (SF_all dm_139_1 wd_139_1)
theorem hf_139 : HF mi_139 := ⟨(fun _ h => nomatch h), List.Pairwise.nil⟩
theorem dm_140 : tb_140.all (dcB mi_140) = true := by decide +kernel
set_option maxRecDepth 4096 in
theorem wd_140 : WDs mi_140 tb_140 := And.intro fk_12_59 (And.intro fk_12_59 (And.intro (Or.inr (Or.inr ⟨by decide, by decide, mi_131, (RX12, TX12, 41), mk_1_131, rfl, rfl, w_1364⟩)) (And.intro fk_12_74 (And.intro fk_12_77 (And.intro (Or.inr (Or.inr ⟨by decide, by decide, mi_142, (RX12, TX12, 41), mk_1_142, rfl, rfl, w_1372⟩)) (And.intro fk_12_86 (And.intro (Or.inr (Or.inr ⟨by decide, by decide, mi_144, (RX12, TX12, 41), mk_1_144, rfl, rfl, w_1356⟩)) (And.intro fk_12_56 (And.intro fk_12_56 (And.intro (Or.inr (Or.inr ⟨by decide, by decide, mi_131, (RX12, TX12, 41), mk_1_131, rfl, rfl, w_1364⟩)) (trivial)))))))))))
theorem sf_140 : ∀ t ∈ mI mi_140, SF mi_140 t := SF_all dm_140 wd_140
theorem hf_140 : HF mi_140 := ⟨(fun _ h => nomatch h), List.Pairwise.nil⟩
theorem dm_141 : tb_141.all (dcB mi_141) = true := by decide +kernel
set_option maxRecDepth 4096 in
theorem wd_141 : WDs mi_141 tb_141 := And.intro (Or.inr (Or.inr ⟨by decide, by decide, mi_130, (RX12, TX12, 41), mk_1_130, rfl, rfl, w_1334⟩)) (And.intro fk_12_50 (And.intro fk_12_7 (And.intro fk_12_44 (And.intro (Or.inr (Or.inr (Or.inr ⟨by decide, by decide, by decide, by decide, mi_132, mk_0_132, w_1346⟩))) (And.intro fk_12_7 (And.intro fk_12_44 (And.intro (Or.inr (Or.inr (Or.inr ⟨by decide, by decide, by decide, by decide, mi_133, mk_0_133, w_1349⟩))) (trivial))))))))
theorem sf_141 : ∀ t ∈ mI mi_141, SF mi_141 t := SF_all dm_141 wd_141
theorem hf_141 : HF mi_141 := ⟨(fun _ h => nomatch h), List.Pairwise.nil⟩
theorem dm_142 : tb_142.all (dcB mi_142) = true := by decide +kernel
set_option maxRecDepth 4096 in
theorem wd_142 : WDs mi_142 tb_142 := And.intro fk_12_80 (And.intro fk_12_80 (And.intro fk_12_62 (And.intro (Or.inr (Or.inr ⟨by decide, by decide, mi_131, (RX12, TX12, 41), mk_1_131, rfl, rfl, w_1364⟩)) (And.intro (Or.inr (Or.inr ⟨by decide, by decide, mi_141, (RX12, TX12, 41), mk_1_141, rfl, rfl, w_1376⟩)) (trivial)))))
theorem sf_142 : ∀ t ∈ mI mi_142, SF mi_142 t := SF_all dm_142 wd_142
theorem hf_142 : HF mi_142 := ⟨(fun _ h => nomatch h), List.Pairwise.nil⟩
theorem dm_143 : tb_143.all (dcB mi_143) = true := by decide +kernel
set_option maxRecDepth 4096 in
theorem wd_143 : WDs mi_143 tb_143 := And.intro fk_12_89 (And.intro fk_12_98 (trivial))
theorem sf_143 : ∀ t ∈ mI mi_143, SF mi_143 t := SF_all dm_143 wd_143
theorem hf_143 : HF mi_143 := ⟨(fun _ h => nomatch h), List.Pairwise.nil⟩
theorem dm_144_0 : tb_144_0.all (dcB mi_144) = true := by decide +kernel
set_option maxRecDepth 4096 in
theorem wd_144_0 : WDs mi_144 tb_144_0 := And.intro (Or.inr (Or.inr ⟨by decide, by decide, mi_143, (RX12, TX12, 41), mk_1_143, rfl, rfl, w_1360⟩)) (And.intro fk_12_89 (And.intro fk_12_95 (And.intro fk_12_77 (And.intro fk_12_98 (And.intro fk_12_89 (And.intro fk_12_95 (And.intro fk_12_77 (And.intro fk_12_98 (And.intro fk_12_101 (And.intro fk_12_104 (And.intro fk_12_92 (trivial))))))))))))
theorem dm_144_1 : tb_144_1.all (dcB mi_144) = true := by decide +kernel
set_option maxRecDepth 4096 in
theorem wd_144_1 : WDs mi_144 tb_144_1 := And.intro fk_12_191 (And.intro (FP_one fk_12_191 rfl (rr := (RX12, TX12, 41)) rfl rfl (Or.inl rfl)) (trivial))
theorem sf_144 : ∀ t ∈ mI mi_144, SF mi_144 t := SF_app (SF_all dm_144_0 wd_144_0) (SF_all dm_144_1 wd_144_1)
theorem hf_144 : HF mi_144 := ⟨(fun _ h => nomatch h), List.Pairwise.nil⟩
theorem dm_145 : tb_145.all (dcB mi_145) = true := by decide +kernel
set_option maxRecDepth 4096 in
theorem wd_145 : WDs mi_145 tb_145 := And.intro fk_12_135 (trivial)
theorem sf_145 : ∀ t ∈ mI mi_145, SF mi_145 t := SF_all dm_145 wd_145
theorem hf_145 : HF mi_145 := ⟨(fun _ h => nomatch h), List.Pairwise.nil⟩
theorem dm_146 : tb_146.all (dcB mi_146) = true := by decide +kernel
set_option maxRecDepth 4096 in
theorem wd_146 : WDs mi_146 tb_146 := And.intro fk_12_77 (trivial)
theorem sf_146 : ∀ t ∈ mI mi_146, SF mi_146 t := SF_all dm_146 wd_146
theorem hf_146 : HF mi_146 := ⟨(fun _ h => nomatch h), List.Pairwise.nil⟩
theorem dm_147 : tb_147.all (dcB mi_147) = true := by decide +kernel
set_option maxRecDepth 4096 in
theorem wd_147 : WDs mi_147 tb_147 := And.intro fk_12_132 (And.intro (Or.inr (Or.inr (Or.inr ⟨by decide, by decide, by decide, by decide, mi_126, mk_0_126, w_1304⟩))) (And.intro (Or.inr ⟨by decide, w_1317⟩) (And.intro (Or.inr (Or.inr (Or.inr ⟨by decide, by decide, by decide, by decide, mi_126, mk_0_126, w_1304⟩))) (And.intro fk_12_117 (And.intro (Or.inr (Or.inr ⟨by decide, by decide, mi_145, (RX12, TX12, 41), mk_1_145, rfl, rfl, w_1318⟩)) (And.intro (FP_one fk_12_114 rfl (rr := (RX12, TX12, 41)) rfl rfl (Or.inl rfl)) (And.intro fk_12_114 (And.intro fk_12_117 (And.intro (Or.inr (Or.inr ⟨by decide, by decide, mi_135, (RX12, TX12, 41), mk_1_135, rfl, rfl, w_1322⟩)) (And.intro fk_12_117 (trivial)))))))))))
theorem sf_147 : ∀ t ∈ mI mi_147, SF mi_147 t := SF_all dm_147 wd_147
theorem hf_147 : HF mi_147 := ⟨(fun _ h => nomatch h), List.Pairwise.nil⟩
theorem dm_148 : tb_148.all (dcB mi_148) = true := by decide +kernel
set_option maxRecDepth 4096 in
theorem wd_148 : WDs mi_148 tb_148 := And.intro fk_12_7 (And.intro fk_12_44 (And.intro fk_12_71 (And.intro (Or.inr (Or.inr (Or.inr ⟨by decide, by decide, by decide, by decide, mi_132, mk_0_132, w_1346⟩))) (And.intro (Or.inr (Or.inr ⟨by decide, by decide, mi_138, (RX12, TX12, 41), mk_1_138, rfl, rfl, w_1352⟩)) (And.intro (Or.inr (Or.inr (Or.inr ⟨by decide, by decide, by decide, by decide, mi_133, mk_0_133, w_1349⟩))) (And.intro (Or.inr (Or.inr ⟨by decide, by decide, mi_138, (RX12, TX12, 41), mk_1_138, rfl, rfl, w_1352⟩)) (trivial)))))))
theorem sf_148 : ∀ t ∈ mI mi_148, SF mi_148 t := SF_all dm_148 wd_148
theorem hf_148 : HF mi_148 := ⟨(fun _ h => nomatch h), List.Pairwise.nil⟩
theorem dm_149 : tb_149.all (dcB mi_149) = true := by decide +kernel
set_option maxRecDepth 4096 in
theorem wd_149 : WDs mi_149 tb_149 := And.intro fk_12_50 (And.intro fk_12_56 (trivial))
theorem sf_149 : ∀ t ∈ mI mi_149, SF mi_149 t := SF_all dm_149 wd_149
theorem hf_149 : HF mi_149 := ⟨(fun _ h => nomatch h), List.Pairwise.nil⟩
theorem dm_150 : tb_150.all (dcB mi_150) = true := by decide +kernel
set_option maxRecDepth 4096 in
theorem wd_150 : WDs mi_150 tb_150 := And.intro (Or.inr (Or.inr ⟨by decide, by decide, mi_130, (RX12, TX12, 41), mk_1_130, rfl, rfl, w_1334⟩)) (And.intro (Or.inr (Or.inr ⟨by decide, by decide, mi_149, (RX12, TX12, 41), mk_1_149, rfl, rfl, w_1392⟩)) (And.intro (Or.inr (Or.inr ⟨by decide, by decide, mi_148, (RX12, TX12, 41), mk_1_148, rfl, rfl, w_1396⟩)) (And.intro (Or.inr (Or.inr ⟨by decide, by decide, mi_148, (RX12, TX12, 41), mk_1_148, rfl, rfl, w_1396⟩)) (trivial))))
theorem sf_150 : ∀ t ∈ mI mi_150, SF mi_150 t := SF_all dm_150 wd_150
theorem hf_150 : HF mi_150 := ⟨(fun _ h => nomatch h), List.Pairwise.nil⟩
theorem dm_151 : tb_151.all (dcB mi_151) = true := by decide +kernel
set_option maxRecDepth 4096 in
theorem wd_151 : WDs mi_151 tb_151 := And.intro (Or.inr (Or.inr ⟨by decide, by decide, mi_129, (RX12, TX12, 41), mk_1_129, rfl, rfl, w_1384⟩)) (And.intro (Or.inr (Or.inr ⟨by decide, by decide, mi_130, (RX12, TX12, 41), mk_1_130, rfl, rfl, w_1334⟩)) (And.intro (Or.inr (Or.inr (Or.inr ⟨by decide, by decide, by decide, by decide, mi_126, mk_0_126, w_1304⟩))) (And.intro (Or.inr (Or.inr ⟨by decide, by decide, mi_146, (RX12, TX12, 41), mk_1_146, rfl, rfl, w_1388⟩)) (And.intro (Or.inr (Or.inr ⟨by decide, by decide, mi_145, (RX12, TX12, 41), mk_1_145, rfl, rfl, w_1318⟩)) (And.intro (FP_one fk_12_114 rfl (rr := (RX12, TX12, 41)) rfl rfl (Or.inl rfl)) (And.intro fk_12_114 (And.intro (Or.inr (Or.inr ⟨by decide, by decide, mi_149, (RX12, TX12, 41), mk_1_149, rfl, rfl, w_1392⟩)) (And.intro (Or.inr (Or.inr ⟨by decide, by decide, mi_148, (RX12, TX12, 41), mk_1_148, rfl, rfl, w_1396⟩)) (And.intro (Or.inr (Or.inr ⟨by decide, by decide, mi_149, (RX12, TX12, 41), mk_1_149, rfl, rfl, w_1392⟩)) (And.intro (FP_one fk_12_107 rfl (rr := (RX12, TX12, 41)) rfl rfl (Or.inl rfl)) (And.intro (Or.inr (Or.inr ⟨by decide, by decide, mi_149, (RX12, TX12, 41), mk_1_149, rfl, rfl, w_1392⟩)) (And.intro (Or.inr (Or.inr ⟨by decide, by decide, mi_138, (RX12, TX12, 41), mk_1_138, rfl, rfl, w_1352⟩)) (And.intro (FP_one fk_12_111 rfl (rr := (RX12, TX12, 41)) rfl rfl (Or.inl rfl)) (And.intro (FP_one fk_12_114 rfl (rr := (RX12, TX12, 41)) rfl rfl (Or.inl rfl)) (And.intro (Or.inr (Or.inr ⟨by decide, by decide, mi_135, (RX12, TX12, 41), mk_1_135, rfl, rfl, w_1322⟩)) (And.intro (Or.inr (Or.inr ⟨by decide, by decide, mi_146, (RX12, TX12, 41), mk_1_146, rfl, rfl, w_1388⟩)) (trivial)))))))))))))))))
theorem sf_151 : ∀ t ∈ mI mi_151, SF mi_151 t := SF_all dm_151 wd_151
theorem hf_151 : HF mi_151 := ⟨(fun _ h => nomatch h), List.Pairwise.nil⟩
theorem dm_152 : tb_152.all (dcB mi_152) = true := by decide +kernel
set_option maxRecDepth 4096 in
theorem wd_152 : WDs mi_152 tb_152 := And.intro fk_12_19 (And.intro fk_12_44 (And.intro fk_12_53 (And.intro (Or.inr (Or.inr ⟨by decide, by decide, mi_130, (RX12, TX12, 41), mk_1_130, rfl, rfl, w_1334⟩)) (trivial))))
theorem sf_152 : ∀ t ∈ mI mi_152, SF mi_152 t := SF_all dm_152 wd_152
theorem hf_152 : HF mi_152 := ⟨(fun _ h => nomatch h), List.Pairwise.nil⟩
theorem dm_153 : tb_153.all (dcB mi_153) = true := by decide +kernel
set_option maxRecDepth 4096 in
theorem wd_153 : WDs mi_153 tb_153 := And.intro (Or.inr (Or.inr ⟨by decide, by decide, mi_129, (RX12, TX12, 41), mk_1_129, rfl, rfl, w_1384⟩)) (And.intro (Or.inr (Or.inr ⟨by decide, by decide, mi_146, (RX12, TX12, 41), mk_1_146, rfl, rfl, w_1388⟩)) (And.intro (Or.inr (Or.inr ⟨by decide, by decide, mi_145, (RX12, TX12, 41), mk_1_145, rfl, rfl, w_1318⟩)) (And.intro (FP_one fk_12_114 rfl (rr := (RX12, TX12, 41)) rfl rfl (Or.inl rfl)) (And.intro fk_12_114 (And.intro (Or.inr (Or.inr ⟨by decide, by decide, mi_150, (RX12, TX12, 41), mk_1_150, rfl, rfl, w_1404⟩)) (And.intro (Or.inr (Or.inr ⟨by decide, by decide, mi_152, (RX12, TX12, 41), mk_1_152, rfl, rfl, w_1408⟩)) (And.intro (FP_one fk_12_114 rfl (rr := (RX12, TX12, 41)) rfl rfl (Or.inl rfl)) (And.intro fk_12_114 (And.intro fk_12_47 (And.intro fk_12_53 (And.intro (Or.inr (Or.inr ⟨by decide, by decide, mi_135, (RX12, TX12, 41), mk_1_135, rfl, rfl, w_1322⟩)) (trivial))))))))))))
theorem sf_153 : ∀ t ∈ mI mi_153, SF mi_153 t := SF_all dm_153 wd_153
theorem hf_153 : HF mi_153 := ⟨(fun _ h => nomatch h), List.Pairwise.nil⟩
theorem dm_154 : tb_154.all (dcB mi_154) = true := by decide +kernel
set_option maxRecDepth 4096 in
theorem wd_154 : WDs mi_154 tb_154 := And.intro (Or.inr (Or.inr ⟨by decide, by decide, mi_129, (RX12, TX12, 41), mk_1_129, rfl, rfl, w_1384⟩)) (And.intro (Or.inr (Or.inr ⟨by decide, by decide, mi_146, (RX12, TX12, 41), mk_1_146, rfl, rfl, w_1388⟩)) (And.intro (Or.inr (Or.inr ⟨by decide, by decide, mi_145, (RX12, TX12, 41), mk_1_145, rfl, rfl, w_1318⟩)) (And.intro (FP_one fk_12_114 rfl (rr := (RX12, TX12, 41)) rfl rfl (Or.inl rfl)) (And.intro fk_12_114 (And.intro (Or.inr (Or.inr ⟨by decide, by decide, mi_150, (RX12, TX12, 41), mk_1_150, rfl, rfl, w_1404⟩)) (And.intro (Or.inr (Or.inr ⟨by decide, by decide, mi_152, (RX12, TX12, 41), mk_1_152, rfl, rfl, w_1408⟩)) (And.intro (FP_one fk_12_114 rfl (rr := (RX12, TX12, 41)) rfl rfl (Or.inl rfl)) (And.intro fk_12_114 (And.intro (Or.inr (Or.inr ⟨by decide, by decide, mi_135, (RX12, TX12, 41), mk_1_135, rfl, rfl, w_1322⟩)) (And.intro (Or.inr (Or.inr ⟨by decide, by decide, mi_146, (RX12, TX12, 41), mk_1_146, rfl, rfl, w_1388⟩)) (trivial)))))))))))
theorem sf_154 : ∀ t ∈ mI mi_154, SF mi_154 t := SF_all dm_154 wd_154
theorem hf_154 : HF mi_154 := ⟨(fun _ h => nomatch h), List.Pairwise.nil⟩
theorem dm_155 : tb_155.all (dcB mi_155) = true := by decide +kernel
set_option maxRecDepth 4096 in
theorem wd_155 : WDs mi_155 tb_155 := And.intro (Or.inr (Or.inr ⟨by decide, by decide, mi_129, (RX12, TX12, 41), mk_1_129, rfl, rfl, w_1384⟩)) (And.intro (FP_one fk_12_114 rfl (rr := (RX12, TX12, 41)) rfl rfl (Or.inl rfl)) (And.intro fk_12_114 (trivial)))
theorem sf_155 : ∀ t ∈ mI mi_155, SF mi_155 t := SF_all dm_155 wd_155
theorem hf_155 : HF mi_155 := ⟨(fun _ h => nomatch h), List.Pairwise.nil⟩
theorem dm_156 : tb_156.all (dcB mi_156) = true := by decide +kernel
set_option maxRecDepth 4096 in
theorem wd_156 : WDs mi_156 tb_156 := And.intro (Or.inr (Or.inr ⟨by decide, by decide, mi_155, (RX12, TX12, 41), mk_1_155, rfl, rfl, w_1420⟩)) (And.intro (Or.inr (Or.inr ⟨by decide, by decide, mi_146, (RX12, TX12, 41), mk_1_146, rfl, rfl, w_1388⟩)) (And.intro (FP_one fk_12_114 rfl (rr := (RX12, TX12, 41)) rfl rfl (Or.inl rfl)) (And.intro fk_12_114 (And.intro fk_12_56 (trivial)))))
theorem sf_156 : ∀ t ∈ mI mi_156, SF mi_156 t := SF_all dm_156 wd_156
theorem hf_156 : HF mi_156 := ⟨(fun _ h => nomatch h), List.Pairwise.nil⟩
theorem dm_157 : tb_157.all (dcB mi_157) = true := by decide +kernel
set_option maxRecDepth 4096 in
theorem wd_157 : WDs mi_157 tb_157 := And.intro (Or.inr (Or.inr ⟨by decide, by decide, mi_155, (RX12, TX12, 41), mk_1_155, rfl, rfl, w_1420⟩)) (And.intro (Or.inr (Or.inr ⟨by decide, by decide, mi_131, (RX12, TX12, 41), mk_1_131, rfl, rfl, w_1364⟩)) (And.intro (Or.inr (Or.inr (Or.inr ⟨by decide, by decide, by decide, by decide, mi_126, mk_0_126, w_1304⟩))) (And.intro (FP_one fk_12_114 rfl (rr := (RX12, TX12, 41)) rfl rfl (Or.inl rfl)) (And.intro fk_12_114 (And.intro fk_12_50 (trivial))))))
theorem sf_157 : ∀ t ∈ mI mi_157, SF mi_157 t := SF_all dm_157 wd_157
theorem hf_157 : HF mi_157 := ⟨(fun _ h => nomatch h), List.Pairwise.nil⟩
theorem dm_158 : tb_158.all (dcB mi_158) = true := by decide +kernel
set_option maxRecDepth 4096 in
theorem wd_158 : WDs mi_158 tb_158 := And.intro (Or.inr (Or.inr ⟨by decide, by decide, mi_155, (RX12, TX12, 41), mk_1_155, rfl, rfl, w_1420⟩)) (And.intro (Or.inr (Or.inr ⟨by decide, by decide, mi_130, (RX12, TX12, 41), mk_1_130, rfl, rfl, w_1334⟩)) (And.intro fk_12_53 (trivial)))
theorem sf_158 : ∀ t ∈ mI mi_158, SF mi_158 t := SF_all dm_158 wd_158
theorem hf_158 : HF mi_158 := ⟨(fun _ h => nomatch h), List.Pairwise.nil⟩
theorem dm_159 : tb_159.all (dcB mi_159) = true := by decide +kernel
set_option maxRecDepth 4096 in
theorem wd_159 : WDs mi_159 tb_159 := And.intro (Or.inr (Or.inr ⟨by decide, by decide, mi_155, (RX12, TX12, 41), mk_1_155, rfl, rfl, w_1420⟩)) (And.intro fk_12_71 (And.intro (FP_one fk_12_114 rfl (rr := (RX12, TX12, 41)) rfl rfl (Or.inl rfl)) (And.intro fk_12_114 (And.intro (Or.inr (Or.inr ⟨by decide, by decide, mi_138, (RX12, TX12, 41), mk_1_138, rfl, rfl, w_1352⟩)) (trivial)))))
theorem sf_159 : ∀ t ∈ mI mi_159, SF mi_159 t := SF_all dm_159 wd_159
theorem hf_159 : HF mi_159 := ⟨(fun _ h => nomatch h), List.Pairwise.nil⟩
theorem dm_160 : tb_160.all (dcB mi_160) = true := by decide +kernel
set_option maxRecDepth 4096 in
theorem wd_160 : WDs mi_160 tb_160 := And.intro (Or.inr (Or.inr ⟨by decide, by decide, mi_155, (RX12, TX12, 41), mk_1_155, rfl, rfl, w_1420⟩)) (And.intro fk_12_71 (trivial))
theorem sf_160 : ∀ t ∈ mI mi_160, SF mi_160 t := SF_all dm_160 wd_160
theorem hf_160 : HF mi_160 := ⟨(fun _ h => nomatch h), List.Pairwise.nil⟩
theorem dm_161_0 : tb_161_0.all (dcB mi_161) = true := by decide +kernel
set_option maxRecDepth 4096 in
theorem wd_161_0 : WDs mi_161 tb_161_0 := And.intro (Or.inr (Or.inr ⟨by decide, by decide, mi_155, (RX12, TX12, 41), mk_1_155, rfl, rfl, w_1420⟩)) (And.intro fk_12_71 (And.intro (Or.inr (Or.inr (Or.inr ⟨by decide, by decide, by decide, by decide, mi_126, mk_0_126, w_1304⟩))) (And.intro (FP_one fk_12_114 rfl (rr := (RX12, TX12, 41)) rfl rfl (Or.inl rfl)) (And.intro fk_12_114 (And.intro fk_12_71 (And.intro fk_12_65 (And.intro fk_12_68 (trivial))))))))
theorem dm_161_1 : tb_161_1.all (dcB mi_161) = true := by decide +kernel
set_option maxRecDepth 4096 in
theorem wd_161_1 : WDs mi_161 tb_161_1 := trivial
theorem sf_161 : ∀ t ∈ mI mi_161, SF mi_161 t := SF_app (SF_all dm_161_0 wd_161_0) (SF_all dm_161_1 wd_161_1)
theorem hf_161 : HF mi_161 := ⟨(fun _ h => nomatch h), List.Pairwise.nil⟩
theorem dm_162 : tb_162.all (dcB mi_162) = true := by decide +kernel
set_option maxRecDepth 4096 in
theorem wd_162 : WDs mi_162 tb_162 := And.intro (Or.inr (Or.inr ⟨by decide, by decide, mi_155, (RX12, TX12, 41), mk_1_155, rfl, rfl, w_1420⟩)) (And.intro (Or.inr (Or.inr ⟨by decide, by decide, mi_146, (RX12, TX12, 41), mk_1_146, rfl, rfl, w_1388⟩)) (trivial))
theorem sf_162 : ∀ t ∈ mI mi_162, SF mi_162 t := SF_all dm_162 wd_162
theorem hf_162 : HF mi_162 := ⟨(fun _ h => nomatch h), List.Pairwise.nil⟩
theorem dm_163 : tb_163.all (dcB mi_163) = true := by decide +kernel
set_option maxRecDepth 4096 in
theorem wd_163 : WDs mi_163 tb_163 := And.intro (Or.inr (Or.inr ⟨by decide, by decide, mi_155, (RX12, TX12, 41), mk_1_155, rfl, rfl, w_1420⟩)) (And.intro fk_12_74 (trivial))
theorem sf_163 : ∀ t ∈ mI mi_163, SF mi_163 t := SF_all dm_163 wd_163
theorem hf_163 : HF mi_163 := ⟨(fun _ h => nomatch h), List.Pairwise.nil⟩
theorem dm_164 : tb_164.all (dcB mi_164) = true := by decide +kernel
set_option maxRecDepth 4096 in
theorem wd_164 : WDs mi_164 tb_164 := And.intro (Or.inr (Or.inr ⟨by decide, by decide, mi_155, (RX12, TX12, 41), mk_1_155, rfl, rfl, w_1420⟩)) (And.intro (Or.inr (Or.inr ⟨by decide, by decide, mi_146, (RX12, TX12, 41), mk_1_146, rfl, rfl, w_1388⟩)) (And.intro (FP_one fk_12_114 rfl (rr := (RX12, TX12, 41)) rfl rfl (Or.inl rfl)) (And.intro fk_12_114 (And.intro fk_12_77 (trivial)))))
theorem sf_164 : ∀ t ∈ mI mi_164, SF mi_164 t := SF_all dm_164 wd_164
theorem hf_164 : HF mi_164 := ⟨(fun _ h => nomatch h), List.Pairwise.nil⟩
theorem dm_165 : tb_165.all (dcB mi_165) = true := by decide +kernel
set_option maxRecDepth 4096 in
theorem wd_165 : WDs mi_165 tb_165 := And.intro fk_12_107 (And.intro fk_12_111 (And.intro (FP_one fk_12_114 rfl (rr := (RX12, TX12, 41)) rfl rfl (Or.inl rfl)) (And.intro fk_12_114 (And.intro fk_12_107 (And.intro fk_12_111 (trivial))))))
theorem sf_165 : ∀ t ∈ mI mi_165, SF mi_165 t := SF_all dm_165 wd_165
theorem hf_165 : HF mi_165 := ⟨(fun _ h => nomatch h), List.Pairwise.nil⟩
theorem dm_166 : tb_166.all (dcB mi_166) = true := by decide +kernel
set_option maxRecDepth 4096 in
theorem wd_166 : WDs mi_166 tb_166 := And.intro (Or.inr (Or.inr (Or.inr ⟨by decide, by decide, by decide, by decide, mi_126, mk_0_126, w_1304⟩))) (trivial)
theorem sf_166 : ∀ t ∈ mI mi_166, SF mi_166 t := SF_all dm_166 wd_166
theorem hf_166 : HF mi_166 := ⟨(fun _ h => nomatch h), List.Pairwise.nil⟩
theorem dm_167 : tb_167.all (dcB mi_167) = true := by decide +kernel
set_option maxRecDepth 4096 in
theorem wd_167 : WDs mi_167 tb_167 := And.intro (Or.inr (Or.inr (Or.inr ⟨by decide, by decide, by decide, by decide, mi_166, mk_0_166, w_1464⟩))) (And.intro (Or.inr (Or.inr ⟨by decide, by decide, mi_129, (RX12, TX12, 41), mk_1_129, rfl, rfl, w_1384⟩)) (And.intro (FP_one fk_12_114 rfl (rr := (RX12, TX12, 41)) rfl rfl (Or.inl rfl)) (And.intro fk_12_114 (And.intro (Or.inr (Or.inr ⟨by decide, by decide, mi_131, (RX12, TX12, 41), mk_1_131, rfl, rfl, w_1364⟩)) (And.intro (Or.inr (Or.inr (Or.inr ⟨by decide, by decide, by decide, by decide, mi_126, mk_0_126, w_1304⟩))) (And.intro fk_12_104 (And.intro (Or.inr (Or.inr (Or.inr ⟨by decide, by decide, by decide, by decide, mi_126, mk_0_126, w_1304⟩))) (And.intro (Or.inr (Or.inr ⟨by decide, by decide, mi_146, (RX12, TX12, 41), mk_1_146, rfl, rfl, w_1388⟩)) (And.intro fk_12_89 (And.intro (Or.inr (Or.inr ⟨by decide, by decide, mi_145, (RX12, TX12, 41), mk_1_145, rfl, rfl, w_1318⟩)) (And.intro (FP_one fk_12_114 rfl (rr := (RX12, TX12, 41)) rfl rfl (Or.inl rfl)) (And.intro fk_12_114 (And.intro (Or.inr (Or.inr ⟨by decide, by decide, mi_135, (RX12, TX12, 41), mk_1_135, rfl, rfl, w_1322⟩)) (And.intro (Or.inr (Or.inr ⟨by decide, by decide, mi_143, (RX12, TX12, 41), mk_1_143, rfl, rfl, w_1360⟩)) (trivial)))))))))))))))
theorem sf_167 : ∀ t ∈ mI mi_167, SF mi_167 t := SF_all dm_167 wd_167
theorem hf_167 : HF mi_167 := ⟨(fun _ h => nomatch h), List.Pairwise.nil⟩
theorem dm_168 : tb_168.all (dcB mi_168) = true := by decide +kernel
set_option maxRecDepth 4096 in
theorem wd_168 : WDs mi_168 tb_168 := And.intro (Or.inr (Or.inr (Or.inr ⟨by decide, by decide, by decide, by decide, mi_166, mk_0_166, w_1464⟩))) (And.intro (FP_one fk_12_114 rfl (rr := (RX12, TX12, 41)) rfl rfl (Or.inl rfl)) (And.intro fk_12_114 (And.intro fk_12_104 (trivial))))
theorem sf_168 : ∀ t ∈ mI mi_168, SF mi_168 t := SF_all dm_168 wd_168
theorem hf_168 : HF mi_168 := ⟨(fun _ h => nomatch h), List.Pairwise.nil⟩
theorem dm_169 : tb_169.all (dcB mi_169) = true := by decide +kernel
set_option maxRecDepth 4096 in
theorem wd_169 : WDs mi_169 tb_169 := And.intro (Or.inr (Or.inr ⟨by decide, by decide, mi_155, (RX12, TX12, 41), mk_1_155, rfl, rfl, w_1420⟩)) (And.intro (Or.inr (Or.inr ⟨by decide, by decide, mi_143, (RX12, TX12, 41), mk_1_143, rfl, rfl, w_1360⟩)) (trivial))
theorem sf_169 : ∀ t ∈ mI mi_169, SF mi_169 t := SF_all dm_169 wd_169
theorem hf_169 : HF mi_169 := ⟨(fun _ h => nomatch h), List.Pairwise.nil⟩
theorem dm_170 : tb_170.all (dcB mi_170) = true := by decide +kernel
set_option maxRecDepth 4096 in
theorem wd_170 : WDs mi_170 tb_170 := And.intro (Or.inr (Or.inr ⟨by decide, by decide, mi_155, (RX12, TX12, 41), mk_1_155, rfl, rfl, w_1420⟩)) (And.intro fk_12_89 (And.intro (Or.inr (Or.inr (Or.inr ⟨by decide, by decide, by decide, by decide, mi_126, mk_0_126, w_1304⟩))) (And.intro (FP_one fk_12_114 rfl (rr := (RX12, TX12, 41)) rfl rfl (Or.inl rfl)) (And.intro fk_12_114 (And.intro fk_12_101 (trivial))))))
theorem sf_170 : ∀ t ∈ mI mi_170, SF mi_170 t := SF_all dm_170 wd_170
theorem hf_170 : HF mi_170 := ⟨(fun _ h => nomatch h), List.Pairwise.nil⟩
theorem dm_171 : tb_171.all (dcB mi_171) = true := by decide +kernel
set_option maxRecDepth 4096 in
theorem wd_171 : WDs mi_171 tb_171 := And.intro (FP_one fk_12_114 rfl (rr := (RX12, TX12, 41)) rfl rfl (Or.inl rfl)) (And.intro fk_12_191 (trivial))
theorem sf_171 : ∀ t ∈ mI mi_171, SF mi_171 t := SF_all dm_171 wd_171
theorem hf_171 : HF mi_171 := ⟨(fun _ h => nomatch h), List.Pairwise.nil⟩
theorem dm_172 : tb_172.all (dcB mi_172) = true := by decide +kernel
set_option maxRecDepth 4096 in
theorem wd_172 : WDs mi_172 tb_172 := And.intro fk_12_229 (And.intro fk_12_41 (And.intro fk_12_86 (trivial)))
theorem sf_172 : ∀ t ∈ mI mi_172, SF mi_172 t := SF_all dm_172 wd_172
theorem hf_172 : HF mi_172 := ⟨(fun _ h => nomatch h), List.Pairwise.nil⟩
theorem dm_173 : tb_173.all (dcB mi_173) = true := by decide +kernel
set_option maxRecDepth 4096 in
theorem wd_173 : WDs mi_173 tb_173 := And.intro (Or.inr (Or.inr ⟨by decide, by decide, mi_129, (RX12, TX12, 41), mk_1_129, rfl, rfl, w_1384⟩)) (And.intro (Or.inr (Or.inr (Or.inr ⟨by decide, by decide, by decide, by decide, mi_128, mk_0_128, w_1307⟩))) (And.intro fk_12_74 (And.intro fk_12_80 (And.intro fk_12_83 (And.intro (Or.inr (Or.inr ⟨by decide, by decide, mi_172, (RX12, TX12, 41), mk_1_172, rfl, rfl, w_1487⟩)) (And.intro (Or.inr (Or.inr ⟨by decide, by decide, mi_145, (RX12, TX12, 41), mk_1_145, rfl, rfl, w_1318⟩)) (And.intro (FP_one fk_12_114 rfl (rr := (RX12, TX12, 41)) rfl rfl (Or.inl rfl)) (And.intro fk_12_114 (And.intro (Or.inr (Or.inr ⟨by decide, by decide, mi_135, (RX12, TX12, 41), mk_1_135, rfl, rfl, w_1322⟩)) (And.intro fk_12_77 (trivial)))))))))))
theorem sf_173 : ∀ t ∈ mI mi_173, SF mi_173 t := SF_all dm_173 wd_173
theorem hf_173 : HF mi_173 := ⟨(fun _ h => nomatch h), List.Pairwise.nil⟩
theorem dm_174 : tb_174.all (dcB mi_174) = true := by decide +kernel
set_option maxRecDepth 4096 in
theorem wd_174 : WDs mi_174 tb_174 := And.intro (Or.inr (Or.inr ⟨by decide, by decide, mi_155, (RX12, TX12, 41), mk_1_155, rfl, rfl, w_1420⟩)) (And.intro fk_12_80 (trivial))
theorem sf_174 : ∀ t ∈ mI mi_174, SF mi_174 t := SF_all dm_174 wd_174
theorem hf_174 : HF mi_174 := ⟨(fun _ h => nomatch h), List.Pairwise.nil⟩
theorem dm_175 : tb_175.all (dcB mi_175) = true := by decide +kernel
set_option maxRecDepth 4096 in
theorem wd_175 : WDs mi_175 tb_175 := And.intro (FP_one fk_12_114 rfl (rr := (RX12, TX12, 41)) rfl rfl (Or.inl rfl)) (And.intro fk_12_135 (trivial))
theorem sf_175 : ∀ t ∈ mI mi_175, SF mi_175 t := SF_all dm_175 wd_175
theorem hf_175 : HF mi_175 := ⟨(fun _ h => nomatch h), List.Pairwise.nil⟩
theorem dm_176 : tb_176.all (dcB mi_176) = true := by decide +kernel
set_option maxRecDepth 4096 in
theorem wd_176 : WDs mi_176 tb_176 := And.intro (FP_one fk_12_114 rfl (rr := (RX12, TX12, 41)) rfl rfl (Or.inl rfl)) (And.intro fk_12_135 (And.intro fk_12_235 (trivial)))
theorem sf_176 : ∀ t ∈ mI mi_176, SF mi_176 t := SF_all dm_176 wd_176
theorem hf_176 : HF mi_176 := ⟨(fun _ h => nomatch h), List.Pairwise.nil⟩
theorem dm_177 : tb_177.all (dcB mi_177) = true := by decide +kernel
set_option maxRecDepth 4096 in
theorem wd_177 : WDs mi_177 tb_177 := And.intro fk_12_135 (And.intro (Or.inr (Or.inr (Or.inr ⟨by decide, by decide, by decide, by decide, mi_126, mk_0_126, w_1304⟩))) (And.intro (FP_one fk_12_114 rfl (rr := (RX12, TX12, 41)) rfl rfl (Or.inl rfl)) (And.intro fk_12_114 (trivial))))
theorem sf_177 : ∀ t ∈ mI mi_177, SF mi_177 t := SF_all dm_177 wd_177
theorem hf_177 : HF mi_177 := ⟨(fun _ h => nomatch h), List.Pairwise.nil⟩
theorem dm_178 : tb_178.all (dcB mi_178) = true := by decide +kernel
set_option maxRecDepth 4096 in
theorem wd_178 : WDs mi_178 tb_178 := And.intro (Or.inr (Or.inr ⟨by decide, by decide, mi_177, (RX12, TX12, 41), mk_1_177, rfl, rfl, w_1507⟩)) (And.intro fk_12_26 (trivial))
theorem sf_178 : ∀ t ∈ mI mi_178, SF mi_178 t := SF_all dm_178 wd_178
theorem hf_178 : HF mi_178 := ⟨(fun _ h => nomatch h), List.Pairwise.nil⟩
theorem dm_179 : tb_179.all (dcB mi_179) = true := by decide +kernel
set_option maxRecDepth 4096 in
theorem wd_179 : WDs mi_179 tb_179 := And.intro (Or.inr (Or.inr ⟨by decide, by decide, mi_177, (RX12, TX12, 41), mk_1_177, rfl, rfl, w_1507⟩)) (And.intro fk_12_29 (trivial))
theorem sf_179 : ∀ t ∈ mI mi_179, SF mi_179 t := SF_all dm_179 wd_179
theorem hf_179 : HF mi_179 := ⟨(fun _ h => nomatch h), List.Pairwise.nil⟩
theorem dm_180 : tb_180.all (dcB mi_180) = true := by decide +kernel
set_option maxRecDepth 4096 in
theorem wd_180 : WDs mi_180 tb_180 := And.intro (FP_one fk_12_114 rfl (rr := (RX12, TX12, 41)) rfl rfl (Or.inl rfl)) (And.intro fk_12_135 (And.intro fk_12_235 (And.intro fk_12_135 (And.intro (FP_one fk_12_235 rfl (rr := (RX12, TX12, 41)) rfl rfl (Or.inl rfl)) (trivial)))))
theorem sf_180 : ∀ t ∈ mI mi_180, SF mi_180 t := SF_all dm_180 wd_180
theorem hf_180 : HF mi_180 := ⟨(fun _ h => nomatch h), List.Pairwise.nil⟩
theorem dm_181 : tb_181.all (dcB mi_181) = true := by decide +kernel
set_option maxRecDepth 4096 in
theorem wd_181 : WDs mi_181 tb_181 := And.intro (FP_one fk_12_114 rfl (rr := (RX12, TX12, 41)) rfl rfl (Or.inl rfl)) (And.intro fk_12_135 (And.intro fk_12_235 (And.intro fk_12_235 (And.intro (FP_one fk_12_135 rfl (rr := (RX12, TX12, 41)) rfl rfl (Or.inl rfl)) (And.intro (FP_one fk_12_117 rfl (rr := (RX12, TX12, 41)) rfl rfl (Or.inl rfl)) (And.intro (FP_one fk_12_191 rfl (rr := (RX12, TX12, 41)) rfl rfl (Or.inl rfl)) (And.intro fk_12_104 (And.intro fk_12_135 (And.intro (Or.inr (Or.inr ⟨by decide, by decide, mi_136, (RX12, TX12, 41), mk_1_136, rfl, rfl, w_1326⟩)) (trivial))))))))))
theorem sf_181 : ∀ t ∈ mI mi_181, SF mi_181 t := SF_all dm_181 wd_181
theorem hf_181 : HF mi_181 := ⟨(fun _ h => nomatch h), List.Pairwise.nil⟩
theorem dm_182 : tb_182.all (dcB mi_182) = true := by decide +kernel
set_option maxRecDepth 4096 in
theorem wd_182 : WDs mi_182 tb_182 := And.intro fk_12_117 (And.intro fk_12_89 (And.intro (Or.inr (Or.inr ⟨by decide, by decide, mi_146, (RX12, TX12, 41), mk_1_146, rfl, rfl, w_1388⟩)) (And.intro fk_12_229 (And.intro (FP_one fk_12_114 rfl (rr := (RX12, TX12, 41)) rfl rfl (Or.inl rfl)) (And.intro fk_12_114 (And.intro fk_12_135 (And.intro (FP_one fk_12_235 rfl (rr := (RX12, TX12, 41)) rfl rfl (Or.inl rfl)) (And.intro fk_12_41 (And.intro fk_12_229 (And.intro fk_12_135 (And.intro fk_12_229 (And.intro (FP_one fk_12_229 rfl (rr := (RX12, TX12, 41)) rfl rfl (Or.inl rfl)) (And.intro fk_12_229 (trivial))))))))))))))
theorem sf_182 : ∀ t ∈ mI mi_182, SF mi_182 t := SF_all dm_182 wd_182
theorem hf_182 : HF mi_182 := ⟨(fun _ h => nomatch h), List.Pairwise.nil⟩
theorem dm_183 : tb_183.all (dcB mi_183) = true := by decide +kernel
set_option maxRecDepth 4096 in
theorem wd_183 : WDs mi_183 tb_183 := And.intro fk_12_229 (And.intro (Or.inr (Or.inr (Or.inr ⟨by decide, by decide, by decide, by decide, mi_126, mk_0_126, w_1304⟩))) (trivial))
theorem sf_183 : ∀ t ∈ mI mi_183, SF mi_183 t := SF_all dm_183 wd_183
theorem hf_183 : HF mi_183 := ⟨(fun _ h => nomatch h), List.Pairwise.nil⟩
theorem dm_184 : tb_184.all (dcB mi_184) = true := by decide +kernel
set_option maxRecDepth 4096 in
theorem wd_184 : WDs mi_184 tb_184 := And.intro (Or.inr (Or.inr ⟨by decide, by decide, mi_183, (RX12, TX12, 41), mk_1_183, rfl, rfl, w_1531⟩)) (And.intro (FP_one fk_12_114 rfl (rr := (RX12, TX12, 41)) rfl rfl (Or.inl rfl)) (And.intro fk_12_114 (And.intro fk_12_135 (And.intro fk_12_41 (trivial)))))
theorem sf_184 : ∀ t ∈ mI mi_184, SF mi_184 t := SF_all dm_184 wd_184
theorem hf_184 : HF mi_184 := ⟨(fun _ h => nomatch h), List.Pairwise.nil⟩
theorem dm_185 : tb_185.all (dcB mi_185) = true := by decide +kernel
set_option maxRecDepth 4096 in
theorem wd_185 : WDs mi_185 tb_185 := And.intro (Or.inr (Or.inr ⟨by decide, by decide, mi_183, (RX12, TX12, 41), mk_1_183, rfl, rfl, w_1531⟩)) (And.intro (FP_one fk_12_114 rfl (rr := (RX12, TX12, 41)) rfl rfl (Or.inl rfl)) (And.intro fk_12_114 (And.intro (Or.inr (Or.inr ⟨by decide, by decide, mi_186, (RX12, TX12, 41), mk_1_186, rfl, rfl, w_1539⟩)) (trivial))))
theorem sf_185 : ∀ t ∈ mI mi_185, SF mi_185 t := SF_all dm_185 wd_185
theorem hf_185 : HF mi_185 := ⟨(fun _ h => nomatch h), List.Pairwise.nil⟩
theorem dm_186 : tb_186.all (dcB mi_186) = true := by decide +kernel
set_option maxRecDepth 4096 in
theorem wd_186 : WDs mi_186 tb_186 := And.intro (Or.inl ⟨rfl, w_1543⟩) (And.intro fk_12_117 (And.intro (Or.inl ⟨rfl, w_1544⟩) (And.intro fk_12_71 (And.intro (Or.inr (Or.inr ⟨by decide, by decide, mi_131, (RX12, TX12, 41), mk_1_131, rfl, rfl, w_1364⟩)) (And.intro (Or.inl ⟨rfl, w_1544⟩) (And.intro fk_12_50 (And.intro (Or.inr ⟨by decide, w_1545⟩) (And.intro (Or.inl ⟨rfl, w_1544⟩) (And.intro fk_12_77 (And.intro (Or.inl ⟨rfl, w_1544⟩) (And.intro fk_12_104 (And.intro (Or.inl ⟨rfl, w_1544⟩) (And.intro fk_12_191 (trivial))))))))))))))
theorem sf_186 : ∀ t ∈ mI mi_186, SF mi_186 t := SF_all dm_186 wd_186
theorem hf_186 : HF mi_186 := ⟨(fun _ h => nomatch h), List.Pairwise.nil⟩
theorem dm_187 : tb_187.all (dcB mi_187) = true := by decide +kernel
set_option maxRecDepth 4096 in
theorem wd_187 : WDs mi_187 tb_187 := And.intro (FP_one fk_12_114 rfl (rr := (RX12, TX12, 41)) rfl rfl (Or.inl rfl)) (And.intro (Or.inr (Or.inr ⟨by decide, by decide, mi_186, (RX12, TX12, 41), mk_1_186, rfl, rfl, w_1539⟩)) (trivial))
theorem sf_187 : ∀ t ∈ mI mi_187, SF mi_187 t := SF_all dm_187 wd_187
theorem hf_187 : HF mi_187 := ⟨(fun _ h => nomatch h), List.Pairwise.nil⟩
theorem dm_188 : tb_188.all (dcB mi_188) = true := by decide +kernel
set_option maxRecDepth 4096 in
theorem wd_188 : WDs mi_188 tb_188 := And.intro fk_12_117 (And.intro (FP_one fk_12_114 rfl (rr := (RX12, TX12, 41)) rfl rfl (Or.inl rfl)) (And.intro fk_12_117 (And.intro (Or.inr (Or.inr ⟨by decide, by decide, mi_146, (RX12, TX12, 41), mk_1_146, rfl, rfl, w_1388⟩)) (And.intro fk_12_114 (And.intro fk_12_117 (trivial))))))
theorem sf_188 : ∀ t ∈ mI mi_188, SF mi_188 t := SF_all dm_188 wd_188
theorem hf_188 : HF mi_188 := ⟨(fun _ h => nomatch h), List.Pairwise.nil⟩
theorem dm_189 : tb_189.all (dcB mi_189) = true := by decide +kernel
set_option maxRecDepth 4096 in
theorem wd_189 : WDs mi_189 tb_189 := And.intro (FP_one fk_12_114 rfl (rr := (RX12, TX12, 41)) rfl rfl (Or.inl rfl)) (And.intro fk_12_104 (And.intro (Or.inr ⟨by decide, w_1558⟩) (trivial)))
theorem sf_189 : ∀ t ∈ mI mi_189, SF mi_189 t := SF_all dm_189 wd_189
theorem hf_189 : HF mi_189 := ⟨(fun _ h => nomatch h), List.Pairwise.nil⟩
theorem dm_190 : tb_190.all (dcB mi_190) = true := by decide +kernel
set_option maxRecDepth 4096 in
theorem wd_190 : WDs mi_190 tb_190 := And.intro (FP_one fk_12_114 rfl (rr := (RX12, TX12, 41)) rfl rfl (Or.inl rfl)) (trivial)
theorem sf_190 : ∀ t ∈ mI mi_190, SF mi_190 t := SF_all dm_190 wd_190
theorem hf_190 : HF mi_190 := ⟨(fun _ h => nomatch h), List.Pairwise.nil⟩
theorem dm_191 : tb_191.all (dcB mi_191) = true := by decide +kernel
set_option maxRecDepth 4096 in
theorem wd_191 : WDs mi_191 tb_191 := And.intro w_542 (And.intro w_543 (And.intro w_543 (And.intro w_544 (trivial))))
theorem sf_191 : ∀ t ∈ mI mi_191, SF mi_191 t := SF_all dm_191 wd_191
theorem hf_191 : HF mi_191 := ⟨(fun _ h => nomatch h), List.Pairwise.nil⟩
theorem dm_192 : tb_192.all (dcB mi_192) = true := by decide +kernel
set_option maxRecDepth 4096 in
theorem wd_192 : WDs mi_192 tb_192 := trivial
theorem sf_192 : ∀ t ∈ mI mi_192, SF mi_192 t := SF_all dm_192 wd_192
theorem hf_192 : HF mi_192 := ⟨(fun _ h => nomatch h), List.Pairwise.nil⟩
theorem dm_193 : tb_193.all (dcB mi_193) = true := by decide +kernel
set_option maxRecDepth 4096 in
theorem wd_193 : WDs mi_193 tb_193 := trivial
theorem sf_193 : ∀ t ∈ mI mi_193, SF mi_193 t := SF_all dm_193 wd_193
theorem hf_193 : HF mi_193 := ⟨(fun _ h => nomatch h), List.Pairwise.nil⟩
theorem dm_194 : tb_194.all (dcB mi_194) = true := by decide +kernel
set_option maxRecDepth 4096 in
theorem wd_194 : WDs mi_194 tb_194 := And.intro (Or.inl ⟨rfl, w_51, w_38, w_39⟩) (trivial)
theorem sf_194 : ∀ t ∈ mI mi_194, SF mi_194 t := SF_all dm_194 wd_194
theorem hf_194 : HF mi_194 := ⟨(fun _ h => nomatch h), List.Pairwise.nil⟩
theorem dm_195 : tb_195.all (dcB mi_195) = true := by decide +kernel
set_option maxRecDepth 4096 in
theorem wd_195 : WDs mi_195 tb_195 := And.intro (Or.inr ⟨by decide, mi_194, mk_2_194, w_48⟩) (And.intro (FP_one fk_13_7 rfl (rr := (RJx4a65c, TJx4a65c, 3)) rfl rfl (Or.inl rfl)) (trivial))
theorem sf_195 : ∀ t ∈ mI mi_195, SF mi_195 t := SF_all dm_195 wd_195
theorem hf_195 : HF mi_195 := ⟨(fun _ h => nomatch h), List.Pairwise.nil⟩
theorem dm_196 : tb_196.all (dcB mi_196) = true := by decide +kernel
set_option maxRecDepth 4096 in
theorem wd_196 : WDs mi_196 tb_196 := And.intro (Or.inr ⟨by decide, mi_195, mk_2_195, w_45⟩) (And.intro w_52 (And.intro (FP_one fk_14_9 rfl (rr := (RJx4a65c, TJx4a65c, 3)) rfl rfl (Or.inl rfl)) (trivial)))
theorem sf_196 : ∀ t ∈ mI mi_196, SF mi_196 t := SF_all dm_196 wd_196
theorem hf_196 : HF mi_196 := ⟨(fun _ h => nomatch h), List.Pairwise.nil⟩
theorem dm_197 : tb_197.all (dcB mi_197) = true := by decide +kernel
set_option maxRecDepth 4096 in
theorem wd_197 : WDs mi_197 tb_197 := And.intro fk_14_9 (And.intro fk_14_9 (And.intro w_52 (And.intro (Or.inr (Or.inr (Or.inr ⟨by decide, by decide, by decide, by decide, mi_209, mk_0_209, w_683⟩))) (And.intro fk_14_9 (And.intro (Or.inr (Or.inr (Or.inr ⟨by decide, by decide, by decide, by decide, mi_206, mk_0_206, w_691⟩))) (And.intro (FP_one fk_14_9 rfl (rr := (RJx4a65c, TJx4a65c, 3)) rfl rfl (Or.inl rfl)) (And.intro (Or.inr (Or.inr (Or.inl ⟨rfl, w_724, w_555, w_16, w_556⟩))) (And.intro (⟨"java/lang/Object", rfl, Or.inr rfl, w_725⟩) (And.intro (FP_one fk_14_9 rfl (rr := (RJx4a65c, TJx4a65c, 3)) rfl rfl (Or.inl rfl)) (trivial))))))))))
theorem sf_197 : ∀ t ∈ mI mi_197, SF mi_197 t := SF_all dm_197 wd_197
theorem hf_197 : HF mi_197 := ⟨(fun _ h => nomatch h), List.Pairwise.nil⟩
theorem dm_198 : tb_198.all (dcB mi_198) = true := by decide +kernel
set_option maxRecDepth 4096 in
theorem wd_198 : WDs mi_198 tb_198 := And.intro fk_14_48 (And.intro (Or.inr (Or.inr ⟨by decide, by decide, mi_197, (RJx4a65c, TJx4a65c, 3), mk_1_197, rfl, rfl, w_679⟩)) (trivial))
theorem sf_198 : ∀ t ∈ mI mi_198, SF mi_198 t := SF_all dm_198 wd_198
theorem hf_198 : HF mi_198 := ⟨(fun _ h => nomatch h), List.Pairwise.nil⟩
theorem dm_199 : tb_199.all (dcB mi_199) = true := by decide +kernel
set_option maxRecDepth 4096 in
theorem wd_199 : WDs mi_199 tb_199 := And.intro fk_14_48 (trivial)
theorem sf_199 : ∀ t ∈ mI mi_199, SF mi_199 t := SF_all dm_199 wd_199
theorem hf_199 : HF mi_199 := ⟨(fun _ h => nomatch h), List.Pairwise.nil⟩
theorem dm_200 : tb_200.all (dcB mi_200) = true := by decide +kernel
set_option maxRecDepth 4096 in
theorem wd_200 : WDs mi_200 tb_200 := And.intro fk_14_9 (trivial)
theorem sf_200 : ∀ t ∈ mI mi_200, SF mi_200 t := SF_all dm_200 wd_200
theorem hf_200 : HF mi_200 := ⟨(fun _ h => nomatch h), List.Pairwise.nil⟩
theorem dm_201 : tb_201.all (dcB mi_201) = true := by decide +kernel
set_option maxRecDepth 4096 in
theorem wd_201 : WDs mi_201 tb_201 := And.intro fk_14_48 (And.intro (Or.inr (Or.inr (Or.inr ⟨by decide, by decide, by decide, by decide, mi_208, mk_0_208, w_284⟩))) (And.intro (Or.inr (Or.inr ⟨by decide, by decide, mi_200, (RJx4a65c, TJx4a65c, 3), mk_1_200, rfl, rfl, w_305⟩)) (trivial)))
theorem sf_201 : ∀ t ∈ mI mi_201, SF mi_201 t := SF_all dm_201 wd_201
theorem hf_201 : HF mi_201 := ⟨(fun _ h => nomatch h), List.Pairwise.nil⟩
theorem dm_202 : tb_202.all (dcB mi_202) = true := by decide +kernel
set_option maxRecDepth 4096 in
theorem wd_202 : WDs mi_202 tb_202 := And.intro (Or.inr (Or.inr ⟨by decide, by decide, mi_198, (RJx4a65c, TJx4a65c, 3), mk_1_198, rfl, rfl, w_675⟩)) (And.intro (FP_one fk_14_48 rfl (rr := (RJx4a65c, TJx4a65c, 3)) rfl rfl (Or.inl rfl)) (trivial))
theorem sf_202 : ∀ t ∈ mI mi_202, SF mi_202 t := SF_all dm_202 wd_202
theorem hf_202 : HF mi_202 := ⟨(fun _ h => nomatch h), List.Pairwise.nil⟩
theorem dm_203 : tb_203.all (dcB mi_203) = true := by decide +kernel
set_option maxRecDepth 4096 in
theorem wd_203 : WDs mi_203 tb_203 := And.intro fk_14_63 (And.intro (FP_one fk_14_63 rfl (rr := (RJx4a65c, TJx4a65c, 3)) rfl rfl (Or.inl rfl)) (And.intro fk_14_9 (And.intro fk_14_48 (And.intro (Or.inr (Or.inr ⟨by decide, by decide, mi_202, (RJx4a65c, TJx4a65c, 3), mk_1_202, rfl, rfl, w_671⟩)) (trivial)))))
theorem sf_203 : ∀ t ∈ mI mi_203, SF mi_203 t := SF_all dm_203 wd_203
theorem hf_203 : HF mi_203 := ⟨(fun _ h => nomatch h), List.Pairwise.nil⟩
theorem dm_204 : tb_204.all (dcB mi_204) = true := by decide +kernel
set_option maxRecDepth 4096 in
theorem wd_204 : WDs mi_204 tb_204 := And.intro fk_14_48 (And.intro (Or.inr (Or.inr (Or.inr ⟨by decide, by decide, by decide, by decide, mi_208, mk_0_208, w_284⟩))) (And.intro fk_14_9 (And.intro (Or.inr (Or.inr ⟨by decide, by decide, mi_205, (RJx4a65c, TJx4a65c, 3), mk_1_205, rfl, rfl, w_290⟩)) (trivial))))
theorem sf_204 : ∀ t ∈ mI mi_204, SF mi_204 t := SF_all dm_204 wd_204
theorem hf_204 : HF mi_204 := ⟨(fun _ h => nomatch h), List.Pairwise.nil⟩
theorem dm_205 : tb_205.all (dcB mi_205) = true := by decide +kernel
set_option maxRecDepth 4096 in
theorem wd_205 : WDs mi_205 tb_205 := And.intro fk_14_63 (And.intro (FP_one fk_14_63 rfl (rr := (RJx4a65c, TJx4a65c, 3)) rfl rfl (Or.inl rfl)) (And.intro fk_14_48 (And.intro (Or.inl ⟨Or.inl rfl, w_294, w_296, w_295, w_18⟩) (And.intro (FP_one fk_14_48 rfl (rr := (RJx4a65c, TJx4a65c, 3)) rfl rfl (Or.inl rfl)) (trivial)))))
theorem sf_205 : ∀ t ∈ mI mi_205, SF mi_205 t := SF_all dm_205 wd_205
theorem hf_205 : HF mi_205 := ⟨(fun _ h => nomatch h), List.Pairwise.nil⟩
theorem dm_206 : tb_206.all (dcB mi_206) = true := by decide +kernel
set_option maxRecDepth 4096 in
theorem wd_206 : WDs mi_206 tb_206 := And.intro (Or.inl ⟨rfl, w_694, w_1593, w_695, w_715, (List.mem_of_getElem? (i := 38) rfl)⟩) (And.intro (Or.inr (Or.inr (Or.inr ⟨by decide, by decide, by decide, by decide, mi_207, mk_0_207, w_716⟩))) (trivial))
theorem sf_206 : ∀ t ∈ mI mi_206, SF mi_206 t := SF_all dm_206 wd_206
theorem hf_206 : HF mi_206 := ⟨(fun _ h => nomatch h), List.Pairwise.nil⟩
theorem dm_207 : tb_207.all (dcB mi_207) = true := by decide +kernel
set_option maxRecDepth 4096 in
theorem wd_207 : WDs mi_207 tb_207 := And.intro (Or.inl ⟨rfl, w_719⟩) (And.intro (⟨"java/lang/Object", rfl, Or.inr rfl, w_721⟩) (And.intro (Or.inr (Or.inl ⟨rfl, w_722, w_407, w_16, w_408⟩)) (And.intro (Or.inl ⟨Or.inr rfl, w_723, w_296, w_295, w_18⟩) (trivial))))
theorem sf_207 : ∀ t ∈ mI mi_207, SF mi_207 t := SF_all dm_207 wd_207
theorem hf_207 : HF mi_207 := ⟨(fun _ h => nomatch h), List.Pairwise.nil⟩
theorem dm_208 : tb_208.all (dcB mi_208) = true := by decide +kernel
set_option maxRecDepth 4096 in
theorem wd_208 : WDs mi_208 tb_208 := And.intro (Or.inr (Or.inr (Or.inr ⟨by decide, by decide, by decide, by decide, mi_210, mk_0_210, w_287⟩))) (trivial)
theorem sf_208 : ∀ t ∈ mI mi_208, SF mi_208 t := SF_all dm_208 wd_208
theorem hf_208 : HF mi_208 := ⟨(fun _ h => nomatch h), List.Pairwise.nil⟩
theorem dm_209 : tb_209.all (dcB mi_209) = true := by decide +kernel
set_option maxRecDepth 4096 in
theorem wd_209 : WDs mi_209 tb_209 := And.intro (Or.inr (Or.inr (Or.inl ⟨rfl, w_686, w_555, w_16, w_556⟩))) (And.intro (Or.inr ⟨by decide, w_687⟩) (trivial))
theorem sf_209 : ∀ t ∈ mI mi_209, SF mi_209 t := SF_all dm_209 wd_209
theorem hf_209 : HF mi_209 := ⟨(fun _ h => nomatch h), List.Pairwise.nil⟩
theorem dm_210 : tb_210.all (dcB mi_210) = true := by decide +kernel
set_option maxRecDepth 4096 in
theorem wd_210 : WDs mi_210 tb_210 := trivial
theorem sf_210 : ∀ t ∈ mI mi_210, SF mi_210 t := SF_all dm_210 wd_210
theorem hf_210 : HF mi_210 := ⟨(fun _ h => nomatch h), List.Pairwise.nil⟩
theorem dm_211 : tb_211.all (dcB mi_211) = true := by decide +kernel
set_option maxRecDepth 4096 in
theorem wd_211 : WDs mi_211 tb_211 := And.intro (Or.inr (Or.inr ⟨by decide, by decide, mi_80, (RX11, TX11, 10), mk_1_80, rfl, rfl, w_571⟩)) (trivial)
theorem sf_211 : ∀ t ∈ mI mi_211, SF mi_211 t := SF_all dm_211 wd_211
theorem hf_211 : HF mi_211 := ⟨List.forall_mem_cons.mpr ⟨⟨w_569, by decide, (List.mem_of_getElem? (i := 1) rfl)⟩, List.forall_mem_cons.mpr ⟨⟨w_570, by decide, (List.mem_of_getElem? (i := 8) rfl)⟩, fun _ h => nomatch h⟩⟩, by show List.Pairwise _ [(0, 16, 19, 13, "java/lang/IllegalArgumentException"), (0, 16, 23, 15, "java/lang/IllegalStateException")]; decide +kernel⟩
theorem dm_212 : tb_212.all (dcB mi_212) = true := by decide +kernel
set_option maxRecDepth 4096 in
theorem wd_212 : WDs mi_212 tb_212 := And.intro (Or.inr (Or.inr ⟨by decide, by decide, mi_81, (RX11, TX11, 10), mk_1_81, rfl, rfl, w_730⟩)) (trivial)
theorem sf_212 : ∀ t ∈ mI mi_212, SF mi_212 t := SF_all dm_212 wd_212
theorem hf_212 : HF mi_212 := ⟨List.forall_mem_cons.mpr ⟨⟨w_729, by decide, (List.mem_of_getElem? (i := 9) rfl)⟩, List.forall_mem_cons.mpr ⟨⟨w_569, by decide, (List.mem_of_getElem? (i := 1) rfl)⟩, List.forall_mem_cons.mpr ⟨⟨w_570, by decide, (List.mem_of_getElem? (i := 8) rfl)⟩, fun _ h => nomatch h⟩⟩⟩, by show List.Pairwise _ [(0, 10, 13, 21, "java/lang/IndexOutOfBoundsException"), (0, 10, 17, 13, "java/lang/IllegalArgumentException"), (0, 10, 21, 15, "java/lang/IllegalStateException")]; decide +kernel⟩
theorem dm_213 : tb_213.all (dcB mi_213) = true := by decide +kernel
set_option maxRecDepth 4096 in
theorem wd_213 : WDs mi_213 tb_213 := And.intro (Or.inr (Or.inr ⟨by decide, by decide, mi_82, (RX11, TX11, 10), mk_1_82, rfl, rfl, w_800⟩)) (trivial)
theorem sf_213 : ∀ t ∈ mI mi_213, SF mi_213 t := SF_all dm_213 wd_213
theorem hf_213 : HF mi_213 := ⟨List.forall_mem_cons.mpr ⟨⟨w_729, by decide, (List.mem_of_getElem? (i := 9) rfl)⟩, List.forall_mem_cons.mpr ⟨⟨w_569, by decide, (List.mem_of_getElem? (i := 1) rfl)⟩, List.forall_mem_cons.mpr ⟨⟨w_570, by decide, (List.mem_of_getElem? (i := 8) rfl)⟩, List.forall_mem_cons.mpr ⟨⟨w_799, by decide, (List.mem_of_getElem? (i := 10) rfl)⟩, fun _ h => nomatch h⟩⟩⟩⟩, by show List.Pairwise _ [(0, 19, 22, 21, "java/lang/IndexOutOfBoundsException"), (0, 19, 26, 13, "java/lang/IllegalArgumentException"), (0, 19, 30, 15, "java/lang/IllegalStateException"), (0, 19, 34, 27, "java/lang/UnsupportedOperationException")]; decide +kernel⟩
theorem dm_214 : tb_214.all (dcB mi_214) = true := by decide +kernel
set_option maxRecDepth 4096 in
theorem wd_214 : WDs mi_214 tb_214 := And.intro (Or.inr (Or.inr ⟨by decide, by decide, mi_83, (RX11, TX11, 10), mk_1_83, rfl, rfl, w_873⟩)) (trivial)
theorem sf_214 : ∀ t ∈ mI mi_214, SF mi_214 t := SF_all dm_214 wd_214
theorem hf_214 : HF mi_214 := ⟨List.forall_mem_cons.mpr ⟨⟨w_729, by decide, (List.mem_of_getElem? (i := 9) rfl)⟩, List.forall_mem_cons.mpr ⟨⟨w_570, by decide, (List.mem_of_getElem? (i := 8) rfl)⟩, List.forall_mem_cons.mpr ⟨⟨w_799, by decide, (List.mem_of_getElem? (i := 10) rfl)⟩, fun _ h => nomatch h⟩⟩⟩, by show List.Pairwise _ [(0, 9, 12, 21, "java/lang/IndexOutOfBoundsException"), (0, 9, 15, 15, "java/lang/IllegalStateException"), (0, 9, 18, 27, "java/lang/UnsupportedOperationException")]; decide +kernel⟩
theorem dm_215 : tb_215.all (dcB mi_215) = true := by decide +kernel
set_option maxRecDepth 4096 in
theorem wd_215 : WDs mi_215 tb_215 := And.intro (Or.inr (Or.inr ⟨by decide, by decide, mi_84, (RX11, TX11, 10), mk_1_84, rfl, rfl, w_899⟩)) (trivial)
theorem sf_215 : ∀ t ∈ mI mi_215, SF mi_215 t := SF_all dm_215 wd_215
theorem hf_215 : HF mi_215 := ⟨List.forall_mem_cons.mpr ⟨⟨w_729, by decide, (List.mem_of_getElem? (i := 9) rfl)⟩, List.forall_mem_cons.mpr ⟨⟨w_570, by decide, (List.mem_of_getElem? (i := 8) rfl)⟩, List.forall_mem_cons.mpr ⟨⟨w_799, by decide, (List.mem_of_getElem? (i := 10) rfl)⟩, fun _ h => nomatch h⟩⟩⟩, by show List.Pairwise _ [(0, 16, 19, 21, "java/lang/IndexOutOfBoundsException"), (0, 16, 22, 15, "java/lang/IllegalStateException"), (0, 16, 25, 27, "java/lang/UnsupportedOperationException")]; decide +kernel⟩
theorem dm_216 : tb_216.all (dcB mi_216) = true := by decide +kernel
set_option maxRecDepth 4096 in
theorem wd_216 : WDs mi_216 tb_216 := And.intro (Or.inr (Or.inr ⟨by decide, by decide, mi_85, (RX11, TX11, 10), mk_1_85, rfl, rfl, w_916⟩)) (trivial)
theorem sf_216 : ∀ t ∈ mI mi_216, SF mi_216 t := SF_all dm_216 wd_216
theorem hf_216 : HF mi_216 := ⟨List.forall_mem_cons.mpr ⟨⟨w_729, by decide, (List.mem_of_getElem? (i := 9) rfl)⟩, List.forall_mem_cons.mpr ⟨⟨w_570, by decide, (List.mem_of_getElem? (i := 8) rfl)⟩, fun _ h => nomatch h⟩⟩, by show List.Pairwise _ [(0, 9, 12, 21, "java/lang/IndexOutOfBoundsException"), (0, 9, 15, 15, "java/lang/IllegalStateException")]; decide +kernel⟩
theorem dm_217 : tb_217.all (dcB mi_217) = true := by decide +kernel
set_option maxRecDepth 4096 in
theorem wd_217 : WDs mi_217 tb_217 := And.intro (Or.inr (Or.inr ⟨by decide, by decide, mi_86, (RX11, TX11, 10), mk_1_86, rfl, rfl, w_924⟩)) (trivial)
theorem sf_217 : ∀ t ∈ mI mi_217, SF mi_217 t := SF_all dm_217 wd_217
theorem hf_217 : HF mi_217 := ⟨List.forall_mem_cons.mpr ⟨⟨w_729, by decide, (List.mem_of_getElem? (i := 9) rfl)⟩, fun _ h => nomatch h⟩, by show List.Pairwise _ [(0, 9, 12, 21, "java/lang/IndexOutOfBoundsException")]; decide +kernel⟩
theorem dm_218 : tb_218.all (dcB mi_218) = true := by decide +kernel
set_option maxRecDepth 4096 in
theorem wd_218 : WDs mi_218 tb_218 := And.intro (Or.inr (Or.inr ⟨by decide, by decide, mi_87, (RX11, TX11, 10), mk_1_87, rfl, rfl, w_937⟩)) (trivial)
theorem sf_218 : ∀ t ∈ mI mi_218, SF mi_218 t := SF_all dm_218 wd_218
theorem hf_218 : HF mi_218 := ⟨List.forall_mem_cons.mpr ⟨⟨w_729, by decide, (List.mem_of_getElem? (i := 9) rfl)⟩, fun _ h => nomatch h⟩, by show List.Pairwise _ [(0, 9, 12, 21, "java/lang/IndexOutOfBoundsException")]; decide +kernel⟩
theorem dm_219 : tb_219.all (dcB mi_219) = true := by decide +kernel
set_option maxRecDepth 4096 in
theorem wd_219 : WDs mi_219 tb_219 := And.intro (Or.inr (Or.inr ⟨by decide, by decide, mi_88, (RX11, TX11, 10), mk_1_88, rfl, rfl, w_945⟩)) (trivial)
theorem sf_219 : ∀ t ∈ mI mi_219, SF mi_219 t := SF_all dm_219 wd_219
theorem hf_219 : HF mi_219 := ⟨List.forall_mem_cons.mpr ⟨⟨w_729, by decide, (List.mem_of_getElem? (i := 9) rfl)⟩, List.forall_mem_cons.mpr ⟨⟨w_944, by decide, (List.mem_of_getElem? (i := 11) rfl)⟩, fun _ h => nomatch h⟩⟩, by show List.Pairwise _ [(0, 10, 13, 21, "java/lang/IndexOutOfBoundsException"), (0, 10, 17, 51, "java/util/NoSuchElementException")]; decide +kernel⟩
theorem dm_220 : tb_220.all (dcB mi_220) = true := by decide +kernel
set_option maxRecDepth 4096 in
theorem wd_220 : WDs mi_220 tb_220 := And.intro (Or.inr (Or.inr ⟨by decide, by decide, mi_89, (RX11, TX11, 10), mk_1_89, rfl, rfl, w_968⟩)) (trivial)
theorem sf_220 : ∀ t ∈ mI mi_220, SF mi_220 t := SF_all dm_220 wd_220
theorem hf_220 : HF mi_220 := ⟨List.forall_mem_cons.mpr ⟨⟨w_729, by decide, (List.mem_of_getElem? (i := 9) rfl)⟩, fun _ h => nomatch h⟩, by show List.Pairwise _ [(0, 9, 12, 21, "java/lang/IndexOutOfBoundsException")]; decide +kernel⟩
theorem dm_221 : tb_221.all (dcB mi_221) = true := by decide +kernel
set_option maxRecDepth 4096 in
theorem wd_221 : WDs mi_221 tb_221 := And.intro (Or.inr (Or.inr ⟨by decide, by decide, mi_90, (RX11, TX11, 10), mk_1_90, rfl, rfl, w_975⟩)) (trivial)
theorem sf_221 : ∀ t ∈ mI mi_221, SF mi_221 t := SF_all dm_221 wd_221
theorem hf_221 : HF mi_221 := ⟨List.forall_mem_cons.mpr ⟨⟨w_729, by decide, (List.mem_of_getElem? (i := 9) rfl)⟩, List.forall_mem_cons.mpr ⟨⟨w_944, by decide, (List.mem_of_getElem? (i := 11) rfl)⟩, fun _ h => nomatch h⟩⟩, by show List.Pairwise _ [(0, 12, 15, 21, "java/lang/IndexOutOfBoundsException"), (0, 12, 19, 51, "java/util/NoSuchElementException")]; decide +kernel⟩
theorem dm_222 : tb_222.all (dcB mi_222) = true := by decide +kernel
set_option maxRecDepth 4096 in
theorem wd_222 : WDs mi_222 tb_222 := And.intro (Or.inr (Or.inr ⟨by decide, by decide, mi_91, (RX11, TX11, 10), mk_1_91, rfl, rfl, w_991⟩)) (trivial)
theorem sf_222 : ∀ t ∈ mI mi_222, SF mi_222 t := SF_all dm_222 wd_222
theorem hf_222 : HF mi_222 := ⟨List.forall_mem_cons.mpr ⟨⟨w_729, by decide, (List.mem_of_getElem? (i := 9) rfl)⟩, fun _ h => nomatch h⟩, by show List.Pairwise _ [(0, 16, 19, 21, "java/lang/IndexOutOfBoundsException")]; decide +kernel⟩
theorem dm_223 : tb_223.all (dcB mi_223) = true := by decide +kernel
set_option maxRecDepth 4096 in
theorem wd_223 : WDs mi_223 tb_223 := And.intro (Or.inr (Or.inr ⟨by decide, by decide, mi_92, (RX11, TX11, 10), mk_1_92, rfl, rfl, w_998⟩)) (trivial)
theorem sf_223 : ∀ t ∈ mI mi_223, SF mi_223 t := SF_all dm_223 wd_223
theorem hf_223 : HF mi_223 := ⟨List.forall_mem_cons.mpr ⟨⟨w_729, by decide, (List.mem_of_getElem? (i := 9) rfl)⟩, fun _ h => nomatch h⟩, by show List.Pairwise _ [(0, 16, 19, 21, "java/lang/IndexOutOfBoundsException")]; decide +kernel⟩
theorem dm_224 : tb_224.all (dcB mi_224) = true := by decide +kernel
set_option maxRecDepth 4096 in
theorem wd_224 : WDs mi_224 tb_224 := And.intro (Or.inr (Or.inr ⟨by decide, by decide, mi_93, (RX11, TX11, 10), mk_1_93, rfl, rfl, w_1005⟩)) (trivial)
theorem sf_224 : ∀ t ∈ mI mi_224, SF mi_224 t := SF_all dm_224 wd_224
theorem hf_224 : HF mi_224 := ⟨List.forall_mem_cons.mpr ⟨⟨w_729, by decide, (List.mem_of_getElem? (i := 9) rfl)⟩, List.forall_mem_cons.mpr ⟨⟨w_944, by decide, (List.mem_of_getElem? (i := 11) rfl)⟩, fun _ h => nomatch h⟩⟩, by show List.Pairwise _ [(0, 9, 12, 21, "java/lang/IndexOutOfBoundsException"), (0, 9, 15, 51, "java/util/NoSuchElementException")]; decide +kernel⟩
theorem dm_225 : tb_225.all (dcB mi_225) = true := by decide +kernel
set_option maxRecDepth 4096 in
theorem wd_225 : WDs mi_225 tb_225 := And.intro (Or.inr (Or.inr ⟨by decide, by decide, mi_94, (RX11, TX11, 10), mk_1_94, rfl, rfl, w_1013⟩)) (trivial)
theorem sf_225 : ∀ t ∈ mI mi_225, SF mi_225 t := SF_all dm_225 wd_225
theorem hf_225 : HF mi_225 := ⟨List.forall_mem_cons.mpr ⟨⟨w_944, by decide, (List.mem_of_getElem? (i := 11) rfl)⟩, fun _ h => nomatch h⟩, by show List.Pairwise _ [(0, 9, 12, 51, "java/util/NoSuchElementException")]; decide +kernel⟩
theorem dm_226 : tb_226.all (dcB mi_226) = true := by decide +kernel
set_option maxRecDepth 4096 in
theorem wd_226 : WDs mi_226 tb_226 := And.intro (Or.inr (Or.inr ⟨by decide, by decide, mi_95, (RX11, TX11, 10), mk_1_95, rfl, rfl, w_1021⟩)) (trivial)
theorem sf_226 : ∀ t ∈ mI mi_226, SF mi_226 t := SF_all dm_226 wd_226
theorem hf_226 : HF mi_226 := ⟨List.forall_mem_cons.mpr ⟨⟨w_729, by decide, (List.mem_of_getElem? (i := 9) rfl)⟩, List.forall_mem_cons.mpr ⟨⟨w_569, by decide, (List.mem_of_getElem? (i := 1) rfl)⟩, List.forall_mem_cons.mpr ⟨⟨w_570, by decide, (List.mem_of_getElem? (i := 8) rfl)⟩, fun _ h => nomatch h⟩⟩⟩, by show List.Pairwise _ [(0, 14, 17, 21, "java/lang/IndexOutOfBoundsException"), (0, 14, 21, 13, "java/lang/IllegalArgumentException"), (0, 14, 25, 15, "java/lang/IllegalStateException")]; decide +kernel⟩
theorem dm_227 : tb_227.all (dcB mi_227) = true := by decide +kernel
set_option maxRecDepth 4096 in
theorem wd_227 : WDs mi_227 tb_227 := And.intro (Or.inr (Or.inr ⟨by decide, by decide, mi_96, (RX11, TX11, 10), mk_1_96, rfl, rfl, w_1053⟩)) (trivial)
theorem sf_227 : ∀ t ∈ mI mi_227, SF mi_227 t := SF_all dm_227 wd_227
theorem hf_227 : HF mi_227 := ⟨List.forall_mem_cons.mpr ⟨⟨w_729, by decide, (List.mem_of_getElem? (i := 9) rfl)⟩, fun _ h => nomatch h⟩, by show List.Pairwise _ [(0, 9, 12, 21, "java/lang/IndexOutOfBoundsException")]; decide +kernel⟩
theorem dm_228 : tb_228.all (dcB mi_228) = true := by decide +kernel
set_option maxRecDepth 4096 in
theorem wd_228 : WDs mi_228 tb_228 := And.intro (Or.inr (Or.inr ⟨by decide, by decide, mi_97, (RX11, TX11, 10), mk_1_97, rfl, rfl, w_1060⟩)) (trivial)
theorem sf_228 : ∀ t ∈ mI mi_228, SF mi_228 t := SF_all dm_228 wd_228
theorem hf_228 : HF mi_228 := ⟨List.forall_mem_cons.mpr ⟨⟨w_729, by decide, (List.mem_of_getElem? (i := 9) rfl)⟩, fun _ h => nomatch h⟩, by show List.Pairwise _ [(0, 9, 12, 21, "java/lang/IndexOutOfBoundsException")]; decide +kernel⟩
theorem dm_229 : tb_229.all (dcB mi_229) = true := by decide +kernel
set_option maxRecDepth 4096 in
theorem wd_229 : WDs mi_229 tb_229 := And.intro (Or.inr (Or.inr ⟨by decide, by decide, mi_98, (RX11, TX11, 10), mk_1_98, rfl, rfl, w_1067⟩)) (trivial)
theorem sf_229 : ∀ t ∈ mI mi_229, SF mi_229 t := SF_all dm_229 wd_229
theorem hf_229 : HF mi_229 := ⟨List.forall_mem_cons.mpr ⟨⟨w_729, by decide, (List.mem_of_getElem? (i := 9) rfl)⟩, fun _ h => nomatch h⟩, by show List.Pairwise _ [(0, 10, 13, 21, "java/lang/IndexOutOfBoundsException")]; decide +kernel⟩
theorem dm_230 : tb_230.all (dcB mi_230) = true := by decide +kernel
set_option maxRecDepth 4096 in
theorem wd_230 : WDs mi_230 tb_230 := And.intro (Or.inr (Or.inr ⟨by decide, by decide, mi_100, (RX11, TX11, 10), mk_1_100, rfl, rfl, w_1076⟩)) (trivial)
theorem sf_230 : ∀ t ∈ mI mi_230, SF mi_230 t := SF_all dm_230 wd_230
theorem hf_230 : HF mi_230 := ⟨List.forall_mem_cons.mpr ⟨⟨w_729, by decide, (List.mem_of_getElem? (i := 9) rfl)⟩, List.forall_mem_cons.mpr ⟨⟨w_569, by decide, (List.mem_of_getElem? (i := 1) rfl)⟩, List.forall_mem_cons.mpr ⟨⟨w_799, by decide, (List.mem_of_getElem? (i := 10) rfl)⟩, List.forall_mem_cons.mpr ⟨⟨w_570, by decide, (List.mem_of_getElem? (i := 8) rfl)⟩, fun _ h => nomatch h⟩⟩⟩⟩, by show List.Pairwise _ [(0, 10, 13, 21, "java/lang/IndexOutOfBoundsException"), (0, 10, 17, 13, "java/lang/IllegalArgumentException"), (0, 10, 21, 27, "java/lang/UnsupportedOperationException"), (0, 10, 25, 15, "java/lang/IllegalStateException")]; decide +kernel⟩
theorem dm_231 : tb_231.all (dcB mi_231) = true := by decide +kernel
set_option maxRecDepth 4096 in
theorem wd_231 : WDs mi_231 tb_231 := And.intro (Or.inr (Or.inr ⟨by decide, by decide, mi_101, (RX11, TX11, 10), mk_1_101, rfl, rfl, w_1102⟩)) (trivial)
theorem sf_231 : ∀ t ∈ mI mi_231, SF mi_231 t := SF_all dm_231 wd_231
theorem hf_231 : HF mi_231 := ⟨List.forall_mem_cons.mpr ⟨⟨w_729, by decide, (List.mem_of_getElem? (i := 9) rfl)⟩, fun _ h => nomatch h⟩, by show List.Pairwise _ [(0, 9, 12, 21, "java/lang/IndexOutOfBoundsException")]; decide +kernel⟩
theorem dm_232 : tb_232.all (dcB mi_232) = true := by decide +kernel
set_option maxRecDepth 4096 in
theorem wd_232 : WDs mi_232 tb_232 := And.intro (Or.inr (Or.inr ⟨by decide, by decide, mi_104, (RX11, TX11, 10), mk_1_104, rfl, rfl, w_1109⟩)) (trivial)
theorem sf_232 : ∀ t ∈ mI mi_232, SF mi_232 t := SF_all dm_232 wd_232
theorem hf_232 : HF mi_232 := ⟨List.forall_mem_cons.mpr ⟨⟨w_944, by decide, (List.mem_of_getElem? (i := 11) rfl)⟩, fun _ h => nomatch h⟩, by show List.Pairwise _ [(0, 9, 12, 51, "java/util/NoSuchElementException")]; decide +kernel⟩
theorem dm_233 : tb_233.all (dcB mi_233) = true := by decide +kernel
set_option maxRecDepth 4096 in
theorem wd_233 : WDs mi_233 tb_233 := And.intro (Or.inr (Or.inr ⟨by decide, by decide, mi_105, (RX11, TX11, 10), mk_1_105, rfl, rfl, w_1121⟩)) (trivial)
theorem sf_233 : ∀ t ∈ mI mi_233, SF mi_233 t := SF_all dm_233 wd_233
theorem hf_233 : HF mi_233 := ⟨List.forall_mem_cons.mpr ⟨⟨w_944, by decide, (List.mem_of_getElem? (i := 11) rfl)⟩, fun _ h => nomatch h⟩, by show List.Pairwise _ [(0, 9, 12, 51, "java/util/NoSuchElementException")]; decide +kernel⟩
theorem dm_234 : tb_234.all (dcB mi_234) = true := by decide +kernel
set_option maxRecDepth 4096 in
theorem wd_234 : WDs mi_234 tb_234 := And.intro (Or.inr (Or.inr ⟨by decide, by decide, mi_108, (RX11, TX11, 10), mk_1_108, rfl, rfl, w_1128⟩)) (trivial)
theorem sf_234 : ∀ t ∈ mI mi_234, SF mi_234 t := SF_all dm_234 wd_234
theorem hf_234 : HF mi_234 := ⟨List.forall_mem_cons.mpr ⟨⟨w_799, by decide, (List.mem_of_getElem? (i := 10) rfl)⟩, List.forall_mem_cons.mpr ⟨⟨w_570, by decide, (List.mem_of_getElem? (i := 8) rfl)⟩, fun _ h => nomatch h⟩⟩, by show List.Pairwise _ [(0, 8, 11, 27, "java/lang/UnsupportedOperationException"), (0, 8, 14, 15, "java/lang/IllegalStateException")]; decide +kernel⟩
theorem dm_235 : tb_235.all (dcB mi_235) = true := by decide +kernel
set_option maxRecDepth 4096 in
theorem wd_235 : WDs mi_235 tb_235 := And.intro (Or.inr (Or.inr ⟨by decide, by decide, mi_109, (RX11, TX11, 10), mk_1_109, rfl, rfl, w_1141⟩)) (trivial)
theorem sf_235 : ∀ t ∈ mI mi_235, SF mi_235 t := SF_all dm_235 wd_235
theorem hf_235 : HF mi_235 := ⟨List.forall_mem_cons.mpr ⟨⟨w_729, by decide, (List.mem_of_getElem? (i := 9) rfl)⟩, fun _ h => nomatch h⟩, by show List.Pairwise _ [(0, 9, 12, 21, "java/lang/IndexOutOfBoundsException")]; decide +kernel⟩
theorem dm_236 : tb_236.all (dcB mi_236) = true := by decide +kernel
set_option maxRecDepth 4096 in
theorem wd_236 : WDs mi_236 tb_236 := And.intro (Or.inr (Or.inr ⟨by decide, by decide, mi_110, (RX11, TX11, 10), mk_1_110, rfl, rfl, w_1149⟩)) (trivial)
theorem sf_236 : ∀ t ∈ mI mi_236, SF mi_236 t := SF_all dm_236 wd_236
theorem hf_236 : HF mi_236 := ⟨List.forall_mem_cons.mpr ⟨⟨w_729, by decide, (List.mem_of_getElem? (i := 9) rfl)⟩, fun _ h => nomatch h⟩, by show List.Pairwise _ [(0, 8, 11, 21, "java/lang/IndexOutOfBoundsException")]; decide +kernel⟩
theorem dm_237 : tb_237.all (dcB mi_237) = true := by decide +kernel
set_option maxRecDepth 4096 in
theorem wd_237 : WDs mi_237 tb_237 := And.intro (Or.inr (Or.inr ⟨by decide, by decide, mi_112, (RX11, TX11, 10), mk_1_112, rfl, rfl, w_1156⟩)) (trivial)
theorem sf_237 : ∀ t ∈ mI mi_237, SF mi_237 t := SF_all dm_237 wd_237
theorem hf_237 : HF mi_237 := ⟨List.forall_mem_cons.mpr ⟨⟨w_944, by decide, (List.mem_of_getElem? (i := 11) rfl)⟩, fun _ h => nomatch h⟩, by show List.Pairwise _ [(0, 8, 11, 51, "java/util/NoSuchElementException")]; decide +kernel⟩
