/-! THE REFERENCE: its reader: words and signs -/
set_option maxRecDepth 100000 in
set_option maxHeartbeats 4000000 in
theorem ct_X10_isLetter {l : Launch} {D : va_G} {cA : Nat → ClassId} {μ : Mem} (hN0 : 0 ≤ μ 87 21) (hN1 : μ 87 21 ≤ 96) (i : Int) (h0 : 0 ≤ i) : CtN l D cA yX10_isLetter cX10_isLetter 2 (some .boolean) 2 [vr 87, vi i] μ (Pi (fun x μ' => x = tv (97 ≤ bA (μ 107) (μ 87 21) i ∧ bA (μ 107) (μ 87 21) i ≤ 122) inferInstance ∧ μ' = μ)) := by
  refine Ct.of (own := RX10) (by decide +kernel) rfl (fun σ => Nat.le_of_ble_eq_true rfl) (fun hM hP ha => ?_)
  obtain ⟨m87, r88, s88, r89, s89, r90, s90, r91, s91, r92, s92, r93, s93, r94, s94, r95, s95, r96, s96, r97, s97, r98, s98, r99, s99, r100, s100, r101, s101, r102, s102, r103, s103, r104, s104, r105, s105, r106, s106, r107, s107, r108, s108, r109, s109, r110, s110, r111, s111, r112, s112⟩ := md_f
  refine go_iload_n dX10_isLetter_0 rfl ?_
  refine go_aload_n dX10_isLetter_1 rfl ?_
  refine go_getI 21 dX10_isLetter_2 fl_X10_223 (by first | assumption | exact Nat.le_of_ble_eq_true rfl) (by first | assumption | rfl) rfl rfl ?_
  refine go_icmp_ge (tgt := 31) dX10_isLetter_5 rfl (fun h5 => ?_) (fun h5 => ?_)
  ·
    have hba : bA (μ 107) (μ 87 21) i = -1000000005 := if_neg (by omega)
    refine go_iconst dX10_isLetter_31 rfl ?_
    exact go_ri dX10_isLetter_32 (tyZ (by first | exact Or.inl rfl | exact Or.inr rfl | exact tv_01 | assumption)) ⟨Nat.le_refl _, Nat.le_refl _⟩ (by first | exact ⟨(tv_n (by rw [hba]; omega)).symm, rfl⟩ | exact ⟨(tv_1 (by rw [hba]; omega)).symm, rfl⟩)
  ·
    have hba : bA (μ 107) (μ 87 21) i = μ 107 i := if_pos (by omega)
    refine go_aload_n dX10_isLetter_8 rfl ?_
    refine go_getR dX10_isLetter_9 fl_X10_68 (by first | assumption | exact Nat.le_of_ble_eq_true rfl) (by first | assumption | rfl) rfl (by first | assumption | rfl) ?_
    refine go_iload_n dX10_isLetter_12 rfl ?_
    refine go_iaload dX10_isLetter_13 (by first | assumption | exact Nat.le_of_ble_eq_true rfl) (by first | assumption | rfl) (by omega) (by omega) ?_
    refine go_i2l dX10_isLetter_14 ?_
    refine go_ldc2 dX10_isLetter_15 kl_X10_227 rfl ?_
    refine go_ldc2 dX10_isLetter_18 kl_X10_229 rfl ?_
    refine go_sI dX10_isLetter_21 (ct_X10_isIn _ _ _) ml_X10_87 mc_X10_isIn ms_X10_isIn ⟨rfl, rfl⟩ ⟨Nat.le_refl _, Nat.le_refl _⟩ rfl rfl rfl (fun x21 μ21 hc21 => ?_)
    obtain ⟨rfl, hm21⟩ := hc21
    rw [hm21]
    first | refine go_bz (tgt := 31) dX10_isLetter_24 rfl (fun h24 => ?_) (fun h24 => ?_) | refine go_if_eq (tgt := 31) dX10_isLetter_24 rfl (fun h24 => ?_) (fun h24 => ?_)
    ·
      refine go_iconst dX10_isLetter_31 rfl ?_
      exact go_ri dX10_isLetter_32 (tyZ (by first | exact Or.inl rfl | exact Or.inr rfl | exact tv_01 | assumption)) ⟨Nat.le_refl _, Nat.le_refl _⟩ (by first | exact ⟨(tv_n (by rw [hba]; omega)).symm, rfl⟩ | exact ⟨(tv_1 (by rw [hba]; omega)).symm, rfl⟩)
    ·
      refine go_iconst dX10_isLetter_27 rfl ?_
      refine go_goto (tgt := 32) dX10_isLetter_28 rfl ?_
      exact go_ri dX10_isLetter_32 (tyZ (by first | exact Or.inl rfl | exact Or.inr rfl | exact tv_01 | assumption)) ⟨Nat.le_refl _, Nat.le_refl _⟩ (by first | exact ⟨(tv_n (by rw [hba]; omega)).symm, rfl⟩ | exact ⟨(tv_1 (by rw [hba]; omega)).symm, rfl⟩)

set_option maxRecDepth 100000 in
set_option maxHeartbeats 4000000 in
theorem ct_X10_isDigit {l : Launch} {D : va_G} {cA : Nat → ClassId} {μ : Mem} (hN0 : 0 ≤ μ 87 21) (hN1 : μ 87 21 ≤ 96) (i : Int) (h0 : 0 ≤ i) : CtN l D cA yX10_isDigit cX10_isDigit 2 (some .boolean) 2 [vr 87, vi i] μ (Pi (fun x μ' => x = tv (48 ≤ bA (μ 107) (μ 87 21) i ∧ bA (μ 107) (μ 87 21) i ≤ 57) inferInstance ∧ μ' = μ)) := by
  refine Ct.of (own := RX10) (by decide +kernel) rfl (fun σ => Nat.le_of_ble_eq_true rfl) (fun hM hP ha => ?_)
  obtain ⟨m87, r88, s88, r89, s89, r90, s90, r91, s91, r92, s92, r93, s93, r94, s94, r95, s95, r96, s96, r97, s97, r98, s98, r99, s99, r100, s100, r101, s101, r102, s102, r103, s103, r104, s104, r105, s105, r106, s106, r107, s107, r108, s108, r109, s109, r110, s110, r111, s111, r112, s112⟩ := md_f
  refine go_iload_n dX10_isDigit_0 rfl ?_
  refine go_aload_n dX10_isDigit_1 rfl ?_
  refine go_getI 21 dX10_isDigit_2 fl_X10_223 (by first | assumption | exact Nat.le_of_ble_eq_true rfl) (by first | assumption | rfl) rfl rfl ?_
  refine go_icmp_ge (tgt := 31) dX10_isDigit_5 rfl (fun h5 => ?_) (fun h5 => ?_)
  ·
    have hba : bA (μ 107) (μ 87 21) i = -1000000005 := if_neg (by omega)
    refine go_iconst dX10_isDigit_31 rfl ?_
    exact go_ri dX10_isDigit_32 (tyZ (by first | exact Or.inl rfl | exact Or.inr rfl | exact tv_01 | assumption)) ⟨Nat.le_refl _, Nat.le_refl _⟩ (by first | exact ⟨(tv_n (by rw [hba]; omega)).symm, rfl⟩ | exact ⟨(tv_1 (by rw [hba]; omega)).symm, rfl⟩)
  ·
    have hba : bA (μ 107) (μ 87 21) i = μ 107 i := if_pos (by omega)
    refine go_aload_n dX10_isDigit_8 rfl ?_
    refine go_getR dX10_isDigit_9 fl_X10_68 (by first | assumption | exact Nat.le_of_ble_eq_true rfl) (by first | assumption | rfl) rfl (by first | assumption | rfl) ?_
    refine go_iload_n dX10_isDigit_12 rfl ?_
    refine go_iaload dX10_isDigit_13 (by first | assumption | exact Nat.le_of_ble_eq_true rfl) (by first | assumption | rfl) (by omega) (by omega) ?_
    refine go_i2l dX10_isDigit_14 ?_
    refine go_ldc2 dX10_isDigit_15 kl_X10_166 rfl ?_
    refine go_ldc2 dX10_isDigit_18 kl_X10_231 rfl ?_
    refine go_sI dX10_isDigit_21 (ct_X10_isIn _ _ _) ml_X10_87 mc_X10_isIn ms_X10_isIn ⟨rfl, rfl⟩ ⟨Nat.le_refl _, Nat.le_refl _⟩ rfl rfl rfl (fun x21 μ21 hc21 => ?_)
    obtain ⟨rfl, hm21⟩ := hc21
    rw [hm21]
    first | refine go_bz (tgt := 31) dX10_isDigit_24 rfl (fun h24 => ?_) (fun h24 => ?_) | refine go_if_eq (tgt := 31) dX10_isDigit_24 rfl (fun h24 => ?_) (fun h24 => ?_)
    ·
      refine go_iconst dX10_isDigit_31 rfl ?_
      exact go_ri dX10_isDigit_32 (tyZ (by first | exact Or.inl rfl | exact Or.inr rfl | exact tv_01 | assumption)) ⟨Nat.le_refl _, Nat.le_refl _⟩ (by first | exact ⟨(tv_n (by rw [hba]; omega)).symm, rfl⟩ | exact ⟨(tv_1 (by rw [hba]; omega)).symm, rfl⟩)
    ·
      refine go_iconst dX10_isDigit_27 rfl ?_
      refine go_goto (tgt := 32) dX10_isDigit_28 rfl ?_
      exact go_ri dX10_isDigit_32 (tyZ (by first | exact Or.inl rfl | exact Or.inr rfl | exact tv_01 | assumption)) ⟨Nat.le_refl _, Nat.le_refl _⟩ (by first | exact ⟨(tv_n (by rw [hba]; omega)).symm, rfl⟩ | exact ⟨(tv_1 (by rw [hba]; omega)).symm, rfl⟩)

set_option maxRecDepth 100000 in
set_option maxHeartbeats 4000000 in
theorem ct_X10_isSign {l : Launch} {D : va_G} {cA : Nat → ClassId} {μ : Mem} (c : Int) : CtN l D cA yX10_isSign cX10_isSign 2 (some .boolean) 0 [vr 87, vi c] μ (Pi (fun x μ' => x = tv (μ 87 24 = 3 ∧ μ 87 26 = c) inferInstance ∧ μ' = μ)) := by
  refine Ct.of (own := RX10) (by decide +kernel) rfl (fun σ => Nat.le_of_ble_eq_true rfl) (fun hM hP ha => ?_)
  obtain ⟨m87, r88, s88, r89, s89, r90, s90, r91, s91, r92, s92, r93, s93, r94, s94, r95, s95, r96, s96, r97, s97, r98, s98, r99, s99, r100, s100, r101, s101, r102, s102, r103, s103, r104, s104, r105, s105, r106, s106, r107, s107, r108, s108, r109, s109, r110, s110, r111, s111, r112, s112⟩ := md_f
  refine go_aload_n dX10_isSign_0 rfl ?_
  refine go_getI 24 dX10_isSign_1 fl_X10_236 (by first | assumption | exact Nat.le_of_ble_eq_true rfl) (by first | assumption | rfl) rfl rfl ?_
  refine go_iconst dX10_isSign_4 rfl ?_
  refine go_icmp_ne (tgt := 20) dX10_isSign_5 rfl (fun h5 => ?_) (fun h5 => ?_)
  ·
    refine go_iconst dX10_isSign_20 rfl ?_
    exact go_ri dX10_isSign_21 (tyZ (by first | exact Or.inl rfl | exact Or.inr rfl | exact tv_01 | assumption)) ⟨Nat.le_refl _, Nat.le_refl _⟩ (by first | exact ⟨(tv_n (by omega)).symm, rfl⟩ | exact ⟨(tv_1 (by omega)).symm, rfl⟩)
  ·
    refine go_aload_n dX10_isSign_8 rfl ?_
    refine go_getI 26 dX10_isSign_9 fl_X10_245 (by first | assumption | exact Nat.le_of_ble_eq_true rfl) (by first | assumption | rfl) rfl rfl ?_
    refine go_iload_n dX10_isSign_12 rfl ?_
    refine go_icmp_ne (tgt := 20) dX10_isSign_13 rfl (fun h13 => ?_) (fun h13 => ?_)
    ·
      refine go_iconst dX10_isSign_20 rfl ?_
      exact go_ri dX10_isSign_21 (tyZ (by first | exact Or.inl rfl | exact Or.inr rfl | exact tv_01 | assumption)) ⟨Nat.le_refl _, Nat.le_refl _⟩ (by first | exact ⟨(tv_n (by omega)).symm, rfl⟩ | exact ⟨(tv_1 (by omega)).symm, rfl⟩)
    ·
      refine go_iconst dX10_isSign_16 rfl ?_
      refine go_goto (tgt := 21) dX10_isSign_17 rfl ?_
      exact go_ri dX10_isSign_21 (tyZ (by first | exact Or.inl rfl | exact Or.inr rfl | exact tv_01 | assumption)) ⟨Nat.le_refl _, Nat.le_refl _⟩ (by first | exact ⟨(tv_n (by omega)).symm, rfl⟩ | exact ⟨(tv_1 (by omega)).symm, rfl⟩)

set_option maxRecDepth 100000 in
set_option maxHeartbeats 4000000 in
theorem ct_X10_isName {l : Launch} {D : va_G} {cA : Nat → ClassId} {μ : Mem} (k c : Int) (h0 : 0 ≤ k) (h1 : k ≤ 2) : CtN l D cA yX10_isName cX10_isName 2 (some .boolean) 0 [vi k, vi c] μ (Pi (fun x μ' => x = tv (nmO k c) (nmO_d _ _) ∧ μ' = μ)) := by
  refine Ct.of (own := RX10) (by decide +kernel) rfl (fun σ => Nat.le_of_ble_eq_true rfl) (fun hM hP ha => ?_)
  refine go_iload_n dX10_isName_0 rfl ?_
  refine go_case (0) (fun h1_0 => ?_) (fun h1_0 => ?_)
  ·
    refine go_lookup (tgt := 28) dX10_isName_1 rfl (by rw [h1_0]; try rfl) rfl ?_
    refine go_iload_n dX10_isName_28 rfl ?_
    refine go_bipush dX10_isName_29 rfl (by decide) ?_
    refine go_icmp_eq (tgt := 46) dX10_isName_31 rfl (fun h31 => ?_) (fun h31 => ?_)
    ·
      refine go_iconst dX10_isName_46 rfl ?_
      refine go_goto (tgt := 51) dX10_isName_47 rfl ?_
      exact go_ri dX10_isName_51 (tyZ (by first | exact Or.inl rfl | exact Or.inr rfl | exact tv_01 | assumption)) ⟨Nat.le_refl _, Nat.le_refl _⟩ (by first | exact ⟨(tv_n (by unfold nmO; omega)).symm, rfl⟩ | exact ⟨(tv_1 (by unfold nmO; omega)).symm, rfl⟩)
    ·
      refine go_iload_n dX10_isName_34 rfl ?_
      refine go_bipush dX10_isName_35 rfl (by decide) ?_
      refine go_icmp_eq (tgt := 46) dX10_isName_37 rfl (fun h37 => ?_) (fun h37 => ?_)
      ·
        refine go_iconst dX10_isName_46 rfl ?_
        refine go_goto (tgt := 51) dX10_isName_47 rfl ?_
        exact go_ri dX10_isName_51 (tyZ (by first | exact Or.inl rfl | exact Or.inr rfl | exact tv_01 | assumption)) ⟨Nat.le_refl _, Nat.le_refl _⟩ (by first | exact ⟨(tv_n (by unfold nmO; omega)).symm, rfl⟩ | exact ⟨(tv_1 (by unfold nmO; omega)).symm, rfl⟩)
      ·
        refine go_iload_n dX10_isName_40 rfl ?_
        refine go_bipush dX10_isName_41 rfl (by decide) ?_
        refine go_icmp_ne (tgt := 50) dX10_isName_43 rfl (fun h43 => ?_) (fun h43 => ?_)
        ·
          refine go_iconst dX10_isName_50 rfl ?_
          exact go_ri dX10_isName_51 (tyZ (by first | exact Or.inl rfl | exact Or.inr rfl | exact tv_01 | assumption)) ⟨Nat.le_refl _, Nat.le_refl _⟩ (by first | exact ⟨(tv_n (by unfold nmO; omega)).symm, rfl⟩ | exact ⟨(tv_1 (by unfold nmO; omega)).symm, rfl⟩)
        ·
          refine go_iconst dX10_isName_46 rfl ?_
          refine go_goto (tgt := 51) dX10_isName_47 rfl ?_
          exact go_ri dX10_isName_51 (tyZ (by first | exact Or.inl rfl | exact Or.inr rfl | exact tv_01 | assumption)) ⟨Nat.le_refl _, Nat.le_refl _⟩ (by first | exact ⟨(tv_n (by unfold nmO; omega)).symm, rfl⟩ | exact ⟨(tv_1 (by unfold nmO; omega)).symm, rfl⟩)
  refine go_case (1) (fun h1_1 => ?_) (fun h1_1 => ?_)
  ·
    refine go_lookup (tgt := 52) dX10_isName_1 rfl (by rw [h1_1]; try rfl) rfl ?_
    refine go_iload_n dX10_isName_52 rfl ?_
    refine go_bipush dX10_isName_53 rfl (by decide) ?_
    refine go_icmp_eq (tgt := 64) dX10_isName_55 rfl (fun h55 => ?_) (fun h55 => ?_)
    ·
      refine go_iconst dX10_isName_64 rfl ?_
      refine go_goto (tgt := 69) dX10_isName_65 rfl ?_
      exact go_ri dX10_isName_69 (tyZ (by first | exact Or.inl rfl | exact Or.inr rfl | exact tv_01 | assumption)) ⟨Nat.le_refl _, Nat.le_refl _⟩ (by first | exact ⟨(tv_n (by unfold nmO; omega)).symm, rfl⟩ | exact ⟨(tv_1 (by unfold nmO; omega)).symm, rfl⟩)
    ·
      refine go_iload_n dX10_isName_58 rfl ?_
      refine go_bipush dX10_isName_59 rfl (by decide) ?_
      refine go_icmp_ne (tgt := 68) dX10_isName_61 rfl (fun h61 => ?_) (fun h61 => ?_)
      ·
        refine go_iconst dX10_isName_68 rfl ?_
        exact go_ri dX10_isName_69 (tyZ (by first | exact Or.inl rfl | exact Or.inr rfl | exact tv_01 | assumption)) ⟨Nat.le_refl _, Nat.le_refl _⟩ (by first | exact ⟨(tv_n (by unfold nmO; omega)).symm, rfl⟩ | exact ⟨(tv_1 (by unfold nmO; omega)).symm, rfl⟩)
      ·
        refine go_iconst dX10_isName_64 rfl ?_
        refine go_goto (tgt := 69) dX10_isName_65 rfl ?_
        exact go_ri dX10_isName_69 (tyZ (by first | exact Or.inl rfl | exact Or.inr rfl | exact tv_01 | assumption)) ⟨Nat.le_refl _, Nat.le_refl _⟩ (by first | exact ⟨(tv_n (by unfold nmO; omega)).symm, rfl⟩ | exact ⟨(tv_1 (by unfold nmO; omega)).symm, rfl⟩)
  refine go_lookup (tgt := 70) (off := 69) dX10_isName_1 rfl (by simp [Op.lookupswitch.offset, Ne.symm h1_0, Ne.symm h1_1]) rfl ?_
  refine go_iload_n dX10_isName_70 rfl ?_
  refine go_bipush dX10_isName_71 rfl (by decide) ?_
  refine go_icmp_eq (tgt := 82) dX10_isName_73 rfl (fun h73 => ?_) (fun h73 => ?_)
  ·
    refine go_iconst dX10_isName_82 rfl ?_
    refine go_goto (tgt := 87) dX10_isName_83 rfl ?_
    exact go_ri dX10_isName_87 (tyZ (by first | exact Or.inl rfl | exact Or.inr rfl | exact tv_01 | assumption)) ⟨Nat.le_refl _, Nat.le_refl _⟩ (by first | exact ⟨(tv_n (by unfold nmO; omega)).symm, rfl⟩ | exact ⟨(tv_1 (by unfold nmO; omega)).symm, rfl⟩)
  ·
    refine go_iload_n dX10_isName_76 rfl ?_
    refine go_bipush dX10_isName_77 rfl (by decide) ?_
    refine go_icmp_ne (tgt := 86) dX10_isName_79 rfl (fun h79 => ?_) (fun h79 => ?_)
    ·
      refine go_iconst dX10_isName_86 rfl ?_
      exact go_ri dX10_isName_87 (tyZ (by first | exact Or.inl rfl | exact Or.inr rfl | exact tv_01 | assumption)) ⟨Nat.le_refl _, Nat.le_refl _⟩ (by first | exact ⟨(tv_n (by unfold nmO; omega)).symm, rfl⟩ | exact ⟨(tv_1 (by unfold nmO; omega)).symm, rfl⟩)
    ·
      refine go_iconst dX10_isName_82 rfl ?_
      refine go_goto (tgt := 87) dX10_isName_83 rfl ?_
      exact go_ri dX10_isName_87 (tyZ (by first | exact Or.inl rfl | exact Or.inr rfl | exact tv_01 | assumption)) ⟨Nat.le_refl _, Nat.le_refl _⟩ (by first | exact ⟨(tv_n (by unfold nmO; omega)).symm, rfl⟩ | exact ⟨(tv_1 (by unfold nmO; omega)).symm, rfl⟩)

set_option maxRecDepth 100000 in
set_option maxHeartbeats 4000000 in
theorem ct_X10_step {l : Launch} {D : va_G} {cA : Nat → ClassId} {μ : Mem} (w v : Int) (h0 : 0 ≤ μ 87 30 ∧ μ 87 30 ≤ 2922) (h1 : 0 ≤ μ 87 29 ∧ μ 87 29 < 96) : CtN l D cA yX10_step cX10_step 3 none 0 [vr 87, vi w, vi v] μ (Pv (fun μ' => μ' = ud (ud (ud μ 88 (μ 87 30 + 2 * μ 87 29) w) 88 (μ 87 30 + 2 * μ 87 29 + 1) v) 87 29 (μ 87 29 + 1))) := by
  refine Ct.of (own := RX10) (by decide +kernel) rfl (fun σ => Nat.le_of_ble_eq_true rfl) (fun hM hP ha => ?_)
  obtain ⟨m87, r88, s88, r89, s89, r90, s90, r91, s91, r92, s92, r93, s93, r94, s94, r95, s95, r96, s96, r97, s97, r98, s98, r99, s99, r100, s100, r101, s101, r102, s102, r103, s103, r104, s104, r105, s105, r106, s106, r107, s107, r108, s108, r109, s109, r110, s110, r111, s111, r112, s112⟩ := md_f
  refine go_aload_n dX10_step_0 rfl ?_
  refine go_getR dX10_step_1 fl_X10_7 (by first | assumption | exact Nat.le_of_ble_eq_true rfl) (by first | assumption | rfl) rfl (by first | assumption | rfl) ?_
  refine go_aload_n dX10_step_4 rfl ?_
  refine go_getI 30 dX10_step_5 fl_X10_258 (by first | assumption | exact Nat.le_of_ble_eq_true rfl) (by first | assumption | rfl) rfl rfl ?_
  refine go_iconst dX10_step_8 rfl ?_
  refine go_aload_n dX10_step_9 rfl ?_
  refine go_getI 29 dX10_step_10 fl_X10_261 (by first | assumption | exact Nat.le_of_ble_eq_true rfl) (by first | assumption | rfl) rfl rfl ?_
  refine go_imul dX10_step_13 ⟨by omega, by omega⟩ ?_
  refine go_iadd dX10_step_14 ⟨by omega, by omega⟩ ?_
  refine go_iload_n dX10_step_15 rfl ?_
  refine go_iastore dX10_step_16 (by first | assumption | exact Nat.le_of_ble_eq_true rfl) (by first | assumption | rfl) (by omega) (by omega) ?_
  refine go_aload_n dX10_step_17 rfl ?_
  refine go_getR dX10_step_18 fl_X10_7 (by first | assumption | exact Nat.le_of_ble_eq_true rfl) (by first | assumption | rfl) rfl (by first | assumption | rfl) ?_
  refine go_aload_n dX10_step_21 rfl ?_
  refine go_getI 30 dX10_step_22 fl_X10_258 (by first | assumption | exact Nat.le_of_ble_eq_true rfl) (by first | assumption | rfl) rfl rfl ?_
  try simp (disch := omega) only [ua_same, ua_ne, uf_same, uf_ne]
  refine go_iconst dX10_step_25 rfl ?_
  refine go_aload_n dX10_step_26 rfl ?_
  refine go_getI 29 dX10_step_27 fl_X10_261 (by first | assumption | exact Nat.le_of_ble_eq_true rfl) (by first | assumption | rfl) rfl rfl ?_
  try simp (disch := omega) only [ua_same, ua_ne, uf_same, uf_ne]
  refine go_imul dX10_step_30 ⟨by omega, by omega⟩ ?_
  refine go_iadd dX10_step_31 ⟨by omega, by omega⟩ ?_
  refine go_iconst dX10_step_32 rfl ?_
  refine go_iadd dX10_step_33 ⟨by omega, by omega⟩ ?_
  refine go_iload_n dX10_step_34 rfl ?_
  refine go_iastore dX10_step_35 (by first | assumption | exact Nat.le_of_ble_eq_true rfl) (by first | assumption | rfl) (by omega) (by omega) ?_
  refine go_aload_n dX10_step_36 rfl ?_
  refine go_dup dX10_step_37 rfl ?_
  refine go_getI 29 dX10_step_38 fl_X10_261 (by first | assumption | exact Nat.le_of_ble_eq_true rfl) (by first | assumption | rfl) rfl rfl ?_
  try simp (disch := omega) only [ua_same, ua_ne, uf_same, uf_ne]
  refine go_iconst dX10_step_41 rfl ?_
  refine go_iadd dX10_step_42 ⟨by omega, by omega⟩ ?_
  refine go_putI 29 dX10_step_43 pl_X10_261 (by first | assumption | exact Nat.le_of_ble_eq_true rfl) (by first | assumption | rfl) rfl rfl ?_
  exact go_rv dX10_step_46 rfl ⟨Nat.le_refl _, Nat.le_refl _⟩ (rfl)

set_option maxRecDepth 100000 in
set_option maxHeartbeats 4000000 in
theorem ct_X10_isWordAt {l : Launch} {D : va_G} {cA : Nat → ClassId} {μ : Mem} (a b c d : Int) (hd : d ≠ 0) (h0 : 0 ≤ μ 87 22 ∧ μ 87 22 ≤ 96) (h1 : 0 ≤ μ 87 23 ∧ μ 87 23 ≤ 96) : CtN l D cA yX10_isWordAt cX10_isWordAt 6 (some .boolean) 0 [vr 87, vi a, vi b, vi c, vi d] μ (Pi (fun x μ' => x = tv (μ 87 24 = 1 ∧ μ 87 23 - μ 87 22 = 4 ∧ μ 107 (μ 87 22) = a ∧ μ 107 (μ 87 22 + 1) = b ∧ μ 107 (μ 87 22 + 2) = c ∧ μ 107 (μ 87 22 + 3) = d) inferInstance ∧ μ' = μ)) := by
  refine Ct.of (own := RX10) (by decide +kernel) rfl (fun σ => Nat.le_of_ble_eq_true rfl) (fun hM hP ha => ?_)
  obtain ⟨m87, r88, s88, r89, s89, r90, s90, r91, s91, r92, s92, r93, s93, r94, s94, r95, s95, r96, s96, r97, s97, r98, s98, r99, s99, r100, s100, r101, s101, r102, s102, r103, s103, r104, s104, r105, s105, r106, s106, r107, s107, r108, s108, r109, s109, r110, s110, r111, s111, r112, s112⟩ := md_f
  refine go_iload dX10_isWordAt_0 rfl ?_
  first | refine go_bnz (tgt := 9) dX10_isWordAt_2 rfl (fun h2 => ?_) (fun h2 => ?_) | refine go_if_ne (tgt := 9) dX10_isWordAt_2 rfl (fun h2 => ?_) (fun h2 => ?_)
  ·
    refine go_iconst dX10_isWordAt_9 rfl ?_
    refine go_istore dX10_isWordAt_10 rfl ?_
    refine go_aload_n dX10_isWordAt_12 rfl ?_
    refine go_getI 24 dX10_isWordAt_13 fl_X10_236 (by first | assumption | exact Nat.le_of_ble_eq_true rfl) (by first | assumption | rfl) rfl rfl ?_
    refine go_iconst dX10_isWordAt_16 rfl ?_
    refine go_icmp_ne (tgt := 102) dX10_isWordAt_17 rfl (fun h17 => ?_) (fun h17 => ?_)
    ·
      refine go_iconst dX10_isWordAt_102 rfl ?_
      exact go_ri dX10_isWordAt_103 (tyZ (by first | exact Or.inl rfl | exact Or.inr rfl | exact tv_01 | assumption)) ⟨Nat.le_refl _, Nat.le_refl _⟩ (by first | exact ⟨(tv_n (by omega)).symm, rfl⟩ | exact ⟨(tv_1 (by omega)).symm, rfl⟩)
    ·
      refine go_aload_n dX10_isWordAt_20 rfl ?_
      refine go_getI 23 dX10_isWordAt_21 fl_X10_233 (by first | assumption | exact Nat.le_of_ble_eq_true rfl) (by first | assumption | rfl) rfl rfl ?_
      refine go_aload_n dX10_isWordAt_24 rfl ?_
      refine go_getI 22 dX10_isWordAt_25 fl_X10_239 (by first | assumption | exact Nat.le_of_ble_eq_true rfl) (by first | assumption | rfl) rfl rfl ?_
      refine go_isub dX10_isWordAt_28 ⟨by omega, by omega⟩ ?_
      refine go_iload dX10_isWordAt_29 rfl ?_
      refine go_icmp_ne (tgt := 102) dX10_isWordAt_31 rfl (fun h31 => ?_) (fun h31 => ?_)
      ·
        refine go_iconst dX10_isWordAt_102 rfl ?_
        exact go_ri dX10_isWordAt_103 (tyZ (by first | exact Or.inl rfl | exact Or.inr rfl | exact tv_01 | assumption)) ⟨Nat.le_refl _, Nat.le_refl _⟩ (by first | exact ⟨(tv_n (by omega)).symm, rfl⟩ | exact ⟨(tv_1 (by omega)).symm, rfl⟩)
      ·
        refine go_aload_n dX10_isWordAt_34 rfl ?_
        refine go_getR dX10_isWordAt_35 fl_X10_68 (by first | assumption | exact Nat.le_of_ble_eq_true rfl) (by first | assumption | rfl) rfl (by first | assumption | rfl) ?_
        refine go_aload_n dX10_isWordAt_38 rfl ?_
        refine go_getI 22 dX10_isWordAt_39 fl_X10_239 (by first | assumption | exact Nat.le_of_ble_eq_true rfl) (by first | assumption | rfl) rfl rfl ?_
        refine go_iaload dX10_isWordAt_42 (by first | assumption | exact Nat.le_of_ble_eq_true rfl) (by first | assumption | rfl) (by omega) (by omega) ?_
        refine go_iload_n dX10_isWordAt_43 rfl ?_
        refine go_icmp_ne (tgt := 102) dX10_isWordAt_44 rfl (fun h44 => ?_) (fun h44 => ?_)
        ·
          refine go_iconst dX10_isWordAt_102 rfl ?_
          exact go_ri dX10_isWordAt_103 (tyZ (by first | exact Or.inl rfl | exact Or.inr rfl | exact tv_01 | assumption)) ⟨Nat.le_refl _, Nat.le_refl _⟩ (by first | exact ⟨(tv_n (by omega)).symm, rfl⟩ | exact ⟨(tv_1 (by omega)).symm, rfl⟩)
        ·
          refine go_aload_n dX10_isWordAt_47 rfl ?_
          refine go_getR dX10_isWordAt_48 fl_X10_68 (by first | assumption | exact Nat.le_of_ble_eq_true rfl) (by first | assumption | rfl) rfl (by first | assumption | rfl) ?_
          refine go_aload_n dX10_isWordAt_51 rfl ?_
          refine go_getI 22 dX10_isWordAt_52 fl_X10_239 (by first | assumption | exact Nat.le_of_ble_eq_true rfl) (by first | assumption | rfl) rfl rfl ?_
          refine go_iconst dX10_isWordAt_55 rfl ?_
          refine go_iadd dX10_isWordAt_56 ⟨by omega, by omega⟩ ?_
          refine go_iaload dX10_isWordAt_57 (by first | assumption | exact Nat.le_of_ble_eq_true rfl) (by first | assumption | rfl) (by omega) (by omega) ?_
          refine go_iload_n dX10_isWordAt_58 rfl ?_
          refine go_icmp_ne (tgt := 102) dX10_isWordAt_59 rfl (fun h59 => ?_) (fun h59 => ?_)
          ·
            refine go_iconst dX10_isWordAt_102 rfl ?_
            exact go_ri dX10_isWordAt_103 (tyZ (by first | exact Or.inl rfl | exact Or.inr rfl | exact tv_01 | assumption)) ⟨Nat.le_refl _, Nat.le_refl _⟩ (by first | exact ⟨(tv_n (by omega)).symm, rfl⟩ | exact ⟨(tv_1 (by omega)).symm, rfl⟩)
          ·
            refine go_aload_n dX10_isWordAt_62 rfl ?_
            refine go_getR dX10_isWordAt_63 fl_X10_68 (by first | assumption | exact Nat.le_of_ble_eq_true rfl) (by first | assumption | rfl) rfl (by first | assumption | rfl) ?_
            refine go_aload_n dX10_isWordAt_66 rfl ?_
            refine go_getI 22 dX10_isWordAt_67 fl_X10_239 (by first | assumption | exact Nat.le_of_ble_eq_true rfl) (by first | assumption | rfl) rfl rfl ?_
            refine go_iconst dX10_isWordAt_70 rfl ?_
            refine go_iadd dX10_isWordAt_71 ⟨by omega, by omega⟩ ?_
            refine go_iaload dX10_isWordAt_72 (by first | assumption | exact Nat.le_of_ble_eq_true rfl) (by first | assumption | rfl) (by omega) (by omega) ?_
            refine go_iload_n dX10_isWordAt_73 rfl ?_
            refine go_icmp_ne (tgt := 102) dX10_isWordAt_74 rfl (fun h74 => ?_) (fun h74 => ?_)
            ·
              refine go_iconst dX10_isWordAt_102 rfl ?_
              exact go_ri dX10_isWordAt_103 (tyZ (by first | exact Or.inl rfl | exact Or.inr rfl | exact tv_01 | assumption)) ⟨Nat.le_refl _, Nat.le_refl _⟩ (by first | exact ⟨(tv_n (by omega)).symm, rfl⟩ | exact ⟨(tv_1 (by omega)).symm, rfl⟩)
            ·
              refine go_iload dX10_isWordAt_77 rfl ?_
              first | refine go_bz (tgt := 98) dX10_isWordAt_79 rfl (fun h79 => ?_) (fun h79 => ?_) | refine go_if_eq (tgt := 98) dX10_isWordAt_79 rfl (fun h79 => ?_) (fun h79 => ?_)
              ·
                exact absurd h79 hd
              ·
                refine go_aload_n dX10_isWordAt_82 rfl ?_
                refine go_getR dX10_isWordAt_83 fl_X10_68 (by first | assumption | exact Nat.le_of_ble_eq_true rfl) (by first | assumption | rfl) rfl (by first | assumption | rfl) ?_
                refine go_aload_n dX10_isWordAt_86 rfl ?_
                refine go_getI 22 dX10_isWordAt_87 fl_X10_239 (by first | assumption | exact Nat.le_of_ble_eq_true rfl) (by first | assumption | rfl) rfl rfl ?_
                refine go_iconst dX10_isWordAt_90 rfl ?_
                refine go_iadd dX10_isWordAt_91 ⟨by omega, by omega⟩ ?_
                refine go_iaload dX10_isWordAt_92 (by first | assumption | exact Nat.le_of_ble_eq_true rfl) (by first | assumption | rfl) (by omega) (by omega) ?_
                refine go_iload dX10_isWordAt_93 rfl ?_
                refine go_icmp_ne (tgt := 102) dX10_isWordAt_95 rfl (fun h95 => ?_) (fun h95 => ?_)
                ·
                  refine go_iconst dX10_isWordAt_102 rfl ?_
                  exact go_ri dX10_isWordAt_103 (tyZ (by first | exact Or.inl rfl | exact Or.inr rfl | exact tv_01 | assumption)) ⟨Nat.le_refl _, Nat.le_refl _⟩ (by first | exact ⟨(tv_n (by omega)).symm, rfl⟩ | exact ⟨(tv_1 (by omega)).symm, rfl⟩)
                ·
                  refine go_iconst dX10_isWordAt_98 rfl ?_
                  refine go_goto (tgt := 103) dX10_isWordAt_99 rfl ?_
                  exact go_ri dX10_isWordAt_103 (tyZ (by first | exact Or.inl rfl | exact Or.inr rfl | exact tv_01 | assumption)) ⟨Nat.le_refl _, Nat.le_refl _⟩ (by first | exact ⟨(tv_n (by omega)).symm, rfl⟩ | exact ⟨(tv_1 (by omega)).symm, rfl⟩)
  ·
    exact absurd h2 hd

/-- which key stands there: 0, 1, 2; -1: none -/
def kyM (tk b e : Int) (B : Int → Int) : Int :=
  if tk = 1 ∧ e - b = 4 ∧ B b = 114 ∧ B (b + 1) = 105 ∧ B (b + 2) = 115 ∧ B (b + 3) = 107 then 0
  else if tk = 1 ∧ e - b = 4 ∧ B b = 104 ∧ B (b + 1) = 111 ∧ B (b + 2) = 108 ∧ B (b + 3) = 100 then 1
  else if tk = 1 ∧ e - b = 4 ∧ B b = 115 ∧ B (b + 1) = 116 ∧ B (b + 2) = 101 ∧ B (b + 3) = 112 then 2 else -1

set_option maxRecDepth 100000 in
set_option maxHeartbeats 4000000 in
theorem ct_X10_key {l : Launch} {D : va_G} {cA : Nat → ClassId} {μ : Mem} (h0 : 0 ≤ μ 87 22 ∧ μ 87 22 ≤ 96) (h1 : 0 ≤ μ 87 23 ∧ μ 87 23 ≤ 96) : CtN l D cA yX10_key cX10_key 1 (some .int) 1 [vr 87] μ (Pi (fun x μ' => x = kyM (μ 87 24) (μ 87 22) (μ 87 23) (μ 107) ∧ μ' = μ)) := by
  refine Ct.of (own := RX10) (by decide +kernel) rfl (fun σ => Nat.le_of_ble_eq_true rfl) (fun hM hP ha => ?_)
  obtain ⟨m87, r88, s88, r89, s89, r90, s90, r91, s91, r92, s92, r93, s93, r94, s94, r95, s95, r96, s96, r97, s97, r98, s98, r99, s99, r100, s100, r101, s101, r102, s102, r103, s103, r104, s104, r105, s105, r106, s106, r107, s107, r108, s108, r109, s109, r110, s110, r111, s111, r112, s112⟩ := md_f
  refine go_aload_n dX10_key_0 rfl ?_
  refine go_bipush dX10_key_1 rfl (by decide) ?_
  refine go_bipush dX10_key_3 rfl (by decide) ?_
  refine go_bipush dX10_key_5 rfl (by decide) ?_
  refine go_bipush dX10_key_7 rfl (by decide) ?_
  refine go_vI (ci := 9) dX10_key_9 (ct_X10_isWordAt _ _ _ _ (by decide) h0 h1) ml_X10_254 mc_X10_isWordAt mv_X10_isWordAt rfl (by first | assumption | exact Nat.le_of_ble_eq_true rfl) (by first | assumption | rfl) rfl ⟨rfl, rfl⟩ ⟨Nat.le_refl _, Nat.le_refl _⟩ rfl rfl rfl (fun x9 μ9 hc9 => ?_)
  obtain ⟨rfl, hm9⟩ := hc9
  rw [hm9]
  first | refine go_bz (tgt := 17) dX10_key_12 rfl (fun h12 => ?_) (fun h12 => ?_) | refine go_if_eq (tgt := 17) dX10_key_12 rfl (fun h12 => ?_) (fun h12 => ?_)
  ·
    refine go_aload_n dX10_key_17 rfl ?_
    refine go_bipush dX10_key_18 rfl (by decide) ?_
    refine go_bipush dX10_key_20 rfl (by decide) ?_
    refine go_bipush dX10_key_22 rfl (by decide) ?_
    refine go_bipush dX10_key_24 rfl (by decide) ?_
    refine go_vI (ci := 9) dX10_key_26 (ct_X10_isWordAt _ _ _ _ (by decide) h0 h1) ml_X10_254 mc_X10_isWordAt mv_X10_isWordAt rfl (by first | assumption | exact Nat.le_of_ble_eq_true rfl) (by first | assumption | rfl) rfl ⟨rfl, rfl⟩ ⟨Nat.le_refl _, Nat.le_refl _⟩ rfl rfl rfl (fun x26 μ26 hc26 => ?_)
    obtain ⟨rfl, hm26⟩ := hc26
    rw [hm26]
    first | refine go_bz (tgt := 34) dX10_key_29 rfl (fun h29 => ?_) (fun h29 => ?_) | refine go_if_eq (tgt := 34) dX10_key_29 rfl (fun h29 => ?_) (fun h29 => ?_)
    ·
      refine go_aload_n dX10_key_34 rfl ?_
      refine go_bipush dX10_key_35 rfl (by decide) ?_
      refine go_bipush dX10_key_37 rfl (by decide) ?_
      refine go_bipush dX10_key_39 rfl (by decide) ?_
      refine go_bipush dX10_key_41 rfl (by decide) ?_
      refine go_vI (ci := 9) dX10_key_43 (ct_X10_isWordAt _ _ _ _ (by decide) h0 h1) ml_X10_254 mc_X10_isWordAt mv_X10_isWordAt rfl (by first | assumption | exact Nat.le_of_ble_eq_true rfl) (by first | assumption | rfl) rfl ⟨rfl, rfl⟩ ⟨Nat.le_refl _, Nat.le_refl _⟩ rfl rfl rfl (fun x43 μ43 hc43 => ?_)
      obtain ⟨rfl, hm43⟩ := hc43
      rw [hm43]
      first | refine go_bz (tgt := 53) dX10_key_46 rfl (fun h46 => ?_) (fun h46 => ?_) | refine go_if_eq (tgt := 53) dX10_key_46 rfl (fun h46 => ?_) (fun h46 => ?_)
      ·
        refine go_iconst dX10_key_53 rfl ?_
        exact go_ri dX10_key_54 tyI ⟨Nat.le_refl _, Nat.le_refl _⟩ (⟨by unfold kyM; rw [if_neg h12, if_neg h29, if_neg h46], rfl⟩)
      ·
        refine go_iconst dX10_key_49 rfl ?_
        refine go_goto (tgt := 54) dX10_key_50 rfl ?_
        exact go_ri dX10_key_54 tyI ⟨Nat.le_refl _, Nat.le_refl _⟩ (⟨by unfold kyM; rw [if_neg h12, if_neg h29, if_pos h46], rfl⟩)
    ·
      refine go_iconst dX10_key_32 rfl ?_
      exact go_ri dX10_key_33 tyI ⟨Nat.le_refl _, Nat.le_refl _⟩ (⟨by unfold kyM; rw [if_neg h12, if_pos h29], rfl⟩)
  ·
    refine go_iconst dX10_key_15 rfl ?_
    exact go_ri dX10_key_16 tyI ⟨Nat.le_refl _, Nat.le_refl _⟩ (⟨by unfold kyM; rw [if_pos h12], rfl⟩)

theorem skp_s {B : Int → Int} {N p : Int} : skp B N p = if p < N ∧ B p = 32 then skp B N (p + 1) else p := by
  unfold skp
  by_cases h : p < N
  · rw [show (N - p).toNat = (N - (p + 1)).toNat + 1 by omega]
    show (if B p = 32 then skN B (N - (p + 1)).toNat (p + 1) else p) = _
    by_cases e : B p = 32
    · rw [if_pos e, if_pos ⟨h, e⟩]
    · rw [if_neg e, if_neg (fun q => e q.2)]
  · rw [if_neg (fun q => h q.1), show (N - p).toNat = 0 by omega]
    rfl
theorem wE1_s {q : Int → Bool} {N p : Int} (hq : ∀ i, N ≤ i → q i = false) : wE1 q (N - p).toNat p = if q p = true then wE1 q (N - (p + 1)).toNat (p + 1) else p := by
  by_cases h : p < N
  · rw [show (N - p).toNat = (N - (p + 1)).toNat + 1 by omega]
    rfl
  · rw [hq p (by omega), show (N - p).toNat = 0 by omega]
    rfl
theorem qDg_N {B : Int → Int} {N : Int} : ∀ i, N ≤ i → qDg B N i = false := fun i h => by unfold qDg bA; rw [if_neg (by omega)]; decide
theorem qLt_N {B : Int → Int} {N : Int} : ∀ i, N ≤ i → qLt B N i = false := fun i h => by unfold qLt bA; rw [if_neg (by omega)]; decide
/-- the token that begins at b: as the reference has it -/
def tokR (B : Int → Int) (N : Int) (tg : Prop) (b : Int) (r : Int → Int) : Prop :=
  r 22 = b ∧ (b = N → r 24 = 0 ∧ r 23 = b) ∧ (b < N → qLt B N b = true → r 23 = wEd B N b ∧ (tg → r 24 = 4) ∧ (¬ tg → r 24 = 1) ∧ r 26 = if wEd B N b - b = 1 then B b else 0) ∧
  (b < N → qDg B N b = true → r 23 = wEd B N b ∧ (tg ∨ 4 < wEd B N b - b → r 24 = 4) ∧ (¬ tg ∧ wEd B N b - b ≤ 4 → r 24 = 2 ∧ r 25 = nuV B b (wEd B N b - b).toNat)) ∧
  (b < N → ¬ qLt B N b = true → ¬ qDg B N b = true → r 24 = 3 ∧ r 26 = B b ∧ r 23 = b + 1)

theorem dg_lt {B : Int → Int} {N p : Int} (h : qLt B N p = true) : ¬ qDg B N p = true := fun q => by
  have h1 : 97 ≤ bA B N p ∧ bA B N p ≤ 122 := of_decide_eq_true h
  have h2 : 48 ≤ bA B N p ∧ bA B N p ≤ 57 := of_decide_eq_true q
  omega
theorem wEd_lt {B : Int → Int} {N p : Int} (h : qLt B N p = true) : wEd B N p = wE1 (qLt B N) (N - p).toNat p := by
  unfold wEd; rw [if_neg (dg_lt h)]
theorem wEd_dg2 {B : Int → Int} {N p : Int} (h : qDg B N p = true) : wEd B N p = wE1 (qDg B N) (N - p).toNat p := by
  unfold wEd; rw [if_pos h]

theorem wEd_p2 {B : Int → Int} {N p : Int} (h : qLt B N p = true) (hp : p < N) : p < wEd B N p := by
  rw [wEd_lt h, wE1_s qLt_N, if_pos h]
  have := wE1_r (q := qLt B N) (N - (p + 1)).toNat (p + 1)
  omega

set_option maxRecDepth 100000 in
set_option maxHeartbeats 4000000 in
theorem ct_X10_nextToken {l : Launch} {D : va_G} {cA : Nat → ClassId} {μ : Mem} (hN0 : 0 ≤ μ 87 21) (hN1 : μ 87 21 ≤ 96) (he0 : 0 ≤ μ 87 23) (he23 : μ 87 23 ≤ μ 87 21) : CtN l D cA yX10_nextToken cX10_nextToken 3 none 3 [vr 87] μ (Pv (fun μ' => tokR (μ 107) (μ 87 21) ((0 < μ 87 23 ∧ (μ 87 24 = 1 ∨ μ 87 24 = 2)) ∧ (skp (μ 107) (μ 87 21) (μ 87 23)) = μ 87 23) (skp (μ 107) (μ 87 21) (μ 87 23)) (μ' 87) ∧ (∀ q, q ≠ 87 → μ' q = μ q) ∧ ∀ k, (k < 22 ∨ 26 < k) → μ' 87 k = μ 87 k)) := by
  refine Ct.of (own := RX10) (by decide +kernel) rfl (fun σ => Nat.le_of_ble_eq_true rfl) (fun hM hP ha => ?_)
  obtain ⟨m87, r88, s88, r89, s89, r90, s90, r91, s91, r92, s92, r93, s93, r94, s94, r95, s95, r96, s96, r97, s97, r98, s98, r99, s99, r100, s100, r101, s101, r102, s102, r103, s103, r104, s104, r105, s105, r106, s106, r107, s107, r108, s108, r109, s109, r110, s110, r111, s111, r112, s112⟩ := md_f
  have lpL : ∀ (m : Nat) (e tg : Int) (μ1 : Mem), μ 87 21 - e = (m : Nat) → (tg = 0 ∨ tg = 1) → (tg = 1 ↔ ((0 < μ 87 23 ∧ (μ 87 24 = 1 ∨ μ 87 24 = 2)) ∧ (skp (μ 107) (μ 87 21) (μ 87 23)) = μ 87 23)) → μ1 87 22 = (skp (μ 107) (μ 87 21) (μ 87 23)) → μ1 87 23 = e → (skp (μ 107) (μ 87 21) (μ 87 23)) ≤ e → e ≤ μ 87 21 → (skp (μ 107) (μ 87 21) (μ 87 23)) < μ 87 21 → qLt (μ 107) (μ 87 21) (skp (μ 107) (μ 87 21) (μ 87 23)) = true → wEd (μ 107) (μ 87 21) (skp (μ 107) (μ 87 21) (μ 87 23)) = wE1 (qLt (μ 107) (μ 87 21)) (μ 87 21 - e).toNat e → ((∀ q, q ≠ 87 → μ1 q = μ q) ∧ ∀ k, (k < 22 ∨ 26 < k) → μ1 87 k = μ 87 k) → Go l D cA none RX10 cX10_nextToken 3 none (3, 0, 0) (QN (Pv (fun μ' => tokR (μ 107) (μ 87 21) ((0 < μ 87 23 ∧ (μ 87 24 = 1 ∨ μ 87 24 = 2)) ∧ (skp (μ 107) (μ 87 21) (μ 87 23)) = μ 87 23) (skp (μ 107) (μ 87 21) (μ 87 23)) (μ' 87) ∧ (∀ q, q ≠ 87 → μ' q = μ q) ∧ ∀ k, (k < 22 ∨ 26 < k) → μ' 87 k = μ 87 k))) 113 ρ0 0 0 128 [(0, vr 87), (1, vi tg)] [] μ1 := by
    intro m
    induction m with
    | zero =>
      intro e tg μ1 hm ht01 htg h22 h23 he0 he1 hb hq hw hf
      have hbz := skp_r (B := μ 107) he23
      have e21 : μ1 87 21 = μ 87 21 := hf.2 21 (by omega)
      have e107 : μ1 107 = μ 107 := hf.1 107 (by decide)
      refine go_aload_n dX10_nextToken_128 rfl ?_
      refine go_aload_n dX10_nextToken_129 rfl ?_
      refine go_getI 23 dX10_nextToken_130 fl_X10_233 (by first | assumption | exact Nat.le_of_ble_eq_true rfl) (by first | assumption | rfl) rfl rfl ?_
      try simp (disch := omega) only [ua_same, ua_ne, uf_same, uf_ne]
      refine go_vI (ci := 9) dX10_nextToken_133 (ct_X10_isLetter (by rw [e21]; exact hN0) (by rw [e21]; exact hN1) _ (by omega)) ml_X10_242 mc_X10_isLetter mv_X10_isLetter rfl (by first | assumption | exact Nat.le_of_ble_eq_true rfl) (by first | assumption | rfl) rfl ⟨rfl, rfl⟩ ⟨Nat.le_refl _, Nat.le_refl _⟩ rfl rfl rfl (fun x133 μ133 hc133 => ?_)
      rw [e107, e21, h23] at hc133
      obtain ⟨rfl, hm133⟩ := hc133
      rw [hm133]
      first | refine go_bz (tgt := 152) dX10_nextToken_136 rfl (fun h136 => ?_) (fun h136 => ?_) | refine go_if_eq (tgt := 152) dX10_nextToken_136 rfl (fun h136 => ?_) (fun h136 => ?_)
      ·
        have hwe : wEd (μ 107) (μ 87 21) (skp (μ 107) (μ 87 21) (μ 87 23)) = e := by rw [hw, wE1_s qLt_N, if_neg (qLt_f h136)]
        have hne := wEd_p2 hq hb
        refine go_aload_n dX10_nextToken_152 rfl ?_
        refine go_iload_n dX10_nextToken_153 rfl ?_
        first | refine go_bz (tgt := 161) dX10_nextToken_154 rfl (fun h154 => ?_) (fun h154 => ?_) | refine go_if_eq (tgt := 161) dX10_nextToken_154 rfl (fun h154 => ?_) (fun h154 => ?_)
        ·
          refine go_iconst dX10_nextToken_161 rfl ?_
          refine go_putI 24 dX10_nextToken_162 pl_X10_236 (by first | assumption | exact Nat.le_of_ble_eq_true rfl) (by first | assumption | rfl) rfl rfl ?_
          refine go_aload_n dX10_nextToken_165 rfl ?_
          refine go_aload_n dX10_nextToken_166 rfl ?_
          refine go_getI 23 dX10_nextToken_167 fl_X10_233 (by first | assumption | exact Nat.le_of_ble_eq_true rfl) (by first | assumption | rfl) rfl rfl ?_
          try simp (disch := omega) only [ua_same, ua_ne, uf_same, uf_ne]
          refine go_aload_n dX10_nextToken_170 rfl ?_
          refine go_getI 22 dX10_nextToken_171 fl_X10_239 (by first | assumption | exact Nat.le_of_ble_eq_true rfl) (by first | assumption | rfl) rfl rfl ?_
          try simp (disch := omega) only [ua_same, ua_ne, uf_same, uf_ne]
          refine go_isub dX10_nextToken_174 ⟨by omega, by omega⟩ ?_
          refine go_iconst dX10_nextToken_175 rfl ?_
          refine go_icmp_ne (tgt := 191) dX10_nextToken_176 rfl (fun h176 => ?_) (fun h176 => ?_)
          ·
            refine go_iconst dX10_nextToken_191 rfl ?_
            refine go_putI 26 dX10_nextToken_192 pl_X10_245 (by first | assumption | exact Nat.le_of_ble_eq_true rfl) (by first | assumption | rfl) rfl rfl ?_
            refine go_goto (tgt := 339) dX10_nextToken_195 rfl ?_
            refine go_rv dX10_nextToken_339 rfl ⟨Nat.le_refl _, Nat.le_refl _⟩ (?_)
            refine ⟨⟨?_, fun h => absurd h (by omega), fun _ _ => ⟨?_, fun ht => ?_, fun ht => ?_, ?_⟩, fun _ h => absurd h (dg_lt hq), fun _ h => absurd hq h⟩, ⟨fun q hq => by simp (disch := omega) only [ua_ne]; exact hf.1 q hq, fun k hk => by simp (disch := omega) only [ua_same, uf_ne]; exact hf.2 k hk⟩⟩
            · simp (disch := omega) only [ua_same, ua_ne, uf_same, uf_ne]; exact h22
            · simp (disch := omega) only [ua_same, ua_ne, uf_same, uf_ne]; omega
            · exact absurd (htg.mpr ht) (by omega)
            · simp (disch := omega) only [ua_same, ua_ne, uf_same, uf_ne]
            · simp (disch := omega) only [ua_same, ua_ne, uf_same, uf_ne]; rw [if_neg (by omega)]
          ·
            refine go_aload_n dX10_nextToken_179 rfl ?_
            refine go_getR dX10_nextToken_180 fl_X10_68 (by first | assumption | exact Nat.le_of_ble_eq_true rfl) (by first | assumption | rfl) rfl (by first | assumption | rfl) ?_
            refine go_aload_n dX10_nextToken_183 rfl ?_
            refine go_getI 22 dX10_nextToken_184 fl_X10_239 (by first | assumption | exact Nat.le_of_ble_eq_true rfl) (by first | assumption | rfl) rfl rfl ?_
            try simp (disch := omega) only [ua_same, ua_ne, uf_same, uf_ne]
            refine go_iaload dX10_nextToken_187 (by first | assumption | exact Nat.le_of_ble_eq_true rfl) (by first | assumption | rfl) (by omega) (by omega) ?_
            try simp (disch := omega) only [ua_same, ua_ne, uf_same, uf_ne]
            refine go_goto (tgt := 192) dX10_nextToken_188 rfl ?_
            refine go_putI 26 dX10_nextToken_192 pl_X10_245 (by first | assumption | exact Nat.le_of_ble_eq_true rfl) (by first | assumption | rfl) rfl rfl ?_
            refine go_goto (tgt := 339) dX10_nextToken_195 rfl ?_
            refine go_rv dX10_nextToken_339 rfl ⟨Nat.le_refl _, Nat.le_refl _⟩ (?_)
            refine ⟨⟨?_, fun h => absurd h (by omega), fun _ _ => ⟨?_, fun ht => ?_, fun ht => ?_, ?_⟩, fun _ h => absurd h (dg_lt hq), fun _ h => absurd hq h⟩, ⟨fun q hq => by simp (disch := omega) only [ua_ne]; exact hf.1 q hq, fun k hk => by simp (disch := omega) only [ua_same, uf_ne]; exact hf.2 k hk⟩⟩
            · simp (disch := omega) only [ua_same, ua_ne, uf_same, uf_ne]; exact h22
            · simp (disch := omega) only [ua_same, ua_ne, uf_same, uf_ne]; omega
            · exact absurd (htg.mpr ht) (by omega)
            · simp (disch := omega) only [ua_same, ua_ne, uf_same, uf_ne]
            · simp (disch := omega) only [ua_same, ua_ne, uf_same, uf_ne]; rw [if_pos (by omega)]; rw [h22, e107]
        ·
          refine go_iconst dX10_nextToken_157 rfl ?_
          refine go_goto (tgt := 162) dX10_nextToken_158 rfl ?_
          refine go_putI 24 dX10_nextToken_162 pl_X10_236 (by first | assumption | exact Nat.le_of_ble_eq_true rfl) (by first | assumption | rfl) rfl rfl ?_
          refine go_aload_n dX10_nextToken_165 rfl ?_
          refine go_aload_n dX10_nextToken_166 rfl ?_
          refine go_getI 23 dX10_nextToken_167 fl_X10_233 (by first | assumption | exact Nat.le_of_ble_eq_true rfl) (by first | assumption | rfl) rfl rfl ?_
          try simp (disch := omega) only [ua_same, ua_ne, uf_same, uf_ne]
          refine go_aload_n dX10_nextToken_170 rfl ?_
          refine go_getI 22 dX10_nextToken_171 fl_X10_239 (by first | assumption | exact Nat.le_of_ble_eq_true rfl) (by first | assumption | rfl) rfl rfl ?_
          try simp (disch := omega) only [ua_same, ua_ne, uf_same, uf_ne]
          refine go_isub dX10_nextToken_174 ⟨by omega, by omega⟩ ?_
          refine go_iconst dX10_nextToken_175 rfl ?_
          refine go_icmp_ne (tgt := 191) dX10_nextToken_176 rfl (fun h176 => ?_) (fun h176 => ?_)
          ·
            refine go_iconst dX10_nextToken_191 rfl ?_
            refine go_putI 26 dX10_nextToken_192 pl_X10_245 (by first | assumption | exact Nat.le_of_ble_eq_true rfl) (by first | assumption | rfl) rfl rfl ?_
            refine go_goto (tgt := 339) dX10_nextToken_195 rfl ?_
            refine go_rv dX10_nextToken_339 rfl ⟨Nat.le_refl _, Nat.le_refl _⟩ (?_)
            refine ⟨⟨?_, fun h => absurd h (by omega), fun _ _ => ⟨?_, fun ht => ?_, fun ht => ?_, ?_⟩, fun _ h => absurd h (dg_lt hq), fun _ h => absurd hq h⟩, ⟨fun q hq => by simp (disch := omega) only [ua_ne]; exact hf.1 q hq, fun k hk => by simp (disch := omega) only [ua_same, uf_ne]; exact hf.2 k hk⟩⟩
            · simp (disch := omega) only [ua_same, ua_ne, uf_same, uf_ne]; exact h22
            · simp (disch := omega) only [ua_same, ua_ne, uf_same, uf_ne]; omega
            · simp (disch := omega) only [ua_same, ua_ne, uf_same, uf_ne]
            · exact absurd (htg.mp (by omega)) ht
            · simp (disch := omega) only [ua_same, ua_ne, uf_same, uf_ne]; rw [if_neg (by omega)]
          ·
            refine go_aload_n dX10_nextToken_179 rfl ?_
            refine go_getR dX10_nextToken_180 fl_X10_68 (by first | assumption | exact Nat.le_of_ble_eq_true rfl) (by first | assumption | rfl) rfl (by first | assumption | rfl) ?_
            refine go_aload_n dX10_nextToken_183 rfl ?_
            refine go_getI 22 dX10_nextToken_184 fl_X10_239 (by first | assumption | exact Nat.le_of_ble_eq_true rfl) (by first | assumption | rfl) rfl rfl ?_
            try simp (disch := omega) only [ua_same, ua_ne, uf_same, uf_ne]
            refine go_iaload dX10_nextToken_187 (by first | assumption | exact Nat.le_of_ble_eq_true rfl) (by first | assumption | rfl) (by omega) (by omega) ?_
            try simp (disch := omega) only [ua_same, ua_ne, uf_same, uf_ne]
            refine go_goto (tgt := 192) dX10_nextToken_188 rfl ?_
            refine go_putI 26 dX10_nextToken_192 pl_X10_245 (by first | assumption | exact Nat.le_of_ble_eq_true rfl) (by first | assumption | rfl) rfl rfl ?_
            refine go_goto (tgt := 339) dX10_nextToken_195 rfl ?_
            refine go_rv dX10_nextToken_339 rfl ⟨Nat.le_refl _, Nat.le_refl _⟩ (?_)
            refine ⟨⟨?_, fun h => absurd h (by omega), fun _ _ => ⟨?_, fun ht => ?_, fun ht => ?_, ?_⟩, fun _ h => absurd h (dg_lt hq), fun _ h => absurd hq h⟩, ⟨fun q hq => by simp (disch := omega) only [ua_ne]; exact hf.1 q hq, fun k hk => by simp (disch := omega) only [ua_same, uf_ne]; exact hf.2 k hk⟩⟩
            · simp (disch := omega) only [ua_same, ua_ne, uf_same, uf_ne]; exact h22
            · simp (disch := omega) only [ua_same, ua_ne, uf_same, uf_ne]; omega
            · simp (disch := omega) only [ua_same, ua_ne, uf_same, uf_ne]
            · exact absurd (htg.mp (by omega)) ht
            · simp (disch := omega) only [ua_same, ua_ne, uf_same, uf_ne]; rw [if_pos (by omega)]; rw [h22, e107]
      ·
        exact absurd (qLt_t h136) (by rw [qLt_N e (by omega)]; decide)
    | succ m ih =>
      intro e tg μ1 hm ht01 htg h22 h23 he0 he1 hb hq hw hf
      have hbz := skp_r (B := μ 107) he23
      have e21 : μ1 87 21 = μ 87 21 := hf.2 21 (by omega)
      have e107 : μ1 107 = μ 107 := hf.1 107 (by decide)
      refine go_aload_n dX10_nextToken_128 rfl ?_
      refine go_aload_n dX10_nextToken_129 rfl ?_
      refine go_getI 23 dX10_nextToken_130 fl_X10_233 (by first | assumption | exact Nat.le_of_ble_eq_true rfl) (by first | assumption | rfl) rfl rfl ?_
      try simp (disch := omega) only [ua_same, ua_ne, uf_same, uf_ne]
      refine go_vI (ci := 9) dX10_nextToken_133 (ct_X10_isLetter (by rw [e21]; exact hN0) (by rw [e21]; exact hN1) _ (by omega)) ml_X10_242 mc_X10_isLetter mv_X10_isLetter rfl (by first | assumption | exact Nat.le_of_ble_eq_true rfl) (by first | assumption | rfl) rfl ⟨rfl, rfl⟩ ⟨Nat.le_refl _, Nat.le_refl _⟩ rfl rfl rfl (fun x133 μ133 hc133 => ?_)
      rw [e107, e21, h23] at hc133
      obtain ⟨rfl, hm133⟩ := hc133
      rw [hm133]
      first | refine go_bz (tgt := 152) dX10_nextToken_136 rfl (fun h136 => ?_) (fun h136 => ?_) | refine go_if_eq (tgt := 152) dX10_nextToken_136 rfl (fun h136 => ?_) (fun h136 => ?_)
      ·
        have hwe : wEd (μ 107) (μ 87 21) (skp (μ 107) (μ 87 21) (μ 87 23)) = e := by rw [hw, wE1_s qLt_N, if_neg (qLt_f h136)]
        refine go_aload_n dX10_nextToken_152 rfl ?_
        refine go_iload_n dX10_nextToken_153 rfl ?_
        first | refine go_bz (tgt := 161) dX10_nextToken_154 rfl (fun h154 => ?_) (fun h154 => ?_) | refine go_if_eq (tgt := 161) dX10_nextToken_154 rfl (fun h154 => ?_) (fun h154 => ?_)
        ·
          refine go_iconst dX10_nextToken_161 rfl ?_
          refine go_putI 24 dX10_nextToken_162 pl_X10_236 (by first | assumption | exact Nat.le_of_ble_eq_true rfl) (by first | assumption | rfl) rfl rfl ?_
          refine go_aload_n dX10_nextToken_165 rfl ?_
          refine go_aload_n dX10_nextToken_166 rfl ?_
          refine go_getI 23 dX10_nextToken_167 fl_X10_233 (by first | assumption | exact Nat.le_of_ble_eq_true rfl) (by first | assumption | rfl) rfl rfl ?_
          try simp (disch := omega) only [ua_same, ua_ne, uf_same, uf_ne]
          refine go_aload_n dX10_nextToken_170 rfl ?_
          refine go_getI 22 dX10_nextToken_171 fl_X10_239 (by first | assumption | exact Nat.le_of_ble_eq_true rfl) (by first | assumption | rfl) rfl rfl ?_
          try simp (disch := omega) only [ua_same, ua_ne, uf_same, uf_ne]
          refine go_isub dX10_nextToken_174 ⟨by omega, by omega⟩ ?_
          refine go_iconst dX10_nextToken_175 rfl ?_
          refine go_icmp_ne (tgt := 191) dX10_nextToken_176 rfl (fun h176 => ?_) (fun h176 => ?_)
          ·
            refine go_iconst dX10_nextToken_191 rfl ?_
            refine go_putI 26 dX10_nextToken_192 pl_X10_245 (by first | assumption | exact Nat.le_of_ble_eq_true rfl) (by first | assumption | rfl) rfl rfl ?_
            refine go_goto (tgt := 339) dX10_nextToken_195 rfl ?_
            refine go_rv dX10_nextToken_339 rfl ⟨Nat.le_refl _, Nat.le_refl _⟩ (?_)
            refine ⟨⟨?_, fun h => absurd h (by omega), fun _ _ => ⟨?_, fun ht => ?_, fun ht => ?_, ?_⟩, fun _ h => absurd h (dg_lt hq), fun _ h => absurd hq h⟩, ⟨fun q hq => by simp (disch := omega) only [ua_ne]; exact hf.1 q hq, fun k hk => by simp (disch := omega) only [ua_same, uf_ne]; exact hf.2 k hk⟩⟩
            · simp (disch := omega) only [ua_same, ua_ne, uf_same, uf_ne]; exact h22
            · simp (disch := omega) only [ua_same, ua_ne, uf_same, uf_ne]; omega
            · exact absurd (htg.mpr ht) (by omega)
            · simp (disch := omega) only [ua_same, ua_ne, uf_same, uf_ne]
            · simp (disch := omega) only [ua_same, ua_ne, uf_same, uf_ne]; rw [if_neg (by omega)]
          ·
            refine go_aload_n dX10_nextToken_179 rfl ?_
            refine go_getR dX10_nextToken_180 fl_X10_68 (by first | assumption | exact Nat.le_of_ble_eq_true rfl) (by first | assumption | rfl) rfl (by first | assumption | rfl) ?_
            refine go_aload_n dX10_nextToken_183 rfl ?_
            refine go_getI 22 dX10_nextToken_184 fl_X10_239 (by first | assumption | exact Nat.le_of_ble_eq_true rfl) (by first | assumption | rfl) rfl rfl ?_
            try simp (disch := omega) only [ua_same, ua_ne, uf_same, uf_ne]
            refine go_iaload dX10_nextToken_187 (by first | assumption | exact Nat.le_of_ble_eq_true rfl) (by first | assumption | rfl) (by omega) (by omega) ?_
            try simp (disch := omega) only [ua_same, ua_ne, uf_same, uf_ne]
            refine go_goto (tgt := 192) dX10_nextToken_188 rfl ?_
            refine go_putI 26 dX10_nextToken_192 pl_X10_245 (by first | assumption | exact Nat.le_of_ble_eq_true rfl) (by first | assumption | rfl) rfl rfl ?_
            refine go_goto (tgt := 339) dX10_nextToken_195 rfl ?_
            refine go_rv dX10_nextToken_339 rfl ⟨Nat.le_refl _, Nat.le_refl _⟩ (?_)
            refine ⟨⟨?_, fun h => absurd h (by omega), fun _ _ => ⟨?_, fun ht => ?_, fun ht => ?_, ?_⟩, fun _ h => absurd h (dg_lt hq), fun _ h => absurd hq h⟩, ⟨fun q hq => by simp (disch := omega) only [ua_ne]; exact hf.1 q hq, fun k hk => by simp (disch := omega) only [ua_same, uf_ne]; exact hf.2 k hk⟩⟩
            · simp (disch := omega) only [ua_same, ua_ne, uf_same, uf_ne]; exact h22
            · simp (disch := omega) only [ua_same, ua_ne, uf_same, uf_ne]; omega
            · exact absurd (htg.mpr ht) (by omega)
            · simp (disch := omega) only [ua_same, ua_ne, uf_same, uf_ne]
            · simp (disch := omega) only [ua_same, ua_ne, uf_same, uf_ne]; rw [if_pos (by omega)]; rw [h22, e107]
        ·
          refine go_iconst dX10_nextToken_157 rfl ?_
          refine go_goto (tgt := 162) dX10_nextToken_158 rfl ?_
          refine go_putI 24 dX10_nextToken_162 pl_X10_236 (by first | assumption | exact Nat.le_of_ble_eq_true rfl) (by first | assumption | rfl) rfl rfl ?_
          refine go_aload_n dX10_nextToken_165 rfl ?_
          refine go_aload_n dX10_nextToken_166 rfl ?_
          refine go_getI 23 dX10_nextToken_167 fl_X10_233 (by first | assumption | exact Nat.le_of_ble_eq_true rfl) (by first | assumption | rfl) rfl rfl ?_
          try simp (disch := omega) only [ua_same, ua_ne, uf_same, uf_ne]
          refine go_aload_n dX10_nextToken_170 rfl ?_
          refine go_getI 22 dX10_nextToken_171 fl_X10_239 (by first | assumption | exact Nat.le_of_ble_eq_true rfl) (by first | assumption | rfl) rfl rfl ?_
          try simp (disch := omega) only [ua_same, ua_ne, uf_same, uf_ne]
          refine go_isub dX10_nextToken_174 ⟨by omega, by omega⟩ ?_
          refine go_iconst dX10_nextToken_175 rfl ?_
          refine go_icmp_ne (tgt := 191) dX10_nextToken_176 rfl (fun h176 => ?_) (fun h176 => ?_)
          ·
            refine go_iconst dX10_nextToken_191 rfl ?_
            refine go_putI 26 dX10_nextToken_192 pl_X10_245 (by first | assumption | exact Nat.le_of_ble_eq_true rfl) (by first | assumption | rfl) rfl rfl ?_
            refine go_goto (tgt := 339) dX10_nextToken_195 rfl ?_
            refine go_rv dX10_nextToken_339 rfl ⟨Nat.le_refl _, Nat.le_refl _⟩ (?_)
            refine ⟨⟨?_, fun h => absurd h (by omega), fun _ _ => ⟨?_, fun ht => ?_, fun ht => ?_, ?_⟩, fun _ h => absurd h (dg_lt hq), fun _ h => absurd hq h⟩, ⟨fun q hq => by simp (disch := omega) only [ua_ne]; exact hf.1 q hq, fun k hk => by simp (disch := omega) only [ua_same, uf_ne]; exact hf.2 k hk⟩⟩
            · simp (disch := omega) only [ua_same, ua_ne, uf_same, uf_ne]; exact h22
            · simp (disch := omega) only [ua_same, ua_ne, uf_same, uf_ne]; omega
            · simp (disch := omega) only [ua_same, ua_ne, uf_same, uf_ne]
            · exact absurd (htg.mp (by omega)) ht
            · simp (disch := omega) only [ua_same, ua_ne, uf_same, uf_ne]; rw [if_neg (by omega)]
          ·
            refine go_aload_n dX10_nextToken_179 rfl ?_
            refine go_getR dX10_nextToken_180 fl_X10_68 (by first | assumption | exact Nat.le_of_ble_eq_true rfl) (by first | assumption | rfl) rfl (by first | assumption | rfl) ?_
            refine go_aload_n dX10_nextToken_183 rfl ?_
            refine go_getI 22 dX10_nextToken_184 fl_X10_239 (by first | assumption | exact Nat.le_of_ble_eq_true rfl) (by first | assumption | rfl) rfl rfl ?_
            try simp (disch := omega) only [ua_same, ua_ne, uf_same, uf_ne]
            refine go_iaload dX10_nextToken_187 (by first | assumption | exact Nat.le_of_ble_eq_true rfl) (by first | assumption | rfl) (by omega) (by omega) ?_
            try simp (disch := omega) only [ua_same, ua_ne, uf_same, uf_ne]
            refine go_goto (tgt := 192) dX10_nextToken_188 rfl ?_
            refine go_putI 26 dX10_nextToken_192 pl_X10_245 (by first | assumption | exact Nat.le_of_ble_eq_true rfl) (by first | assumption | rfl) rfl rfl ?_
            refine go_goto (tgt := 339) dX10_nextToken_195 rfl ?_
            refine go_rv dX10_nextToken_339 rfl ⟨Nat.le_refl _, Nat.le_refl _⟩ (?_)
            refine ⟨⟨?_, fun h => absurd h (by omega), fun _ _ => ⟨?_, fun ht => ?_, fun ht => ?_, ?_⟩, fun _ h => absurd h (dg_lt hq), fun _ h => absurd hq h⟩, ⟨fun q hq => by simp (disch := omega) only [ua_ne]; exact hf.1 q hq, fun k hk => by simp (disch := omega) only [ua_same, uf_ne]; exact hf.2 k hk⟩⟩
            · simp (disch := omega) only [ua_same, ua_ne, uf_same, uf_ne]; exact h22
            · simp (disch := omega) only [ua_same, ua_ne, uf_same, uf_ne]; omega
            · simp (disch := omega) only [ua_same, ua_ne, uf_same, uf_ne]
            · exact absurd (htg.mp (by omega)) ht
            · simp (disch := omega) only [ua_same, ua_ne, uf_same, uf_ne]; rw [if_pos (by omega)]; rw [h22, e107]
      ·
        refine go_aload_n dX10_nextToken_139 rfl ?_
        refine go_dup dX10_nextToken_140 rfl ?_
        refine go_getI 23 dX10_nextToken_141 fl_X10_233 (by first | assumption | exact Nat.le_of_ble_eq_true rfl) (by first | assumption | rfl) rfl rfl ?_
        try simp (disch := omega) only [ua_same, ua_ne, uf_same, uf_ne]
        refine go_iconst dX10_nextToken_144 rfl ?_
        refine go_iadd dX10_nextToken_145 ⟨by omega, by omega⟩ ?_
        refine go_putI 23 dX10_nextToken_146 pl_X10_233 (by first | assumption | exact Nat.le_of_ble_eq_true rfl) (by first | assumption | rfl) rfl rfl ?_
        refine go_goto (tgt := 128) dX10_nextToken_149 rfl ?_
        refine go_drop (ih (e + 1) tg _ (by omega) ht01 htg ?_ ?_ (by omega) (by omega) hb hq ?_ ?_) rfl
        · simp (disch := omega) only [ua_same, ua_ne, uf_same, uf_ne]; exact h22
        · simp (disch := omega) only [ua_same, ua_ne, uf_same, uf_ne]; omega
        · rw [hw, wE1_s qLt_N, if_pos (qLt_t h136)]
        · exact ⟨fun q hq => by simp (disch := omega) only [ua_ne]; exact hf.1 q hq, fun k hk => by simp (disch := omega) only [ua_same, uf_ne]; exact hf.2 k hk⟩
  have lpD : ∀ (m : Nat) (e tg : Int) (μ1 : Mem), μ 87 21 - e = (m : Nat) → (tg = 0 ∨ tg = 1) → (tg = 1 ↔ ((0 < μ 87 23 ∧ (μ 87 24 = 1 ∨ μ 87 24 = 2)) ∧ (skp (μ 107) (μ 87 21) (μ 87 23)) = μ 87 23)) → μ1 87 22 = (skp (μ 107) (μ 87 21) (μ 87 23)) → μ1 87 23 = e → (skp (μ 107) (μ 87 21) (μ 87 23)) ≤ e → e ≤ μ 87 21 → (skp (μ 107) (μ 87 21) (μ 87 23)) < μ 87 21 → qDg (μ 107) (μ 87 21) (skp (μ 107) (μ 87 21) (μ 87 23)) = true → wEd (μ 107) (μ 87 21) (skp (μ 107) (μ 87 21) (μ 87 23)) = wE1 (qDg (μ 107) (μ 87 21)) (μ 87 21 - e).toNat e → ((∀ q, q ≠ 87 → μ1 q = μ q) ∧ ∀ k, (k < 22 ∨ 26 < k) → μ1 87 k = μ 87 k) → μ1 87 25 = nuV (μ 107) (skp (μ 107) (μ 87 21) (μ 87 23)) (min (e - (skp (μ 107) (μ 87 21) (μ 87 23))) 4).toNat → Go l D cA none RX10 cX10_nextToken 3 none (3, 0, 0) (QN (Pv (fun μ' => tokR (μ 107) (μ 87 21) ((0 < μ 87 23 ∧ (μ 87 24 = 1 ∨ μ 87 24 = 2)) ∧ (skp (μ 107) (μ 87 21) (μ 87 23)) = μ 87 23) (skp (μ 107) (μ 87 21) (μ 87 23)) (μ' 87) ∧ (∀ q, q ≠ 87 → μ' q = μ q) ∧ ∀ k, (k < 22 ∨ 26 < k) → μ' 87 k = μ 87 k))) 113 ρ0 0 0 214 [(0, vr 87), (1, vi tg)] [] μ1 := by
    intro m
    induction m with
    | zero =>
      intro e tg μ1 hm ht01 htg h22 h23 he0 he1 hb hq hw hf h25
      have hbz := skp_r (B := μ 107) he23
      have e21 : μ1 87 21 = μ 87 21 := hf.2 21 (by omega)
      have e107 : μ1 107 = μ 107 := hf.1 107 (by decide)
      refine go_aload_n dX10_nextToken_214 rfl ?_
      refine go_aload_n dX10_nextToken_215 rfl ?_
      refine go_getI 23 dX10_nextToken_216 fl_X10_233 (by first | assumption | exact Nat.le_of_ble_eq_true rfl) (by first | assumption | rfl) rfl rfl ?_
      try simp (disch := omega) only [ua_same, ua_ne, uf_same, uf_ne]
      refine go_vI (ci := 9) dX10_nextToken_219 (ct_X10_isDigit (by rw [e21]; exact hN0) (by rw [e21]; exact hN1) _ (by omega)) ml_X10_248 mc_X10_isDigit mv_X10_isDigit rfl (by first | assumption | exact Nat.le_of_ble_eq_true rfl) (by first | assumption | rfl) rfl ⟨rfl, rfl⟩ ⟨Nat.le_refl _, Nat.le_refl _⟩ rfl rfl rfl (fun x219 μ219 hc219 => ?_)
      rw [e107, e21, h23] at hc219
      obtain ⟨rfl, hm219⟩ := hc219
      rw [hm219]
      first | refine go_bz (tgt := 282) dX10_nextToken_222 rfl (fun h222 => ?_) (fun h222 => ?_) | refine go_if_eq (tgt := 282) dX10_nextToken_222 rfl (fun h222 => ?_) (fun h222 => ?_)
      ·
        have hwe : wEd (μ 107) (μ 87 21) (skp (μ 107) (μ 87 21) (μ 87 23)) = e := by rw [hw, wE1_s qDg_N, if_neg (qDg_f h222)]
        refine go_aload_n dX10_nextToken_282 rfl ?_
        refine go_iload_n dX10_nextToken_283 rfl ?_
        first | refine go_bnz (tgt := 300) dX10_nextToken_284 rfl (fun h284 => ?_) (fun h284 => ?_) | refine go_if_ne (tgt := 300) dX10_nextToken_284 rfl (fun h284 => ?_) (fun h284 => ?_)
        ·
          refine go_iconst dX10_nextToken_300 rfl ?_
          refine go_goto (tgt := 305) dX10_nextToken_301 rfl ?_
          refine go_putI 24 dX10_nextToken_305 pl_X10_236 (by first | assumption | exact Nat.le_of_ble_eq_true rfl) (by first | assumption | rfl) rfl rfl ?_
          refine go_goto (tgt := 339) dX10_nextToken_308 rfl ?_
          refine go_rv dX10_nextToken_339 rfl ⟨Nat.le_refl _, Nat.le_refl _⟩ (?_)
          refine ⟨⟨?_, fun h => absurd h (by omega), fun _ h => absurd hq (dg_lt h), fun _ _ => ⟨?_, fun ht => ?_, fun ht => ?_⟩, fun _ _ h => absurd hq h⟩, ⟨fun q hq => by simp (disch := omega) only [ua_ne]; exact hf.1 q hq, fun k hk => by simp (disch := omega) only [ua_same, uf_ne]; exact hf.2 k hk⟩⟩
          · simp (disch := omega) only [ua_same, ua_ne, uf_same, uf_ne]; exact h22
          · simp (disch := omega) only [ua_same, ua_ne, uf_same, uf_ne]; omega
          · simp (disch := omega) only [ua_same, ua_ne, uf_same, uf_ne]
          · exfalso; rcases ht with ⟨t1, t2⟩; exact t1 (htg.mp (by omega))
        ·
          refine go_aload_n dX10_nextToken_287 rfl ?_
          refine go_getI 23 dX10_nextToken_288 fl_X10_233 (by first | assumption | exact Nat.le_of_ble_eq_true rfl) (by first | assumption | rfl) rfl rfl ?_
          try simp (disch := omega) only [ua_same, ua_ne, uf_same, uf_ne]
          refine go_aload_n dX10_nextToken_291 rfl ?_
          refine go_getI 22 dX10_nextToken_292 fl_X10_239 (by first | assumption | exact Nat.le_of_ble_eq_true rfl) (by first | assumption | rfl) rfl rfl ?_
          try simp (disch := omega) only [ua_same, ua_ne, uf_same, uf_ne]
          refine go_isub dX10_nextToken_295 ⟨by omega, by omega⟩ ?_
          refine go_iconst dX10_nextToken_296 rfl ?_
          refine go_icmp_le (tgt := 304) dX10_nextToken_297 rfl (fun h297 => ?_) (fun h297 => ?_)
          ·
            refine go_iconst dX10_nextToken_304 rfl ?_
            refine go_putI 24 dX10_nextToken_305 pl_X10_236 (by first | assumption | exact Nat.le_of_ble_eq_true rfl) (by first | assumption | rfl) rfl rfl ?_
            refine go_goto (tgt := 339) dX10_nextToken_308 rfl ?_
            refine go_rv dX10_nextToken_339 rfl ⟨Nat.le_refl _, Nat.le_refl _⟩ (?_)
            refine ⟨⟨?_, fun h => absurd h (by omega), fun _ h => absurd hq (dg_lt h), fun _ _ => ⟨?_, fun ht => ?_, fun ht => ?_⟩, fun _ _ h => absurd hq h⟩, ⟨fun q hq => by simp (disch := omega) only [ua_ne]; exact hf.1 q hq, fun k hk => by simp (disch := omega) only [ua_same, uf_ne]; exact hf.2 k hk⟩⟩
            · simp (disch := omega) only [ua_same, ua_ne, uf_same, uf_ne]; exact h22
            · simp (disch := omega) only [ua_same, ua_ne, uf_same, uf_ne]; omega
            · exfalso; rcases ht with t1 | t1
              · exact absurd (htg.mpr t1) (by omega)
              · omega
            · refine ⟨by simp (disch := omega) only [ua_same, ua_ne, uf_same, uf_ne], ?_⟩
              simp (disch := omega) only [ua_same, ua_ne, uf_same, uf_ne]
              rw [h25, show (min (e - (skp (μ 107) (μ 87 21) (μ 87 23))) 4) = wEd (μ 107) (μ 87 21) (skp (μ 107) (μ 87 21) (μ 87 23)) - (skp (μ 107) (μ 87 21) (μ 87 23)) by omega]
          ·
            refine go_iconst dX10_nextToken_300 rfl ?_
            refine go_goto (tgt := 305) dX10_nextToken_301 rfl ?_
            refine go_putI 24 dX10_nextToken_305 pl_X10_236 (by first | assumption | exact Nat.le_of_ble_eq_true rfl) (by first | assumption | rfl) rfl rfl ?_
            refine go_goto (tgt := 339) dX10_nextToken_308 rfl ?_
            refine go_rv dX10_nextToken_339 rfl ⟨Nat.le_refl _, Nat.le_refl _⟩ (?_)
            refine ⟨⟨?_, fun h => absurd h (by omega), fun _ h => absurd hq (dg_lt h), fun _ _ => ⟨?_, fun ht => ?_, fun ht => ?_⟩, fun _ _ h => absurd hq h⟩, ⟨fun q hq => by simp (disch := omega) only [ua_ne]; exact hf.1 q hq, fun k hk => by simp (disch := omega) only [ua_same, uf_ne]; exact hf.2 k hk⟩⟩
            · simp (disch := omega) only [ua_same, ua_ne, uf_same, uf_ne]; exact h22
            · simp (disch := omega) only [ua_same, ua_ne, uf_same, uf_ne]; omega
            · simp (disch := omega) only [ua_same, ua_ne, uf_same, uf_ne]
            · exfalso; rcases ht with ⟨t1, t2⟩; omega
      ·
        exact absurd (qDg_t h222) (by rw [qDg_N e (by omega)]; decide)
    | succ m ih =>
      intro e tg μ1 hm ht01 htg h22 h23 he0 he1 hb hq hw hf h25
      have hbz := skp_r (B := μ 107) he23
      have e21 : μ1 87 21 = μ 87 21 := hf.2 21 (by omega)
      have e107 : μ1 107 = μ 107 := hf.1 107 (by decide)
      refine go_aload_n dX10_nextToken_214 rfl ?_
      refine go_aload_n dX10_nextToken_215 rfl ?_
      refine go_getI 23 dX10_nextToken_216 fl_X10_233 (by first | assumption | exact Nat.le_of_ble_eq_true rfl) (by first | assumption | rfl) rfl rfl ?_
      try simp (disch := omega) only [ua_same, ua_ne, uf_same, uf_ne]
      refine go_vI (ci := 9) dX10_nextToken_219 (ct_X10_isDigit (by rw [e21]; exact hN0) (by rw [e21]; exact hN1) _ (by omega)) ml_X10_248 mc_X10_isDigit mv_X10_isDigit rfl (by first | assumption | exact Nat.le_of_ble_eq_true rfl) (by first | assumption | rfl) rfl ⟨rfl, rfl⟩ ⟨Nat.le_refl _, Nat.le_refl _⟩ rfl rfl rfl (fun x219 μ219 hc219 => ?_)
      rw [e107, e21, h23] at hc219
      obtain ⟨rfl, hm219⟩ := hc219
      rw [hm219]
      first | refine go_bz (tgt := 282) dX10_nextToken_222 rfl (fun h222 => ?_) (fun h222 => ?_) | refine go_if_eq (tgt := 282) dX10_nextToken_222 rfl (fun h222 => ?_) (fun h222 => ?_)
      ·
        have hwe : wEd (μ 107) (μ 87 21) (skp (μ 107) (μ 87 21) (μ 87 23)) = e := by rw [hw, wE1_s qDg_N, if_neg (qDg_f h222)]
        refine go_aload_n dX10_nextToken_282 rfl ?_
        refine go_iload_n dX10_nextToken_283 rfl ?_
        first | refine go_bnz (tgt := 300) dX10_nextToken_284 rfl (fun h284 => ?_) (fun h284 => ?_) | refine go_if_ne (tgt := 300) dX10_nextToken_284 rfl (fun h284 => ?_) (fun h284 => ?_)
        ·
          refine go_iconst dX10_nextToken_300 rfl ?_
          refine go_goto (tgt := 305) dX10_nextToken_301 rfl ?_
          refine go_putI 24 dX10_nextToken_305 pl_X10_236 (by first | assumption | exact Nat.le_of_ble_eq_true rfl) (by first | assumption | rfl) rfl rfl ?_
          refine go_goto (tgt := 339) dX10_nextToken_308 rfl ?_
          refine go_rv dX10_nextToken_339 rfl ⟨Nat.le_refl _, Nat.le_refl _⟩ (?_)
          refine ⟨⟨?_, fun h => absurd h (by omega), fun _ h => absurd hq (dg_lt h), fun _ _ => ⟨?_, fun ht => ?_, fun ht => ?_⟩, fun _ _ h => absurd hq h⟩, ⟨fun q hq => by simp (disch := omega) only [ua_ne]; exact hf.1 q hq, fun k hk => by simp (disch := omega) only [ua_same, uf_ne]; exact hf.2 k hk⟩⟩
          · simp (disch := omega) only [ua_same, ua_ne, uf_same, uf_ne]; exact h22
          · simp (disch := omega) only [ua_same, ua_ne, uf_same, uf_ne]; omega
          · simp (disch := omega) only [ua_same, ua_ne, uf_same, uf_ne]
          · exfalso; rcases ht with ⟨t1, t2⟩; exact t1 (htg.mp (by omega))
        ·
          refine go_aload_n dX10_nextToken_287 rfl ?_
          refine go_getI 23 dX10_nextToken_288 fl_X10_233 (by first | assumption | exact Nat.le_of_ble_eq_true rfl) (by first | assumption | rfl) rfl rfl ?_
          try simp (disch := omega) only [ua_same, ua_ne, uf_same, uf_ne]
          refine go_aload_n dX10_nextToken_291 rfl ?_
          refine go_getI 22 dX10_nextToken_292 fl_X10_239 (by first | assumption | exact Nat.le_of_ble_eq_true rfl) (by first | assumption | rfl) rfl rfl ?_
          try simp (disch := omega) only [ua_same, ua_ne, uf_same, uf_ne]
          refine go_isub dX10_nextToken_295 ⟨by omega, by omega⟩ ?_
          refine go_iconst dX10_nextToken_296 rfl ?_
          refine go_icmp_le (tgt := 304) dX10_nextToken_297 rfl (fun h297 => ?_) (fun h297 => ?_)
          ·
            refine go_iconst dX10_nextToken_304 rfl ?_
            refine go_putI 24 dX10_nextToken_305 pl_X10_236 (by first | assumption | exact Nat.le_of_ble_eq_true rfl) (by first | assumption | rfl) rfl rfl ?_
            refine go_goto (tgt := 339) dX10_nextToken_308 rfl ?_
            refine go_rv dX10_nextToken_339 rfl ⟨Nat.le_refl _, Nat.le_refl _⟩ (?_)
            refine ⟨⟨?_, fun h => absurd h (by omega), fun _ h => absurd hq (dg_lt h), fun _ _ => ⟨?_, fun ht => ?_, fun ht => ?_⟩, fun _ _ h => absurd hq h⟩, ⟨fun q hq => by simp (disch := omega) only [ua_ne]; exact hf.1 q hq, fun k hk => by simp (disch := omega) only [ua_same, uf_ne]; exact hf.2 k hk⟩⟩
            · simp (disch := omega) only [ua_same, ua_ne, uf_same, uf_ne]; exact h22
            · simp (disch := omega) only [ua_same, ua_ne, uf_same, uf_ne]; omega
            · exfalso; rcases ht with t1 | t1
              · exact absurd (htg.mpr t1) (by omega)
              · omega
            · refine ⟨by simp (disch := omega) only [ua_same, ua_ne, uf_same, uf_ne], ?_⟩
              simp (disch := omega) only [ua_same, ua_ne, uf_same, uf_ne]
              rw [h25, show (min (e - (skp (μ 107) (μ 87 21) (μ 87 23))) 4) = wEd (μ 107) (μ 87 21) (skp (μ 107) (μ 87 21) (μ 87 23)) - (skp (μ 107) (μ 87 21) (μ 87 23)) by omega]
          ·
            refine go_iconst dX10_nextToken_300 rfl ?_
            refine go_goto (tgt := 305) dX10_nextToken_301 rfl ?_
            refine go_putI 24 dX10_nextToken_305 pl_X10_236 (by first | assumption | exact Nat.le_of_ble_eq_true rfl) (by first | assumption | rfl) rfl rfl ?_
            refine go_goto (tgt := 339) dX10_nextToken_308 rfl ?_
            refine go_rv dX10_nextToken_339 rfl ⟨Nat.le_refl _, Nat.le_refl _⟩ (?_)
            refine ⟨⟨?_, fun h => absurd h (by omega), fun _ h => absurd hq (dg_lt h), fun _ _ => ⟨?_, fun ht => ?_, fun ht => ?_⟩, fun _ _ h => absurd hq h⟩, ⟨fun q hq => by simp (disch := omega) only [ua_ne]; exact hf.1 q hq, fun k hk => by simp (disch := omega) only [ua_same, uf_ne]; exact hf.2 k hk⟩⟩
            · simp (disch := omega) only [ua_same, ua_ne, uf_same, uf_ne]; exact h22
            · simp (disch := omega) only [ua_same, ua_ne, uf_same, uf_ne]; omega
            · simp (disch := omega) only [ua_same, ua_ne, uf_same, uf_ne]
            · exfalso; rcases ht with ⟨t1, t2⟩; omega
      ·
        have hwr := wE1_r (q := qDg (μ 107) (μ 87 21)) (μ 87 21 - e).toNat e
        have hlt : e < μ 87 21 := bA_lt (B := μ 107) (by omega)
        have hwgt : e < wEd (μ 107) (μ 87 21) (skp (μ 107) (μ 87 21) (μ 87 23)) := by rw [hw, wE1_s qDg_N, if_pos (qDg_t h222)]; have := wE1_r (q := qDg (μ 107) (μ 87 21)) (μ 87 21 - (e + 1)).toNat (e + 1); omega
        have hin : ∀ i : Int, (skp (μ 107) (μ 87 21) (μ 87 23)) ≤ i → i < e → 48 ≤ μ 107 i ∧ μ 107 i ≤ 57 := fun i i0 i1 => (wEd_dg hq (by omega) i i0 (by omega)).2.2
        have hbv : bA (μ 107) (μ 87 21) e = μ 107 e := if_pos (by omega)
        have hnb := nuV_b (B := μ 107) (p := (skp (μ 107) (μ 87 21) (μ 87 23))) (min (e - (skp (μ 107) (μ 87 21) (μ 87 23))) 4).toNat (fun j a b => hin j a (by omega))
        have hp10 : (10 : Int) ^ (min (e - (skp (μ 107) (μ 87 21) (μ 87 23))) 4).toNat ≤ 10000 := by
          rcases (by omega : (min (e - (skp (μ 107) (μ 87 21) (μ 87 23))) 4).toNat = 0 ∨ (min (e - (skp (μ 107) (μ 87 21) (μ 87 23))) 4).toNat = 1 ∨ (min (e - (skp (μ 107) (μ 87 21) (μ 87 23))) 4).toNat = 2 ∨ (min (e - (skp (μ 107) (μ 87 21) (μ 87 23))) 4).toNat = 3 ∨ (min (e - (skp (μ 107) (μ 87 21) (μ 87 23))) 4).toNat = 4) with x | x | x | x | x <;> rw [x] <;> decide
        refine go_aload_n dX10_nextToken_225 rfl ?_
        refine go_aload_n dX10_nextToken_226 rfl ?_
        refine go_getI 23 dX10_nextToken_227 fl_X10_233 (by first | assumption | exact Nat.le_of_ble_eq_true rfl) (by first | assumption | rfl) rfl rfl ?_
        try simp (disch := omega) only [ua_same, ua_ne, uf_same, uf_ne]
        refine go_aload_n dX10_nextToken_230 rfl ?_
        refine go_getI 22 dX10_nextToken_231 fl_X10_239 (by first | assumption | exact Nat.le_of_ble_eq_true rfl) (by first | assumption | rfl) rfl rfl ?_
        try simp (disch := omega) only [ua_same, ua_ne, uf_same, uf_ne]
        refine go_isub dX10_nextToken_234 ⟨by omega, by omega⟩ ?_
        refine go_iconst dX10_nextToken_235 rfl ?_
        refine go_icmp_ge (tgt := 262) dX10_nextToken_236 rfl (fun h236 => ?_) (fun h236 => ?_)
        ·
          refine go_aload_n dX10_nextToken_262 rfl ?_
          refine go_getI 25 dX10_nextToken_263 fl_X10_251 (by first | assumption | exact Nat.le_of_ble_eq_true rfl) (by first | assumption | rfl) rfl rfl ?_
          try simp (disch := omega) only [ua_same, ua_ne, uf_same, uf_ne]
          refine go_putI 25 dX10_nextToken_266 pl_X10_251 (by first | assumption | exact Nat.le_of_ble_eq_true rfl) (by first | assumption | rfl) rfl rfl ?_
          refine go_aload_n dX10_nextToken_269 rfl ?_
          refine go_dup dX10_nextToken_270 rfl ?_
          refine go_getI 23 dX10_nextToken_271 fl_X10_233 (by first | assumption | exact Nat.le_of_ble_eq_true rfl) (by first | assumption | rfl) rfl rfl ?_
          try simp (disch := omega) only [ua_same, ua_ne, uf_same, uf_ne]
          refine go_iconst dX10_nextToken_274 rfl ?_
          refine go_iadd dX10_nextToken_275 ⟨by omega, by omega⟩ ?_
          refine go_putI 23 dX10_nextToken_276 pl_X10_233 (by first | assumption | exact Nat.le_of_ble_eq_true rfl) (by first | assumption | rfl) rfl rfl ?_
          refine go_goto (tgt := 214) dX10_nextToken_279 rfl ?_
          refine go_drop (ih (e + 1) tg _ (by omega) ht01 htg ?_ ?_ (by omega) (by omega) hb hq ?_ ?_ ?_) rfl
          · simp (disch := omega) only [ua_same, ua_ne, uf_same, uf_ne]; exact h22
          · simp (disch := omega) only [ua_same, ua_ne, uf_same, uf_ne]; omega
          · rw [hw, wE1_s qDg_N, if_pos (qDg_t h222)]
          · exact ⟨fun q hq => by simp (disch := omega) only [ua_ne]; exact hf.1 q hq, fun k hk => by simp (disch := omega) only [ua_same, uf_ne]; exact hf.2 k hk⟩
          · try simp (disch := omega) only [ua_same, ua_ne, uf_same, uf_ne]
            rw [h25, show (min (e + 1 - (skp (μ 107) (μ 87 21) (μ 87 23))) 4) = min (e - (skp (μ 107) (μ 87 21) (μ 87 23))) 4 by omega]
        ·
          refine go_bipush dX10_nextToken_239 rfl (by decide) ?_
          refine go_aload_n dX10_nextToken_241 rfl ?_
          refine go_getI 25 dX10_nextToken_242 fl_X10_251 (by first | assumption | exact Nat.le_of_ble_eq_true rfl) (by first | assumption | rfl) rfl rfl ?_
          try simp (disch := omega) only [ua_same, ua_ne, uf_same, uf_ne]
          rw [h25]
          refine go_imul dX10_nextToken_245 ⟨by omega, by omega⟩ ?_
          refine go_aload_n dX10_nextToken_246 rfl ?_
          refine go_getR dX10_nextToken_247 fl_X10_68 (by first | assumption | exact Nat.le_of_ble_eq_true rfl) (by first | assumption | rfl) rfl (by first | assumption | rfl) ?_
          refine go_aload_n dX10_nextToken_250 rfl ?_
          refine go_getI 23 dX10_nextToken_251 fl_X10_233 (by first | assumption | exact Nat.le_of_ble_eq_true rfl) (by first | assumption | rfl) rfl rfl ?_
          try simp (disch := omega) only [ua_same, ua_ne, uf_same, uf_ne]
          refine go_iaload dX10_nextToken_254 (by first | assumption | exact Nat.le_of_ble_eq_true rfl) (by first | assumption | rfl) (by omega) (by omega) ?_
          try simp (disch := omega) only [ua_same, ua_ne, uf_same, uf_ne]
          rw [e107, h23]
          refine go_iadd dX10_nextToken_255 ⟨by omega, by omega⟩ ?_
          refine go_bipush dX10_nextToken_256 rfl (by decide) ?_
          refine go_isub dX10_nextToken_258 ⟨by omega, by omega⟩ ?_
          refine go_goto (tgt := 266) dX10_nextToken_259 rfl ?_
          refine go_putI 25 dX10_nextToken_266 pl_X10_251 (by first | assumption | exact Nat.le_of_ble_eq_true rfl) (by first | assumption | rfl) rfl rfl ?_
          refine go_aload_n dX10_nextToken_269 rfl ?_
          refine go_dup dX10_nextToken_270 rfl ?_
          refine go_getI 23 dX10_nextToken_271 fl_X10_233 (by first | assumption | exact Nat.le_of_ble_eq_true rfl) (by first | assumption | rfl) rfl rfl ?_
          try simp (disch := omega) only [ua_same, ua_ne, uf_same, uf_ne]
          refine go_iconst dX10_nextToken_274 rfl ?_
          refine go_iadd dX10_nextToken_275 ⟨by omega, by omega⟩ ?_
          refine go_putI 23 dX10_nextToken_276 pl_X10_233 (by first | assumption | exact Nat.le_of_ble_eq_true rfl) (by first | assumption | rfl) rfl rfl ?_
          refine go_goto (tgt := 214) dX10_nextToken_279 rfl ?_
          refine go_drop (ih (e + 1) tg _ (by omega) ht01 htg ?_ ?_ (by omega) (by omega) hb hq ?_ ?_ ?_) rfl
          · simp (disch := omega) only [ua_same, ua_ne, uf_same, uf_ne]; exact h22
          · simp (disch := omega) only [ua_same, ua_ne, uf_same, uf_ne]; omega
          · rw [hw, wE1_s qDg_N, if_pos (qDg_t h222)]
          · exact ⟨fun q hq => by simp (disch := omega) only [ua_ne]; exact hf.1 q hq, fun k hk => by simp (disch := omega) only [ua_same, uf_ne]; exact hf.2 k hk⟩
          · try simp (disch := omega) only [ua_same, ua_ne, uf_same, uf_ne]
            rw [show (min (e + 1 - (skp (μ 107) (μ 87 21) (μ 87 23))) 4).toNat = (min (e - (skp (μ 107) (μ 87 21) (μ 87 23))) 4).toNat + 1 by omega, nuV_s, show (skp (μ 107) (μ 87 21) (μ 87 23)) + (((min (e - (skp (μ 107) (μ 87 21) (μ 87 23))) 4).toNat : Nat) : Int) = e by omega]; omega
  have k90 : ∀ (tg : Int) (μ1 : Mem), (tg = 0 ∨ tg = 1) → (tg = 1 ↔ ((0 < μ 87 23 ∧ (μ 87 24 = 1 ∨ μ 87 24 = 2)) ∧ (skp (μ 107) (μ 87 21) (μ 87 23)) = μ 87 23)) → μ1 87 23 = (skp (μ 107) (μ 87 21) (μ 87 23)) → ((∀ q, q ≠ 87 → μ1 q = μ q) ∧ ∀ k, (k < 22 ∨ 26 < k) → μ1 87 k = μ 87 k) → Go l D cA none RX10 cX10_nextToken 3 none (3, 0, 0) (QN (Pv (fun μ' => tokR (μ 107) (μ 87 21) ((0 < μ 87 23 ∧ (μ 87 24 = 1 ∨ μ 87 24 = 2)) ∧ (skp (μ 107) (μ 87 21) (μ 87 23)) = μ 87 23) (skp (μ 107) (μ 87 21) (μ 87 23)) (μ' 87) ∧ (∀ q, q ≠ 87 → μ' q = μ q) ∧ ∀ k, (k < 22 ∨ 26 < k) → μ' 87 k = μ 87 k))) 113 ρ0 0 0 90 [(0, vr 87), (1, vi tg)] [] μ1 := by
    intro tg μ1 ht01 htg h23 hf
    have hbz := skp_r (B := μ 107) he23
    have e21 : μ1 87 21 = μ 87 21 := hf.2 21 (by omega)
    have e107 : μ1 107 = μ 107 := hf.1 107 (by decide)
    have eA : (ud μ1 87 22 (μ1 87 23)) 87 21 = μ 87 21 := by rw [ud_s, uf_ne (by decide)]; exact e21
    have eB : (ud μ1 87 22 (μ1 87 23)) 107 = μ 107 := by rw [ud_n (by decide)]; exact e107
    refine go_aload_n dX10_nextToken_90 rfl ?_
    refine go_aload_n dX10_nextToken_91 rfl ?_
    refine go_getI 23 dX10_nextToken_92 fl_X10_233 (by first | assumption | exact Nat.le_of_ble_eq_true rfl) (by first | assumption | rfl) rfl rfl ?_
    try simp (disch := omega) only [ua_same, ua_ne, uf_same, uf_ne]
    refine go_putI 22 dX10_nextToken_95 pl_X10_239 (by first | assumption | exact Nat.le_of_ble_eq_true rfl) (by first | assumption | rfl) rfl rfl ?_
    refine go_aload_n dX10_nextToken_98 rfl ?_
    refine go_getI 22 dX10_nextToken_99 fl_X10_239 (by first | assumption | exact Nat.le_of_ble_eq_true rfl) (by first | assumption | rfl) rfl rfl ?_
    try simp (disch := omega) only [ua_same, ua_ne, uf_same, uf_ne]
    refine go_aload_n dX10_nextToken_102 rfl ?_
    refine go_getI 21 dX10_nextToken_103 fl_X10_223 (by first | assumption | exact Nat.le_of_ble_eq_true rfl) (by first | assumption | rfl) rfl rfl ?_
    try simp (disch := omega) only [ua_same, ua_ne, uf_same, uf_ne]
    refine go_icmp_ne (tgt := 117) dX10_nextToken_106 rfl (fun h106 => ?_) (fun h106 => ?_)
    ·
      have hlt : (skp (μ 107) (μ 87 21) (μ 87 23)) < μ 87 21 := by omega
      refine go_aload_n dX10_nextToken_117 rfl ?_
      refine go_aload_n dX10_nextToken_118 rfl ?_
      refine go_getI 22 dX10_nextToken_119 fl_X10_239 (by first | assumption | exact Nat.le_of_ble_eq_true rfl) (by first | assumption | rfl) rfl rfl ?_
      try simp (disch := omega) only [ua_same, ua_ne, uf_same, uf_ne]
      refine go_vI (ci := 9) dX10_nextToken_122 (ct_X10_isLetter (μ := (ud μ1 87 22 (μ1 87 23))) (by rw [eA]; exact hN0) (by rw [eA]; exact hN1) _ (by omega)) ml_X10_242 mc_X10_isLetter mv_X10_isLetter rfl (by first | assumption | exact Nat.le_of_ble_eq_true rfl) (by first | assumption | rfl) rfl ⟨rfl, rfl⟩ ⟨Nat.le_refl _, Nat.le_refl _⟩ rfl rfl rfl (fun x122 μ122 hc122 => ?_)
      obtain ⟨e122, hm122⟩ := hc122
      rw [eA, eB, h23] at e122
      subst e122
      rw [hm122]
      first | refine go_bz (tgt := 198) dX10_nextToken_125 rfl (fun h125 => ?_) (fun h125 => ?_) | refine go_if_eq (tgt := 198) dX10_nextToken_125 rfl (fun h125 => ?_) (fun h125 => ?_)
      ·
        refine go_aload_n dX10_nextToken_198 rfl ?_
        refine go_aload_n dX10_nextToken_199 rfl ?_
        refine go_getI 22 dX10_nextToken_200 fl_X10_239 (by first | assumption | exact Nat.le_of_ble_eq_true rfl) (by first | assumption | rfl) rfl rfl ?_
        try simp (disch := omega) only [ua_same, ua_ne, uf_same, uf_ne]
        refine go_vI (ci := 9) dX10_nextToken_203 (ct_X10_isDigit (μ := (ud μ1 87 22 (μ1 87 23))) (by rw [eA]; exact hN0) (by rw [eA]; exact hN1) _ (by omega)) ml_X10_248 mc_X10_isDigit mv_X10_isDigit rfl (by first | assumption | exact Nat.le_of_ble_eq_true rfl) (by first | assumption | rfl) rfl ⟨rfl, rfl⟩ ⟨Nat.le_refl _, Nat.le_refl _⟩ rfl rfl rfl (fun x203 μ203 hc203 => ?_)
        obtain ⟨e203, hm203⟩ := hc203
        rw [eA, eB, h23] at e203
        subst e203
        rw [hm203]
        first | refine go_bz (tgt := 311) dX10_nextToken_206 rfl (fun h206 => ?_) (fun h206 => ?_) | refine go_if_eq (tgt := 311) dX10_nextToken_206 rfl (fun h206 => ?_) (fun h206 => ?_)
        ·
          refine go_aload_n dX10_nextToken_311 rfl ?_
          refine go_iconst dX10_nextToken_312 rfl ?_
          refine go_putI 24 dX10_nextToken_313 pl_X10_236 (by first | assumption | exact Nat.le_of_ble_eq_true rfl) (by first | assumption | rfl) rfl rfl ?_
          refine go_aload_n dX10_nextToken_316 rfl ?_
          refine go_aload_n dX10_nextToken_317 rfl ?_
          refine go_getR dX10_nextToken_318 fl_X10_68 (by first | assumption | exact Nat.le_of_ble_eq_true rfl) (by first | assumption | rfl) rfl (by first | assumption | rfl) ?_
          refine go_aload_n dX10_nextToken_321 rfl ?_
          refine go_getI 22 dX10_nextToken_322 fl_X10_239 (by first | assumption | exact Nat.le_of_ble_eq_true rfl) (by first | assumption | rfl) rfl rfl ?_
          try simp (disch := omega) only [ua_same, ua_ne, uf_same, uf_ne]
          refine go_iaload dX10_nextToken_325 (by first | assumption | exact Nat.le_of_ble_eq_true rfl) (by first | assumption | rfl) (by omega) (by omega) ?_
          try simp (disch := omega) only [ua_same, ua_ne, uf_same, uf_ne]
          refine go_putI 26 dX10_nextToken_326 pl_X10_245 (by first | assumption | exact Nat.le_of_ble_eq_true rfl) (by first | assumption | rfl) rfl rfl ?_
          refine go_aload_n dX10_nextToken_329 rfl ?_
          refine go_dup dX10_nextToken_330 rfl ?_
          refine go_getI 23 dX10_nextToken_331 fl_X10_233 (by first | assumption | exact Nat.le_of_ble_eq_true rfl) (by first | assumption | rfl) rfl rfl ?_
          try simp (disch := omega) only [ua_same, ua_ne, uf_same, uf_ne]
          refine go_iconst dX10_nextToken_334 rfl ?_
          refine go_iadd dX10_nextToken_335 ⟨by omega, by omega⟩ ?_
          refine go_putI 23 dX10_nextToken_336 pl_X10_233 (by first | assumption | exact Nat.le_of_ble_eq_true rfl) (by first | assumption | rfl) rfl rfl ?_
          refine go_rv dX10_nextToken_339 rfl ⟨Nat.le_refl _, Nat.le_refl _⟩ (?_)
          refine ⟨⟨?_, fun h => absurd h (by omega), fun _ h => absurd h (qLt_f h125), fun _ h => absurd h (qDg_f h206), fun _ _ _ => ⟨?_, ?_, ?_⟩⟩, ⟨fun q hq => by simp (disch := omega) only [ua_ne]; exact hf.1 q hq, fun k hk => by simp (disch := omega) only [ua_same, uf_ne]; exact hf.2 k hk⟩⟩
          · simp (disch := omega) only [ua_same, ua_ne, uf_same, uf_ne]; try exact h23
          · simp (disch := omega) only [ua_same, ua_ne, uf_same, uf_ne]; try exact h23
          · simp (disch := omega) only [ua_same, ua_ne, uf_same, uf_ne]; rw [e107, h23]
          · simp (disch := omega) only [ua_same, ua_ne, uf_same, uf_ne]; omega
        ·
          refine go_aload_n dX10_nextToken_209 rfl ?_
          refine go_iconst dX10_nextToken_210 rfl ?_
          refine go_putI 25 dX10_nextToken_211 pl_X10_251 (by first | assumption | exact Nat.le_of_ble_eq_true rfl) (by first | assumption | rfl) rfl rfl ?_
          refine go_drop (lpD (μ 87 21 - (skp (μ 107) (μ 87 21) (μ 87 23))).toNat (skp (μ 107) (μ 87 21) (μ 87 23)) tg _ (by omega) ht01 htg ?_ ?_ (Int.le_refl _) (by omega) hlt (qDg_t h206) (wEd_dg2 (qDg_t h206)) ?_ ?_) rfl
          · simp (disch := omega) only [ua_same, ua_ne, uf_same, uf_ne]; try exact h23
          · simp (disch := omega) only [ua_same, ua_ne, uf_same, uf_ne]; exact h23
          · exact ⟨fun q hq => by simp (disch := omega) only [ua_ne]; exact hf.1 q hq, fun k hk => by simp (disch := omega) only [ua_same, uf_ne]; exact hf.2 k hk⟩
          · simp (disch := omega) only [ua_same, ua_ne, uf_same, uf_ne]; rw [show (min ((skp (μ 107) (μ 87 21) (μ 87 23)) - (skp (μ 107) (μ 87 21) (μ 87 23))) 4).toNat = 0 by omega]; rfl
      ·
        refine go_drop (lpL (μ 87 21 - (skp (μ 107) (μ 87 21) (μ 87 23))).toNat (skp (μ 107) (μ 87 21) (μ 87 23)) tg _ (by omega) ht01 htg ?_ ?_ (Int.le_refl _) (by omega) hlt (qLt_t h125) (wEd_lt (qLt_t h125)) ?_) rfl
        · simp (disch := omega) only [ua_same, ua_ne, uf_same, uf_ne]; try exact h23
        · simp (disch := omega) only [ua_same, ua_ne, uf_same, uf_ne]; exact h23
        · exact ⟨fun q hq => by simp (disch := omega) only [ua_ne]; exact hf.1 q hq, fun k hk => by simp (disch := omega) only [ua_same, uf_ne]; exact hf.2 k hk⟩
    ·
      refine go_aload_n dX10_nextToken_109 rfl ?_
      refine go_iconst dX10_nextToken_110 rfl ?_
      refine go_putI 24 dX10_nextToken_111 pl_X10_236 (by first | assumption | exact Nat.le_of_ble_eq_true rfl) (by first | assumption | rfl) rfl rfl ?_
      refine go_goto (tgt := 339) dX10_nextToken_114 rfl ?_
      refine go_rv dX10_nextToken_339 rfl ⟨Nat.le_refl _, Nat.le_refl _⟩ (?_)
      refine ⟨⟨?_, fun _ => ⟨?_, ?_⟩, fun h => absurd h (by omega), fun h => absurd h (by omega), fun h => absurd h (by omega)⟩, ⟨fun q hq => by simp (disch := omega) only [ua_ne]; exact hf.1 q hq, fun k hk => by simp (disch := omega) only [ua_same, uf_ne]; exact hf.2 k hk⟩⟩
      · simp (disch := omega) only [ua_same, ua_ne, uf_same, uf_ne]; try exact h23
      · simp (disch := omega) only [ua_same, ua_ne, uf_same, uf_ne]; try exact h23
      · simp (disch := omega) only [ua_same, ua_ne, uf_same, uf_ne]; exact h23
  have lpB : ∀ (m : Nat) (e tg : Int) (μ1 : Mem), μ 87 21 - e = (m : Nat) → (tg = 0 ∨ tg = 1) → (tg = 1 ↔ (0 < μ 87 23 ∧ (μ 87 24 = 1 ∨ μ 87 24 = 2))) → μ1 87 23 = e → e ≤ μ 87 21 → μ 87 23 ≤ e → (skp (μ 107) (μ 87 21) (μ 87 23)) = skp (μ 107) (μ 87 21) e → ((∀ q, q ≠ 87 → μ1 q = μ q) ∧ ∀ k, (k < 22 ∨ 26 < k) → μ1 87 k = μ 87 k) → Go l D cA none RX10 cX10_nextToken 3 none (3, 0, 0) (QN (Pv (fun μ' => tokR (μ 107) (μ 87 21) ((0 < μ 87 23 ∧ (μ 87 24 = 1 ∨ μ 87 24 = 2)) ∧ (skp (μ 107) (μ 87 21) (μ 87 23)) = μ 87 23) (skp (μ 107) (μ 87 21) (μ 87 23)) (μ' 87) ∧ (∀ q, q ≠ 87 → μ' q = μ q) ∧ ∀ k, (k < 22 ∨ 26 < k) → μ' 87 k = μ 87 k))) 113 ρ0 0 0 34 [(0, vr 87), (1, vi tg), (2, vi (μ 87 23))] [] μ1 := by
    intro m
    induction m with
    | zero =>
      intro e tg μ1 hm ht01 htg h23 he hle hsk hf
      have e21 : μ1 87 21 = μ 87 21 := hf.2 21 (by omega)
      have e107 : μ1 107 = μ 107 := hf.1 107 (by decide)
      refine go_aload_n dX10_nextToken_34 rfl ?_
      refine go_getI 23 dX10_nextToken_35 fl_X10_233 (by first | assumption | exact Nat.le_of_ble_eq_true rfl) (by first | assumption | rfl) rfl rfl ?_
      try simp (disch := omega) only [ua_same, ua_ne, uf_same, uf_ne]
      refine go_aload_n dX10_nextToken_38 rfl ?_
      refine go_getI 21 dX10_nextToken_39 fl_X10_223 (by first | assumption | exact Nat.le_of_ble_eq_true rfl) (by first | assumption | rfl) rfl rfl ?_
      try simp (disch := omega) only [ua_same, ua_ne, uf_same, uf_ne]
      refine go_icmp_ge (tgt := 72) dX10_nextToken_42 rfl (fun h42 => ?_) (fun h42 => ?_)
      ·
        have hse : (skp (μ 107) (μ 87 21) (μ 87 23)) = e := by rw [hsk, skp_s, if_neg (fun h => absurd h.1 (by omega))]
        refine go_iload_n dX10_nextToken_72 rfl ?_
        first | refine go_bz (tgt := 88) dX10_nextToken_73 rfl (fun h73 => ?_) (fun h73 => ?_) | refine go_if_eq (tgt := 88) dX10_nextToken_73 rfl (fun h73 => ?_) (fun h73 => ?_)
        ·
          refine go_iconst dX10_nextToken_88 rfl ?_
          refine go_istore_n dX10_nextToken_89 rfl ?_
          exact go_drop (k90 _ μ1 (by omega) ⟨fun h => absurd h (by decide), fun h => absurd (htg.mpr h.1) (by omega)⟩ (by omega) hf) rfl
        ·
          refine go_iload_n dX10_nextToken_76 rfl ?_
          refine go_aload_n dX10_nextToken_77 rfl ?_
          refine go_getI 23 dX10_nextToken_78 fl_X10_233 (by first | assumption | exact Nat.le_of_ble_eq_true rfl) (by first | assumption | rfl) rfl rfl ?_
          try simp (disch := omega) only [ua_same, ua_ne, uf_same, uf_ne]
          refine go_icmp_ne (tgt := 88) dX10_nextToken_81 rfl (fun h81 => ?_) (fun h81 => ?_)
          ·
            refine go_iconst dX10_nextToken_88 rfl ?_
            refine go_istore_n dX10_nextToken_89 rfl ?_
            exact go_drop (k90 _ μ1 (by omega) ⟨fun h => absurd h (by decide), fun h => absurd h.2 (by omega)⟩ (by omega) hf) rfl
          ·
            refine go_iconst dX10_nextToken_84 rfl ?_
            refine go_goto (tgt := 89) dX10_nextToken_85 rfl ?_
            refine go_istore_n dX10_nextToken_89 rfl ?_
            exact go_drop (k90 _ μ1 (by omega) ⟨fun _ => ⟨htg.mp (by omega), by omega⟩, fun _ => rfl⟩ (by omega) hf) rfl
      ·
        exact absurd h42 (by omega)
    | succ m ih =>
      intro e tg μ1 hm ht01 htg h23 he hle hsk hf
      have e21 : μ1 87 21 = μ 87 21 := hf.2 21 (by omega)
      have e107 : μ1 107 = μ 107 := hf.1 107 (by decide)
      refine go_aload_n dX10_nextToken_34 rfl ?_
      refine go_getI 23 dX10_nextToken_35 fl_X10_233 (by first | assumption | exact Nat.le_of_ble_eq_true rfl) (by first | assumption | rfl) rfl rfl ?_
      try simp (disch := omega) only [ua_same, ua_ne, uf_same, uf_ne]
      refine go_aload_n dX10_nextToken_38 rfl ?_
      refine go_getI 21 dX10_nextToken_39 fl_X10_223 (by first | assumption | exact Nat.le_of_ble_eq_true rfl) (by first | assumption | rfl) rfl rfl ?_
      try simp (disch := omega) only [ua_same, ua_ne, uf_same, uf_ne]
      refine go_icmp_ge (tgt := 72) dX10_nextToken_42 rfl (fun h42 => ?_) (fun h42 => ?_)
      ·
        have hse : (skp (μ 107) (μ 87 21) (μ 87 23)) = e := by rw [hsk, skp_s, if_neg (fun h => absurd h.1 (by omega))]
        refine go_iload_n dX10_nextToken_72 rfl ?_
        first | refine go_bz (tgt := 88) dX10_nextToken_73 rfl (fun h73 => ?_) (fun h73 => ?_) | refine go_if_eq (tgt := 88) dX10_nextToken_73 rfl (fun h73 => ?_) (fun h73 => ?_)
        ·
          refine go_iconst dX10_nextToken_88 rfl ?_
          refine go_istore_n dX10_nextToken_89 rfl ?_
          exact go_drop (k90 _ μ1 (by omega) ⟨fun h => absurd h (by decide), fun h => absurd (htg.mpr h.1) (by omega)⟩ (by omega) hf) rfl
        ·
          refine go_iload_n dX10_nextToken_76 rfl ?_
          refine go_aload_n dX10_nextToken_77 rfl ?_
          refine go_getI 23 dX10_nextToken_78 fl_X10_233 (by first | assumption | exact Nat.le_of_ble_eq_true rfl) (by first | assumption | rfl) rfl rfl ?_
          try simp (disch := omega) only [ua_same, ua_ne, uf_same, uf_ne]
          refine go_icmp_ne (tgt := 88) dX10_nextToken_81 rfl (fun h81 => ?_) (fun h81 => ?_)
          ·
            refine go_iconst dX10_nextToken_88 rfl ?_
            refine go_istore_n dX10_nextToken_89 rfl ?_
            exact go_drop (k90 _ μ1 (by omega) ⟨fun h => absurd h (by decide), fun h => absurd h.2 (by omega)⟩ (by omega) hf) rfl
          ·
            refine go_iconst dX10_nextToken_84 rfl ?_
            refine go_goto (tgt := 89) dX10_nextToken_85 rfl ?_
            refine go_istore_n dX10_nextToken_89 rfl ?_
            exact go_drop (k90 _ μ1 (by omega) ⟨fun _ => ⟨htg.mp (by omega), by omega⟩, fun _ => rfl⟩ (by omega) hf) rfl
      ·
        refine go_aload_n dX10_nextToken_45 rfl ?_
        refine go_getR dX10_nextToken_46 fl_X10_68 (by first | assumption | exact Nat.le_of_ble_eq_true rfl) (by first | assumption | rfl) rfl (by first | assumption | rfl) ?_
        refine go_aload_n dX10_nextToken_49 rfl ?_
        refine go_getI 23 dX10_nextToken_50 fl_X10_233 (by first | assumption | exact Nat.le_of_ble_eq_true rfl) (by first | assumption | rfl) rfl rfl ?_
        try simp (disch := omega) only [ua_same, ua_ne, uf_same, uf_ne]
        refine go_iaload dX10_nextToken_53 (by first | assumption | exact Nat.le_of_ble_eq_true rfl) (by first | assumption | rfl) (by omega) (by omega) ?_
        try simp (disch := omega) only [ua_same, ua_ne, uf_same, uf_ne]
        rw [e107, h23]
        refine go_bipush dX10_nextToken_54 rfl (by decide) ?_
        refine go_icmp_ne (tgt := 72) dX10_nextToken_56 rfl (fun h56 => ?_) (fun h56 => ?_)
        ·
          have hse : (skp (μ 107) (μ 87 21) (μ 87 23)) = e := by rw [hsk, skp_s, if_neg (fun h => h56 h.2)]
          refine go_iload_n dX10_nextToken_72 rfl ?_
          first | refine go_bz (tgt := 88) dX10_nextToken_73 rfl (fun h73 => ?_) (fun h73 => ?_) | refine go_if_eq (tgt := 88) dX10_nextToken_73 rfl (fun h73 => ?_) (fun h73 => ?_)
          ·
            refine go_iconst dX10_nextToken_88 rfl ?_
            refine go_istore_n dX10_nextToken_89 rfl ?_
            exact go_drop (k90 _ μ1 (by omega) ⟨fun h => absurd h (by decide), fun h => absurd (htg.mpr h.1) (by omega)⟩ (by omega) hf) rfl
          ·
            refine go_iload_n dX10_nextToken_76 rfl ?_
            refine go_aload_n dX10_nextToken_77 rfl ?_
            refine go_getI 23 dX10_nextToken_78 fl_X10_233 (by first | assumption | exact Nat.le_of_ble_eq_true rfl) (by first | assumption | rfl) rfl rfl ?_
            try simp (disch := omega) only [ua_same, ua_ne, uf_same, uf_ne]
            refine go_icmp_ne (tgt := 88) dX10_nextToken_81 rfl (fun h81 => ?_) (fun h81 => ?_)
            ·
              refine go_iconst dX10_nextToken_88 rfl ?_
              refine go_istore_n dX10_nextToken_89 rfl ?_
              exact go_drop (k90 _ μ1 (by omega) ⟨fun h => absurd h (by decide), fun h => absurd h.2 (by omega)⟩ (by omega) hf) rfl
            ·
              refine go_iconst dX10_nextToken_84 rfl ?_
              refine go_goto (tgt := 89) dX10_nextToken_85 rfl ?_
              refine go_istore_n dX10_nextToken_89 rfl ?_
              exact go_drop (k90 _ μ1 (by omega) ⟨fun _ => ⟨htg.mp (by omega), by omega⟩, fun _ => rfl⟩ (by omega) hf) rfl
        ·
          refine go_aload_n dX10_nextToken_59 rfl ?_
          refine go_dup dX10_nextToken_60 rfl ?_
          refine go_getI 23 dX10_nextToken_61 fl_X10_233 (by first | assumption | exact Nat.le_of_ble_eq_true rfl) (by first | assumption | rfl) rfl rfl ?_
          try simp (disch := omega) only [ua_same, ua_ne, uf_same, uf_ne]
          refine go_iconst dX10_nextToken_64 rfl ?_
          refine go_iadd dX10_nextToken_65 ⟨by omega, by omega⟩ ?_
          refine go_putI 23 dX10_nextToken_66 pl_X10_233 (by first | assumption | exact Nat.le_of_ble_eq_true rfl) (by first | assumption | rfl) rfl rfl ?_
          refine go_goto (tgt := 34) dX10_nextToken_69 rfl ?_
          refine go_drop (ih (e + 1) tg _ (by omega) ht01 htg ?_ (by omega) (by omega) ?_ ?_) rfl
          · simp (disch := omega) only [ua_same, ua_ne, uf_same, uf_ne]; omega
          · rw [hsk, skp_s, if_pos ⟨by omega, h56⟩]
          · exact ⟨fun q hq => by simp (disch := omega) only [ua_ne]; exact hf.1 q hq, fun k hk => by simp (disch := omega) only [ua_same, uf_ne]; exact hf.2 k hk⟩
  refine go_aload_n dX10_nextToken_0 rfl ?_
  refine go_getI 23 dX10_nextToken_1 fl_X10_233 (by first | assumption | exact Nat.le_of_ble_eq_true rfl) (by first | assumption | rfl) rfl rfl ?_
  refine go_if_le (tgt := 27) dX10_nextToken_4 rfl (fun h4 => ?_) (fun h4 => ?_)
  ·
    refine go_iconst dX10_nextToken_27 rfl ?_
    refine go_istore_n dX10_nextToken_28 rfl ?_
    refine go_aload_n dX10_nextToken_29 rfl ?_
    refine go_getI 23 dX10_nextToken_30 fl_X10_233 (by first | assumption | exact Nat.le_of_ble_eq_true rfl) (by first | assumption | rfl) rfl rfl ?_
    refine go_istore_n dX10_nextToken_33 rfl ?_
    exact go_drop (lpB (μ 87 21 - μ 87 23).toNat (μ 87 23) 0 μ (by omega) (by omega) ⟨fun h => absurd h (by decide), fun h => absurd h (by omega)⟩ rfl (by omega) (by omega) rfl ⟨fun _ _ => rfl, fun _ _ => rfl⟩) rfl
  ·
    refine go_aload_n dX10_nextToken_7 rfl ?_
    refine go_getI 24 dX10_nextToken_8 fl_X10_236 (by first | assumption | exact Nat.le_of_ble_eq_true rfl) (by first | assumption | rfl) rfl rfl ?_
    refine go_iconst dX10_nextToken_11 rfl ?_
    refine go_icmp_eq (tgt := 23) dX10_nextToken_12 rfl (fun h12 => ?_) (fun h12 => ?_)
    ·
      refine go_iconst dX10_nextToken_23 rfl ?_
      refine go_goto (tgt := 28) dX10_nextToken_24 rfl ?_
      refine go_istore_n dX10_nextToken_28 rfl ?_
      refine go_aload_n dX10_nextToken_29 rfl ?_
      refine go_getI 23 dX10_nextToken_30 fl_X10_233 (by first | assumption | exact Nat.le_of_ble_eq_true rfl) (by first | assumption | rfl) rfl rfl ?_
      refine go_istore_n dX10_nextToken_33 rfl ?_
      exact go_drop (lpB (μ 87 21 - μ 87 23).toNat (μ 87 23) 1 μ (by omega) (by omega) ⟨fun _ => by omega, fun _ => rfl⟩ rfl (by omega) (by omega) rfl ⟨fun _ _ => rfl, fun _ _ => rfl⟩) rfl
    ·
      refine go_aload_n dX10_nextToken_15 rfl ?_
      refine go_getI 24 dX10_nextToken_16 fl_X10_236 (by first | assumption | exact Nat.le_of_ble_eq_true rfl) (by first | assumption | rfl) rfl rfl ?_
      refine go_iconst dX10_nextToken_19 rfl ?_
      refine go_icmp_ne (tgt := 27) dX10_nextToken_20 rfl (fun h20 => ?_) (fun h20 => ?_)
      ·
        refine go_iconst dX10_nextToken_27 rfl ?_
        refine go_istore_n dX10_nextToken_28 rfl ?_
        refine go_aload_n dX10_nextToken_29 rfl ?_
        refine go_getI 23 dX10_nextToken_30 fl_X10_233 (by first | assumption | exact Nat.le_of_ble_eq_true rfl) (by first | assumption | rfl) rfl rfl ?_
        refine go_istore_n dX10_nextToken_33 rfl ?_
        exact go_drop (lpB (μ 87 21 - μ 87 23).toNat (μ 87 23) 0 μ (by omega) (by omega) ⟨fun h => absurd h (by decide), fun h => absurd h (by omega)⟩ rfl (by omega) (by omega) rfl ⟨fun _ _ => rfl, fun _ _ => rfl⟩) rfl
      ·
        refine go_iconst dX10_nextToken_23 rfl ?_
        refine go_goto (tgt := 28) dX10_nextToken_24 rfl ?_
        refine go_istore_n dX10_nextToken_28 rfl ?_
        refine go_aload_n dX10_nextToken_29 rfl ?_
        refine go_getI 23 dX10_nextToken_30 fl_X10_233 (by first | assumption | exact Nat.le_of_ble_eq_true rfl) (by first | assumption | rfl) rfl rfl ?_
        refine go_istore_n dX10_nextToken_33 rfl ?_
        exact go_drop (lpB (μ 87 21 - μ 87 23).toNat (μ 87 23) 1 μ (by omega) (by omega) ⟨fun _ => by omega, fun _ => rfl⟩ rfl (by omega) (by omega) rfl ⟨fun _ _ => rfl, fun _ _ => rfl⟩) rfl

