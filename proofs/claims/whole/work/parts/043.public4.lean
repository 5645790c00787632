/-! THE CLASS: public methods: sheets, slots, odds -/
/-- sheets: sorts and places as the document has them -/
def shI (μ : Mem) : Prop := ∀ k : Nat, k < 4 → (-1 ≤ μ (62 + 2 * k) 0 ∧ μ (62 + 2 * k) 0 ≤ 1) ∧ 0 ≤ μ (62 + 2 * k) 1 ∧ μ (62 + 2 * k) 1 ≤ 24
/-- slots: what they hold is as the document has it -/
def slI (μ : Mem) : Prop := ∀ k : Nat, k < 5 → (0 ≤ μ (71 + 3 * k) 0 ∧ μ (71 + 3 * k) 0 ≤ 3) ∧ (μ (71 + 3 * k) 0 = 1 → (0 ≤ μ (71 + 3 * k) 1 ∧ μ (71 + 3 * k) 1 ≤ 5) ∧ (0 ≤ μ (71 + 3 * k) 2 ∧ μ (71 + 3 * k) 2 ≤ 60) ∧ 0 ≤ μ (71 + 3 * k) 3 ∧ μ (71 + 3 * k) 3 ≤ 999) ∧ (μ (71 + 3 * k) 0 = 2 → 0 ≤ μ (71 + 3 * k + 1) 1 ∧ μ (71 + 3 * k + 1) 1 ≤ 24)

set_option maxRecDepth 100000 in
set_option maxHeartbeats 4000000 in
theorem ct_X9_sheet {l : Launch} {D : va_G} {cA : Nat → ClassId} {μ : Mem} (sh so n : Int) : CtN l D cA yX9_sheet cX9_sheet 4 (some .int) 3 [vr 0, vi sh, vi so, vi n] μ (Pi (fun x μ' => (¬ ((0 ≤ sh ∧ sh ≤ 3) ∧ -1 ≤ so ∧ so ≤ 1) → x = -1000000001 ∧ μ' = μ) ∧ (((0 ≤ sh ∧ sh ≤ 3) ∧ -1 ≤ so ∧ so ≤ 1) → (so = -1 → x = 0 ∧ μ' (62 + 2 * sh.toNat) 0 = -1 ∧ μ' (62 + 2 * sh.toNat) 1 = 0 ∧ (∀ q, 0 ≤ q → q < 24 → μ' ((62 + 2 * sh.toNat) + 1) q = 0) ∧ ∀ q, q ≠ (62 + 2 * sh.toNat) → q ≠ (62 + 2 * sh.toNat) + 1 → μ' q = μ q) ∧ (so ≠ -1 → (24 < n → x = -1000000001 ∧ μ' = μ) ∧ (n ≤ 24 → (n < 0 → x = -1000000014 ∧ μ' = μ) ∧ (0 ≤ n → x = n ∧ μ' (62 + 2 * sh.toNat) 0 = so ∧ μ' (62 + 2 * sh.toNat) 1 = n ∧ (∀ q, 0 ≤ q → q < 24 → μ' ((62 + 2 * sh.toNat) + 1) q = 0) ∧ ∀ q, q ≠ (62 + 2 * sh.toNat) → q ≠ (62 + 2 * sh.toNat) + 1 → μ' q = μ q)))))) := by
  refine Ct.of (own := RX9) (by decide +kernel) rfl (fun σ => Nat.le_of_ble_eq_true rfl) (fun hM hP ha => ?_)
  obtain ⟨w0_0, w0_1, w0_2, w0_3, w0_4, w0_5, w0_6, w0_7, w0_8, w0_9, w1_0, w1_1, w32_1, w32_2, w32_3, w32_4, w32_5, w32_6, w39_1, w39_2, w39_3, w39_4, w39_5, w39_6, w46_1, w46_2, w46_3, w46_4, w46_5, w46_6, w56_0, w58_0, w58_1, w53_0, w53_1⟩ := ws_f
  refine go_iload_n dX9_sheet_0 rfl ?_
  refine go_sI dX9_sheet_1 (ct_X9_isSheet _) ml_X9_265 mc_X9_isSheet ms_X9_isSheet ⟨rfl, rfl⟩ ⟨Nat.le_refl _, Nat.le_refl _⟩ rfl rfl rfl (fun x1 μ1 hc1 => ?_)
  obtain ⟨rfl, hm1⟩ := hc1
  rw [hm1]
  first | refine go_bz (tgt := 16) dX9_sheet_4 rfl (fun h4 => ?_) (fun h4 => ?_) | refine go_if_eq (tgt := 16) dX9_sheet_4 rfl (fun h4 => ?_) (fun h4 => ?_)
  ·
    refine go_ldc dX9_sheet_16 kc_X9_85 rfl ?_
    exact go_ri dX9_sheet_18 tyI ⟨Nat.le_refl _, Nat.le_refl _⟩ (⟨fun _ => ⟨rfl, rfl⟩, fun h => absurd h (by omega)⟩)
  ·
    refine go_iload_n dX9_sheet_7 rfl ?_
    refine go_iconst dX9_sheet_8 rfl ?_
    refine go_iconst dX9_sheet_9 rfl ?_
    refine go_sI dX9_sheet_10 (ct_X9_isWithin _ _ _) ml_X9_81 mc_X9_isWithin ms_X9_isWithin ⟨rfl, rfl⟩ ⟨Nat.le_refl _, Nat.le_refl _⟩ rfl rfl rfl (fun x10 μ10 hc10 => ?_)
    obtain ⟨rfl, hm10⟩ := hc10
    rw [hm10]
    first | refine go_bnz (tgt := 19) dX9_sheet_13 rfl (fun h13 => ?_) (fun h13 => ?_) | refine go_if_ne (tgt := 19) dX9_sheet_13 rfl (fun h13 => ?_) (fun h13 => ?_)
    ·
      refine go_iload_n dX9_sheet_19 rfl ?_
      refine go_iconst dX9_sheet_20 rfl ?_
      refine go_icmp_ne (tgt := 37) dX9_sheet_21 rfl (fun h21 => ?_) (fun h21 => ?_)
      ·
        refine go_iload_n dX9_sheet_37 rfl ?_
        refine go_bipush dX9_sheet_38 rfl (by decide) ?_
        refine go_icmp_le (tgt := 46) dX9_sheet_40 rfl (fun h40 => ?_) (fun h40 => ?_)
        ·
          refine go_iload_n dX9_sheet_46 rfl ?_
          refine go_if_ge (tgt := 54) dX9_sheet_47 rfl (fun h47 => ?_) (fun h47 => ?_)
          ·
            refine go_aload_n dX9_sheet_54 rfl ?_
            refine go_getR dX9_sheet_55 fl_X9_56 (by first | assumption | exact Nat.le_of_ble_eq_true rfl) (by first | assumption | rfl) rfl (by first | assumption | rfl) ?_
            refine go_iload_n dX9_sheet_58 rfl ?_
            refine go_sheets dX9_sheet_59 (by omega) (by omega) (fun hj59_0 hj59_1 hj59_2 hj59_3 hj59_4 => ?_)
            refine go_iload_n dX9_sheet_60 rfl ?_
            refine go_iload_n dX9_sheet_61 rfl ?_
            refine go_vV (ci := 4) dX9_sheet_62 (ct_X5_renew (j := 62 + 2 * sh.toNat) (by unfold isSh; omega) _ _) ml_X9_268 mc_X5_renew mv_X5_renew rfl (by first | assumption | exact Nat.le_of_ble_eq_true rfl) (by first | assumption | rfl) rfl ⟨rfl, rfl⟩ ⟨Nat.le_refl _, Nat.le_refl _⟩ rfl rfl rfl (fun μ62 hc62 => ?_)
            refine go_iload_n dX9_sheet_65 rfl ?_
            exact go_ri dX9_sheet_66 tyI ⟨Nat.le_refl _, Nat.le_refl _⟩ (⟨fun h => absurd (by omega) h, fun _ => ⟨fun h => absurd h h21, fun _ => ⟨fun h => absurd h (by omega), fun _ => ⟨fun h => absurd h (by omega), fun _ => ⟨rfl, hc62⟩⟩⟩⟩⟩)
          ·
            refine go_ldcw dX9_sheet_50 kc_X9_272 rfl ?_
            exact go_ri dX9_sheet_53 tyI ⟨Nat.le_refl _, Nat.le_refl _⟩ (⟨fun h => absurd (by omega) h, fun _ => ⟨fun h => absurd h h21, fun _ => ⟨fun h => absurd h (by omega), fun _ => ⟨fun _ => ⟨rfl, rfl⟩, fun h => absurd h (by omega)⟩⟩⟩⟩)
        ·
          refine go_ldc dX9_sheet_43 kc_X9_85 rfl ?_
          exact go_ri dX9_sheet_45 tyI ⟨Nat.le_refl _, Nat.le_refl _⟩ (⟨fun h => absurd (by omega) h, fun _ => ⟨fun h => absurd h h21, fun _ => ⟨fun _ => ⟨rfl, rfl⟩, fun h => absurd h (by omega)⟩⟩⟩)
      ·
        refine go_aload_n dX9_sheet_24 rfl ?_
        refine go_getR dX9_sheet_25 fl_X9_56 (by first | assumption | exact Nat.le_of_ble_eq_true rfl) (by first | assumption | rfl) rfl (by first | assumption | rfl) ?_
        refine go_iload_n dX9_sheet_28 rfl ?_
        refine go_sheets dX9_sheet_29 (by omega) (by omega) (fun hj29_0 hj29_1 hj29_2 hj29_3 hj29_4 => ?_)
        refine go_iconst dX9_sheet_30 rfl ?_
        refine go_iconst dX9_sheet_31 rfl ?_
        refine go_vV (ci := 4) dX9_sheet_32 (ct_X5_renew (j := 62 + 2 * sh.toNat) (by unfold isSh; omega) _ _) ml_X9_268 mc_X5_renew mv_X5_renew rfl (by first | assumption | exact Nat.le_of_ble_eq_true rfl) (by first | assumption | rfl) rfl ⟨rfl, rfl⟩ ⟨Nat.le_refl _, Nat.le_refl _⟩ rfl rfl rfl (fun μ32 hc32 => ?_)
        refine go_iconst dX9_sheet_35 rfl ?_
        exact go_ri dX9_sheet_36 tyI ⟨Nat.le_refl _, Nat.le_refl _⟩ (⟨fun h => absurd (by omega) h, fun _ => ⟨fun _ => ⟨rfl, hc32⟩, fun h => absurd h21 h⟩⟩)
    ·
      refine go_ldc dX9_sheet_16 kc_X9_85 rfl ?_
      exact go_ri dX9_sheet_18 tyI ⟨Nat.le_refl _, Nat.le_refl _⟩ (⟨fun _ => ⟨rfl, rfl⟩, fun h => absurd h (by omega)⟩)

set_option maxRecDepth 100000 in
set_option maxHeartbeats 4000000 in
theorem ct_X9_mark {l : Launch} {D : va_G} {cA : Nat → ClassId} {μ : Mem} (hS : shI μ) (sh q v : Int) : CtN l D cA yX9_mark cX9_mark 5 (some .int) 3 [vr 0, vi sh, vi q, vi v] μ (Pi (fun x μ' => (¬ (0 ≤ sh ∧ sh ≤ 3) → x = -1000000001 ∧ μ' = μ) ∧ ((0 ≤ sh ∧ sh ≤ 3) → (μ (62 + 2 * sh.toNat) 0 = -1 → x = -1000000011 ∧ μ' = μ) ∧ (μ (62 + 2 * sh.toNat) 0 ≠ -1 → (¬ (0 ≤ q ∧ q ≤ μ (62 + 2 * sh.toNat) 1 - 1) → x = -1000000013 ∧ μ' = μ) ∧ ((0 ≤ q ∧ q ≤ μ (62 + 2 * sh.toNat) 1 - 1) → (μ (62 + 2 * sh.toNat) 0 = 0 → (v = -1000000005 → x = -1000000012 ∧ μ' = μ) ∧ (v ≠ -1000000005 → x = 1 ∧ μ' = ud μ ((62 + 2 * sh.toNat) + 1) q (i2sI v))) ∧ (μ (62 + 2 * sh.toNat) 0 ≠ 0 → (v ≠ -1000000005 ∧ ¬ (-99999 ≤ v ∧ v ≤ 99999) → x = -1000000001 ∧ μ' = μ) ∧ (¬ (v ≠ -1000000005 ∧ ¬ (-99999 ≤ v ∧ v ≤ 99999)) → x = 1 ∧ μ' = ud μ ((62 + 2 * sh.toNat) + 1) q v))))))) := by
  refine Ct.of (own := RX9) (by decide +kernel) rfl (fun σ => Nat.le_of_ble_eq_true rfl) (fun hM hP ha => ?_)
  obtain ⟨w0_0, w0_1, w0_2, w0_3, w0_4, w0_5, w0_6, w0_7, w0_8, w0_9, w1_0, w1_1, w32_1, w32_2, w32_3, w32_4, w32_5, w32_6, w39_1, w39_2, w39_3, w39_4, w39_5, w39_6, w46_1, w46_2, w46_3, w46_4, w46_5, w46_6, w56_0, w58_0, w58_1, w53_0, w53_1⟩ := ws_f
  refine go_iload_n dX9_mark_0 rfl ?_
  refine go_sI dX9_mark_1 (ct_X9_isSheet _) ml_X9_265 mc_X9_isSheet ms_X9_isSheet ⟨rfl, rfl⟩ ⟨Nat.le_refl _, Nat.le_refl _⟩ rfl rfl rfl (fun x1 μ1 hc1 => ?_)
  obtain ⟨rfl, hm1⟩ := hc1
  rw [hm1]
  first | refine go_bnz (tgt := 10) dX9_mark_4 rfl (fun h4 => ?_) (fun h4 => ?_) | refine go_if_ne (tgt := 10) dX9_mark_4 rfl (fun h4 => ?_) (fun h4 => ?_)
  ·
    refine go_aload_n dX9_mark_10 rfl ?_
    refine go_getR dX9_mark_11 fl_X9_56 (by first | assumption | exact Nat.le_of_ble_eq_true rfl) (by first | assumption | rfl) rfl (by first | assumption | rfl) ?_
    refine go_iload_n dX9_mark_14 rfl ?_
    refine go_sheets dX9_mark_15 (by omega) (by omega) (fun hj15_0 hj15_1 hj15_2 hj15_3 hj15_4 => ?_)
    have hSh : isSh (62 + 2 * sh.toNat) := by unfold isSh; omega
    have hsI := hS sh.toNat (by omega)
    refine go_astore dX9_mark_16 rfl ?_
    refine go_aload dX9_mark_18 rfl ?_
    refine go_getI 0 dX9_mark_20 fl_X9_273 (by first | assumption | exact Nat.le_of_ble_eq_true rfl) (by first | assumption | rfl) rfl rfl ?_
    try simp (disch := omega) only [ud, ua_same, ua_ne, uf_same, uf_ne]
    refine go_iconst dX9_mark_23 rfl ?_
    refine go_icmp_ne (tgt := 31) dX9_mark_24 rfl (fun h24 => ?_) (fun h24 => ?_)
    ·
      refine go_aload dX9_mark_31 rfl ?_
      refine go_iload_n dX9_mark_33 rfl ?_
      refine go_vI (ci := 4) dX9_mark_34 (ct_X5_hasPlace hSh _ hsI.2) ml_X9_277 mc_X5_hasPlace mv_X5_hasPlace rfl (by first | assumption | exact Nat.le_of_ble_eq_true rfl) (by first | assumption | rfl) rfl ⟨rfl, rfl⟩ ⟨Nat.le_refl _, Nat.le_refl _⟩ rfl rfl rfl (fun x34 μ34 hc34 => ?_)
      obtain ⟨rfl, hm34⟩ := hc34
      rw [hm34]
      first | refine go_bnz (tgt := 44) dX9_mark_37 rfl (fun h37 => ?_) (fun h37 => ?_) | refine go_if_ne (tgt := 44) dX9_mark_37 rfl (fun h37 => ?_) (fun h37 => ?_)
      ·
        refine go_aload dX9_mark_44 rfl ?_
        refine go_getI 0 dX9_mark_46 fl_X9_273 (by first | assumption | exact Nat.le_of_ble_eq_true rfl) (by first | assumption | rfl) rfl rfl ?_
        try simp (disch := omega) only [ud, ua_same, ua_ne, uf_same, uf_ne]
        first | refine go_bnz (tgt := 72) dX9_mark_49 rfl (fun h49 => ?_) (fun h49 => ?_) | refine go_if_ne (tgt := 72) dX9_mark_49 rfl (fun h49 => ?_) (fun h49 => ?_)
        ·
          refine go_iload_n dX9_mark_72 rfl ?_
          refine go_ldc dX9_mark_73 kc_X9_159 rfl ?_
          refine go_icmp_eq (tgt := 93) dX9_mark_75 rfl (fun h75 => ?_) (fun h75 => ?_)
          ·
            refine go_aload dX9_mark_93 rfl ?_
            refine go_getR dX9_mark_95 fl_X9_281 (by first | assumption | exact Nat.le_of_ble_eq_true rfl) (by first | assumption | rfl) rfl (by first | assumption | rfl) ?_
            refine go_iload_n dX9_mark_98 rfl ?_
            refine go_iload_n dX9_mark_99 rfl ?_
            refine go_iastore dX9_mark_100 (by first | assumption | exact Nat.le_of_ble_eq_true rfl) (by first | assumption | rfl) (by omega) (by omega) ?_
            refine go_iconst dX9_mark_101 rfl ?_
            exact go_ri dX9_mark_102 tyI ⟨Nat.le_refl _, Nat.le_refl _⟩ (⟨fun h => absurd h4 h, fun _ => ⟨fun h => absurd h h24, fun _ => ⟨fun h => absurd h37 h, fun _ => ⟨fun h => absurd h h49, fun _ => ⟨fun h => absurd h75 h.1, fun _ => ⟨rfl, rfl⟩⟩⟩⟩⟩⟩)
          ·
            refine go_iload_n dX9_mark_78 rfl ?_
            refine go_ldcw dX9_mark_79 kc_X9_284 rfl ?_
            refine go_ldc dX9_mark_82 kc_X9_186 rfl ?_
            refine go_sI dX9_mark_84 (ct_X9_isWithin _ _ _) ml_X9_81 mc_X9_isWithin ms_X9_isWithin ⟨rfl, rfl⟩ ⟨Nat.le_refl _, Nat.le_refl _⟩ rfl rfl rfl (fun x84 μ84 hc84 => ?_)
            obtain ⟨rfl, hm84⟩ := hc84
            rw [hm84]
            first | refine go_bnz (tgt := 93) dX9_mark_87 rfl (fun h87 => ?_) (fun h87 => ?_) | refine go_if_ne (tgt := 93) dX9_mark_87 rfl (fun h87 => ?_) (fun h87 => ?_)
            ·
              refine go_aload dX9_mark_93 rfl ?_
              refine go_getR dX9_mark_95 fl_X9_281 (by first | assumption | exact Nat.le_of_ble_eq_true rfl) (by first | assumption | rfl) rfl (by first | assumption | rfl) ?_
              refine go_iload_n dX9_mark_98 rfl ?_
              refine go_iload_n dX9_mark_99 rfl ?_
              refine go_iastore dX9_mark_100 (by first | assumption | exact Nat.le_of_ble_eq_true rfl) (by first | assumption | rfl) (by omega) (by omega) ?_
              refine go_iconst dX9_mark_101 rfl ?_
              exact go_ri dX9_mark_102 tyI ⟨Nat.le_refl _, Nat.le_refl _⟩ (⟨fun h => absurd h4 h, fun _ => ⟨fun h => absurd h h24, fun _ => ⟨fun h => absurd h37 h, fun _ => ⟨fun h => absurd h h49, fun _ => ⟨fun h => absurd h87 h.2, fun _ => ⟨rfl, rfl⟩⟩⟩⟩⟩⟩)
            ·
              refine go_ldc dX9_mark_90 kc_X9_85 rfl ?_
              exact go_ri dX9_mark_92 tyI ⟨Nat.le_refl _, Nat.le_refl _⟩ (⟨fun h => absurd h4 h, fun _ => ⟨fun h => absurd h h24, fun _ => ⟨fun h => absurd h37 h, fun _ => ⟨fun h => absurd h h49, fun _ => ⟨fun _ => ⟨rfl, rfl⟩, fun h => absurd ⟨h75, h87⟩ h⟩⟩⟩⟩⟩)
        ·
          refine go_iload_n dX9_mark_52 rfl ?_
          refine go_ldc dX9_mark_53 kc_X9_159 rfl ?_
          refine go_icmp_ne (tgt := 61) dX9_mark_55 rfl (fun h55 => ?_) (fun h55 => ?_)
          ·
            refine go_aload dX9_mark_61 rfl ?_
            refine go_getR dX9_mark_63 fl_X9_281 (by first | assumption | exact Nat.le_of_ble_eq_true rfl) (by first | assumption | rfl) rfl (by first | assumption | rfl) ?_
            refine go_iload_n dX9_mark_66 rfl ?_
            refine go_iload_n dX9_mark_67 rfl ?_
            refine go_i2s dX9_mark_68 ?_
            refine go_iastore dX9_mark_69 (by first | assumption | exact Nat.le_of_ble_eq_true rfl) (by first | assumption | rfl) (by omega) (by omega) ?_
            refine go_iconst dX9_mark_70 rfl ?_
            exact go_ri dX9_mark_71 tyI ⟨Nat.le_refl _, Nat.le_refl _⟩ (⟨fun h => absurd h4 h, fun _ => ⟨fun h => absurd h h24, fun _ => ⟨fun h => absurd h37 h, fun _ => ⟨fun _ => ⟨fun h => absurd h h55, fun _ => ⟨rfl, rfl⟩⟩, fun h => absurd h49 h⟩⟩⟩⟩)
          ·
            refine go_ldc dX9_mark_58 kc_X9_123 rfl ?_
            exact go_ri dX9_mark_60 tyI ⟨Nat.le_refl _, Nat.le_refl _⟩ (⟨fun h => absurd h4 h, fun _ => ⟨fun h => absurd h h24, fun _ => ⟨fun h => absurd h37 h, fun _ => ⟨fun _ => ⟨fun _ => ⟨rfl, rfl⟩, fun h => absurd h55 h⟩, fun h => absurd h49 h⟩⟩⟩⟩)
      ·
        refine go_ldcw dX9_mark_40 kc_X9_280 rfl ?_
        exact go_ri dX9_mark_43 tyI ⟨Nat.le_refl _, Nat.le_refl _⟩ (⟨fun h => absurd h4 h, fun _ => ⟨fun h => absurd h h24, fun _ => ⟨fun _ => ⟨rfl, rfl⟩, fun h => absurd h h37⟩⟩⟩)
    ·
      refine go_ldcw dX9_mark_27 kc_X9_276 rfl ?_
      exact go_ri dX9_mark_30 tyI ⟨Nat.le_refl _, Nat.le_refl _⟩ (⟨fun h => absurd h4 h, fun _ => ⟨fun _ => ⟨rfl, rfl⟩, fun h => absurd h24 h⟩⟩)
  ·
    refine go_ldc dX9_mark_7 kc_X9_85 rfl ?_
    exact go_ri dX9_mark_9 tyI ⟨Nat.le_refl _, Nat.le_refl _⟩ (⟨fun _ => ⟨rfl, rfl⟩, fun h => absurd h h4⟩)

def rdN (row rk : Int → Int) : Nat → Int → Int
  | 0, _ => -1000000005
  | m + 1, i => if row i ≠ -1000000005 ∧ row i ≠ rk i then i else rdN row rk m (i + 1)

set_option maxRecDepth 100000 in
set_option maxHeartbeats 4000000 in
theorem ct_X9_reads {l : Launch} {D : va_G} {cA : Nat → ClassId} {μ : Mem} (hI : mtI μ 32) (hS : shI μ) (sh : Int) : CtN l D cA yX9_reads cX9_reads 4 (some .int) 7 [vr 0, vi sh] μ (Pi (fun x μ' => x = (if 0 ≤ sh ∧ sh ≤ 3 then (if μ (62 + 2 * sh.toNat) 0 = -1 then -1000000011 else rdN (μ ((62 + 2 * sh.toNat) + 1)) (rkC μ 32) (μ (62 + 2 * sh.toNat) 1).toNat 0) else -1000000001) ∧ ∀ q, q ≠ 3 → q ≠ 37 → μ' q = μ q)) := by
  refine Ct.of (own := RX9) (by decide +kernel) rfl (fun σ => Nat.le_of_ble_eq_true rfl) (fun hM hP ha => ?_)
  obtain ⟨w0_0, w0_1, w0_2, w0_3, w0_4, w0_5, w0_6, w0_7, w0_8, w0_9, w1_0, w1_1, w32_1, w32_2, w32_3, w32_4, w32_5, w32_6, w39_1, w39_2, w39_3, w39_4, w39_5, w39_6, w46_1, w46_2, w46_3, w46_4, w46_5, w46_6, w56_0, w58_0, w58_1, w53_0, w53_1⟩ := ws_f
  have hMt : isMt 32 := Or.inl rfl
  obtain ⟨iK, iS, iL, iT, iTn, iD, iH, iF, iX, iW⟩ := id hI
  simp only [Nat.reduceAdd] at iK iS iL iT
  refine go_iload_n dX9_reads_0 rfl ?_
  refine go_sI dX9_reads_1 (ct_X9_isSheet _) ml_X9_265 mc_X9_isSheet ms_X9_isSheet ⟨rfl, rfl⟩ ⟨Nat.le_refl _, Nat.le_refl _⟩ rfl rfl rfl (fun x1 μ1 hc1 => ?_)
  obtain ⟨rfl, hm1⟩ := hc1
  rw [hm1]
  first | refine go_bnz (tgt := 10) dX9_reads_4 rfl (fun h4 => ?_) (fun h4 => ?_) | refine go_if_ne (tgt := 10) dX9_reads_4 rfl (fun h4 => ?_) (fun h4 => ?_)
  ·
    refine go_aload_n dX9_reads_10 rfl ?_
    refine go_getR dX9_reads_11 fl_X9_56 (by first | assumption | exact Nat.le_of_ble_eq_true rfl) (by first | assumption | rfl) rfl (by first | assumption | rfl) ?_
    refine go_iload_n dX9_reads_14 rfl ?_
    refine go_sheets dX9_reads_15 (by omega) (by omega) (fun hj15_0 hj15_1 hj15_2 hj15_3 hj15_4 => ?_)
    have hSh : isSh (62 + 2 * sh.toNat) := by unfold isSh; omega
    have hsI := hS sh.toNat (by omega)
    refine go_astore_n dX9_reads_16 rfl ?_
    refine go_aload_n dX9_reads_17 rfl ?_
    refine go_getI 0 dX9_reads_18 fl_X9_273 (by first | assumption | exact Nat.le_of_ble_eq_true rfl) (by first | assumption | rfl) rfl rfl ?_
    try simp (disch := omega) only [ud, ua_same, ua_ne, uf_same, uf_ne]
    refine go_iconst dX9_reads_21 rfl ?_
    refine go_icmp_ne (tgt := 29) dX9_reads_22 rfl (fun h22 => ?_) (fun h22 => ?_)
    ·
      refine go_aload_n dX9_reads_29 rfl ?_
      refine go_getR dX9_reads_30 fl_X9_21 (by first | assumption | exact Nat.le_of_ble_eq_true rfl) (by first | assumption | rfl) rfl (by first | assumption | rfl) ?_
      refine go_vV (ci := 2) dX9_reads_33 (ct_X3_weighRisks hMt hI) ml_X9_187 mc_X3_weighRisks mv_X3_weighRisks rfl (by first | assumption | exact Nat.le_of_ble_eq_true rfl) (by first | assumption | rfl) rfl ⟨rfl, rfl⟩ ⟨Nat.le_refl _, Nat.le_refl _⟩ rfl rfl rfl (fun μ33 hc33 => ?_)
      simp only [Nat.reduceAdd] at hc33
      obtain ⟨hw, hf⟩ := hc33
      have hfS : μ33 (62 + 2 * sh.toNat) = μ (62 + 2 * sh.toNat) := hf _ (by omega) (by omega)
      have hfR : μ33 ((62 + 2 * sh.toNat) + 1) = μ ((62 + 2 * sh.toNat) + 1) := hf _ (by omega) (by omega)
      have loop : ∀ (m : Nat) (i : Int), (μ (62 + 2 * sh.toNat) 1) - i = (m : Nat) → 0 ≤ i → (rdN (μ ((62 + 2 * sh.toNat) + 1)) (rkC μ 32) (μ (62 + 2 * sh.toNat) 1).toNat 0 = rdN (μ ((62 + 2 * sh.toNat) + 1)) (rkC μ 32) (μ (62 + 2 * sh.toNat) 1 - i).toNat i) → Go l D cA none RX9 cX9_reads 4 (some .int) (7, 0, 0) (QN (Pi (fun x μ' => x = (if 0 ≤ sh ∧ sh ≤ 3 then (if μ (62 + 2 * sh.toNat) 0 = -1 then -1000000011 else rdN (μ ((62 + 2 * sh.toNat) + 1)) (rkC μ 32) (μ (62 + 2 * sh.toNat) 1).toNat 0) else -1000000001) ∧ ∀ q, q ≠ 3 → q ≠ 37 → μ' q = μ q))) 113 ρ0 0 0 38 [(0, vr 0), (1, vi sh), (2, vr (62 + 2 * sh.toNat)), (3, vi i)] [] μ33 := by
        intro m
        induction m with
        | zero =>
          intro i  hm hv hres
          refine go_iload_n dX9_reads_38 rfl ?_
          refine go_aload_n dX9_reads_39 rfl ?_
          refine go_getI 1 dX9_reads_40 fl_X9_285 (by first | assumption | exact Nat.le_of_ble_eq_true rfl) (by first | assumption | rfl) rfl rfl ?_
          try simp (disch := omega) only [ud, ua_same, ua_ne, uf_same, uf_ne, hfS, hfR]
          refine go_icmp_ge (tgt := 80) dX9_reads_43 rfl (fun h43 => ?_) (fun h43 => ?_)
          ·
            refine go_ldc dX9_reads_80 kc_X9_159 rfl ?_
            exact go_ri dX9_reads_82 tyI ⟨Nat.le_refl _, Nat.le_refl _⟩ (⟨by rw [if_pos (by omega), if_neg h22, hres, show (μ (62 + 2 * sh.toNat) 1 - i).toNat = 0 by omega]; rfl, hf⟩)
          ·
            exact absurd h43 (by omega)
        | succ m ih =>
          intro i  hm hv hres
          refine go_iload_n dX9_reads_38 rfl ?_
          refine go_aload_n dX9_reads_39 rfl ?_
          refine go_getI 1 dX9_reads_40 fl_X9_285 (by first | assumption | exact Nat.le_of_ble_eq_true rfl) (by first | assumption | rfl) rfl rfl ?_
          try simp (disch := omega) only [ud, ua_same, ua_ne, uf_same, uf_ne, hfS, hfR]
          refine go_icmp_ge (tgt := 80) dX9_reads_43 rfl (fun h43 => ?_) (fun h43 => ?_)
          ·
            exact absurd h43 (by omega)
          ·
            have hun : rdN (μ ((62 + 2 * sh.toNat) + 1)) (rkC μ 32) (μ (62 + 2 * sh.toNat) 1 - i).toNat i = if μ ((62 + 2 * sh.toNat) + 1) i ≠ -1000000005 ∧ μ ((62 + 2 * sh.toNat) + 1) i ≠ rkC μ 32 i then i else rdN (μ ((62 + 2 * sh.toNat) + 1)) (rkC μ 32) (μ (62 + 2 * sh.toNat) 1 - (i + 1)).toNat (i + 1) := by rw [show (μ (62 + 2 * sh.toNat) 1 - i).toNat = (μ (62 + 2 * sh.toNat) 1 - (i + 1)).toNat + 1 by omega]; rfl
            refine go_aload_n dX9_reads_46 rfl ?_
            refine go_iload_n dX9_reads_47 rfl ?_
            refine go_vI (ci := 4) dX9_reads_48 (ct_X5_isNumber hSh _ (by omega)) ml_X9_288 mc_X5_isNumber mv_X5_isNumber rfl (by first | assumption | exact Nat.le_of_ble_eq_true rfl) (by first | assumption | rfl) rfl ⟨rfl, rfl⟩ ⟨Nat.le_refl _, Nat.le_refl _⟩ rfl rfl rfl (fun x48 μ48 hc48 => ?_)
            rw [hfR] at hc48
            obtain ⟨rfl, hm48⟩ := hc48
            rw [hm48]
            first | refine go_bz (tgt := 74) dX9_reads_51 rfl (fun h51 => ?_) (fun h51 => ?_) | refine go_if_eq (tgt := 74) dX9_reads_51 rfl (fun h51 => ?_) (fun h51 => ?_)
            ·
              refine go_iinc dX9_reads_74 rfl rfl ⟨by omega, by omega⟩ ?_
              refine go_goto (tgt := 38) dX9_reads_77 rfl ?_
              exact go_drop (ih _ (by omega) (by omega) (by rw [hres, hun, if_neg (fun e => h51 e.1)])) rfl
            ·
              refine go_aload_n dX9_reads_54 rfl ?_
              refine go_getR dX9_reads_55 fl_X9_281 (by first | assumption | exact Nat.le_of_ble_eq_true rfl) (by first | assumption | rfl) rfl (by first | assumption | rfl) ?_
              refine go_iload_n dX9_reads_58 rfl ?_
              refine go_iaload dX9_reads_59 (by first | assumption | exact Nat.le_of_ble_eq_true rfl) (by first | assumption | rfl) (by omega) (by omega) ?_
              try simp (disch := omega) only [ud, ua_same, ua_ne, uf_same, uf_ne, hfS, hfR]
              refine go_aload_n dX9_reads_60 rfl ?_
              refine go_getR dX9_reads_61 fl_X9_21 (by first | assumption | exact Nat.le_of_ble_eq_true rfl) (by first | assumption | rfl) rfl (by first | assumption | rfl) ?_
              refine go_getR dX9_reads_64 fl_X9_190 (by first | assumption | exact Nat.le_of_ble_eq_true rfl) (by first | assumption | rfl) rfl (by first | assumption | rfl) ?_
              refine go_iload_n dX9_reads_67 rfl ?_
              refine go_iaload dX9_reads_68 (by first | assumption | exact Nat.le_of_ble_eq_true rfl) (by first | assumption | rfl) (by omega) (by omega) ?_
              try simp (disch := omega) only [ud, ua_same, ua_ne, uf_same, uf_ne, hfS, hfR]
              rw [hw i (by omega) (by omega)]
              refine go_icmp_eq (tgt := 74) dX9_reads_69 rfl (fun h69 => ?_) (fun h69 => ?_)
              ·
                refine go_iinc dX9_reads_74 rfl rfl ⟨by omega, by omega⟩ ?_
                refine go_goto (tgt := 38) dX9_reads_77 rfl ?_
                exact go_drop (ih _ (by omega) (by omega) (by rw [hres, hun, if_neg (fun e => e.2 h69)])) rfl
              ·
                refine go_iload_n dX9_reads_72 rfl ?_
                exact go_ri dX9_reads_73 tyI ⟨Nat.le_refl _, Nat.le_refl _⟩ (⟨by rw [if_pos (by omega), if_neg h22, hres, hun, if_pos ⟨h51, h69⟩], hf⟩)
      refine go_iconst dX9_reads_36 rfl ?_
      refine go_istore_n dX9_reads_37 rfl ?_
      exact go_drop (loop (μ (62 + 2 * sh.toNat) 1).toNat 0 (by omega) (by omega) (by rw [Int.sub_zero])) rfl
    ·
      refine go_ldcw dX9_reads_25 kc_X9_276 rfl ?_
      exact go_ri dX9_reads_28 tyI ⟨Nat.le_refl _, Nat.le_refl _⟩ (⟨by rw [if_pos (by omega), if_pos h22], fun _ _ _ => rfl⟩)
  ·
    refine go_ldc dX9_reads_7 kc_X9_85 rfl ?_
    exact go_ri dX9_reads_9 tyI ⟨Nat.le_refl _, Nat.le_refl _⟩ (⟨by rw [if_neg h4], fun _ _ _ => rfl⟩)

def prS (sr : Int → Int) (row : Int) : Nat → (Int → Int) × Int → Int → (Int → Int) × Int
  | 0, s, _ => s
  | m + 1, s, k => prS sr row m (uf s.1 (row * 6 + k) (if sr k = -1000000005 then s.1 (row * 6 + k) else max 0 (min 999 (sr k))), s.2 + (if (if sr k = -1000000005 then s.1 (row * 6 + k) else max 0 (min 999 (sr k))) = s.1 (row * 6 + k) then 0 else 1)) (k + 1)
theorem prS_s {sr : Int → Int} {row : Int} {m : Nat} {s : (Int → Int) × Int} {k v : Int} (hv : v = if sr k = -1000000005 then s.1 (row * 6 + k) else max 0 (min 999 (sr k))) : prS sr row (m + 1) s k = prS sr row m (uf s.1 (row * 6 + k) v, s.2 + (if v = s.1 (row * 6 + k) then 0 else 1)) (k + 1) := by subst hv; rfl
theorem uf_id {f : Int → Int} {k : Int} : uf f k (f k) = f := by
  funext j; unfold uf; split
  · subst_vars; rfl
  · rfl

set_option maxRecDepth 100000 in
set_option maxHeartbeats 4000000 in
theorem ct_X9_pour {l : Launch} {D : va_G} {cA : Nat → ClassId} {μ : Mem} (hI : mtI μ 32) (hS : shI μ) (sh row : Int) : CtN l D cA yX9_pour cX9_pour 8 (some .int) 4 [vr 0, vi sh, vi row] μ (Pi (fun x μ' => (¬ ((0 ≤ sh ∧ sh ≤ 3) ∧ 0 ≤ row ∧ row ≤ 4) → x = -1000000001 ∧ μ' = μ) ∧ (((0 ≤ sh ∧ sh ≤ 3) ∧ 0 ≤ row ∧ row ≤ 4) → (μ (62 + 2 * sh.toNat) 0 = -1 → x = -1000000011 ∧ μ' = μ) ∧ (μ (62 + 2 * sh.toNat) 0 ≠ -1 → x = (prS (μ ((62 + 2 * sh.toNat) + 1)) row (min 6 (μ (62 + 2 * sh.toNat) 1)).toNat (μ 35, 0) 0).2 ∧ μ' = ua μ 35 (prS (μ ((62 + 2 * sh.toNat) + 1)) row (min 6 (μ (62 + 2 * sh.toNat) 1)).toNat (μ 35, 0) 0).1)))) := by
  refine Ct.of (own := RX9) (by decide +kernel) rfl (fun σ => Nat.le_of_ble_eq_true rfl) (fun hM hP ha => ?_)
  obtain ⟨w0_0, w0_1, w0_2, w0_3, w0_4, w0_5, w0_6, w0_7, w0_8, w0_9, w1_0, w1_1, w32_1, w32_2, w32_3, w32_4, w32_5, w32_6, w39_1, w39_2, w39_3, w39_4, w39_5, w39_6, w46_1, w46_2, w46_3, w46_4, w46_5, w46_6, w56_0, w58_0, w58_1, w53_0, w53_1⟩ := ws_f
  have hMt : isMt 32 := Or.inl rfl
  obtain ⟨iK, iS, iL, iT, iTn, iD, iH, iF, iX, iW⟩ := id hI
  simp only [Nat.reduceAdd] at iK iS iL iT
  refine go_iload_n dX9_pour_0 rfl ?_
  refine go_sI dX9_pour_1 (ct_X9_isSheet _) ml_X9_265 mc_X9_isSheet ms_X9_isSheet ⟨rfl, rfl⟩ ⟨Nat.le_refl _, Nat.le_refl _⟩ rfl rfl rfl (fun x1 μ1 hc1 => ?_)
  obtain ⟨rfl, hm1⟩ := hc1
  rw [hm1]
  first | refine go_bz (tgt := 16) dX9_pour_4 rfl (fun h4 => ?_) (fun h4 => ?_) | refine go_if_eq (tgt := 16) dX9_pour_4 rfl (fun h4 => ?_) (fun h4 => ?_)
  ·
    refine go_ldc dX9_pour_16 kc_X9_85 rfl ?_
    exact go_ri dX9_pour_18 tyI ⟨Nat.le_refl _, Nat.le_refl _⟩ (⟨fun _ => ⟨rfl, rfl⟩, fun h => absurd h (by omega)⟩)
  ·
    refine go_iload_n dX9_pour_7 rfl ?_
    refine go_iconst dX9_pour_8 rfl ?_
    refine go_iconst dX9_pour_9 rfl ?_
    refine go_sI dX9_pour_10 (ct_X9_isWithin _ _ _) ml_X9_81 mc_X9_isWithin ms_X9_isWithin ⟨rfl, rfl⟩ ⟨Nat.le_refl _, Nat.le_refl _⟩ rfl rfl rfl (fun x10 μ10 hc10 => ?_)
    obtain ⟨rfl, hm10⟩ := hc10
    rw [hm10]
    first | refine go_bnz (tgt := 19) dX9_pour_13 rfl (fun h13 => ?_) (fun h13 => ?_) | refine go_if_ne (tgt := 19) dX9_pour_13 rfl (fun h13 => ?_) (fun h13 => ?_)
    ·
      refine go_aload_n dX9_pour_19 rfl ?_
      refine go_getR dX9_pour_20 fl_X9_56 (by first | assumption | exact Nat.le_of_ble_eq_true rfl) (by first | assumption | rfl) rfl (by first | assumption | rfl) ?_
      refine go_iload_n dX9_pour_23 rfl ?_
      refine go_sheets dX9_pour_24 (by omega) (by omega) (fun hj24_0 hj24_1 hj24_2 hj24_3 hj24_4 => ?_)
      have hSh : isSh (62 + 2 * sh.toNat) := by unfold isSh; omega
      have hsI := hS sh.toNat (by omega)
      refine go_astore_n dX9_pour_25 rfl ?_
      refine go_aload_n dX9_pour_26 rfl ?_
      refine go_getI 0 dX9_pour_27 fl_X9_273 (by first | assumption | exact Nat.le_of_ble_eq_true rfl) (by first | assumption | rfl) rfl rfl ?_
      try simp (disch := omega) only [ud, ua_same, ua_ne, uf_same, uf_ne]
      refine go_iconst dX9_pour_30 rfl ?_
      refine go_icmp_ne (tgt := 38) dX9_pour_31 rfl (fun h31 => ?_) (fun h31 => ?_)
      ·
        refine go_iconst dX9_pour_38 rfl ?_
        refine go_istore dX9_pour_39 rfl ?_
        refine go_iconst dX9_pour_41 rfl ?_
        refine go_istore dX9_pour_42 rfl ?_
        have hI9 := iL
        have loop : ∀ (m : Nat) (i n : Int) (g : Int → Int) (μ1 : Mem), ((min 6 (μ (62 + 2 * sh.toNat) 1))) - i = (m : Nat) → 0 ≤ i → 0 ≤ n → n ≤ i → μ1 = ua μ 35 g → (∀ c, 0 ≤ c → c < 30 → 0 ≤ g c ∧ g c ≤ 999) → prS (μ ((62 + 2 * sh.toNat) + 1)) row ((min 6 (μ (62 + 2 * sh.toNat) 1)) - i).toNat (g, n) i = (prS (μ ((62 + 2 * sh.toNat) + 1)) row (min 6 (μ (62 + 2 * sh.toNat) 1)).toNat (μ 35, 0) 0) → Go l D cA none RX9 cX9_pour 8 (some .int) (4, 0, 0) (QN (Pi (fun x μ' => (¬ ((0 ≤ sh ∧ sh ≤ 3) ∧ 0 ≤ row ∧ row ≤ 4) → x = -1000000001 ∧ μ' = μ) ∧ (((0 ≤ sh ∧ sh ≤ 3) ∧ 0 ≤ row ∧ row ≤ 4) → (μ (62 + 2 * sh.toNat) 0 = -1 → x = -1000000011 ∧ μ' = μ) ∧ (μ (62 + 2 * sh.toNat) 0 ≠ -1 → x = (prS (μ ((62 + 2 * sh.toNat) + 1)) row (min 6 (μ (62 + 2 * sh.toNat) 1)).toNat (μ 35, 0) 0).2 ∧ μ' = ua μ 35 (prS (μ ((62 + 2 * sh.toNat) + 1)) row (min 6 (μ (62 + 2 * sh.toNat) 1)).toNat (μ 35, 0) 0).1))))) 113 ρ0 0 0 44 [(0, vr 0), (1, vi sh), (2, vi row), (3, vr (62 + 2 * sh.toNat)), (4, vi n), (5, vi i)] [] μ1 := by
          intro m
          induction m with
          | zero =>
            intro i n g μ1 hm hi0 hn0 hn1 hmu hlb hres
            refine go_iload dX9_pour_44 rfl ?_
            refine go_bipush dX9_pour_46 rfl (by decide) ?_
            refine go_icmp_ge (tgt := 143) dX9_pour_48 rfl (fun h48 => ?_) (fun h48 => ?_)
            ·
              refine go_iload dX9_pour_143 rfl ?_
              exact go_ri dX9_pour_145 tyI ⟨Nat.le_refl _, Nat.le_refl _⟩ (⟨fun h => absurd (by omega) h, fun _ => ⟨fun h => absurd h h31, fun _ => ⟨by rw [← hres, show ((min 6 (μ (62 + 2 * sh.toNat) 1)) - i).toNat = 0 by omega]; rfl, by rw [hmu, ← hres, show ((min 6 (μ (62 + 2 * sh.toNat) 1)) - i).toNat = 0 by omega]; rfl⟩⟩⟩)
            ·
              have eS : μ1 (62 + 2 * sh.toNat) = μ (62 + 2 * sh.toNat) := by rw [hmu, ua_ne (by omega)]
              refine go_iload dX9_pour_51 rfl ?_
              refine go_aload_n dX9_pour_53 rfl ?_
              refine go_getI 1 dX9_pour_54 fl_X9_285 (by first | assumption | exact Nat.le_of_ble_eq_true rfl) (by first | assumption | rfl) rfl rfl ?_
              refine go_icmp_ge (tgt := 143) dX9_pour_57 rfl (fun h57 => ?_) (fun h57 => ?_)
              ·
                refine go_iload dX9_pour_143 rfl ?_
                exact go_ri dX9_pour_145 tyI ⟨Nat.le_refl _, Nat.le_refl _⟩ (⟨fun h => absurd (by omega) h, fun _ => ⟨fun h => absurd h h31, fun _ => ⟨by rw [← hres, show ((min 6 (μ (62 + 2 * sh.toNat) 1)) - i).toNat = 0 by omega]; rfl, by rw [hmu, ← hres, show ((min 6 (μ (62 + 2 * sh.toNat) 1)) - i).toNat = 0 by omega]; rfl⟩⟩⟩)
              ·
                exact absurd h57 (by rw [eS]; omega)
          | succ m ih =>
            intro i n g μ1 hm hi0 hn0 hn1 hmu hlb hres
            refine go_iload dX9_pour_44 rfl ?_
            refine go_bipush dX9_pour_46 rfl (by decide) ?_
            refine go_icmp_ge (tgt := 143) dX9_pour_48 rfl (fun h48 => ?_) (fun h48 => ?_)
            ·
              exact absurd h48 (by omega)
            ·
              have eS : μ1 (62 + 2 * sh.toNat) = μ (62 + 2 * sh.toNat) := by rw [hmu, ua_ne (by omega)]
              have eR : μ1 ((62 + 2 * sh.toNat) + 1) = μ ((62 + 2 * sh.toNat) + 1) := by rw [hmu, ua_ne (by omega)]
              have eL : μ1 35 = g := by rw [hmu, ua_same]
              have hgb := hlb (row * 6 + i) (by omega) (by omega)
              refine go_iload dX9_pour_51 rfl ?_
              refine go_aload_n dX9_pour_53 rfl ?_
              refine go_getI 1 dX9_pour_54 fl_X9_285 (by first | assumption | exact Nat.le_of_ble_eq_true rfl) (by first | assumption | rfl) rfl rfl ?_
              refine go_icmp_ge (tgt := 143) dX9_pour_57 rfl (fun h57 => ?_) (fun h57 => ?_)
              ·
                exact absurd h57 (by rw [eS]; omega)
              ·
                refine go_iload_n dX9_pour_60 rfl ?_
                refine go_bipush dX9_pour_61 rfl (by decide) ?_
                refine go_imul dX9_pour_63 ⟨by omega, by omega⟩ ?_
                refine go_iload dX9_pour_64 rfl ?_
                refine go_iadd dX9_pour_66 ⟨by omega, by omega⟩ ?_
                refine go_istore dX9_pour_67 rfl ?_
                refine go_aload_n dX9_pour_69 rfl ?_
                refine go_iload dX9_pour_70 rfl ?_
                refine go_vI (ci := 4) dX9_pour_72 (ct_X5_isNumber hSh _ (by omega)) ml_X9_288 mc_X5_isNumber mv_X5_isNumber rfl (by first | assumption | exact Nat.le_of_ble_eq_true rfl) (by first | assumption | rfl) rfl ⟨rfl, rfl⟩ ⟨Nat.le_refl _, Nat.le_refl _⟩ rfl rfl rfl (fun x72 μ72 hc72 => ?_)
                rw [eR] at hc72
                obtain ⟨rfl, hm72⟩ := hc72
                rw [hm72]
                first | refine go_bz (tgt := 95) dX9_pour_75 rfl (fun h75 => ?_) (fun h75 => ?_) | refine go_if_eq (tgt := 95) dX9_pour_75 rfl (fun h75 => ?_) (fun h75 => ?_)
                ·
                  refine go_aload_n dX9_pour_95 rfl ?_
                  refine go_getR dX9_pour_96 fl_X9_21 (by first | assumption | exact Nat.le_of_ble_eq_true rfl) (by first | assumption | rfl) rfl (by first | assumption | rfl) ?_
                  refine go_getR dX9_pour_99 fl_X9_92 (by first | assumption | exact Nat.le_of_ble_eq_true rfl) (by first | assumption | rfl) rfl (by first | assumption | rfl) ?_
                  refine go_iload dX9_pour_102 rfl ?_
                  refine go_iaload dX9_pour_104 (by first | assumption | exact Nat.le_of_ble_eq_true rfl) (by first | assumption | rfl) (by omega) (by omega) ?_
                  try simp (disch := omega) only [ud, ua_same, ua_ne, uf_same, uf_ne]
                  rw [eL]
                  refine go_istore dX9_pour_105 rfl ?_
                  have hvv : g (row * 6 + i) = if μ ((62 + 2 * sh.toNat) + 1) i = -1000000005 then (g, n).1 (row * 6 + i) else max 0 (min 999 (μ ((62 + 2 * sh.toNat) + 1) i)) := by rw [if_pos (by omega)]
                  refine go_iload dX9_pour_107 rfl ?_
                  refine go_aload_n dX9_pour_109 rfl ?_
                  refine go_getR dX9_pour_110 fl_X9_21 (by first | assumption | exact Nat.le_of_ble_eq_true rfl) (by first | assumption | rfl) rfl (by first | assumption | rfl) ?_
                  refine go_getR dX9_pour_113 fl_X9_92 (by first | assumption | exact Nat.le_of_ble_eq_true rfl) (by first | assumption | rfl) rfl (by first | assumption | rfl) ?_
                  refine go_iload dX9_pour_116 rfl ?_
                  refine go_iaload dX9_pour_118 (by first | assumption | exact Nat.le_of_ble_eq_true rfl) (by first | assumption | rfl) (by omega) (by omega) ?_
                  try simp (disch := omega) only [ud, ua_same, ua_ne, uf_same, uf_ne]
                  rw [eL]
                  refine go_icmp_eq (tgt := 137) dX9_pour_119 rfl (fun h119 => ?_) (fun h119 => ?_)
                  ·
                    refine go_iinc dX9_pour_137 rfl rfl ⟨by omega, by omega⟩ ?_
                    refine go_goto (tgt := 44) dX9_pour_140 rfl ?_
                    refine go_drop (ih _ n g μ1 (by omega) (by omega) (by omega) (by omega) hmu hlb ?_) rfl
                    rw [← hres, show ((min 6 (μ (62 + 2 * sh.toNat) 1)) - i).toNat = ((min 6 (μ (62 + 2 * sh.toNat) 1)) - (i + 1)).toNat + 1 by omega, prS_s hvv, if_pos h119, show uf g (row * 6 + i) _ = g by rw [h119]; exact uf_id, Int.add_zero]
                  ·
                    exact absurd rfl h119
                ·
                  refine go_aload_n dX9_pour_78 rfl ?_
                  refine go_getR dX9_pour_79 fl_X9_281 (by first | assumption | exact Nat.le_of_ble_eq_true rfl) (by first | assumption | rfl) rfl (by first | assumption | rfl) ?_
                  refine go_iload dX9_pour_82 rfl ?_
                  refine go_iaload dX9_pour_84 (by first | assumption | exact Nat.le_of_ble_eq_true rfl) (by first | assumption | rfl) (by omega) (by omega) ?_
                  try simp (disch := omega) only [ud, ua_same, ua_ne, uf_same, uf_ne]
                  rw [eR]
                  refine go_iconst dX9_pour_85 rfl ?_
                  refine go_sipush dX9_pour_86 rfl (by decide) ?_
                  refine go_sI dX9_pour_89 (ct_X9_heldWithin _ _ _) ml_X9_291 mc_X9_heldWithin ms_X9_heldWithin ⟨rfl, rfl⟩ ⟨Nat.le_refl _, Nat.le_refl _⟩ rfl rfl rfl (fun x89 μ89 hc89 => ?_)
                  obtain ⟨rfl, hm89⟩ := hc89
                  rw [hm89]
                  refine go_goto (tgt := 105) dX9_pour_92 rfl ?_
                  refine go_istore dX9_pour_105 rfl ?_
                  have hvv : max 0 (min 999 (μ ((62 + 2 * sh.toNat) + 1) i)) = if μ ((62 + 2 * sh.toNat) + 1) i = -1000000005 then (g, n).1 (row * 6 + i) else max 0 (min 999 (μ ((62 + 2 * sh.toNat) + 1) i)) := by rw [if_neg h75]
                  refine go_iload dX9_pour_107 rfl ?_
                  refine go_aload_n dX9_pour_109 rfl ?_
                  refine go_getR dX9_pour_110 fl_X9_21 (by first | assumption | exact Nat.le_of_ble_eq_true rfl) (by first | assumption | rfl) rfl (by first | assumption | rfl) ?_
                  refine go_getR dX9_pour_113 fl_X9_92 (by first | assumption | exact Nat.le_of_ble_eq_true rfl) (by first | assumption | rfl) rfl (by first | assumption | rfl) ?_
                  refine go_iload dX9_pour_116 rfl ?_
                  refine go_iaload dX9_pour_118 (by first | assumption | exact Nat.le_of_ble_eq_true rfl) (by first | assumption | rfl) (by omega) (by omega) ?_
                  try simp (disch := omega) only [ud, ua_same, ua_ne, uf_same, uf_ne]
                  rw [eL]
                  refine go_icmp_eq (tgt := 137) dX9_pour_119 rfl (fun h119 => ?_) (fun h119 => ?_)
                  ·
                    refine go_iinc dX9_pour_137 rfl rfl ⟨by omega, by omega⟩ ?_
                    refine go_goto (tgt := 44) dX9_pour_140 rfl ?_
                    refine go_drop (ih _ n g μ1 (by omega) (by omega) (by omega) (by omega) hmu hlb ?_) rfl
                    rw [← hres, show ((min 6 (μ (62 + 2 * sh.toNat) 1)) - i).toNat = ((min 6 (μ (62 + 2 * sh.toNat) 1)) - (i + 1)).toNat + 1 by omega, prS_s hvv, if_pos h119, show uf g (row * 6 + i) _ = g by rw [h119]; exact uf_id, Int.add_zero]
                  ·
                    refine go_iinc dX9_pour_122 rfl rfl ⟨by omega, by omega⟩ ?_
                    refine go_aload_n dX9_pour_125 rfl ?_
                    refine go_getR dX9_pour_126 fl_X9_21 (by first | assumption | exact Nat.le_of_ble_eq_true rfl) (by first | assumption | rfl) rfl (by first | assumption | rfl) ?_
                    refine go_getR dX9_pour_129 fl_X9_92 (by first | assumption | exact Nat.le_of_ble_eq_true rfl) (by first | assumption | rfl) rfl (by first | assumption | rfl) ?_
                    refine go_iload dX9_pour_132 rfl ?_
                    refine go_iload dX9_pour_134 rfl ?_
                    refine go_iastore dX9_pour_136 (by first | assumption | exact Nat.le_of_ble_eq_true rfl) (by first | assumption | rfl) (by omega) (by omega) ?_
                    refine go_iinc dX9_pour_137 rfl rfl ⟨by omega, by omega⟩ ?_
                    refine go_goto (tgt := 44) dX9_pour_140 rfl ?_
                    refine go_drop (ih _ _ (uf g (row * 6 + i) (max 0 (min 999 (μ (62 + 2 * sh.toNat + 1) i)))) _ (by omega) (by omega) (by omega) (by omega) ?_ ?_ ?_) rfl
                    · rw [hmu]
                      simp only [ud, ua_same, ua_ua]
                    · intro c c0 c1
                      unfold uf
                      split
                      · omega
                      · exact hlb c c0 c1
                    · rw [← hres, show ((min 6 (μ (62 + 2 * sh.toNat) 1)) - i).toNat = ((min 6 (μ (62 + 2 * sh.toNat) 1)) - (i + 1)).toNat + 1 by omega, prS_s hvv, if_neg h119]
        exact go_drop (loop (min 6 (μ (62 + 2 * sh.toNat) 1)).toNat 0 0 (μ 35) μ (by omega) (by omega) (by omega) (by omega) ua_id.symm iL (by rw [Int.sub_zero])) rfl
      ·
        refine go_ldcw dX9_pour_34 kc_X9_276 rfl ?_
        exact go_ri dX9_pour_37 tyI ⟨Nat.le_refl _, Nat.le_refl _⟩ (⟨fun h => absurd (by omega) h, fun _ => ⟨fun _ => ⟨rfl, rfl⟩, fun h => absurd h31 h⟩⟩)
    ·
      refine go_ldc dX9_pour_16 kc_X9_85 rfl ?_
      exact go_ri dX9_pour_18 tyI ⟨Nat.le_refl _, Nat.le_refl _⟩ (⟨fun _ => ⟨rfl, rfl⟩, fun h => absurd h (by omega)⟩)

set_option maxRecDepth 100000 in
set_option maxHeartbeats 4000000 in
theorem ct_X9_copy {l : Launch} {D : va_G} {cA : Nat → ClassId} {μ : Mem} (hS : shI μ) (fr pl to at_ many : Int) : CtN l D cA yX9_copy cX9_copy 8 (some .int) 3 [vr 0, vi fr, vi pl, vi to, vi at_, vi many] μ (Pi (fun x μ' => (¬ ((0 ≤ fr ∧ fr ≤ 3) ∧ 0 ≤ to ∧ to ≤ 3) → x = -1000000001 ∧ μ' = μ) ∧ (((0 ≤ fr ∧ fr ≤ 3) ∧ 0 ≤ to ∧ to ≤ 3) → ((μ (62 + 2 * fr.toNat) 0 = -1 ∨ μ (62 + 2 * to.toNat) 0 = -1) → x = -1000000011 ∧ μ' = μ) ∧ (¬ (μ (62 + 2 * fr.toNat) 0 = -1 ∨ μ (62 + 2 * to.toNat) 0 = -1) → (μ (62 + 2 * fr.toNat) 0 ≠ μ (62 + 2 * to.toNat) 0 → x = -1000000012 ∧ μ' = μ) ∧ (μ (62 + 2 * fr.toNat) 0 = μ (62 + 2 * to.toNat) 0 → (¬ ((0 ≤ many ∧ (0 ≤ pl ∧ pl ≤ μ (62 + 2 * fr.toNat) 1) ∧ many ≤ μ (62 + 2 * fr.toNat) 1 - pl) ∧ 0 ≤ many ∧ (0 ≤ at_ ∧ at_ ≤ μ (62 + 2 * to.toNat) 1) ∧ many ≤ μ (62 + 2 * to.toNat) 1 - at_) → x = -1000000013 ∧ μ' = μ) ∧ (((0 ≤ many ∧ (0 ≤ pl ∧ pl ≤ μ (62 + 2 * fr.toNat) 1) ∧ many ≤ μ (62 + 2 * fr.toNat) 1 - pl) ∧ 0 ≤ many ∧ (0 ≤ at_ ∧ at_ ≤ μ (62 + 2 * to.toNat) 1) ∧ many ≤ μ (62 + 2 * to.toNat) 1 - at_) → x = many ∧ μ' = ua μ ((62 + 2 * to.toNat) + 1) (cpI (μ ((62 + 2 * fr.toNat) + 1)) (μ ((62 + 2 * to.toNat) + 1)) pl at_ many))))))) := by
  refine Ct.of (own := RX9) (by decide +kernel) rfl (fun σ => Nat.le_of_ble_eq_true rfl) (fun hM hP ha => ?_)
  obtain ⟨w0_0, w0_1, w0_2, w0_3, w0_4, w0_5, w0_6, w0_7, w0_8, w0_9, w1_0, w1_1, w32_1, w32_2, w32_3, w32_4, w32_5, w32_6, w39_1, w39_2, w39_3, w39_4, w39_5, w39_6, w46_1, w46_2, w46_3, w46_4, w46_5, w46_6, w56_0, w58_0, w58_1, w53_0, w53_1⟩ := ws_f
  refine go_iload_n dX9_copy_0 rfl ?_
  refine go_sI dX9_copy_1 (ct_X9_isSheet _) ml_X9_265 mc_X9_isSheet ms_X9_isSheet ⟨rfl, rfl⟩ ⟨Nat.le_refl _, Nat.le_refl _⟩ rfl rfl rfl (fun x1 μ1 hc1 => ?_)
  obtain ⟨rfl, hm1⟩ := hc1
  rw [hm1]
  first | refine go_bz (tgt := 14) dX9_copy_4 rfl (fun h4 => ?_) (fun h4 => ?_) | refine go_if_eq (tgt := 14) dX9_copy_4 rfl (fun h4 => ?_) (fun h4 => ?_)
  ·
    refine go_ldc dX9_copy_14 kc_X9_85 rfl ?_
    exact go_ri dX9_copy_16 tyI ⟨Nat.le_refl _, Nat.le_refl _⟩ (⟨fun _ => ⟨rfl, rfl⟩, fun h => absurd h (by omega)⟩)
  ·
    refine go_iload_n dX9_copy_7 rfl ?_
    refine go_sI dX9_copy_8 (ct_X9_isSheet _) ml_X9_265 mc_X9_isSheet ms_X9_isSheet ⟨rfl, rfl⟩ ⟨Nat.le_refl _, Nat.le_refl _⟩ rfl rfl rfl (fun x8 μ8 hc8 => ?_)
    obtain ⟨rfl, hm8⟩ := hc8
    rw [hm8]
    first | refine go_bnz (tgt := 17) dX9_copy_11 rfl (fun h11 => ?_) (fun h11 => ?_) | refine go_if_ne (tgt := 17) dX9_copy_11 rfl (fun h11 => ?_) (fun h11 => ?_)
    ·
      refine go_aload_n dX9_copy_17 rfl ?_
      refine go_getR dX9_copy_18 fl_X9_56 (by first | assumption | exact Nat.le_of_ble_eq_true rfl) (by first | assumption | rfl) rfl (by first | assumption | rfl) ?_
      refine go_iload_n dX9_copy_21 rfl ?_
      refine go_sheets dX9_copy_22 (by omega) (by omega) (fun hj22_0 hj22_1 hj22_2 hj22_3 hj22_4 => ?_)
      have hSh1 : isSh (62 + 2 * fr.toNat) := by unfold isSh; omega
      have hsI1 := hS fr.toNat (by omega)
      refine go_astore dX9_copy_23 rfl ?_
      refine go_aload_n dX9_copy_25 rfl ?_
      refine go_getR dX9_copy_26 fl_X9_56 (by first | assumption | exact Nat.le_of_ble_eq_true rfl) (by first | assumption | rfl) rfl (by first | assumption | rfl) ?_
      refine go_iload_n dX9_copy_29 rfl ?_
      refine go_sheets dX9_copy_30 (by omega) (by omega) (fun hj30_0 hj30_1 hj30_2 hj30_3 hj30_4 => ?_)
      have hSh2 : isSh (62 + 2 * to.toNat) := by unfold isSh; omega
      have hsI2 := hS to.toNat (by omega)
      refine go_astore dX9_copy_31 rfl ?_
      refine go_aload dX9_copy_33 rfl ?_
      refine go_getI 0 dX9_copy_35 fl_X9_273 (by first | assumption | exact Nat.le_of_ble_eq_true rfl) (by first | assumption | rfl) rfl rfl ?_
      try simp (disch := omega) only [ud, ua_same, ua_ne, uf_same, uf_ne]
      refine go_iconst dX9_copy_38 rfl ?_
      refine go_icmp_eq (tgt := 51) dX9_copy_39 rfl (fun h39 => ?_) (fun h39 => ?_)
      ·
        refine go_ldcw dX9_copy_51 kc_X9_276 rfl ?_
        exact go_ri dX9_copy_54 tyI ⟨Nat.le_refl _, Nat.le_refl _⟩ (⟨fun h => absurd (by omega) h, fun _ => ⟨fun _ => ⟨rfl, rfl⟩, fun h => absurd (Or.inl h39) h⟩⟩)
      ·
        refine go_aload dX9_copy_42 rfl ?_
        refine go_getI 0 dX9_copy_44 fl_X9_273 (by first | assumption | exact Nat.le_of_ble_eq_true rfl) (by first | assumption | rfl) rfl rfl ?_
        try simp (disch := omega) only [ud, ua_same, ua_ne, uf_same, uf_ne]
        refine go_iconst dX9_copy_47 rfl ?_
        refine go_icmp_ne (tgt := 55) dX9_copy_48 rfl (fun h48 => ?_) (fun h48 => ?_)
        ·
          refine go_aload dX9_copy_55 rfl ?_
          refine go_getI 0 dX9_copy_57 fl_X9_273 (by first | assumption | exact Nat.le_of_ble_eq_true rfl) (by first | assumption | rfl) rfl rfl ?_
          try simp (disch := omega) only [ud, ua_same, ua_ne, uf_same, uf_ne]
          refine go_aload dX9_copy_60 rfl ?_
          refine go_getI 0 dX9_copy_62 fl_X9_273 (by first | assumption | exact Nat.le_of_ble_eq_true rfl) (by first | assumption | rfl) rfl rfl ?_
          try simp (disch := omega) only [ud, ua_same, ua_ne, uf_same, uf_ne]
          refine go_icmp_eq (tgt := 71) dX9_copy_65 rfl (fun h65 => ?_) (fun h65 => ?_)
          ·
            refine go_aload dX9_copy_71 rfl ?_
            refine go_iload_n dX9_copy_73 rfl ?_
            refine go_iload dX9_copy_74 rfl ?_
            refine go_vI (ci := 4) dX9_copy_76 (ct_X5_hasPlaces hSh1 _ _ hsI1.2) ml_X9_294 mc_X5_hasPlaces mv_X5_hasPlaces rfl (by first | assumption | exact Nat.le_of_ble_eq_true rfl) (by first | assumption | rfl) rfl ⟨rfl, rfl⟩ ⟨Nat.le_refl _, Nat.le_refl _⟩ rfl rfl rfl (fun x76 μ76 hc76 => ?_)
            obtain ⟨rfl, hm76⟩ := hc76
            rw [hm76]
            first | refine go_bz (tgt := 94) dX9_copy_79 rfl (fun h79 => ?_) (fun h79 => ?_) | refine go_if_eq (tgt := 94) dX9_copy_79 rfl (fun h79 => ?_) (fun h79 => ?_)
            ·
              refine go_ldcw dX9_copy_94 kc_X9_280 rfl ?_
              exact go_ri dX9_copy_97 tyI ⟨Nat.le_refl _, Nat.le_refl _⟩ (⟨fun h => absurd (by omega) h, fun _ => ⟨fun h => absurd h (fun e => e.elim h39 h48), fun _ => ⟨fun h => absurd h65 h, fun _ => ⟨fun _ => ⟨rfl, rfl⟩, fun h => absurd h.1 h79⟩⟩⟩⟩)
            ·
              refine go_aload dX9_copy_82 rfl ?_
              refine go_iload dX9_copy_84 rfl ?_
              refine go_iload dX9_copy_86 rfl ?_
              refine go_vI (ci := 4) dX9_copy_88 (ct_X5_hasPlaces hSh2 _ _ hsI2.2) ml_X9_294 mc_X5_hasPlaces mv_X5_hasPlaces rfl (by first | assumption | exact Nat.le_of_ble_eq_true rfl) (by first | assumption | rfl) rfl ⟨rfl, rfl⟩ ⟨Nat.le_refl _, Nat.le_refl _⟩ rfl rfl rfl (fun x88 μ88 hc88 => ?_)
              obtain ⟨rfl, hm88⟩ := hc88
              rw [hm88]
              first | refine go_bnz (tgt := 98) dX9_copy_91 rfl (fun h91 => ?_) (fun h91 => ?_) | refine go_if_ne (tgt := 98) dX9_copy_91 rfl (fun h91 => ?_) (fun h91 => ?_)
              ·
                refine go_aload dX9_copy_98 rfl ?_
                refine go_getR dX9_copy_100 fl_X9_281 (by first | assumption | exact Nat.le_of_ble_eq_true rfl) (by first | assumption | rfl) rfl (by first | assumption | rfl) ?_
                refine go_iload_n dX9_copy_103 rfl ?_
                refine go_aload dX9_copy_104 rfl ?_
                refine go_getR dX9_copy_106 fl_X9_281 (by first | assumption | exact Nat.le_of_ble_eq_true rfl) (by first | assumption | rfl) rfl (by first | assumption | rfl) ?_
                refine go_iload dX9_copy_109 rfl ?_
                refine go_iload dX9_copy_111 rfl ?_
                refine go_copy dX9_copy_113 aw_X9_297 rfl rfl (by first | assumption | exact Nat.le_of_ble_eq_true rfl) (by first | assumption | exact Nat.le_of_ble_eq_true rfl) (by first | assumption | rfl) (by first | assumption | rfl) (by omega) (by omega) (by omega) (by omega) (by omega) ?_
                refine go_iload dX9_copy_116 rfl ?_
                exact go_ri dX9_copy_118 tyI ⟨Nat.le_refl _, Nat.le_refl _⟩ (⟨fun h => absurd (by omega) h, fun _ => ⟨fun h => absurd h (fun e => e.elim h39 h48), fun _ => ⟨fun h => absurd h65 h, fun _ => ⟨fun h => absurd ⟨h79, h91⟩ h, fun _ => ⟨rfl, rfl⟩⟩⟩⟩⟩)
              ·
                refine go_ldcw dX9_copy_94 kc_X9_280 rfl ?_
                exact go_ri dX9_copy_97 tyI ⟨Nat.le_refl _, Nat.le_refl _⟩ (⟨fun h => absurd (by omega) h, fun _ => ⟨fun h => absurd h (fun e => e.elim h39 h48), fun _ => ⟨fun h => absurd h65 h, fun _ => ⟨fun _ => ⟨rfl, rfl⟩, fun h => absurd h.2 h91⟩⟩⟩⟩)
          ·
            refine go_ldc dX9_copy_68 kc_X9_123 rfl ?_
            exact go_ri dX9_copy_70 tyI ⟨Nat.le_refl _, Nat.le_refl _⟩ (⟨fun h => absurd (by omega) h, fun _ => ⟨fun h => absurd h (fun e => e.elim h39 h48), fun _ => ⟨fun _ => ⟨rfl, rfl⟩, fun h => absurd h h65⟩⟩⟩)
        ·
          refine go_ldcw dX9_copy_51 kc_X9_276 rfl ?_
          exact go_ri dX9_copy_54 tyI ⟨Nat.le_refl _, Nat.le_refl _⟩ (⟨fun h => absurd (by omega) h, fun _ => ⟨fun _ => ⟨rfl, rfl⟩, fun h => absurd (Or.inr h48) h⟩⟩)
    ·
      refine go_ldc dX9_copy_14 kc_X9_85 rfl ?_
      exact go_ri dX9_copy_16 tyI ⟨Nat.le_refl _, Nat.le_refl _⟩ (⟨fun _ => ⟨rfl, rfl⟩, fun h => absurd h (by omega)⟩)

set_option maxRecDepth 100000 in
set_option maxHeartbeats 4000000 in
theorem ct_X9_ask {l : Launch} {D : va_G} {cA : Nat → ClassId} {μ : Mem} (hL : slI μ) (sl kind : Int) : CtN l D cA yX9_ask cX9_ask 4 (some .int) 4 [vr 0, vi sl, vi kind] μ (Pi (fun x μ' => x = (if (0 ≤ sl ∧ sl ≤ 4) ∧ 0 ≤ kind ∧ kind ≤ 5 then (if μ (71 + 3 * sl.toNat) 0 = 0 then -1000000011 else if μ (71 + 3 * sl.toNat) 0 = 1 ∧ isUb (μ (71 + 3 * sl.toNat) 1) kind = true then kWorth (μ (71 + 3 * sl.toNat) 1) (μ (71 + 3 * sl.toNat) 2) (μ (71 + 3 * sl.toNat) 3) else -1000000012) else -1000000001) ∧ μ' = μ)) := by
  refine Ct.of (own := RX9) (by decide +kernel) rfl (fun σ => Nat.le_of_ble_eq_true rfl) (fun hM hP ha => ?_)
  obtain ⟨w0_0, w0_1, w0_2, w0_3, w0_4, w0_5, w0_6, w0_7, w0_8, w0_9, w1_0, w1_1, w32_1, w32_2, w32_3, w32_4, w32_5, w32_6, w39_1, w39_2, w39_3, w39_4, w39_5, w39_6, w46_1, w46_2, w46_3, w46_4, w46_5, w46_6, w56_0, w58_0, w58_1, w53_0, w53_1⟩ := ws_f
  refine go_iload_n dX9_ask_0 rfl ?_
  refine go_sI dX9_ask_1 (ct_X9_isSlot _) ml_X9_303 mc_X9_isSlot ms_X9_isSlot ⟨rfl, rfl⟩ ⟨Nat.le_refl _, Nat.le_refl _⟩ rfl rfl rfl (fun x1 μ1 hc1 => ?_)
  obtain ⟨rfl, hm1⟩ := hc1
  rw [hm1]
  first | refine go_bz (tgt := 14) dX9_ask_4 rfl (fun h4 => ?_) (fun h4 => ?_) | refine go_if_eq (tgt := 14) dX9_ask_4 rfl (fun h4 => ?_) (fun h4 => ?_)
  ·
    refine go_ldc dX9_ask_14 kc_X9_85 rfl ?_
    exact go_ri dX9_ask_16 tyI ⟨Nat.le_refl _, Nat.le_refl _⟩ (⟨by rw [if_neg (by omega)], rfl⟩)
  ·
    refine go_iload_n dX9_ask_7 rfl ?_
    refine go_sI dX9_ask_8 (ct_X0_isKind _) ml_X9_76 mc_X0_isKind ms_X0_isKind ⟨rfl, rfl⟩ ⟨Nat.le_refl _, Nat.le_refl _⟩ rfl rfl rfl (fun x8 μ8 hc8 => ?_)
    obtain ⟨rfl, hm8⟩ := hc8
    rw [hm8]
    first | refine go_bnz (tgt := 17) dX9_ask_11 rfl (fun h11 => ?_) (fun h11 => ?_) | refine go_if_ne (tgt := 17) dX9_ask_11 rfl (fun h11 => ?_) (fun h11 => ?_)
    ·
      refine go_aload_n dX9_ask_17 rfl ?_
      refine go_getR dX9_ask_18 fl_X9_63 (by first | assumption | exact Nat.le_of_ble_eq_true rfl) (by first | assumption | rfl) rfl (by first | assumption | rfl) ?_
      refine go_iload_n dX9_ask_21 rfl ?_
      refine go_slots dX9_ask_22 (by omega) (by omega) (fun hj22_0 hj22_1 hj22_2 hj22_3 hj22_4 hj22_5 hj22_6 hj22_7 => ?_)
      have hsl := hL sl.toNat (by omega)
      refine go_astore_n dX9_ask_23 rfl ?_
      refine go_aload_n dX9_ask_24 rfl ?_
      refine go_getI 0 dX9_ask_25 fl_X9_306 (by first | assumption | exact Nat.le_of_ble_eq_true rfl) (by first | assumption | rfl) rfl rfl ?_
      try simp (disch := omega) only [ud, ua_same, ua_ne, uf_same, uf_ne]
      first | refine go_bnz (tgt := 35) dX9_ask_28 rfl (fun h28 => ?_) (fun h28 => ?_) | refine go_if_ne (tgt := 35) dX9_ask_28 rfl (fun h28 => ?_) (fun h28 => ?_)
      ·
        refine go_aload_n dX9_ask_35 rfl ?_
        refine go_getI 0 dX9_ask_36 fl_X9_306 (by first | assumption | exact Nat.le_of_ble_eq_true rfl) (by first | assumption | rfl) rfl rfl ?_
        try simp (disch := omega) only [ud, ua_same, ua_ne, uf_same, uf_ne]
        refine go_iconst dX9_ask_39 rfl ?_
        refine go_icmp_ne (tgt := 54) dX9_ask_40 rfl (fun h40 => ?_) (fun h40 => ?_)
        ·
          refine go_ldc dX9_ask_54 kc_X9_123 rfl ?_
          exact go_ri dX9_ask_56 tyI ⟨Nat.le_refl _, Nat.le_refl _⟩ (⟨by rw [if_pos (by omega), if_neg h28, if_neg (fun e => h40 e.1)], rfl⟩)
        ·
          have hs1 := hsl.2.1 (by omega)
          refine go_aload_n dX9_ask_43 rfl ?_
          refine go_getI 1 dX9_ask_44 fl_X9_309 (by first | assumption | exact Nat.le_of_ble_eq_true rfl) (by first | assumption | rfl) rfl rfl ?_
          try simp (disch := omega) only [ud, ua_same, ua_ne, uf_same, uf_ne]
          refine go_iload_n dX9_ask_47 rfl ?_
          refine go_sI dX9_ask_48 (ct_X0_isUnder _ _ hs1.1.1 hs1.1.2 (by omega) (by omega)) ml_X9_119 mc_X0_isUnder ms_X0_isUnder ⟨rfl, rfl⟩ ⟨Nat.le_refl _, Nat.le_refl _⟩ rfl rfl rfl (fun x48 μ48 hc48 => ?_)
          obtain ⟨rfl, hm48⟩ := hc48
          rw [hm48]
          first | refine go_bnz (tgt := 57) dX9_ask_51 rfl (fun h51 => ?_) (fun h51 => ?_) | refine go_if_ne (tgt := 57) dX9_ask_51 rfl (fun h51 => ?_) (fun h51 => ?_)
          ·
            refine go_aload_n dX9_ask_57 rfl ?_
            refine go_getI 1 dX9_ask_58 fl_X9_309 (by first | assumption | exact Nat.le_of_ble_eq_true rfl) (by first | assumption | rfl) rfl rfl ?_
            try simp (disch := omega) only [ud, ua_same, ua_ne, uf_same, uf_ne]
            refine go_aload_n dX9_ask_61 rfl ?_
            refine go_getI 2 dX9_ask_62 fl_X9_312 (by first | assumption | exact Nat.le_of_ble_eq_true rfl) (by first | assumption | rfl) rfl rfl ?_
            try simp (disch := omega) only [ud, ua_same, ua_ne, uf_same, uf_ne]
            refine go_aload_n dX9_ask_65 rfl ?_
            refine go_getI 3 dX9_ask_66 fl_X9_315 (by first | assumption | exact Nat.le_of_ble_eq_true rfl) (by first | assumption | rfl) rfl rfl ?_
            try simp (disch := omega) only [ud, ua_same, ua_ne, uf_same, uf_ne]
            refine go_sI dX9_ask_69 (ct_X0_worth _ _ _ hs1.2.1.1 hs1.2.1.2 hs1.2.2.1 hs1.2.2.2) ml_X9_116 mc_X0_worth ms_X0_worth ⟨rfl, rfl⟩ ⟨Nat.le_refl _, Nat.le_refl _⟩ rfl rfl rfl (fun x69 μ69 hc69 => ?_)
            obtain ⟨rfl, hm69⟩ := hc69
            rw [hm69]
            exact go_ri dX9_ask_72 tyI ⟨Nat.le_refl _, Nat.le_refl _⟩ (⟨by rw [if_pos (by omega), if_neg h28, if_pos ⟨h40, h51⟩], rfl⟩)
          ·
            refine go_ldc dX9_ask_54 kc_X9_123 rfl ?_
            exact go_ri dX9_ask_56 tyI ⟨Nat.le_refl _, Nat.le_refl _⟩ (⟨by rw [if_pos (by omega), if_neg h28, if_neg (fun e => h51 e.2)], rfl⟩)
      ·
        refine go_ldcw dX9_ask_31 kc_X9_276 rfl ?_
        exact go_ri dX9_ask_34 tyI ⟨Nat.le_refl _, Nat.le_refl _⟩ (⟨by rw [if_pos (by omega), if_pos h28], rfl⟩)
    ·
      refine go_ldc dX9_ask_14 kc_X9_85 rfl ?_
      exact go_ri dX9_ask_16 tyI ⟨Nat.le_refl _, Nat.le_refl _⟩ (⟨by rw [if_neg (by omega)], rfl⟩)

set_option maxRecDepth 100000 in
set_option maxHeartbeats 4000000 in
theorem ct_X9_item {l : Launch} {D : va_G} {cA : Nat → ClassId} {μ : Mem} (hL : slI μ) (sl q : Int) : CtN l D cA yX9_item cX9_item 4 (some .int) 3 [vr 0, vi sl, vi q] μ (Pi (fun x μ' => x = (if 0 ≤ sl ∧ sl ≤ 4 then (if μ (71 + 3 * sl.toNat) 0 = 0 then -1000000011 else if μ (71 + 3 * sl.toNat) 0 = 2 then (if 0 ≤ q ∧ q ≤ μ ((71 + 3 * sl.toNat) + 1) 1 - 1 then (if μ ((71 + 3 * sl.toNat) + 1 + 1) q = -1000000005 then -1000000012 else μ ((71 + 3 * sl.toNat) + 1 + 1) q) else -1000000013) else -1000000012) else -1000000001) ∧ μ' = μ)) := by
  refine Ct.of (own := RX9) (by decide +kernel) rfl (fun σ => Nat.le_of_ble_eq_true rfl) (fun hM hP ha => ?_)
  obtain ⟨w0_0, w0_1, w0_2, w0_3, w0_4, w0_5, w0_6, w0_7, w0_8, w0_9, w1_0, w1_1, w32_1, w32_2, w32_3, w32_4, w32_5, w32_6, w39_1, w39_2, w39_3, w39_4, w39_5, w39_6, w46_1, w46_2, w46_3, w46_4, w46_5, w46_6, w56_0, w58_0, w58_1, w53_0, w53_1⟩ := ws_f
  refine go_iload_n dX9_item_0 rfl ?_
  refine go_sI dX9_item_1 (ct_X9_isSlot _) ml_X9_303 mc_X9_isSlot ms_X9_isSlot ⟨rfl, rfl⟩ ⟨Nat.le_refl _, Nat.le_refl _⟩ rfl rfl rfl (fun x1 μ1 hc1 => ?_)
  obtain ⟨rfl, hm1⟩ := hc1
  rw [hm1]
  first | refine go_bnz (tgt := 10) dX9_item_4 rfl (fun h4 => ?_) (fun h4 => ?_) | refine go_if_ne (tgt := 10) dX9_item_4 rfl (fun h4 => ?_) (fun h4 => ?_)
  ·
    refine go_aload_n dX9_item_10 rfl ?_
    refine go_getR dX9_item_11 fl_X9_63 (by first | assumption | exact Nat.le_of_ble_eq_true rfl) (by first | assumption | rfl) rfl (by first | assumption | rfl) ?_
    refine go_iload_n dX9_item_14 rfl ?_
    refine go_slots dX9_item_15 (by omega) (by omega) (fun hj15_0 hj15_1 hj15_2 hj15_3 hj15_4 hj15_5 hj15_6 hj15_7 => ?_)
    have hsl := hL sl.toNat (by omega)
    have hSh : isSh (71 + 3 * sl.toNat + 1) := by unfold isSh; omega
    refine go_astore_n dX9_item_16 rfl ?_
    refine go_aload_n dX9_item_17 rfl ?_
    refine go_getI 0 dX9_item_18 fl_X9_306 (by first | assumption | exact Nat.le_of_ble_eq_true rfl) (by first | assumption | rfl) rfl rfl ?_
    try simp (disch := omega) only [ud, ua_same, ua_ne, uf_same, uf_ne]
    first | refine go_bnz (tgt := 28) dX9_item_21 rfl (fun h21 => ?_) (fun h21 => ?_) | refine go_if_ne (tgt := 28) dX9_item_21 rfl (fun h21 => ?_) (fun h21 => ?_)
    ·
      refine go_aload_n dX9_item_28 rfl ?_
      refine go_getI 0 dX9_item_29 fl_X9_306 (by first | assumption | exact Nat.le_of_ble_eq_true rfl) (by first | assumption | rfl) rfl rfl ?_
      try simp (disch := omega) only [ud, ua_same, ua_ne, uf_same, uf_ne]
      refine go_iconst dX9_item_32 rfl ?_
      refine go_icmp_eq (tgt := 39) dX9_item_33 rfl (fun h33 => ?_) (fun h33 => ?_)
      ·
        have hs2 := hsl.2.2 h33
        refine go_aload_n dX9_item_39 rfl ?_
        refine go_getR dX9_item_40 fl_X9_318 (by first | assumption | exact Nat.le_of_ble_eq_true rfl) (by first | assumption | rfl) rfl (by first | assumption | rfl) ?_
        refine go_iload_n dX9_item_43 rfl ?_
        refine go_vI (ci := 4) dX9_item_44 (ct_X5_hasPlace hSh _ hs2) ml_X9_277 mc_X5_hasPlace mv_X5_hasPlace rfl (by first | assumption | exact Nat.le_of_ble_eq_true rfl) (by first | assumption | rfl) rfl ⟨rfl, rfl⟩ ⟨Nat.le_refl _, Nat.le_refl _⟩ rfl rfl rfl (fun x44 μ44 hc44 => ?_)
        obtain ⟨rfl, hm44⟩ := hc44
        rw [hm44]
        first | refine go_bnz (tgt := 54) dX9_item_47 rfl (fun h47 => ?_) (fun h47 => ?_) | refine go_if_ne (tgt := 54) dX9_item_47 rfl (fun h47 => ?_) (fun h47 => ?_)
        ·
          refine go_aload_n dX9_item_54 rfl ?_
          refine go_getR dX9_item_55 fl_X9_318 (by first | assumption | exact Nat.le_of_ble_eq_true rfl) (by first | assumption | rfl) rfl (by first | assumption | rfl) ?_
          refine go_iload_n dX9_item_58 rfl ?_
          refine go_vI (ci := 4) dX9_item_59 (ct_X5_isNumber hSh _ (by omega)) ml_X9_288 mc_X5_isNumber mv_X5_isNumber rfl (by first | assumption | exact Nat.le_of_ble_eq_true rfl) (by first | assumption | rfl) rfl ⟨rfl, rfl⟩ ⟨Nat.le_refl _, Nat.le_refl _⟩ rfl rfl rfl (fun x59 μ59 hc59 => ?_)
          obtain ⟨rfl, hm59⟩ := hc59
          rw [hm59]
          first | refine go_bz (tgt := 77) dX9_item_62 rfl (fun h62 => ?_) (fun h62 => ?_) | refine go_if_eq (tgt := 77) dX9_item_62 rfl (fun h62 => ?_) (fun h62 => ?_)
          ·
            refine go_ldc dX9_item_77 kc_X9_123 rfl ?_
            exact go_ri dX9_item_79 tyI ⟨Nat.le_refl _, Nat.le_refl _⟩ (⟨by rw [if_pos h4, if_neg h21, if_pos h33, if_pos h47, if_pos (by omega)], rfl⟩)
          ·
            refine go_aload_n dX9_item_65 rfl ?_
            refine go_getR dX9_item_66 fl_X9_318 (by first | assumption | exact Nat.le_of_ble_eq_true rfl) (by first | assumption | rfl) rfl (by first | assumption | rfl) ?_
            refine go_getR dX9_item_69 fl_X9_281 (by first | assumption | exact Nat.le_of_ble_eq_true rfl) (by first | assumption | rfl) rfl (by first | assumption | rfl) ?_
            refine go_iload_n dX9_item_72 rfl ?_
            refine go_iaload dX9_item_73 (by first | assumption | exact Nat.le_of_ble_eq_true rfl) (by first | assumption | rfl) (by omega) (by omega) ?_
            try simp (disch := omega) only [ud, ua_same, ua_ne, uf_same, uf_ne]
            refine go_goto (tgt := 79) dX9_item_74 rfl ?_
            exact go_ri dX9_item_79 tyI ⟨Nat.le_refl _, Nat.le_refl _⟩ (⟨by rw [if_pos h4, if_neg h21, if_pos h33, if_pos h47, if_neg h62], rfl⟩)
        ·
          refine go_ldcw dX9_item_50 kc_X9_280 rfl ?_
          exact go_ri dX9_item_53 tyI ⟨Nat.le_refl _, Nat.le_refl _⟩ (⟨by rw [if_pos h4, if_neg h21, if_pos h33, if_neg h47], rfl⟩)
      ·
        refine go_ldc dX9_item_36 kc_X9_123 rfl ?_
        exact go_ri dX9_item_38 tyI ⟨Nat.le_refl _, Nat.le_refl _⟩ (⟨by rw [if_pos h4, if_neg h21, if_neg h33], rfl⟩)
    ·
      refine go_ldcw dX9_item_24 kc_X9_276 rfl ?_
      exact go_ri dX9_item_27 tyI ⟨Nat.le_refl _, Nat.le_refl _⟩ (⟨by rw [if_pos h4, if_pos h21], rfl⟩)
  ·
    refine go_ldc dX9_item_7 kc_X9_85 rfl ?_
    exact go_ri dX9_item_9 tyI ⟨Nat.le_refl _, Nat.le_refl _⟩ (⟨by rw [if_neg h4], rfl⟩)

set_option maxRecDepth 100000 in
set_option maxHeartbeats 4000000 in
theorem ct_X9_rest {l : Launch} {D : va_G} {cA : Nat → ClassId} {μ : Mem} (hL : slI μ) (sl n : Int) : CtN l D cA yX9_rest cX9_rest 4 (some .int) 3 [vr 0, vi sl, vi n] μ (Pi (fun x μ' => x = (if 0 ≤ sl ∧ sl ≤ 4 then (if μ (71 + 3 * sl.toNat) 0 = 0 then -1000000011 else if μ (71 + 3 * sl.toNat) 0 = 3 then (if n = 0 then -1000000002 else wr (Int.tmod (μ (71 + 3 * sl.toNat) 4) n)) else -1000000012) else -1000000001) ∧ μ' = μ)) := by
  refine Ct.of (own := RX9) (by decide +kernel) rfl (fun σ => Nat.le_of_ble_eq_true rfl) (fun hM hP ha => ?_)
  obtain ⟨w0_0, w0_1, w0_2, w0_3, w0_4, w0_5, w0_6, w0_7, w0_8, w0_9, w1_0, w1_1, w32_1, w32_2, w32_3, w32_4, w32_5, w32_6, w39_1, w39_2, w39_3, w39_4, w39_5, w39_6, w46_1, w46_2, w46_3, w46_4, w46_5, w46_6, w56_0, w58_0, w58_1, w53_0, w53_1⟩ := ws_f
  refine go_iload_n dX9_rest_0 rfl ?_
  refine go_sI dX9_rest_1 (ct_X9_isSlot _) ml_X9_303 mc_X9_isSlot ms_X9_isSlot ⟨rfl, rfl⟩ ⟨Nat.le_refl _, Nat.le_refl _⟩ rfl rfl rfl (fun x1 μ1 hc1 => ?_)
  obtain ⟨rfl, hm1⟩ := hc1
  rw [hm1]
  first | refine go_bnz (tgt := 10) dX9_rest_4 rfl (fun h4 => ?_) (fun h4 => ?_) | refine go_if_ne (tgt := 10) dX9_rest_4 rfl (fun h4 => ?_) (fun h4 => ?_)
  ·
    refine go_aload_n dX9_rest_10 rfl ?_
    refine go_getR dX9_rest_11 fl_X9_63 (by first | assumption | exact Nat.le_of_ble_eq_true rfl) (by first | assumption | rfl) rfl (by first | assumption | rfl) ?_
    refine go_iload_n dX9_rest_14 rfl ?_
    refine go_slots dX9_rest_15 (by omega) (by omega) (fun hj15_0 hj15_1 hj15_2 hj15_3 hj15_4 hj15_5 hj15_6 hj15_7 => ?_)
    have hsl := hL sl.toNat (by omega)
    refine go_astore_n dX9_rest_16 rfl ?_
    refine go_aload_n dX9_rest_17 rfl ?_
    refine go_getI 0 dX9_rest_18 fl_X9_306 (by first | assumption | exact Nat.le_of_ble_eq_true rfl) (by first | assumption | rfl) rfl rfl ?_
    try simp (disch := omega) only [ud, ua_same, ua_ne, uf_same, uf_ne]
    first | refine go_bnz (tgt := 28) dX9_rest_21 rfl (fun h21 => ?_) (fun h21 => ?_) | refine go_if_ne (tgt := 28) dX9_rest_21 rfl (fun h21 => ?_) (fun h21 => ?_)
    ·
      refine go_aload_n dX9_rest_28 rfl ?_
      refine go_getI 0 dX9_rest_29 fl_X9_306 (by first | assumption | exact Nat.le_of_ble_eq_true rfl) (by first | assumption | rfl) rfl rfl ?_
      try simp (disch := omega) only [ud, ua_same, ua_ne, uf_same, uf_ne]
      refine go_iconst dX9_rest_32 rfl ?_
      refine go_icmp_eq (tgt := 39) dX9_rest_33 rfl (fun h33 => ?_) (fun h33 => ?_)
      ·
        refine go_iload_n dX9_rest_39 rfl ?_
        first | refine go_bnz (tgt := 48) dX9_rest_40 rfl (fun h40 => ?_) (fun h40 => ?_) | refine go_if_ne (tgt := 48) dX9_rest_40 rfl (fun h40 => ?_) (fun h40 => ?_)
        ·
          refine go_aload_n dX9_rest_48 rfl ?_
          refine go_getI 4 dX9_rest_49 fl_X9_325 (by first | assumption | exact Nat.le_of_ble_eq_true rfl) (by first | assumption | rfl) rfl rfl ?_
          try simp (disch := omega) only [ud, ua_same, ua_ne, uf_same, uf_ne]
          refine go_iload_n dX9_rest_52 rfl ?_
          refine go_iremw dX9_rest_53 (by omega) ?_
          exact go_ri dX9_rest_54 tyI ⟨Nat.le_refl _, Nat.le_refl _⟩ (⟨by rw [if_pos h4, if_neg h21, if_pos h33, if_neg h40], rfl⟩)
        ·
          refine go_ldc dX9_rest_43 kc_X9_169 rfl ?_
          refine go_goto (tgt := 54) dX9_rest_45 rfl ?_
          exact go_ri dX9_rest_54 tyI ⟨Nat.le_refl _, Nat.le_refl _⟩ (⟨by rw [if_pos h4, if_neg h21, if_pos h33, if_pos h40], rfl⟩)
      ·
        refine go_ldc dX9_rest_36 kc_X9_123 rfl ?_
        exact go_ri dX9_rest_38 tyI ⟨Nat.le_refl _, Nat.le_refl _⟩ (⟨by rw [if_pos h4, if_neg h21, if_neg h33], rfl⟩)
    ·
      refine go_ldcw dX9_rest_24 kc_X9_276 rfl ?_
      exact go_ri dX9_rest_27 tyI ⟨Nat.le_refl _, Nat.le_refl _⟩ (⟨by rw [if_pos h4, if_pos h21], rfl⟩)
  ·
    refine go_ldc dX9_rest_7 kc_X9_85 rfl ?_
    exact go_ri dX9_rest_9 tyI ⟨Nat.le_refl _, Nat.le_refl _⟩ (⟨by rw [if_neg h4], rfl⟩)

set_option maxRecDepth 100000 in
set_option maxHeartbeats 4000000 in
theorem ct_X9_lay {l : Launch} {D : va_G} {cA : Nat → ClassId} {μ : Mem} (hI : mtI μ 32) (sl th k : Int) : CtN l D cA yX9_lay cX9_lay 6 (some .int) 3 [vr 0, vi sl, vi th, vi k] μ (Pi (fun x μ' => (¬ ((0 ≤ sl ∧ sl ≤ 4) ∧ (0 ≤ th ∧ th ≤ 3) ∧ (th = 1 → 0 ≤ k ∧ k ≤ 29) ∧ (th = 2 → 0 ≤ k ∧ k ≤ 3)) → x = -1000000001 ∧ μ' = μ) ∧ (((0 ≤ sl ∧ sl ≤ 4) ∧ (0 ≤ th ∧ th ≤ 3) ∧ (th = 1 → 0 ≤ k ∧ k ≤ 29) ∧ (th = 2 → 0 ≤ k ∧ k ≤ 3)) → ((th = 2 ∧ μ (62 + 2 * k.toNat) 0 = -1) → x = -1000000011 ∧ μ' = μ) ∧ (¬ (th = 2 ∧ μ (62 + 2 * k.toNat) 0 = -1) → x = μ (71 + 3 * sl.toNat) 0 ∧ (th = 0 → μ' = ud μ (71 + 3 * sl.toNat) 0 0) ∧ (th = 1 → μ' = ud (ud (ud (ud μ (71 + 3 * sl.toNat) 0 1) (71 + 3 * sl.toNat) 1 (μ 33 k)) (71 + 3 * sl.toNat) 2 (μ 34 k)) (71 + 3 * sl.toNat) 3 (μ 35 k)) ∧ (th = 2 → μ' (71 + 3 * sl.toNat) = uf (μ (71 + 3 * sl.toNat)) 0 2 ∧ μ' ((71 + 3 * sl.toNat) + 1) 1 = μ (62 + 2 * k.toNat) 1 ∧ (∀ q, 0 ≤ q → q < 24 → μ' ((71 + 3 * sl.toNat) + 1 + 1) q = μ ((62 + 2 * k.toNat) + 1) q) ∧ ∀ q, q ≠ (71 + 3 * sl.toNat) → q ≠ (71 + 3 * sl.toNat) + 1 → q ≠ (71 + 3 * sl.toNat) + 1 + 1 → μ' q = μ q) ∧ (th = 3 → μ' = ud (ud μ (71 + 3 * sl.toNat) 0 3) (71 + 3 * sl.toNat) 4 k))))) := by
  refine Ct.of (own := RX9) (by decide +kernel) rfl (fun σ => Nat.le_of_ble_eq_true rfl) (fun hM hP ha => ?_)
  obtain ⟨w0_0, w0_1, w0_2, w0_3, w0_4, w0_5, w0_6, w0_7, w0_8, w0_9, w1_0, w1_1, w32_1, w32_2, w32_3, w32_4, w32_5, w32_6, w39_1, w39_2, w39_3, w39_4, w39_5, w39_6, w46_1, w46_2, w46_3, w46_4, w46_5, w46_6, w56_0, w58_0, w58_1, w53_0, w53_1⟩ := ws_f
  have hMt : isMt 32 := Or.inl rfl
  obtain ⟨iK, iS, iL, iT, iTn, iD, iH, iF, iX, iW⟩ := id hI
  simp only [Nat.reduceAdd] at iK iS iL iT
  refine go_iload_n dX9_lay_0 rfl ?_
  refine go_sI dX9_lay_1 (ct_X9_isSlot _) ml_X9_303 mc_X9_isSlot ms_X9_isSlot ⟨rfl, rfl⟩ ⟨Nat.le_refl _, Nat.le_refl _⟩ rfl rfl rfl (fun x1 μ1 hc1 => ?_)
  obtain ⟨rfl, hm1⟩ := hc1
  rw [hm1]
  first | refine go_bz (tgt := 40) dX9_lay_4 rfl (fun h4 => ?_) (fun h4 => ?_) | refine go_if_eq (tgt := 40) dX9_lay_4 rfl (fun h4 => ?_) (fun h4 => ?_)
  ·
    refine go_ldc dX9_lay_40 kc_X9_85 rfl ?_
    exact go_ri dX9_lay_42 tyI ⟨Nat.le_refl _, Nat.le_refl _⟩ (⟨fun _ => ⟨rfl, rfl⟩, fun h => absurd h (by omega)⟩)
  ·
    refine go_iload_n dX9_lay_7 rfl ?_
    refine go_iconst dX9_lay_8 rfl ?_
    refine go_iconst dX9_lay_9 rfl ?_
    refine go_sI dX9_lay_10 (ct_X9_isWithin _ _ _) ml_X9_81 mc_X9_isWithin ms_X9_isWithin ⟨rfl, rfl⟩ ⟨Nat.le_refl _, Nat.le_refl _⟩ rfl rfl rfl (fun x10 μ10 hc10 => ?_)
    obtain ⟨rfl, hm10⟩ := hc10
    rw [hm10]
    first | refine go_bz (tgt := 40) dX9_lay_13 rfl (fun h13 => ?_) (fun h13 => ?_) | refine go_if_eq (tgt := 40) dX9_lay_13 rfl (fun h13 => ?_) (fun h13 => ?_)
    ·
      refine go_ldc dX9_lay_40 kc_X9_85 rfl ?_
      exact go_ri dX9_lay_42 tyI ⟨Nat.le_refl _, Nat.le_refl _⟩ (⟨fun _ => ⟨rfl, rfl⟩, fun h => absurd h (by omega)⟩)
    ·
      refine go_iload_n dX9_lay_16 rfl ?_
      refine go_iconst dX9_lay_17 rfl ?_
      refine go_icmp_ne (tgt := 28) dX9_lay_18 rfl (fun h18 => ?_) (fun h18 => ?_)
      ·
        refine go_iload_n dX9_lay_28 rfl ?_
        refine go_iconst dX9_lay_29 rfl ?_
        refine go_icmp_ne (tgt := 43) dX9_lay_30 rfl (fun h30 => ?_) (fun h30 => ?_)
        ·
          refine go_iload_n dX9_lay_43 rfl ?_
          refine go_iconst dX9_lay_44 rfl ?_
          refine go_icmp_ne (tgt := 65) dX9_lay_45 rfl (fun h45 => ?_) (fun h45 => ?_)
          ·
            refine go_aload_n dX9_lay_65 rfl ?_
            refine go_getR dX9_lay_66 fl_X9_63 (by first | assumption | exact Nat.le_of_ble_eq_true rfl) (by first | assumption | rfl) rfl (by first | assumption | rfl) ?_
            refine go_iload_n dX9_lay_69 rfl ?_
            refine go_slots dX9_lay_70 (by omega) (by omega) (fun hj70_0 hj70_1 hj70_2 hj70_3 hj70_4 hj70_5 hj70_6 hj70_7 => ?_)
            refine go_astore dX9_lay_71 rfl ?_
            refine go_aload dX9_lay_73 rfl ?_
            refine go_getI 0 dX9_lay_75 fl_X9_306 (by first | assumption | exact Nat.le_of_ble_eq_true rfl) (by first | assumption | rfl) rfl rfl ?_
            try simp (disch := omega) only [ud, ua_same, ua_ne, uf_same, uf_ne]
            refine go_istore dX9_lay_78 rfl ?_
            refine go_aload dX9_lay_80 rfl ?_
            refine go_iload_n dX9_lay_82 rfl ?_
            refine go_putI 0 dX9_lay_83 pl_X9_306 (by first | assumption | exact Nat.le_of_ble_eq_true rfl) (by first | assumption | rfl) rfl rfl ?_
            refine go_iload_n dX9_lay_86 rfl ?_
            refine go_iconst dX9_lay_87 rfl ?_
            refine go_icmp_ne (tgt := 136) dX9_lay_88 rfl (fun h88 => ?_) (fun h88 => ?_)
            ·
              refine go_iload_n dX9_lay_136 rfl ?_
              refine go_iconst dX9_lay_137 rfl ?_
              refine go_icmp_ne (tgt := 158) dX9_lay_138 rfl (fun h138 => ?_) (fun h138 => ?_)
              ·
                refine go_iload_n dX9_lay_158 rfl ?_
                refine go_iconst dX9_lay_159 rfl ?_
                refine go_icmp_ne (tgt := 169) dX9_lay_160 rfl (fun h160 => ?_) (fun h160 => ?_)
                ·
                  refine go_iload dX9_lay_169 rfl ?_
                  exact go_ri dX9_lay_171 tyI ⟨Nat.le_refl _, Nat.le_refl _⟩ (⟨fun h => absurd (by omega) h, fun _ => ⟨fun h => absurd h.1 h45, fun _ => ⟨rfl, fun h => by rw [h], fun h => absurd h (by omega), fun h => absurd h (by omega), fun h => absurd h (by omega)⟩⟩⟩)
                ·
                  refine go_aload dX9_lay_163 rfl ?_
                  refine go_iload_n dX9_lay_165 rfl ?_
                  refine go_putI 4 dX9_lay_166 pl_X9_325 (by first | assumption | exact Nat.le_of_ble_eq_true rfl) (by first | assumption | rfl) rfl rfl ?_
                  refine go_iload dX9_lay_169 rfl ?_
                  exact go_ri dX9_lay_171 tyI ⟨Nat.le_refl _, Nat.le_refl _⟩ (⟨fun h => absurd (by omega) h, fun _ => ⟨fun h => absurd h.1 h45, fun _ => ⟨rfl, fun h => absurd h (by omega), fun h => absurd h (by omega), fun h => absurd h (by omega), fun _ => by subst h160; simp (disch := omega) only [ud, ua_same, ua_ne, uf_same, uf_ne]⟩⟩⟩)
              ·
                refine go_aload dX9_lay_141 rfl ?_
                refine go_getR dX9_lay_143 fl_X9_318 (by first | assumption | exact Nat.le_of_ble_eq_true rfl) (by first | assumption | rfl) rfl (by first | assumption | rfl) ?_
                refine go_aload_n dX9_lay_146 rfl ?_
                refine go_getR dX9_lay_147 fl_X9_56 (by first | assumption | exact Nat.le_of_ble_eq_true rfl) (by first | assumption | rfl) rfl (by first | assumption | rfl) ?_
                refine go_iload_n dX9_lay_150 rfl ?_
                refine go_sheets dX9_lay_151 (by omega) (by omega) (fun hj151_0 hj151_1 hj151_2 hj151_3 hj151_4 => ?_)
                refine go_vV (ci := 4) dX9_lay_152 (ct_X5_become (j := (71 + 3 * sl.toNat) + 1) (i := (62 + 2 * k.toNat)) (by unfold isSh; omega) (by unfold isSh; omega) (by omega) (by omega) (by omega)) ml_X9_322 mc_X5_become mv_X5_become rfl (by first | assumption | exact Nat.le_of_ble_eq_true rfl) (by first | assumption | rfl) rfl ⟨rfl, rfl⟩ ⟨Nat.le_refl _, Nat.le_refl _⟩ rfl rfl rfl (fun μ152 hc152 => ?_)
                have hb152 := hc152
                refine go_goto (tgt := 169) dX9_lay_155 rfl ?_
                refine go_iload dX9_lay_169 rfl ?_
                exact go_ri dX9_lay_171 tyI ⟨Nat.le_refl _, Nat.le_refl _⟩ (⟨fun h => absurd (by omega) h, fun _ => ⟨fun h => absurd h.1 h45, fun _ => ⟨rfl, fun h => absurd h (by omega), fun h => absurd h (by omega), fun _ => ⟨by rw [hb152.2.2.2 _ (by omega) (by omega), ud_s, h138], by rw [hb152.2.1, ud_n (by omega)], fun q a b => by rw [hb152.2.2.1 q a b, ud_n (by omega)], fun q a b c => by rw [hb152.2.2.2 q b c, ud_n a]⟩, fun h => absurd h (by omega)⟩⟩⟩)
            ·
              refine go_aload dX9_lay_91 rfl ?_
              refine go_aload_n dX9_lay_93 rfl ?_
              refine go_getR dX9_lay_94 fl_X9_21 (by first | assumption | exact Nat.le_of_ble_eq_true rfl) (by first | assumption | rfl) rfl (by first | assumption | rfl) ?_
              refine go_getR dX9_lay_97 fl_X9_86 (by first | assumption | exact Nat.le_of_ble_eq_true rfl) (by first | assumption | rfl) rfl (by first | assumption | rfl) ?_
              refine go_iload_n dX9_lay_100 rfl ?_
              refine go_iaload dX9_lay_101 (by first | assumption | exact Nat.le_of_ble_eq_true rfl) (by first | assumption | rfl) (by omega) (by omega) ?_
              try simp (disch := omega) only [ud, ua_same, ua_ne, uf_same, uf_ne]
              refine go_putI 1 dX9_lay_102 pl_X9_309 (by first | assumption | exact Nat.le_of_ble_eq_true rfl) (by first | assumption | rfl) rfl rfl ?_
              refine go_aload dX9_lay_105 rfl ?_
              refine go_aload_n dX9_lay_107 rfl ?_
              refine go_getR dX9_lay_108 fl_X9_21 (by first | assumption | exact Nat.le_of_ble_eq_true rfl) (by first | assumption | rfl) rfl (by first | assumption | rfl) ?_
              refine go_getR dX9_lay_111 fl_X9_89 (by first | assumption | exact Nat.le_of_ble_eq_true rfl) (by first | assumption | rfl) rfl (by first | assumption | rfl) ?_
              refine go_iload_n dX9_lay_114 rfl ?_
              refine go_iaload dX9_lay_115 (by first | assumption | exact Nat.le_of_ble_eq_true rfl) (by first | assumption | rfl) (by omega) (by omega) ?_
              try simp (disch := omega) only [ud, ua_same, ua_ne, uf_same, uf_ne]
              refine go_putI 2 dX9_lay_116 pl_X9_312 (by first | assumption | exact Nat.le_of_ble_eq_true rfl) (by first | assumption | rfl) rfl rfl ?_
              refine go_aload dX9_lay_119 rfl ?_
              refine go_aload_n dX9_lay_121 rfl ?_
              refine go_getR dX9_lay_122 fl_X9_21 (by first | assumption | exact Nat.le_of_ble_eq_true rfl) (by first | assumption | rfl) rfl (by first | assumption | rfl) ?_
              refine go_getR dX9_lay_125 fl_X9_92 (by first | assumption | exact Nat.le_of_ble_eq_true rfl) (by first | assumption | rfl) rfl (by first | assumption | rfl) ?_
              refine go_iload_n dX9_lay_128 rfl ?_
              refine go_iaload dX9_lay_129 (by first | assumption | exact Nat.le_of_ble_eq_true rfl) (by first | assumption | rfl) (by omega) (by omega) ?_
              try simp (disch := omega) only [ud, ua_same, ua_ne, uf_same, uf_ne]
              refine go_putI 3 dX9_lay_130 pl_X9_315 (by first | assumption | exact Nat.le_of_ble_eq_true rfl) (by first | assumption | rfl) rfl rfl ?_
              refine go_goto (tgt := 169) dX9_lay_133 rfl ?_
              refine go_iload dX9_lay_169 rfl ?_
              exact go_ri dX9_lay_171 tyI ⟨Nat.le_refl _, Nat.le_refl _⟩ (⟨fun h => absurd (by omega) h, fun _ => ⟨fun h => absurd h.1 h45, fun _ => ⟨rfl, fun h => absurd h (by omega), fun _ => by subst h88; simp (disch := omega) only [ud, ua_same, ua_ne, uf_same, uf_ne], fun h => absurd h (by omega), fun h => absurd h (by omega)⟩⟩⟩)
          ·
            refine go_aload_n dX9_lay_48 rfl ?_
            refine go_getR dX9_lay_49 fl_X9_56 (by first | assumption | exact Nat.le_of_ble_eq_true rfl) (by first | assumption | rfl) rfl (by first | assumption | rfl) ?_
            refine go_iload_n dX9_lay_52 rfl ?_
            refine go_sheets dX9_lay_53 (by omega) (by omega) (fun hj53_0 hj53_1 hj53_2 hj53_3 hj53_4 => ?_)
            refine go_getI 0 dX9_lay_54 fl_X9_273 (by first | assumption | exact Nat.le_of_ble_eq_true rfl) (by first | assumption | rfl) rfl rfl ?_
            try simp (disch := omega) only [ud, ua_same, ua_ne, uf_same, uf_ne]
            refine go_iconst dX9_lay_57 rfl ?_
            refine go_icmp_ne (tgt := 65) dX9_lay_58 rfl (fun h58 => ?_) (fun h58 => ?_)
            ·
              refine go_aload_n dX9_lay_65 rfl ?_
              refine go_getR dX9_lay_66 fl_X9_63 (by first | assumption | exact Nat.le_of_ble_eq_true rfl) (by first | assumption | rfl) rfl (by first | assumption | rfl) ?_
              refine go_iload_n dX9_lay_69 rfl ?_
              refine go_slots dX9_lay_70 (by omega) (by omega) (fun hj70_0 hj70_1 hj70_2 hj70_3 hj70_4 hj70_5 hj70_6 hj70_7 => ?_)
              refine go_astore dX9_lay_71 rfl ?_
              refine go_aload dX9_lay_73 rfl ?_
              refine go_getI 0 dX9_lay_75 fl_X9_306 (by first | assumption | exact Nat.le_of_ble_eq_true rfl) (by first | assumption | rfl) rfl rfl ?_
              try simp (disch := omega) only [ud, ua_same, ua_ne, uf_same, uf_ne]
              refine go_istore dX9_lay_78 rfl ?_
              refine go_aload dX9_lay_80 rfl ?_
              refine go_iload_n dX9_lay_82 rfl ?_
              refine go_putI 0 dX9_lay_83 pl_X9_306 (by first | assumption | exact Nat.le_of_ble_eq_true rfl) (by first | assumption | rfl) rfl rfl ?_
              refine go_iload_n dX9_lay_86 rfl ?_
              refine go_iconst dX9_lay_87 rfl ?_
              refine go_icmp_ne (tgt := 136) dX9_lay_88 rfl (fun h88 => ?_) (fun h88 => ?_)
              ·
                refine go_iload_n dX9_lay_136 rfl ?_
                refine go_iconst dX9_lay_137 rfl ?_
                refine go_icmp_ne (tgt := 158) dX9_lay_138 rfl (fun h138 => ?_) (fun h138 => ?_)
                ·
                  refine go_iload_n dX9_lay_158 rfl ?_
                  refine go_iconst dX9_lay_159 rfl ?_
                  refine go_icmp_ne (tgt := 169) dX9_lay_160 rfl (fun h160 => ?_) (fun h160 => ?_)
                  ·
                    refine go_iload dX9_lay_169 rfl ?_
                    exact go_ri dX9_lay_171 tyI ⟨Nat.le_refl _, Nat.le_refl _⟩ (⟨fun h => absurd (by omega) h, fun _ => ⟨fun h => absurd h.2 h58, fun _ => ⟨rfl, fun h => by rw [h], fun h => absurd h (by omega), fun h => absurd h (by omega), fun h => absurd h (by omega)⟩⟩⟩)
                  ·
                    refine go_aload dX9_lay_163 rfl ?_
                    refine go_iload_n dX9_lay_165 rfl ?_
                    refine go_putI 4 dX9_lay_166 pl_X9_325 (by first | assumption | exact Nat.le_of_ble_eq_true rfl) (by first | assumption | rfl) rfl rfl ?_
                    refine go_iload dX9_lay_169 rfl ?_
                    exact go_ri dX9_lay_171 tyI ⟨Nat.le_refl _, Nat.le_refl _⟩ (⟨fun h => absurd (by omega) h, fun _ => ⟨fun h => absurd h.2 h58, fun _ => ⟨rfl, fun h => absurd h (by omega), fun h => absurd h (by omega), fun h => absurd h (by omega), fun _ => by subst h160; simp (disch := omega) only [ud, ua_same, ua_ne, uf_same, uf_ne]⟩⟩⟩)
                ·
                  refine go_aload dX9_lay_141 rfl ?_
                  refine go_getR dX9_lay_143 fl_X9_318 (by first | assumption | exact Nat.le_of_ble_eq_true rfl) (by first | assumption | rfl) rfl (by first | assumption | rfl) ?_
                  refine go_aload_n dX9_lay_146 rfl ?_
                  refine go_getR dX9_lay_147 fl_X9_56 (by first | assumption | exact Nat.le_of_ble_eq_true rfl) (by first | assumption | rfl) rfl (by first | assumption | rfl) ?_
                  refine go_iload_n dX9_lay_150 rfl ?_
                  refine go_sheets dX9_lay_151 (by omega) (by omega) (fun hj151_0 hj151_1 hj151_2 hj151_3 hj151_4 => ?_)
                  refine go_vV (ci := 4) dX9_lay_152 (ct_X5_become (j := (71 + 3 * sl.toNat) + 1) (i := (62 + 2 * k.toNat)) (by unfold isSh; omega) (by unfold isSh; omega) (by omega) (by omega) (by omega)) ml_X9_322 mc_X5_become mv_X5_become rfl (by first | assumption | exact Nat.le_of_ble_eq_true rfl) (by first | assumption | rfl) rfl ⟨rfl, rfl⟩ ⟨Nat.le_refl _, Nat.le_refl _⟩ rfl rfl rfl (fun μ152 hc152 => ?_)
                  have hb152 := hc152
                  refine go_goto (tgt := 169) dX9_lay_155 rfl ?_
                  refine go_iload dX9_lay_169 rfl ?_
                  exact go_ri dX9_lay_171 tyI ⟨Nat.le_refl _, Nat.le_refl _⟩ (⟨fun h => absurd (by omega) h, fun _ => ⟨fun h => absurd h.2 h58, fun _ => ⟨rfl, fun h => absurd h (by omega), fun h => absurd h (by omega), fun _ => ⟨by rw [hb152.2.2.2 _ (by omega) (by omega), ud_s, h138], by rw [hb152.2.1, ud_n (by omega)], fun q a b => by rw [hb152.2.2.1 q a b, ud_n (by omega)], fun q a b c => by rw [hb152.2.2.2 q b c, ud_n a]⟩, fun h => absurd h (by omega)⟩⟩⟩)
              ·
                refine go_aload dX9_lay_91 rfl ?_
                refine go_aload_n dX9_lay_93 rfl ?_
                refine go_getR dX9_lay_94 fl_X9_21 (by first | assumption | exact Nat.le_of_ble_eq_true rfl) (by first | assumption | rfl) rfl (by first | assumption | rfl) ?_
                refine go_getR dX9_lay_97 fl_X9_86 (by first | assumption | exact Nat.le_of_ble_eq_true rfl) (by first | assumption | rfl) rfl (by first | assumption | rfl) ?_
                refine go_iload_n dX9_lay_100 rfl ?_
                refine go_iaload dX9_lay_101 (by first | assumption | exact Nat.le_of_ble_eq_true rfl) (by first | assumption | rfl) (by omega) (by omega) ?_
                try simp (disch := omega) only [ud, ua_same, ua_ne, uf_same, uf_ne]
                refine go_putI 1 dX9_lay_102 pl_X9_309 (by first | assumption | exact Nat.le_of_ble_eq_true rfl) (by first | assumption | rfl) rfl rfl ?_
                refine go_aload dX9_lay_105 rfl ?_
                refine go_aload_n dX9_lay_107 rfl ?_
                refine go_getR dX9_lay_108 fl_X9_21 (by first | assumption | exact Nat.le_of_ble_eq_true rfl) (by first | assumption | rfl) rfl (by first | assumption | rfl) ?_
                refine go_getR dX9_lay_111 fl_X9_89 (by first | assumption | exact Nat.le_of_ble_eq_true rfl) (by first | assumption | rfl) rfl (by first | assumption | rfl) ?_
                refine go_iload_n dX9_lay_114 rfl ?_
                refine go_iaload dX9_lay_115 (by first | assumption | exact Nat.le_of_ble_eq_true rfl) (by first | assumption | rfl) (by omega) (by omega) ?_
                try simp (disch := omega) only [ud, ua_same, ua_ne, uf_same, uf_ne]
                refine go_putI 2 dX9_lay_116 pl_X9_312 (by first | assumption | exact Nat.le_of_ble_eq_true rfl) (by first | assumption | rfl) rfl rfl ?_
                refine go_aload dX9_lay_119 rfl ?_
                refine go_aload_n dX9_lay_121 rfl ?_
                refine go_getR dX9_lay_122 fl_X9_21 (by first | assumption | exact Nat.le_of_ble_eq_true rfl) (by first | assumption | rfl) rfl (by first | assumption | rfl) ?_
                refine go_getR dX9_lay_125 fl_X9_92 (by first | assumption | exact Nat.le_of_ble_eq_true rfl) (by first | assumption | rfl) rfl (by first | assumption | rfl) ?_
                refine go_iload_n dX9_lay_128 rfl ?_
                refine go_iaload dX9_lay_129 (by first | assumption | exact Nat.le_of_ble_eq_true rfl) (by first | assumption | rfl) (by omega) (by omega) ?_
                try simp (disch := omega) only [ud, ua_same, ua_ne, uf_same, uf_ne]
                refine go_putI 3 dX9_lay_130 pl_X9_315 (by first | assumption | exact Nat.le_of_ble_eq_true rfl) (by first | assumption | rfl) rfl rfl ?_
                refine go_goto (tgt := 169) dX9_lay_133 rfl ?_
                refine go_iload dX9_lay_169 rfl ?_
                exact go_ri dX9_lay_171 tyI ⟨Nat.le_refl _, Nat.le_refl _⟩ (⟨fun h => absurd (by omega) h, fun _ => ⟨fun h => absurd h.2 h58, fun _ => ⟨rfl, fun h => absurd h (by omega), fun _ => by subst h88; simp (disch := omega) only [ud, ua_same, ua_ne, uf_same, uf_ne], fun h => absurd h (by omega), fun h => absurd h (by omega)⟩⟩⟩)
            ·
              refine go_ldcw dX9_lay_61 kc_X9_276 rfl ?_
              exact go_ri dX9_lay_64 tyI ⟨Nat.le_refl _, Nat.le_refl _⟩ (⟨fun h => absurd (by omega) h, fun _ => ⟨fun _ => ⟨rfl, rfl⟩, fun h => absurd ⟨h45, h58⟩ h⟩⟩)
        ·
          refine go_iload_n dX9_lay_33 rfl ?_
          refine go_sI dX9_lay_34 (ct_X9_isSheet _) ml_X9_265 mc_X9_isSheet ms_X9_isSheet ⟨rfl, rfl⟩ ⟨Nat.le_refl _, Nat.le_refl _⟩ rfl rfl rfl (fun x34 μ34 hc34 => ?_)
          obtain ⟨rfl, hm34⟩ := hc34
          rw [hm34]
          first | refine go_bnz (tgt := 43) dX9_lay_37 rfl (fun h37 => ?_) (fun h37 => ?_) | refine go_if_ne (tgt := 43) dX9_lay_37 rfl (fun h37 => ?_) (fun h37 => ?_)
          ·
            refine go_iload_n dX9_lay_43 rfl ?_
            refine go_iconst dX9_lay_44 rfl ?_
            refine go_icmp_ne (tgt := 65) dX9_lay_45 rfl (fun h45 => ?_) (fun h45 => ?_)
            ·
              refine go_aload_n dX9_lay_65 rfl ?_
              refine go_getR dX9_lay_66 fl_X9_63 (by first | assumption | exact Nat.le_of_ble_eq_true rfl) (by first | assumption | rfl) rfl (by first | assumption | rfl) ?_
              refine go_iload_n dX9_lay_69 rfl ?_
              refine go_slots dX9_lay_70 (by omega) (by omega) (fun hj70_0 hj70_1 hj70_2 hj70_3 hj70_4 hj70_5 hj70_6 hj70_7 => ?_)
              refine go_astore dX9_lay_71 rfl ?_
              refine go_aload dX9_lay_73 rfl ?_
              refine go_getI 0 dX9_lay_75 fl_X9_306 (by first | assumption | exact Nat.le_of_ble_eq_true rfl) (by first | assumption | rfl) rfl rfl ?_
              try simp (disch := omega) only [ud, ua_same, ua_ne, uf_same, uf_ne]
              refine go_istore dX9_lay_78 rfl ?_
              refine go_aload dX9_lay_80 rfl ?_
              refine go_iload_n dX9_lay_82 rfl ?_
              refine go_putI 0 dX9_lay_83 pl_X9_306 (by first | assumption | exact Nat.le_of_ble_eq_true rfl) (by first | assumption | rfl) rfl rfl ?_
              refine go_iload_n dX9_lay_86 rfl ?_
              refine go_iconst dX9_lay_87 rfl ?_
              refine go_icmp_ne (tgt := 136) dX9_lay_88 rfl (fun h88 => ?_) (fun h88 => ?_)
              ·
                refine go_iload_n dX9_lay_136 rfl ?_
                refine go_iconst dX9_lay_137 rfl ?_
                refine go_icmp_ne (tgt := 158) dX9_lay_138 rfl (fun h138 => ?_) (fun h138 => ?_)
                ·
                  refine go_iload_n dX9_lay_158 rfl ?_
                  refine go_iconst dX9_lay_159 rfl ?_
                  refine go_icmp_ne (tgt := 169) dX9_lay_160 rfl (fun h160 => ?_) (fun h160 => ?_)
                  ·
                    refine go_iload dX9_lay_169 rfl ?_
                    exact go_ri dX9_lay_171 tyI ⟨Nat.le_refl _, Nat.le_refl _⟩ (⟨fun h => absurd (by omega) h, fun _ => ⟨fun h => absurd h.1 h45, fun _ => ⟨rfl, fun h => by rw [h], fun h => absurd h (by omega), fun h => absurd h (by omega), fun h => absurd h (by omega)⟩⟩⟩)
                  ·
                    refine go_aload dX9_lay_163 rfl ?_
                    refine go_iload_n dX9_lay_165 rfl ?_
                    refine go_putI 4 dX9_lay_166 pl_X9_325 (by first | assumption | exact Nat.le_of_ble_eq_true rfl) (by first | assumption | rfl) rfl rfl ?_
                    refine go_iload dX9_lay_169 rfl ?_
                    exact go_ri dX9_lay_171 tyI ⟨Nat.le_refl _, Nat.le_refl _⟩ (⟨fun h => absurd (by omega) h, fun _ => ⟨fun h => absurd h.1 h45, fun _ => ⟨rfl, fun h => absurd h (by omega), fun h => absurd h (by omega), fun h => absurd h (by omega), fun _ => by subst h160; simp (disch := omega) only [ud, ua_same, ua_ne, uf_same, uf_ne]⟩⟩⟩)
                ·
                  refine go_aload dX9_lay_141 rfl ?_
                  refine go_getR dX9_lay_143 fl_X9_318 (by first | assumption | exact Nat.le_of_ble_eq_true rfl) (by first | assumption | rfl) rfl (by first | assumption | rfl) ?_
                  refine go_aload_n dX9_lay_146 rfl ?_
                  refine go_getR dX9_lay_147 fl_X9_56 (by first | assumption | exact Nat.le_of_ble_eq_true rfl) (by first | assumption | rfl) rfl (by first | assumption | rfl) ?_
                  refine go_iload_n dX9_lay_150 rfl ?_
                  refine go_sheets dX9_lay_151 (by omega) (by omega) (fun hj151_0 hj151_1 hj151_2 hj151_3 hj151_4 => ?_)
                  refine go_vV (ci := 4) dX9_lay_152 (ct_X5_become (j := (71 + 3 * sl.toNat) + 1) (i := (62 + 2 * k.toNat)) (by unfold isSh; omega) (by unfold isSh; omega) (by omega) (by omega) (by omega)) ml_X9_322 mc_X5_become mv_X5_become rfl (by first | assumption | exact Nat.le_of_ble_eq_true rfl) (by first | assumption | rfl) rfl ⟨rfl, rfl⟩ ⟨Nat.le_refl _, Nat.le_refl _⟩ rfl rfl rfl (fun μ152 hc152 => ?_)
                  have hb152 := hc152
                  refine go_goto (tgt := 169) dX9_lay_155 rfl ?_
                  refine go_iload dX9_lay_169 rfl ?_
                  exact go_ri dX9_lay_171 tyI ⟨Nat.le_refl _, Nat.le_refl _⟩ (⟨fun h => absurd (by omega) h, fun _ => ⟨fun h => absurd h.1 h45, fun _ => ⟨rfl, fun h => absurd h (by omega), fun h => absurd h (by omega), fun _ => ⟨by rw [hb152.2.2.2 _ (by omega) (by omega), ud_s, h138], by rw [hb152.2.1, ud_n (by omega)], fun q a b => by rw [hb152.2.2.1 q a b, ud_n (by omega)], fun q a b c => by rw [hb152.2.2.2 q b c, ud_n a]⟩, fun h => absurd h (by omega)⟩⟩⟩)
              ·
                refine go_aload dX9_lay_91 rfl ?_
                refine go_aload_n dX9_lay_93 rfl ?_
                refine go_getR dX9_lay_94 fl_X9_21 (by first | assumption | exact Nat.le_of_ble_eq_true rfl) (by first | assumption | rfl) rfl (by first | assumption | rfl) ?_
                refine go_getR dX9_lay_97 fl_X9_86 (by first | assumption | exact Nat.le_of_ble_eq_true rfl) (by first | assumption | rfl) rfl (by first | assumption | rfl) ?_
                refine go_iload_n dX9_lay_100 rfl ?_
                refine go_iaload dX9_lay_101 (by first | assumption | exact Nat.le_of_ble_eq_true rfl) (by first | assumption | rfl) (by omega) (by omega) ?_
                try simp (disch := omega) only [ud, ua_same, ua_ne, uf_same, uf_ne]
                refine go_putI 1 dX9_lay_102 pl_X9_309 (by first | assumption | exact Nat.le_of_ble_eq_true rfl) (by first | assumption | rfl) rfl rfl ?_
                refine go_aload dX9_lay_105 rfl ?_
                refine go_aload_n dX9_lay_107 rfl ?_
                refine go_getR dX9_lay_108 fl_X9_21 (by first | assumption | exact Nat.le_of_ble_eq_true rfl) (by first | assumption | rfl) rfl (by first | assumption | rfl) ?_
                refine go_getR dX9_lay_111 fl_X9_89 (by first | assumption | exact Nat.le_of_ble_eq_true rfl) (by first | assumption | rfl) rfl (by first | assumption | rfl) ?_
                refine go_iload_n dX9_lay_114 rfl ?_
                refine go_iaload dX9_lay_115 (by first | assumption | exact Nat.le_of_ble_eq_true rfl) (by first | assumption | rfl) (by omega) (by omega) ?_
                try simp (disch := omega) only [ud, ua_same, ua_ne, uf_same, uf_ne]
                refine go_putI 2 dX9_lay_116 pl_X9_312 (by first | assumption | exact Nat.le_of_ble_eq_true rfl) (by first | assumption | rfl) rfl rfl ?_
                refine go_aload dX9_lay_119 rfl ?_
                refine go_aload_n dX9_lay_121 rfl ?_
                refine go_getR dX9_lay_122 fl_X9_21 (by first | assumption | exact Nat.le_of_ble_eq_true rfl) (by first | assumption | rfl) rfl (by first | assumption | rfl) ?_
                refine go_getR dX9_lay_125 fl_X9_92 (by first | assumption | exact Nat.le_of_ble_eq_true rfl) (by first | assumption | rfl) rfl (by first | assumption | rfl) ?_
                refine go_iload_n dX9_lay_128 rfl ?_
                refine go_iaload dX9_lay_129 (by first | assumption | exact Nat.le_of_ble_eq_true rfl) (by first | assumption | rfl) (by omega) (by omega) ?_
                try simp (disch := omega) only [ud, ua_same, ua_ne, uf_same, uf_ne]
                refine go_putI 3 dX9_lay_130 pl_X9_315 (by first | assumption | exact Nat.le_of_ble_eq_true rfl) (by first | assumption | rfl) rfl rfl ?_
                refine go_goto (tgt := 169) dX9_lay_133 rfl ?_
                refine go_iload dX9_lay_169 rfl ?_
                exact go_ri dX9_lay_171 tyI ⟨Nat.le_refl _, Nat.le_refl _⟩ (⟨fun h => absurd (by omega) h, fun _ => ⟨fun h => absurd h.1 h45, fun _ => ⟨rfl, fun h => absurd h (by omega), fun _ => by subst h88; simp (disch := omega) only [ud, ua_same, ua_ne, uf_same, uf_ne], fun h => absurd h (by omega), fun h => absurd h (by omega)⟩⟩⟩)
            ·
              refine go_aload_n dX9_lay_48 rfl ?_
              refine go_getR dX9_lay_49 fl_X9_56 (by first | assumption | exact Nat.le_of_ble_eq_true rfl) (by first | assumption | rfl) rfl (by first | assumption | rfl) ?_
              refine go_iload_n dX9_lay_52 rfl ?_
              refine go_sheets dX9_lay_53 (by omega) (by omega) (fun hj53_0 hj53_1 hj53_2 hj53_3 hj53_4 => ?_)
              refine go_getI 0 dX9_lay_54 fl_X9_273 (by first | assumption | exact Nat.le_of_ble_eq_true rfl) (by first | assumption | rfl) rfl rfl ?_
              try simp (disch := omega) only [ud, ua_same, ua_ne, uf_same, uf_ne]
              refine go_iconst dX9_lay_57 rfl ?_
              refine go_icmp_ne (tgt := 65) dX9_lay_58 rfl (fun h58 => ?_) (fun h58 => ?_)
              ·
                refine go_aload_n dX9_lay_65 rfl ?_
                refine go_getR dX9_lay_66 fl_X9_63 (by first | assumption | exact Nat.le_of_ble_eq_true rfl) (by first | assumption | rfl) rfl (by first | assumption | rfl) ?_
                refine go_iload_n dX9_lay_69 rfl ?_
                refine go_slots dX9_lay_70 (by omega) (by omega) (fun hj70_0 hj70_1 hj70_2 hj70_3 hj70_4 hj70_5 hj70_6 hj70_7 => ?_)
                refine go_astore dX9_lay_71 rfl ?_
                refine go_aload dX9_lay_73 rfl ?_
                refine go_getI 0 dX9_lay_75 fl_X9_306 (by first | assumption | exact Nat.le_of_ble_eq_true rfl) (by first | assumption | rfl) rfl rfl ?_
                try simp (disch := omega) only [ud, ua_same, ua_ne, uf_same, uf_ne]
                refine go_istore dX9_lay_78 rfl ?_
                refine go_aload dX9_lay_80 rfl ?_
                refine go_iload_n dX9_lay_82 rfl ?_
                refine go_putI 0 dX9_lay_83 pl_X9_306 (by first | assumption | exact Nat.le_of_ble_eq_true rfl) (by first | assumption | rfl) rfl rfl ?_
                refine go_iload_n dX9_lay_86 rfl ?_
                refine go_iconst dX9_lay_87 rfl ?_
                refine go_icmp_ne (tgt := 136) dX9_lay_88 rfl (fun h88 => ?_) (fun h88 => ?_)
                ·
                  refine go_iload_n dX9_lay_136 rfl ?_
                  refine go_iconst dX9_lay_137 rfl ?_
                  refine go_icmp_ne (tgt := 158) dX9_lay_138 rfl (fun h138 => ?_) (fun h138 => ?_)
                  ·
                    refine go_iload_n dX9_lay_158 rfl ?_
                    refine go_iconst dX9_lay_159 rfl ?_
                    refine go_icmp_ne (tgt := 169) dX9_lay_160 rfl (fun h160 => ?_) (fun h160 => ?_)
                    ·
                      refine go_iload dX9_lay_169 rfl ?_
                      exact go_ri dX9_lay_171 tyI ⟨Nat.le_refl _, Nat.le_refl _⟩ (⟨fun h => absurd (by omega) h, fun _ => ⟨fun h => absurd h.2 h58, fun _ => ⟨rfl, fun h => by rw [h], fun h => absurd h (by omega), fun h => absurd h (by omega), fun h => absurd h (by omega)⟩⟩⟩)
                    ·
                      refine go_aload dX9_lay_163 rfl ?_
                      refine go_iload_n dX9_lay_165 rfl ?_
                      refine go_putI 4 dX9_lay_166 pl_X9_325 (by first | assumption | exact Nat.le_of_ble_eq_true rfl) (by first | assumption | rfl) rfl rfl ?_
                      refine go_iload dX9_lay_169 rfl ?_
                      exact go_ri dX9_lay_171 tyI ⟨Nat.le_refl _, Nat.le_refl _⟩ (⟨fun h => absurd (by omega) h, fun _ => ⟨fun h => absurd h.2 h58, fun _ => ⟨rfl, fun h => absurd h (by omega), fun h => absurd h (by omega), fun h => absurd h (by omega), fun _ => by subst h160; simp (disch := omega) only [ud, ua_same, ua_ne, uf_same, uf_ne]⟩⟩⟩)
                  ·
                    refine go_aload dX9_lay_141 rfl ?_
                    refine go_getR dX9_lay_143 fl_X9_318 (by first | assumption | exact Nat.le_of_ble_eq_true rfl) (by first | assumption | rfl) rfl (by first | assumption | rfl) ?_
                    refine go_aload_n dX9_lay_146 rfl ?_
                    refine go_getR dX9_lay_147 fl_X9_56 (by first | assumption | exact Nat.le_of_ble_eq_true rfl) (by first | assumption | rfl) rfl (by first | assumption | rfl) ?_
                    refine go_iload_n dX9_lay_150 rfl ?_
                    refine go_sheets dX9_lay_151 (by omega) (by omega) (fun hj151_0 hj151_1 hj151_2 hj151_3 hj151_4 => ?_)
                    refine go_vV (ci := 4) dX9_lay_152 (ct_X5_become (j := (71 + 3 * sl.toNat) + 1) (i := (62 + 2 * k.toNat)) (by unfold isSh; omega) (by unfold isSh; omega) (by omega) (by omega) (by omega)) ml_X9_322 mc_X5_become mv_X5_become rfl (by first | assumption | exact Nat.le_of_ble_eq_true rfl) (by first | assumption | rfl) rfl ⟨rfl, rfl⟩ ⟨Nat.le_refl _, Nat.le_refl _⟩ rfl rfl rfl (fun μ152 hc152 => ?_)
                    have hb152 := hc152
                    refine go_goto (tgt := 169) dX9_lay_155 rfl ?_
                    refine go_iload dX9_lay_169 rfl ?_
                    exact go_ri dX9_lay_171 tyI ⟨Nat.le_refl _, Nat.le_refl _⟩ (⟨fun h => absurd (by omega) h, fun _ => ⟨fun h => absurd h.2 h58, fun _ => ⟨rfl, fun h => absurd h (by omega), fun h => absurd h (by omega), fun _ => ⟨by rw [hb152.2.2.2 _ (by omega) (by omega), ud_s, h138], by rw [hb152.2.1, ud_n (by omega)], fun q a b => by rw [hb152.2.2.1 q a b, ud_n (by omega)], fun q a b c => by rw [hb152.2.2.2 q b c, ud_n a]⟩, fun h => absurd h (by omega)⟩⟩⟩)
                ·
                  refine go_aload dX9_lay_91 rfl ?_
                  refine go_aload_n dX9_lay_93 rfl ?_
                  refine go_getR dX9_lay_94 fl_X9_21 (by first | assumption | exact Nat.le_of_ble_eq_true rfl) (by first | assumption | rfl) rfl (by first | assumption | rfl) ?_
                  refine go_getR dX9_lay_97 fl_X9_86 (by first | assumption | exact Nat.le_of_ble_eq_true rfl) (by first | assumption | rfl) rfl (by first | assumption | rfl) ?_
                  refine go_iload_n dX9_lay_100 rfl ?_
                  refine go_iaload dX9_lay_101 (by first | assumption | exact Nat.le_of_ble_eq_true rfl) (by first | assumption | rfl) (by omega) (by omega) ?_
                  try simp (disch := omega) only [ud, ua_same, ua_ne, uf_same, uf_ne]
                  refine go_putI 1 dX9_lay_102 pl_X9_309 (by first | assumption | exact Nat.le_of_ble_eq_true rfl) (by first | assumption | rfl) rfl rfl ?_
                  refine go_aload dX9_lay_105 rfl ?_
                  refine go_aload_n dX9_lay_107 rfl ?_
                  refine go_getR dX9_lay_108 fl_X9_21 (by first | assumption | exact Nat.le_of_ble_eq_true rfl) (by first | assumption | rfl) rfl (by first | assumption | rfl) ?_
                  refine go_getR dX9_lay_111 fl_X9_89 (by first | assumption | exact Nat.le_of_ble_eq_true rfl) (by first | assumption | rfl) rfl (by first | assumption | rfl) ?_
                  refine go_iload_n dX9_lay_114 rfl ?_
                  refine go_iaload dX9_lay_115 (by first | assumption | exact Nat.le_of_ble_eq_true rfl) (by first | assumption | rfl) (by omega) (by omega) ?_
                  try simp (disch := omega) only [ud, ua_same, ua_ne, uf_same, uf_ne]
                  refine go_putI 2 dX9_lay_116 pl_X9_312 (by first | assumption | exact Nat.le_of_ble_eq_true rfl) (by first | assumption | rfl) rfl rfl ?_
                  refine go_aload dX9_lay_119 rfl ?_
                  refine go_aload_n dX9_lay_121 rfl ?_
                  refine go_getR dX9_lay_122 fl_X9_21 (by first | assumption | exact Nat.le_of_ble_eq_true rfl) (by first | assumption | rfl) rfl (by first | assumption | rfl) ?_
                  refine go_getR dX9_lay_125 fl_X9_92 (by first | assumption | exact Nat.le_of_ble_eq_true rfl) (by first | assumption | rfl) rfl (by first | assumption | rfl) ?_
                  refine go_iload_n dX9_lay_128 rfl ?_
                  refine go_iaload dX9_lay_129 (by first | assumption | exact Nat.le_of_ble_eq_true rfl) (by first | assumption | rfl) (by omega) (by omega) ?_
                  try simp (disch := omega) only [ud, ua_same, ua_ne, uf_same, uf_ne]
                  refine go_putI 3 dX9_lay_130 pl_X9_315 (by first | assumption | exact Nat.le_of_ble_eq_true rfl) (by first | assumption | rfl) rfl rfl ?_
                  refine go_goto (tgt := 169) dX9_lay_133 rfl ?_
                  refine go_iload dX9_lay_169 rfl ?_
                  exact go_ri dX9_lay_171 tyI ⟨Nat.le_refl _, Nat.le_refl _⟩ (⟨fun h => absurd (by omega) h, fun _ => ⟨fun h => absurd h.2 h58, fun _ => ⟨rfl, fun h => absurd h (by omega), fun _ => by subst h88; simp (disch := omega) only [ud, ua_same, ua_ne, uf_same, uf_ne], fun h => absurd h (by omega), fun h => absurd h (by omega)⟩⟩⟩)
              ·
                refine go_ldcw dX9_lay_61 kc_X9_276 rfl ?_
                exact go_ri dX9_lay_64 tyI ⟨Nat.le_refl _, Nat.le_refl _⟩ (⟨fun h => absurd (by omega) h, fun _ => ⟨fun _ => ⟨rfl, rfl⟩, fun h => absurd ⟨h45, h58⟩ h⟩⟩)
          ·
            refine go_ldc dX9_lay_40 kc_X9_85 rfl ?_
            exact go_ri dX9_lay_42 tyI ⟨Nat.le_refl _, Nat.le_refl _⟩ (⟨fun _ => ⟨rfl, rfl⟩, fun h => absurd h (by omega)⟩)
      ·
        refine go_iload_n dX9_lay_21 rfl ?_
        refine go_sI dX9_lay_22 (ct_X9_isCell _) ml_X9_72 mc_X9_isCell ms_X9_isCell ⟨rfl, rfl⟩ ⟨Nat.le_refl _, Nat.le_refl _⟩ rfl rfl rfl (fun x22 μ22 hc22 => ?_)
        obtain ⟨rfl, hm22⟩ := hc22
        rw [hm22]
        first | refine go_bz (tgt := 40) dX9_lay_25 rfl (fun h25 => ?_) (fun h25 => ?_) | refine go_if_eq (tgt := 40) dX9_lay_25 rfl (fun h25 => ?_) (fun h25 => ?_)
        ·
          refine go_ldc dX9_lay_40 kc_X9_85 rfl ?_
          exact go_ri dX9_lay_42 tyI ⟨Nat.le_refl _, Nat.le_refl _⟩ (⟨fun _ => ⟨rfl, rfl⟩, fun h => absurd h (by omega)⟩)
        ·
          refine go_iload_n dX9_lay_28 rfl ?_
          refine go_iconst dX9_lay_29 rfl ?_
          refine go_icmp_ne (tgt := 43) dX9_lay_30 rfl (fun h30 => ?_) (fun h30 => ?_)
          ·
            refine go_iload_n dX9_lay_43 rfl ?_
            refine go_iconst dX9_lay_44 rfl ?_
            refine go_icmp_ne (tgt := 65) dX9_lay_45 rfl (fun h45 => ?_) (fun h45 => ?_)
            ·
              refine go_aload_n dX9_lay_65 rfl ?_
              refine go_getR dX9_lay_66 fl_X9_63 (by first | assumption | exact Nat.le_of_ble_eq_true rfl) (by first | assumption | rfl) rfl (by first | assumption | rfl) ?_
              refine go_iload_n dX9_lay_69 rfl ?_
              refine go_slots dX9_lay_70 (by omega) (by omega) (fun hj70_0 hj70_1 hj70_2 hj70_3 hj70_4 hj70_5 hj70_6 hj70_7 => ?_)
              refine go_astore dX9_lay_71 rfl ?_
              refine go_aload dX9_lay_73 rfl ?_
              refine go_getI 0 dX9_lay_75 fl_X9_306 (by first | assumption | exact Nat.le_of_ble_eq_true rfl) (by first | assumption | rfl) rfl rfl ?_
              try simp (disch := omega) only [ud, ua_same, ua_ne, uf_same, uf_ne]
              refine go_istore dX9_lay_78 rfl ?_
              refine go_aload dX9_lay_80 rfl ?_
              refine go_iload_n dX9_lay_82 rfl ?_
              refine go_putI 0 dX9_lay_83 pl_X9_306 (by first | assumption | exact Nat.le_of_ble_eq_true rfl) (by first | assumption | rfl) rfl rfl ?_
              refine go_iload_n dX9_lay_86 rfl ?_
              refine go_iconst dX9_lay_87 rfl ?_
              refine go_icmp_ne (tgt := 136) dX9_lay_88 rfl (fun h88 => ?_) (fun h88 => ?_)
              ·
                refine go_iload_n dX9_lay_136 rfl ?_
                refine go_iconst dX9_lay_137 rfl ?_
                refine go_icmp_ne (tgt := 158) dX9_lay_138 rfl (fun h138 => ?_) (fun h138 => ?_)
                ·
                  refine go_iload_n dX9_lay_158 rfl ?_
                  refine go_iconst dX9_lay_159 rfl ?_
                  refine go_icmp_ne (tgt := 169) dX9_lay_160 rfl (fun h160 => ?_) (fun h160 => ?_)
                  ·
                    refine go_iload dX9_lay_169 rfl ?_
                    exact go_ri dX9_lay_171 tyI ⟨Nat.le_refl _, Nat.le_refl _⟩ (⟨fun h => absurd (by omega) h, fun _ => ⟨fun h => absurd h.1 h45, fun _ => ⟨rfl, fun h => by rw [h], fun h => absurd h (by omega), fun h => absurd h (by omega), fun h => absurd h (by omega)⟩⟩⟩)
                  ·
                    refine go_aload dX9_lay_163 rfl ?_
                    refine go_iload_n dX9_lay_165 rfl ?_
                    refine go_putI 4 dX9_lay_166 pl_X9_325 (by first | assumption | exact Nat.le_of_ble_eq_true rfl) (by first | assumption | rfl) rfl rfl ?_
                    refine go_iload dX9_lay_169 rfl ?_
                    exact go_ri dX9_lay_171 tyI ⟨Nat.le_refl _, Nat.le_refl _⟩ (⟨fun h => absurd (by omega) h, fun _ => ⟨fun h => absurd h.1 h45, fun _ => ⟨rfl, fun h => absurd h (by omega), fun h => absurd h (by omega), fun h => absurd h (by omega), fun _ => by subst h160; simp (disch := omega) only [ud, ua_same, ua_ne, uf_same, uf_ne]⟩⟩⟩)
                ·
                  refine go_aload dX9_lay_141 rfl ?_
                  refine go_getR dX9_lay_143 fl_X9_318 (by first | assumption | exact Nat.le_of_ble_eq_true rfl) (by first | assumption | rfl) rfl (by first | assumption | rfl) ?_
                  refine go_aload_n dX9_lay_146 rfl ?_
                  refine go_getR dX9_lay_147 fl_X9_56 (by first | assumption | exact Nat.le_of_ble_eq_true rfl) (by first | assumption | rfl) rfl (by first | assumption | rfl) ?_
                  refine go_iload_n dX9_lay_150 rfl ?_
                  refine go_sheets dX9_lay_151 (by omega) (by omega) (fun hj151_0 hj151_1 hj151_2 hj151_3 hj151_4 => ?_)
                  refine go_vV (ci := 4) dX9_lay_152 (ct_X5_become (j := (71 + 3 * sl.toNat) + 1) (i := (62 + 2 * k.toNat)) (by unfold isSh; omega) (by unfold isSh; omega) (by omega) (by omega) (by omega)) ml_X9_322 mc_X5_become mv_X5_become rfl (by first | assumption | exact Nat.le_of_ble_eq_true rfl) (by first | assumption | rfl) rfl ⟨rfl, rfl⟩ ⟨Nat.le_refl _, Nat.le_refl _⟩ rfl rfl rfl (fun μ152 hc152 => ?_)
                  have hb152 := hc152
                  refine go_goto (tgt := 169) dX9_lay_155 rfl ?_
                  refine go_iload dX9_lay_169 rfl ?_
                  exact go_ri dX9_lay_171 tyI ⟨Nat.le_refl _, Nat.le_refl _⟩ (⟨fun h => absurd (by omega) h, fun _ => ⟨fun h => absurd h.1 h45, fun _ => ⟨rfl, fun h => absurd h (by omega), fun h => absurd h (by omega), fun _ => ⟨by rw [hb152.2.2.2 _ (by omega) (by omega), ud_s, h138], by rw [hb152.2.1, ud_n (by omega)], fun q a b => by rw [hb152.2.2.1 q a b, ud_n (by omega)], fun q a b c => by rw [hb152.2.2.2 q b c, ud_n a]⟩, fun h => absurd h (by omega)⟩⟩⟩)
              ·
                refine go_aload dX9_lay_91 rfl ?_
                refine go_aload_n dX9_lay_93 rfl ?_
                refine go_getR dX9_lay_94 fl_X9_21 (by first | assumption | exact Nat.le_of_ble_eq_true rfl) (by first | assumption | rfl) rfl (by first | assumption | rfl) ?_
                refine go_getR dX9_lay_97 fl_X9_86 (by first | assumption | exact Nat.le_of_ble_eq_true rfl) (by first | assumption | rfl) rfl (by first | assumption | rfl) ?_
                refine go_iload_n dX9_lay_100 rfl ?_
                refine go_iaload dX9_lay_101 (by first | assumption | exact Nat.le_of_ble_eq_true rfl) (by first | assumption | rfl) (by omega) (by omega) ?_
                try simp (disch := omega) only [ud, ua_same, ua_ne, uf_same, uf_ne]
                refine go_putI 1 dX9_lay_102 pl_X9_309 (by first | assumption | exact Nat.le_of_ble_eq_true rfl) (by first | assumption | rfl) rfl rfl ?_
                refine go_aload dX9_lay_105 rfl ?_
                refine go_aload_n dX9_lay_107 rfl ?_
                refine go_getR dX9_lay_108 fl_X9_21 (by first | assumption | exact Nat.le_of_ble_eq_true rfl) (by first | assumption | rfl) rfl (by first | assumption | rfl) ?_
                refine go_getR dX9_lay_111 fl_X9_89 (by first | assumption | exact Nat.le_of_ble_eq_true rfl) (by first | assumption | rfl) rfl (by first | assumption | rfl) ?_
                refine go_iload_n dX9_lay_114 rfl ?_
                refine go_iaload dX9_lay_115 (by first | assumption | exact Nat.le_of_ble_eq_true rfl) (by first | assumption | rfl) (by omega) (by omega) ?_
                try simp (disch := omega) only [ud, ua_same, ua_ne, uf_same, uf_ne]
                refine go_putI 2 dX9_lay_116 pl_X9_312 (by first | assumption | exact Nat.le_of_ble_eq_true rfl) (by first | assumption | rfl) rfl rfl ?_
                refine go_aload dX9_lay_119 rfl ?_
                refine go_aload_n dX9_lay_121 rfl ?_
                refine go_getR dX9_lay_122 fl_X9_21 (by first | assumption | exact Nat.le_of_ble_eq_true rfl) (by first | assumption | rfl) rfl (by first | assumption | rfl) ?_
                refine go_getR dX9_lay_125 fl_X9_92 (by first | assumption | exact Nat.le_of_ble_eq_true rfl) (by first | assumption | rfl) rfl (by first | assumption | rfl) ?_
                refine go_iload_n dX9_lay_128 rfl ?_
                refine go_iaload dX9_lay_129 (by first | assumption | exact Nat.le_of_ble_eq_true rfl) (by first | assumption | rfl) (by omega) (by omega) ?_
                try simp (disch := omega) only [ud, ua_same, ua_ne, uf_same, uf_ne]
                refine go_putI 3 dX9_lay_130 pl_X9_315 (by first | assumption | exact Nat.le_of_ble_eq_true rfl) (by first | assumption | rfl) rfl rfl ?_
                refine go_goto (tgt := 169) dX9_lay_133 rfl ?_
                refine go_iload dX9_lay_169 rfl ?_
                exact go_ri dX9_lay_171 tyI ⟨Nat.le_refl _, Nat.le_refl _⟩ (⟨fun h => absurd (by omega) h, fun _ => ⟨fun h => absurd h.1 h45, fun _ => ⟨rfl, fun h => absurd h (by omega), fun _ => by subst h88; simp (disch := omega) only [ud, ua_same, ua_ne, uf_same, uf_ne], fun h => absurd h (by omega), fun h => absurd h (by omega)⟩⟩⟩)
            ·
              refine go_aload_n dX9_lay_48 rfl ?_
              refine go_getR dX9_lay_49 fl_X9_56 (by first | assumption | exact Nat.le_of_ble_eq_true rfl) (by first | assumption | rfl) rfl (by first | assumption | rfl) ?_
              refine go_iload_n dX9_lay_52 rfl ?_
              refine go_sheets dX9_lay_53 (by omega) (by omega) (fun hj53_0 hj53_1 hj53_2 hj53_3 hj53_4 => ?_)
              refine go_getI 0 dX9_lay_54 fl_X9_273 (by first | assumption | exact Nat.le_of_ble_eq_true rfl) (by first | assumption | rfl) rfl rfl ?_
              try simp (disch := omega) only [ud, ua_same, ua_ne, uf_same, uf_ne]
              refine go_iconst dX9_lay_57 rfl ?_
              refine go_icmp_ne (tgt := 65) dX9_lay_58 rfl (fun h58 => ?_) (fun h58 => ?_)
              ·
                refine go_aload_n dX9_lay_65 rfl ?_
                refine go_getR dX9_lay_66 fl_X9_63 (by first | assumption | exact Nat.le_of_ble_eq_true rfl) (by first | assumption | rfl) rfl (by first | assumption | rfl) ?_
                refine go_iload_n dX9_lay_69 rfl ?_
                refine go_slots dX9_lay_70 (by omega) (by omega) (fun hj70_0 hj70_1 hj70_2 hj70_3 hj70_4 hj70_5 hj70_6 hj70_7 => ?_)
                refine go_astore dX9_lay_71 rfl ?_
                refine go_aload dX9_lay_73 rfl ?_
                refine go_getI 0 dX9_lay_75 fl_X9_306 (by first | assumption | exact Nat.le_of_ble_eq_true rfl) (by first | assumption | rfl) rfl rfl ?_
                try simp (disch := omega) only [ud, ua_same, ua_ne, uf_same, uf_ne]
                refine go_istore dX9_lay_78 rfl ?_
                refine go_aload dX9_lay_80 rfl ?_
                refine go_iload_n dX9_lay_82 rfl ?_
                refine go_putI 0 dX9_lay_83 pl_X9_306 (by first | assumption | exact Nat.le_of_ble_eq_true rfl) (by first | assumption | rfl) rfl rfl ?_
                refine go_iload_n dX9_lay_86 rfl ?_
                refine go_iconst dX9_lay_87 rfl ?_
                refine go_icmp_ne (tgt := 136) dX9_lay_88 rfl (fun h88 => ?_) (fun h88 => ?_)
                ·
                  refine go_iload_n dX9_lay_136 rfl ?_
                  refine go_iconst dX9_lay_137 rfl ?_
                  refine go_icmp_ne (tgt := 158) dX9_lay_138 rfl (fun h138 => ?_) (fun h138 => ?_)
                  ·
                    refine go_iload_n dX9_lay_158 rfl ?_
                    refine go_iconst dX9_lay_159 rfl ?_
                    refine go_icmp_ne (tgt := 169) dX9_lay_160 rfl (fun h160 => ?_) (fun h160 => ?_)
                    ·
                      refine go_iload dX9_lay_169 rfl ?_
                      exact go_ri dX9_lay_171 tyI ⟨Nat.le_refl _, Nat.le_refl _⟩ (⟨fun h => absurd (by omega) h, fun _ => ⟨fun h => absurd h.2 h58, fun _ => ⟨rfl, fun h => by rw [h], fun h => absurd h (by omega), fun h => absurd h (by omega), fun h => absurd h (by omega)⟩⟩⟩)
                    ·
                      refine go_aload dX9_lay_163 rfl ?_
                      refine go_iload_n dX9_lay_165 rfl ?_
                      refine go_putI 4 dX9_lay_166 pl_X9_325 (by first | assumption | exact Nat.le_of_ble_eq_true rfl) (by first | assumption | rfl) rfl rfl ?_
                      refine go_iload dX9_lay_169 rfl ?_
                      exact go_ri dX9_lay_171 tyI ⟨Nat.le_refl _, Nat.le_refl _⟩ (⟨fun h => absurd (by omega) h, fun _ => ⟨fun h => absurd h.2 h58, fun _ => ⟨rfl, fun h => absurd h (by omega), fun h => absurd h (by omega), fun h => absurd h (by omega), fun _ => by subst h160; simp (disch := omega) only [ud, ua_same, ua_ne, uf_same, uf_ne]⟩⟩⟩)
                  ·
                    refine go_aload dX9_lay_141 rfl ?_
                    refine go_getR dX9_lay_143 fl_X9_318 (by first | assumption | exact Nat.le_of_ble_eq_true rfl) (by first | assumption | rfl) rfl (by first | assumption | rfl) ?_
                    refine go_aload_n dX9_lay_146 rfl ?_
                    refine go_getR dX9_lay_147 fl_X9_56 (by first | assumption | exact Nat.le_of_ble_eq_true rfl) (by first | assumption | rfl) rfl (by first | assumption | rfl) ?_
                    refine go_iload_n dX9_lay_150 rfl ?_
                    refine go_sheets dX9_lay_151 (by omega) (by omega) (fun hj151_0 hj151_1 hj151_2 hj151_3 hj151_4 => ?_)
                    refine go_vV (ci := 4) dX9_lay_152 (ct_X5_become (j := (71 + 3 * sl.toNat) + 1) (i := (62 + 2 * k.toNat)) (by unfold isSh; omega) (by unfold isSh; omega) (by omega) (by omega) (by omega)) ml_X9_322 mc_X5_become mv_X5_become rfl (by first | assumption | exact Nat.le_of_ble_eq_true rfl) (by first | assumption | rfl) rfl ⟨rfl, rfl⟩ ⟨Nat.le_refl _, Nat.le_refl _⟩ rfl rfl rfl (fun μ152 hc152 => ?_)
                    have hb152 := hc152
                    refine go_goto (tgt := 169) dX9_lay_155 rfl ?_
                    refine go_iload dX9_lay_169 rfl ?_
                    exact go_ri dX9_lay_171 tyI ⟨Nat.le_refl _, Nat.le_refl _⟩ (⟨fun h => absurd (by omega) h, fun _ => ⟨fun h => absurd h.2 h58, fun _ => ⟨rfl, fun h => absurd h (by omega), fun h => absurd h (by omega), fun _ => ⟨by rw [hb152.2.2.2 _ (by omega) (by omega), ud_s, h138], by rw [hb152.2.1, ud_n (by omega)], fun q a b => by rw [hb152.2.2.1 q a b, ud_n (by omega)], fun q a b c => by rw [hb152.2.2.2 q b c, ud_n a]⟩, fun h => absurd h (by omega)⟩⟩⟩)
                ·
                  refine go_aload dX9_lay_91 rfl ?_
                  refine go_aload_n dX9_lay_93 rfl ?_
                  refine go_getR dX9_lay_94 fl_X9_21 (by first | assumption | exact Nat.le_of_ble_eq_true rfl) (by first | assumption | rfl) rfl (by first | assumption | rfl) ?_
                  refine go_getR dX9_lay_97 fl_X9_86 (by first | assumption | exact Nat.le_of_ble_eq_true rfl) (by first | assumption | rfl) rfl (by first | assumption | rfl) ?_
                  refine go_iload_n dX9_lay_100 rfl ?_
                  refine go_iaload dX9_lay_101 (by first | assumption | exact Nat.le_of_ble_eq_true rfl) (by first | assumption | rfl) (by omega) (by omega) ?_
                  try simp (disch := omega) only [ud, ua_same, ua_ne, uf_same, uf_ne]
                  refine go_putI 1 dX9_lay_102 pl_X9_309 (by first | assumption | exact Nat.le_of_ble_eq_true rfl) (by first | assumption | rfl) rfl rfl ?_
                  refine go_aload dX9_lay_105 rfl ?_
                  refine go_aload_n dX9_lay_107 rfl ?_
                  refine go_getR dX9_lay_108 fl_X9_21 (by first | assumption | exact Nat.le_of_ble_eq_true rfl) (by first | assumption | rfl) rfl (by first | assumption | rfl) ?_
                  refine go_getR dX9_lay_111 fl_X9_89 (by first | assumption | exact Nat.le_of_ble_eq_true rfl) (by first | assumption | rfl) rfl (by first | assumption | rfl) ?_
                  refine go_iload_n dX9_lay_114 rfl ?_
                  refine go_iaload dX9_lay_115 (by first | assumption | exact Nat.le_of_ble_eq_true rfl) (by first | assumption | rfl) (by omega) (by omega) ?_
                  try simp (disch := omega) only [ud, ua_same, ua_ne, uf_same, uf_ne]
                  refine go_putI 2 dX9_lay_116 pl_X9_312 (by first | assumption | exact Nat.le_of_ble_eq_true rfl) (by first | assumption | rfl) rfl rfl ?_
                  refine go_aload dX9_lay_119 rfl ?_
                  refine go_aload_n dX9_lay_121 rfl ?_
                  refine go_getR dX9_lay_122 fl_X9_21 (by first | assumption | exact Nat.le_of_ble_eq_true rfl) (by first | assumption | rfl) rfl (by first | assumption | rfl) ?_
                  refine go_getR dX9_lay_125 fl_X9_92 (by first | assumption | exact Nat.le_of_ble_eq_true rfl) (by first | assumption | rfl) rfl (by first | assumption | rfl) ?_
                  refine go_iload_n dX9_lay_128 rfl ?_
                  refine go_iaload dX9_lay_129 (by first | assumption | exact Nat.le_of_ble_eq_true rfl) (by first | assumption | rfl) (by omega) (by omega) ?_
                  try simp (disch := omega) only [ud, ua_same, ua_ne, uf_same, uf_ne]
                  refine go_putI 3 dX9_lay_130 pl_X9_315 (by first | assumption | exact Nat.le_of_ble_eq_true rfl) (by first | assumption | rfl) rfl rfl ?_
                  refine go_goto (tgt := 169) dX9_lay_133 rfl ?_
                  refine go_iload dX9_lay_169 rfl ?_
                  exact go_ri dX9_lay_171 tyI ⟨Nat.le_refl _, Nat.le_refl _⟩ (⟨fun h => absurd (by omega) h, fun _ => ⟨fun h => absurd h.2 h58, fun _ => ⟨rfl, fun h => absurd h (by omega), fun _ => by subst h88; simp (disch := omega) only [ud, ua_same, ua_ne, uf_same, uf_ne], fun h => absurd h (by omega), fun h => absurd h (by omega)⟩⟩⟩)
              ·
                refine go_ldcw dX9_lay_61 kc_X9_276 rfl ?_
                exact go_ri dX9_lay_64 tyI ⟨Nat.le_refl _, Nat.le_refl _⟩ (⟨fun h => absurd (by omega) h, fun _ => ⟨fun _ => ⟨rfl, rfl⟩, fun h => absurd ⟨h45, h58⟩ h⟩⟩)
          ·
            refine go_iload_n dX9_lay_33 rfl ?_
            refine go_sI dX9_lay_34 (ct_X9_isSheet _) ml_X9_265 mc_X9_isSheet ms_X9_isSheet ⟨rfl, rfl⟩ ⟨Nat.le_refl _, Nat.le_refl _⟩ rfl rfl rfl (fun x34 μ34 hc34 => ?_)
            obtain ⟨rfl, hm34⟩ := hc34
            rw [hm34]
            first | refine go_bnz (tgt := 43) dX9_lay_37 rfl (fun h37 => ?_) (fun h37 => ?_) | refine go_if_ne (tgt := 43) dX9_lay_37 rfl (fun h37 => ?_) (fun h37 => ?_)
            ·
              refine go_iload_n dX9_lay_43 rfl ?_
              refine go_iconst dX9_lay_44 rfl ?_
              refine go_icmp_ne (tgt := 65) dX9_lay_45 rfl (fun h45 => ?_) (fun h45 => ?_)
              ·
                refine go_aload_n dX9_lay_65 rfl ?_
                refine go_getR dX9_lay_66 fl_X9_63 (by first | assumption | exact Nat.le_of_ble_eq_true rfl) (by first | assumption | rfl) rfl (by first | assumption | rfl) ?_
                refine go_iload_n dX9_lay_69 rfl ?_
                refine go_slots dX9_lay_70 (by omega) (by omega) (fun hj70_0 hj70_1 hj70_2 hj70_3 hj70_4 hj70_5 hj70_6 hj70_7 => ?_)
                refine go_astore dX9_lay_71 rfl ?_
                refine go_aload dX9_lay_73 rfl ?_
                refine go_getI 0 dX9_lay_75 fl_X9_306 (by first | assumption | exact Nat.le_of_ble_eq_true rfl) (by first | assumption | rfl) rfl rfl ?_
                try simp (disch := omega) only [ud, ua_same, ua_ne, uf_same, uf_ne]
                refine go_istore dX9_lay_78 rfl ?_
                refine go_aload dX9_lay_80 rfl ?_
                refine go_iload_n dX9_lay_82 rfl ?_
                refine go_putI 0 dX9_lay_83 pl_X9_306 (by first | assumption | exact Nat.le_of_ble_eq_true rfl) (by first | assumption | rfl) rfl rfl ?_
                refine go_iload_n dX9_lay_86 rfl ?_
                refine go_iconst dX9_lay_87 rfl ?_
                refine go_icmp_ne (tgt := 136) dX9_lay_88 rfl (fun h88 => ?_) (fun h88 => ?_)
                ·
                  refine go_iload_n dX9_lay_136 rfl ?_
                  refine go_iconst dX9_lay_137 rfl ?_
                  refine go_icmp_ne (tgt := 158) dX9_lay_138 rfl (fun h138 => ?_) (fun h138 => ?_)
                  ·
                    refine go_iload_n dX9_lay_158 rfl ?_
                    refine go_iconst dX9_lay_159 rfl ?_
                    refine go_icmp_ne (tgt := 169) dX9_lay_160 rfl (fun h160 => ?_) (fun h160 => ?_)
                    ·
                      refine go_iload dX9_lay_169 rfl ?_
                      exact go_ri dX9_lay_171 tyI ⟨Nat.le_refl _, Nat.le_refl _⟩ (⟨fun h => absurd (by omega) h, fun _ => ⟨fun h => absurd h.1 h45, fun _ => ⟨rfl, fun h => by rw [h], fun h => absurd h (by omega), fun h => absurd h (by omega), fun h => absurd h (by omega)⟩⟩⟩)
                    ·
                      refine go_aload dX9_lay_163 rfl ?_
                      refine go_iload_n dX9_lay_165 rfl ?_
                      refine go_putI 4 dX9_lay_166 pl_X9_325 (by first | assumption | exact Nat.le_of_ble_eq_true rfl) (by first | assumption | rfl) rfl rfl ?_
                      refine go_iload dX9_lay_169 rfl ?_
                      exact go_ri dX9_lay_171 tyI ⟨Nat.le_refl _, Nat.le_refl _⟩ (⟨fun h => absurd (by omega) h, fun _ => ⟨fun h => absurd h.1 h45, fun _ => ⟨rfl, fun h => absurd h (by omega), fun h => absurd h (by omega), fun h => absurd h (by omega), fun _ => by subst h160; simp (disch := omega) only [ud, ua_same, ua_ne, uf_same, uf_ne]⟩⟩⟩)
                  ·
                    refine go_aload dX9_lay_141 rfl ?_
                    refine go_getR dX9_lay_143 fl_X9_318 (by first | assumption | exact Nat.le_of_ble_eq_true rfl) (by first | assumption | rfl) rfl (by first | assumption | rfl) ?_
                    refine go_aload_n dX9_lay_146 rfl ?_
                    refine go_getR dX9_lay_147 fl_X9_56 (by first | assumption | exact Nat.le_of_ble_eq_true rfl) (by first | assumption | rfl) rfl (by first | assumption | rfl) ?_
                    refine go_iload_n dX9_lay_150 rfl ?_
                    refine go_sheets dX9_lay_151 (by omega) (by omega) (fun hj151_0 hj151_1 hj151_2 hj151_3 hj151_4 => ?_)
                    refine go_vV (ci := 4) dX9_lay_152 (ct_X5_become (j := (71 + 3 * sl.toNat) + 1) (i := (62 + 2 * k.toNat)) (by unfold isSh; omega) (by unfold isSh; omega) (by omega) (by omega) (by omega)) ml_X9_322 mc_X5_become mv_X5_become rfl (by first | assumption | exact Nat.le_of_ble_eq_true rfl) (by first | assumption | rfl) rfl ⟨rfl, rfl⟩ ⟨Nat.le_refl _, Nat.le_refl _⟩ rfl rfl rfl (fun μ152 hc152 => ?_)
                    have hb152 := hc152
                    refine go_goto (tgt := 169) dX9_lay_155 rfl ?_
                    refine go_iload dX9_lay_169 rfl ?_
                    exact go_ri dX9_lay_171 tyI ⟨Nat.le_refl _, Nat.le_refl _⟩ (⟨fun h => absurd (by omega) h, fun _ => ⟨fun h => absurd h.1 h45, fun _ => ⟨rfl, fun h => absurd h (by omega), fun h => absurd h (by omega), fun _ => ⟨by rw [hb152.2.2.2 _ (by omega) (by omega), ud_s, h138], by rw [hb152.2.1, ud_n (by omega)], fun q a b => by rw [hb152.2.2.1 q a b, ud_n (by omega)], fun q a b c => by rw [hb152.2.2.2 q b c, ud_n a]⟩, fun h => absurd h (by omega)⟩⟩⟩)
                ·
                  refine go_aload dX9_lay_91 rfl ?_
                  refine go_aload_n dX9_lay_93 rfl ?_
                  refine go_getR dX9_lay_94 fl_X9_21 (by first | assumption | exact Nat.le_of_ble_eq_true rfl) (by first | assumption | rfl) rfl (by first | assumption | rfl) ?_
                  refine go_getR dX9_lay_97 fl_X9_86 (by first | assumption | exact Nat.le_of_ble_eq_true rfl) (by first | assumption | rfl) rfl (by first | assumption | rfl) ?_
                  refine go_iload_n dX9_lay_100 rfl ?_
                  refine go_iaload dX9_lay_101 (by first | assumption | exact Nat.le_of_ble_eq_true rfl) (by first | assumption | rfl) (by omega) (by omega) ?_
                  try simp (disch := omega) only [ud, ua_same, ua_ne, uf_same, uf_ne]
                  refine go_putI 1 dX9_lay_102 pl_X9_309 (by first | assumption | exact Nat.le_of_ble_eq_true rfl) (by first | assumption | rfl) rfl rfl ?_
                  refine go_aload dX9_lay_105 rfl ?_
                  refine go_aload_n dX9_lay_107 rfl ?_
                  refine go_getR dX9_lay_108 fl_X9_21 (by first | assumption | exact Nat.le_of_ble_eq_true rfl) (by first | assumption | rfl) rfl (by first | assumption | rfl) ?_
                  refine go_getR dX9_lay_111 fl_X9_89 (by first | assumption | exact Nat.le_of_ble_eq_true rfl) (by first | assumption | rfl) rfl (by first | assumption | rfl) ?_
                  refine go_iload_n dX9_lay_114 rfl ?_
                  refine go_iaload dX9_lay_115 (by first | assumption | exact Nat.le_of_ble_eq_true rfl) (by first | assumption | rfl) (by omega) (by omega) ?_
                  try simp (disch := omega) only [ud, ua_same, ua_ne, uf_same, uf_ne]
                  refine go_putI 2 dX9_lay_116 pl_X9_312 (by first | assumption | exact Nat.le_of_ble_eq_true rfl) (by first | assumption | rfl) rfl rfl ?_
                  refine go_aload dX9_lay_119 rfl ?_
                  refine go_aload_n dX9_lay_121 rfl ?_
                  refine go_getR dX9_lay_122 fl_X9_21 (by first | assumption | exact Nat.le_of_ble_eq_true rfl) (by first | assumption | rfl) rfl (by first | assumption | rfl) ?_
                  refine go_getR dX9_lay_125 fl_X9_92 (by first | assumption | exact Nat.le_of_ble_eq_true rfl) (by first | assumption | rfl) rfl (by first | assumption | rfl) ?_
                  refine go_iload_n dX9_lay_128 rfl ?_
                  refine go_iaload dX9_lay_129 (by first | assumption | exact Nat.le_of_ble_eq_true rfl) (by first | assumption | rfl) (by omega) (by omega) ?_
                  try simp (disch := omega) only [ud, ua_same, ua_ne, uf_same, uf_ne]
                  refine go_putI 3 dX9_lay_130 pl_X9_315 (by first | assumption | exact Nat.le_of_ble_eq_true rfl) (by first | assumption | rfl) rfl rfl ?_
                  refine go_goto (tgt := 169) dX9_lay_133 rfl ?_
                  refine go_iload dX9_lay_169 rfl ?_
                  exact go_ri dX9_lay_171 tyI ⟨Nat.le_refl _, Nat.le_refl _⟩ (⟨fun h => absurd (by omega) h, fun _ => ⟨fun h => absurd h.1 h45, fun _ => ⟨rfl, fun h => absurd h (by omega), fun _ => by subst h88; simp (disch := omega) only [ud, ua_same, ua_ne, uf_same, uf_ne], fun h => absurd h (by omega), fun h => absurd h (by omega)⟩⟩⟩)
              ·
                refine go_aload_n dX9_lay_48 rfl ?_
                refine go_getR dX9_lay_49 fl_X9_56 (by first | assumption | exact Nat.le_of_ble_eq_true rfl) (by first | assumption | rfl) rfl (by first | assumption | rfl) ?_
                refine go_iload_n dX9_lay_52 rfl ?_
                refine go_sheets dX9_lay_53 (by omega) (by omega) (fun hj53_0 hj53_1 hj53_2 hj53_3 hj53_4 => ?_)
                refine go_getI 0 dX9_lay_54 fl_X9_273 (by first | assumption | exact Nat.le_of_ble_eq_true rfl) (by first | assumption | rfl) rfl rfl ?_
                try simp (disch := omega) only [ud, ua_same, ua_ne, uf_same, uf_ne]
                refine go_iconst dX9_lay_57 rfl ?_
                refine go_icmp_ne (tgt := 65) dX9_lay_58 rfl (fun h58 => ?_) (fun h58 => ?_)
                ·
                  refine go_aload_n dX9_lay_65 rfl ?_
                  refine go_getR dX9_lay_66 fl_X9_63 (by first | assumption | exact Nat.le_of_ble_eq_true rfl) (by first | assumption | rfl) rfl (by first | assumption | rfl) ?_
                  refine go_iload_n dX9_lay_69 rfl ?_
                  refine go_slots dX9_lay_70 (by omega) (by omega) (fun hj70_0 hj70_1 hj70_2 hj70_3 hj70_4 hj70_5 hj70_6 hj70_7 => ?_)
                  refine go_astore dX9_lay_71 rfl ?_
                  refine go_aload dX9_lay_73 rfl ?_
                  refine go_getI 0 dX9_lay_75 fl_X9_306 (by first | assumption | exact Nat.le_of_ble_eq_true rfl) (by first | assumption | rfl) rfl rfl ?_
                  try simp (disch := omega) only [ud, ua_same, ua_ne, uf_same, uf_ne]
                  refine go_istore dX9_lay_78 rfl ?_
                  refine go_aload dX9_lay_80 rfl ?_
                  refine go_iload_n dX9_lay_82 rfl ?_
                  refine go_putI 0 dX9_lay_83 pl_X9_306 (by first | assumption | exact Nat.le_of_ble_eq_true rfl) (by first | assumption | rfl) rfl rfl ?_
                  refine go_iload_n dX9_lay_86 rfl ?_
                  refine go_iconst dX9_lay_87 rfl ?_
                  refine go_icmp_ne (tgt := 136) dX9_lay_88 rfl (fun h88 => ?_) (fun h88 => ?_)
                  ·
                    refine go_iload_n dX9_lay_136 rfl ?_
                    refine go_iconst dX9_lay_137 rfl ?_
                    refine go_icmp_ne (tgt := 158) dX9_lay_138 rfl (fun h138 => ?_) (fun h138 => ?_)
                    ·
                      refine go_iload_n dX9_lay_158 rfl ?_
                      refine go_iconst dX9_lay_159 rfl ?_
                      refine go_icmp_ne (tgt := 169) dX9_lay_160 rfl (fun h160 => ?_) (fun h160 => ?_)
                      ·
                        refine go_iload dX9_lay_169 rfl ?_
                        exact go_ri dX9_lay_171 tyI ⟨Nat.le_refl _, Nat.le_refl _⟩ (⟨fun h => absurd (by omega) h, fun _ => ⟨fun h => absurd h.2 h58, fun _ => ⟨rfl, fun h => by rw [h], fun h => absurd h (by omega), fun h => absurd h (by omega), fun h => absurd h (by omega)⟩⟩⟩)
                      ·
                        refine go_aload dX9_lay_163 rfl ?_
                        refine go_iload_n dX9_lay_165 rfl ?_
                        refine go_putI 4 dX9_lay_166 pl_X9_325 (by first | assumption | exact Nat.le_of_ble_eq_true rfl) (by first | assumption | rfl) rfl rfl ?_
                        refine go_iload dX9_lay_169 rfl ?_
                        exact go_ri dX9_lay_171 tyI ⟨Nat.le_refl _, Nat.le_refl _⟩ (⟨fun h => absurd (by omega) h, fun _ => ⟨fun h => absurd h.2 h58, fun _ => ⟨rfl, fun h => absurd h (by omega), fun h => absurd h (by omega), fun h => absurd h (by omega), fun _ => by subst h160; simp (disch := omega) only [ud, ua_same, ua_ne, uf_same, uf_ne]⟩⟩⟩)
                    ·
                      refine go_aload dX9_lay_141 rfl ?_
                      refine go_getR dX9_lay_143 fl_X9_318 (by first | assumption | exact Nat.le_of_ble_eq_true rfl) (by first | assumption | rfl) rfl (by first | assumption | rfl) ?_
                      refine go_aload_n dX9_lay_146 rfl ?_
                      refine go_getR dX9_lay_147 fl_X9_56 (by first | assumption | exact Nat.le_of_ble_eq_true rfl) (by first | assumption | rfl) rfl (by first | assumption | rfl) ?_
                      refine go_iload_n dX9_lay_150 rfl ?_
                      refine go_sheets dX9_lay_151 (by omega) (by omega) (fun hj151_0 hj151_1 hj151_2 hj151_3 hj151_4 => ?_)
                      refine go_vV (ci := 4) dX9_lay_152 (ct_X5_become (j := (71 + 3 * sl.toNat) + 1) (i := (62 + 2 * k.toNat)) (by unfold isSh; omega) (by unfold isSh; omega) (by omega) (by omega) (by omega)) ml_X9_322 mc_X5_become mv_X5_become rfl (by first | assumption | exact Nat.le_of_ble_eq_true rfl) (by first | assumption | rfl) rfl ⟨rfl, rfl⟩ ⟨Nat.le_refl _, Nat.le_refl _⟩ rfl rfl rfl (fun μ152 hc152 => ?_)
                      have hb152 := hc152
                      refine go_goto (tgt := 169) dX9_lay_155 rfl ?_
                      refine go_iload dX9_lay_169 rfl ?_
                      exact go_ri dX9_lay_171 tyI ⟨Nat.le_refl _, Nat.le_refl _⟩ (⟨fun h => absurd (by omega) h, fun _ => ⟨fun h => absurd h.2 h58, fun _ => ⟨rfl, fun h => absurd h (by omega), fun h => absurd h (by omega), fun _ => ⟨by rw [hb152.2.2.2 _ (by omega) (by omega), ud_s, h138], by rw [hb152.2.1, ud_n (by omega)], fun q a b => by rw [hb152.2.2.1 q a b, ud_n (by omega)], fun q a b c => by rw [hb152.2.2.2 q b c, ud_n a]⟩, fun h => absurd h (by omega)⟩⟩⟩)
                  ·
                    refine go_aload dX9_lay_91 rfl ?_
                    refine go_aload_n dX9_lay_93 rfl ?_
                    refine go_getR dX9_lay_94 fl_X9_21 (by first | assumption | exact Nat.le_of_ble_eq_true rfl) (by first | assumption | rfl) rfl (by first | assumption | rfl) ?_
                    refine go_getR dX9_lay_97 fl_X9_86 (by first | assumption | exact Nat.le_of_ble_eq_true rfl) (by first | assumption | rfl) rfl (by first | assumption | rfl) ?_
                    refine go_iload_n dX9_lay_100 rfl ?_
                    refine go_iaload dX9_lay_101 (by first | assumption | exact Nat.le_of_ble_eq_true rfl) (by first | assumption | rfl) (by omega) (by omega) ?_
                    try simp (disch := omega) only [ud, ua_same, ua_ne, uf_same, uf_ne]
                    refine go_putI 1 dX9_lay_102 pl_X9_309 (by first | assumption | exact Nat.le_of_ble_eq_true rfl) (by first | assumption | rfl) rfl rfl ?_
                    refine go_aload dX9_lay_105 rfl ?_
                    refine go_aload_n dX9_lay_107 rfl ?_
                    refine go_getR dX9_lay_108 fl_X9_21 (by first | assumption | exact Nat.le_of_ble_eq_true rfl) (by first | assumption | rfl) rfl (by first | assumption | rfl) ?_
                    refine go_getR dX9_lay_111 fl_X9_89 (by first | assumption | exact Nat.le_of_ble_eq_true rfl) (by first | assumption | rfl) rfl (by first | assumption | rfl) ?_
                    refine go_iload_n dX9_lay_114 rfl ?_
                    refine go_iaload dX9_lay_115 (by first | assumption | exact Nat.le_of_ble_eq_true rfl) (by first | assumption | rfl) (by omega) (by omega) ?_
                    try simp (disch := omega) only [ud, ua_same, ua_ne, uf_same, uf_ne]
                    refine go_putI 2 dX9_lay_116 pl_X9_312 (by first | assumption | exact Nat.le_of_ble_eq_true rfl) (by first | assumption | rfl) rfl rfl ?_
                    refine go_aload dX9_lay_119 rfl ?_
                    refine go_aload_n dX9_lay_121 rfl ?_
                    refine go_getR dX9_lay_122 fl_X9_21 (by first | assumption | exact Nat.le_of_ble_eq_true rfl) (by first | assumption | rfl) rfl (by first | assumption | rfl) ?_
                    refine go_getR dX9_lay_125 fl_X9_92 (by first | assumption | exact Nat.le_of_ble_eq_true rfl) (by first | assumption | rfl) rfl (by first | assumption | rfl) ?_
                    refine go_iload_n dX9_lay_128 rfl ?_
                    refine go_iaload dX9_lay_129 (by first | assumption | exact Nat.le_of_ble_eq_true rfl) (by first | assumption | rfl) (by omega) (by omega) ?_
                    try simp (disch := omega) only [ud, ua_same, ua_ne, uf_same, uf_ne]
                    refine go_putI 3 dX9_lay_130 pl_X9_315 (by first | assumption | exact Nat.le_of_ble_eq_true rfl) (by first | assumption | rfl) rfl rfl ?_
                    refine go_goto (tgt := 169) dX9_lay_133 rfl ?_
                    refine go_iload dX9_lay_169 rfl ?_
                    exact go_ri dX9_lay_171 tyI ⟨Nat.le_refl _, Nat.le_refl _⟩ (⟨fun h => absurd (by omega) h, fun _ => ⟨fun h => absurd h.2 h58, fun _ => ⟨rfl, fun h => absurd h (by omega), fun _ => by subst h88; simp (disch := omega) only [ud, ua_same, ua_ne, uf_same, uf_ne], fun h => absurd h (by omega), fun h => absurd h (by omega)⟩⟩⟩)
                ·
                  refine go_ldcw dX9_lay_61 kc_X9_276 rfl ?_
                  exact go_ri dX9_lay_64 tyI ⟨Nat.le_refl _, Nat.le_refl _⟩ (⟨fun h => absurd (by omega) h, fun _ => ⟨fun _ => ⟨rfl, rfl⟩, fun h => absurd ⟨h45, h58⟩ h⟩⟩)
            ·
              refine go_ldc dX9_lay_40 kc_X9_85 rfl ?_
              exact go_ri dX9_lay_42 tyI ⟨Nat.le_refl _, Nat.le_refl _⟩ (⟨fun _ => ⟨rfl, rfl⟩, fun h => absurd h (by omega)⟩)

