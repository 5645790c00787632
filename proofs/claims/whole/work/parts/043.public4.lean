/-! THE CLASS: public methods: sheets, slots, odds -/
/-- sheets: sorts and places as the document has them -/
def shI (μ : Mem) : Prop := ∀ k : Nat, k < 4 → (-1 ≤ μ (62 + 2 * k) 0 ∧ μ (62 + 2 * k) 0 ≤ 1) ∧ 0 ≤ μ (62 + 2 * k) 1 ∧ μ (62 + 2 * k) 1 ≤ 24
/-- slots: what they hold is as the document has it -/
def slI (μ : Mem) : Prop := ∀ k : Nat, k < 5 → (0 ≤ μ (71 + 3 * k) 0 ∧ μ (71 + 3 * k) 0 ≤ 3) ∧ (μ (71 + 3 * k) 0 = 1 → (0 ≤ μ (71 + 3 * k) 1 ∧ μ (71 + 3 * k) 1 ≤ 5) ∧ (0 ≤ μ (71 + 3 * k) 2 ∧ μ (71 + 3 * k) 2 ≤ 60) ∧ 0 ≤ μ (71 + 3 * k) 3 ∧ μ (71 + 3 * k) 3 ≤ 999) ∧ (μ (71 + 3 * k) 0 = 2 → 0 ≤ μ (71 + 3 * k + 1) 1 ∧ μ (71 + 3 * k + 1) 1 ≤ 24)

set_option maxRecDepth 100000 in
set_option maxHeartbeats 4000000 in
theorem ct_X9_sheet {l : Launch} {D : va_G} {cA : Nat → ClassId} {μ : Mem} (sh so n : Int) : CtN l D cA yX9_sheet cX9_sheet 4 (some .int) 3 [vr 0, vi sh, vi so, vi n] μ (Pi (fun x μ' => (¬ ((0 ≤ sh ∧ sh ≤ 3) ∧ -1 ≤ so ∧ so ≤ 1) → x = -1000000001 ∧ μ' = μ) ∧ (((0 ≤ sh ∧ sh ≤ 3) ∧ -1 ≤ so ∧ so ≤ 1) → (so = -1 → x = 0 ∧ μ' (62 + 2 * sh.toNat) 0 = -1 ∧ μ' (62 + 2 * sh.toNat) 1 = 0 ∧ (∀ q, 0 ≤ q → q < 24 → μ' ((62 + 2 * sh.toNat) + 1) q = 0) ∧ ∀ q, q ≠ (62 + 2 * sh.toNat) → q ≠ (62 + 2 * sh.toNat) + 1 → μ' q = μ q) ∧ (so ≠ -1 → (24 < n → x = -1000000001 ∧ μ' = μ) ∧ (n ≤ 24 → (n < 0 → x = -1000000014 ∧ μ' = μ) ∧ (0 ≤ n → x = n ∧ μ' (62 + 2 * sh.toNat) 0 = so ∧ μ' (62 + 2 * sh.toNat) 1 = n ∧ (∀ q, 0 ≤ q → q < 24 → μ' ((62 + 2 * sh.toNat) + 1) q = 0) ∧ ∀ q, q ≠ (62 + 2 * sh.toNat) → q ≠ (62 + 2 * sh.toNat) + 1 → μ' q = μ q)))))) := by
  refine Ct.of (own := RX9) (by decide +kernel) rfl (fun σ => Nat.le_of_ble_eq_true rfl) (fun hM hP ha => ?_)
  obtain ⟨w0_0, w0_1, w0_2, w0_3, w0_4, w0_5, w0_6, w0_7, w0_8, w0_9, w1_0, w1_1, w32_1, w32_2, w32_3, w32_4, w32_5, w32_6, w39_1, w39_2, w39_3, w39_4, w39_5, w39_6, w46_1, w46_2, w46_3, w46_4, w46_5, w46_6, w56_0, w58_0, w58_1, w53_0, w53_1⟩ := ws_f
  refine go_iload_n dX9_sheet_0 rfl ?_
  refine go_sI dX9_sheet_1 (ct_X9_isSheet _) ml_X9_265 mc_X9_isSheet ms_X9_isSheet ⟨rfl, rfl⟩ ⟨Nat.le_refl _, Nat.le_refl _⟩ rfl rfl rfl (fun x1 μ1 hc1 => ?_)
  obtain ⟨rfl, hm1⟩ := hc1
  rw [hm1]
  first | refine go_bz (tgt := 16) dX9_sheet_4 rfl (fun h4 => ?_) (fun h4 => ?_) | refine go_if_eq (tgt := 16) dX9_sheet_4 rfl (fun h4 => ?_) (fun h4 => ?_)
  ·
    refine go_ldc dX9_sheet_16 kc_X9_85 rfl ?_
    exact go_ri dX9_sheet_18 tyI ⟨Nat.le_refl _, Nat.le_refl _⟩ (⟨fun _ => ⟨rfl, rfl⟩, fun h => absurd h (by omega)⟩)
  ·
    refine go_iload_n dX9_sheet_7 rfl ?_
    refine go_iconst dX9_sheet_8 rfl ?_
    refine go_iconst dX9_sheet_9 rfl ?_
    refine go_sI dX9_sheet_10 (ct_X9_isWithin _ _ _) ml_X9_81 mc_X9_isWithin ms_X9_isWithin ⟨rfl, rfl⟩ ⟨Nat.le_refl _, Nat.le_refl _⟩ rfl rfl rfl (fun x10 μ10 hc10 => ?_)
    obtain ⟨rfl, hm10⟩ := hc10
    rw [hm10]
    first | refine go_bnz (tgt := 19) dX9_sheet_13 rfl (fun h13 => ?_) (fun h13 => ?_) | refine go_if_ne (tgt := 19) dX9_sheet_13 rfl (fun h13 => ?_) (fun h13 => ?_)
    ·
      refine go_iload_n dX9_sheet_19 rfl ?_
      refine go_iconst dX9_sheet_20 rfl ?_
      refine go_icmp_ne (tgt := 37) dX9_sheet_21 rfl (fun h21 => ?_) (fun h21 => ?_)
      ·
        refine go_iload_n dX9_sheet_37 rfl ?_
        refine go_bipush dX9_sheet_38 rfl (by decide) ?_
        refine go_icmp_le (tgt := 46) dX9_sheet_40 rfl (fun h40 => ?_) (fun h40 => ?_)
        ·
          refine go_iload_n dX9_sheet_46 rfl ?_
          refine go_if_ge (tgt := 54) dX9_sheet_47 rfl (fun h47 => ?_) (fun h47 => ?_)
          ·
            refine go_aload_n dX9_sheet_54 rfl ?_
            refine go_getR dX9_sheet_55 fl_X9_56 (by first | assumption | exact Nat.le_of_ble_eq_true rfl) (by first | assumption | rfl) rfl (by first | assumption | rfl) ?_
            refine go_iload_n dX9_sheet_58 rfl ?_
            refine go_sheets dX9_sheet_59 (by omega) (by omega) (fun hj59_0 hj59_1 hj59_2 hj59_3 hj59_4 => ?_)
            refine go_iload_n dX9_sheet_60 rfl ?_
            refine go_iload_n dX9_sheet_61 rfl ?_
            refine go_vV (ci := 4) dX9_sheet_62 (ct_X5_renew (j := 62 + 2 * sh.toNat) (by unfold isSh; omega) _ _) ml_X9_268 mc_X5_renew mv_X5_renew rfl (by first | assumption | exact Nat.le_of_ble_eq_true rfl) (by first | assumption | rfl) rfl ⟨rfl, rfl⟩ ⟨Nat.le_refl _, Nat.le_refl _⟩ rfl rfl rfl (fun μ62 hc62 => ?_)
            refine go_iload_n dX9_sheet_65 rfl ?_
            exact go_ri dX9_sheet_66 tyI ⟨Nat.le_refl _, Nat.le_refl _⟩ (⟨fun h => absurd (by omega) h, fun _ => ⟨fun h => absurd h h21, fun _ => ⟨fun h => absurd h (by omega), fun _ => ⟨fun h => absurd h (by omega), fun _ => ⟨rfl, hc62⟩⟩⟩⟩⟩)
          ·
            refine go_ldcw dX9_sheet_50 kc_X9_272 rfl ?_
            exact go_ri dX9_sheet_53 tyI ⟨Nat.le_refl _, Nat.le_refl _⟩ (⟨fun h => absurd (by omega) h, fun _ => ⟨fun h => absurd h h21, fun _ => ⟨fun h => absurd h (by omega), fun _ => ⟨fun _ => ⟨rfl, rfl⟩, fun h => absurd h (by omega)⟩⟩⟩⟩)
        ·
          refine go_ldc dX9_sheet_43 kc_X9_85 rfl ?_
          exact go_ri dX9_sheet_45 tyI ⟨Nat.le_refl _, Nat.le_refl _⟩ (⟨fun h => absurd (by omega) h, fun _ => ⟨fun h => absurd h h21, fun _ => ⟨fun _ => ⟨rfl, rfl⟩, fun h => absurd h (by omega)⟩⟩⟩)
      ·
        refine go_aload_n dX9_sheet_24 rfl ?_
        refine go_getR dX9_sheet_25 fl_X9_56 (by first | assumption | exact Nat.le_of_ble_eq_true rfl) (by first | assumption | rfl) rfl (by first | assumption | rfl) ?_
        refine go_iload_n dX9_sheet_28 rfl ?_
        refine go_sheets dX9_sheet_29 (by omega) (by omega) (fun hj29_0 hj29_1 hj29_2 hj29_3 hj29_4 => ?_)
        refine go_iconst dX9_sheet_30 rfl ?_
        refine go_iconst dX9_sheet_31 rfl ?_
        refine go_vV (ci := 4) dX9_sheet_32 (ct_X5_renew (j := 62 + 2 * sh.toNat) (by unfold isSh; omega) _ _) ml_X9_268 mc_X5_renew mv_X5_renew rfl (by first | assumption | exact Nat.le_of_ble_eq_true rfl) (by first | assumption | rfl) rfl ⟨rfl, rfl⟩ ⟨Nat.le_refl _, Nat.le_refl _⟩ rfl rfl rfl (fun μ32 hc32 => ?_)
        refine go_iconst dX9_sheet_35 rfl ?_
        exact go_ri dX9_sheet_36 tyI ⟨Nat.le_refl _, Nat.le_refl _⟩ (⟨fun h => absurd (by omega) h, fun _ => ⟨fun _ => ⟨rfl, hc32⟩, fun h => absurd h21 h⟩⟩)
    ·
      refine go_ldc dX9_sheet_16 kc_X9_85 rfl ?_
      exact go_ri dX9_sheet_18 tyI ⟨Nat.le_refl _, Nat.le_refl _⟩ (⟨fun _ => ⟨rfl, rfl⟩, fun h => absurd h (by omega)⟩)

set_option maxRecDepth 100000 in
set_option maxHeartbeats 4000000 in
theorem ct_X9_mark {l : Launch} {D : va_G} {cA : Nat → ClassId} {μ : Mem} (hS : shI μ) (sh q v : Int) : CtN l D cA yX9_mark cX9_mark 5 (some .int) 3 [vr 0, vi sh, vi q, vi v] μ (Pi (fun x μ' => (¬ (0 ≤ sh ∧ sh ≤ 3) → x = -1000000001 ∧ μ' = μ) ∧ ((0 ≤ sh ∧ sh ≤ 3) → (μ (62 + 2 * sh.toNat) 0 = -1 → x = -1000000011 ∧ μ' = μ) ∧ (μ (62 + 2 * sh.toNat) 0 ≠ -1 → (¬ (0 ≤ q ∧ q ≤ μ (62 + 2 * sh.toNat) 1 - 1) → x = -1000000013 ∧ μ' = μ) ∧ ((0 ≤ q ∧ q ≤ μ (62 + 2 * sh.toNat) 1 - 1) → (μ (62 + 2 * sh.toNat) 0 = 0 → (v = -1000000005 → x = -1000000012 ∧ μ' = μ) ∧ (v ≠ -1000000005 → x = 1 ∧ μ' = ud μ ((62 + 2 * sh.toNat) + 1) q (i2sI v))) ∧ (μ (62 + 2 * sh.toNat) 0 ≠ 0 → (v ≠ -1000000005 ∧ ¬ (-99999 ≤ v ∧ v ≤ 99999) → x = -1000000001 ∧ μ' = μ) ∧ (¬ (v ≠ -1000000005 ∧ ¬ (-99999 ≤ v ∧ v ≤ 99999)) → x = 1 ∧ μ' = ud μ ((62 + 2 * sh.toNat) + 1) q v))))))) := by
  refine Ct.of (own := RX9) (by decide +kernel) rfl (fun σ => Nat.le_of_ble_eq_true rfl) (fun hM hP ha => ?_)
  obtain ⟨w0_0, w0_1, w0_2, w0_3, w0_4, w0_5, w0_6, w0_7, w0_8, w0_9, w1_0, w1_1, w32_1, w32_2, w32_3, w32_4, w32_5, w32_6, w39_1, w39_2, w39_3, w39_4, w39_5, w39_6, w46_1, w46_2, w46_3, w46_4, w46_5, w46_6, w56_0, w58_0, w58_1, w53_0, w53_1⟩ := ws_f
  refine go_iload_n dX9_mark_0 rfl ?_
  refine go_sI dX9_mark_1 (ct_X9_isSheet _) ml_X9_265 mc_X9_isSheet ms_X9_isSheet ⟨rfl, rfl⟩ ⟨Nat.le_refl _, Nat.le_refl _⟩ rfl rfl rfl (fun x1 μ1 hc1 => ?_)
  obtain ⟨rfl, hm1⟩ := hc1
  rw [hm1]
  first | refine go_bnz (tgt := 10) dX9_mark_4 rfl (fun h4 => ?_) (fun h4 => ?_) | refine go_if_ne (tgt := 10) dX9_mark_4 rfl (fun h4 => ?_) (fun h4 => ?_)
  ·
    refine go_aload_n dX9_mark_10 rfl ?_
    refine go_getR dX9_mark_11 fl_X9_56 (by first | assumption | exact Nat.le_of_ble_eq_true rfl) (by first | assumption | rfl) rfl (by first | assumption | rfl) ?_
    refine go_iload_n dX9_mark_14 rfl ?_
    refine go_sheets dX9_mark_15 (by omega) (by omega) (fun hj15_0 hj15_1 hj15_2 hj15_3 hj15_4 => ?_)
    have hSh : isSh (62 + 2 * sh.toNat) := by unfold isSh; omega
    have hsI := hS sh.toNat (by omega)
    refine go_astore dX9_mark_16 rfl ?_
    refine go_aload dX9_mark_18 rfl ?_
    refine go_getI 0 dX9_mark_20 fl_X9_273 (by first | assumption | exact Nat.le_of_ble_eq_true rfl) (by first | assumption | rfl) rfl rfl ?_
    try simp (disch := omega) only [ud, ua_same, ua_ne, uf_same, uf_ne]
    refine go_iconst dX9_mark_23 rfl ?_
    refine go_icmp_ne (tgt := 31) dX9_mark_24 rfl (fun h24 => ?_) (fun h24 => ?_)
    ·
      refine go_aload dX9_mark_31 rfl ?_
      refine go_iload_n dX9_mark_33 rfl ?_
      refine go_vI (ci := 4) dX9_mark_34 (ct_X5_hasPlace hSh _ hsI.2) ml_X9_277 mc_X5_hasPlace mv_X5_hasPlace rfl (by first | assumption | exact Nat.le_of_ble_eq_true rfl) (by first | assumption | rfl) rfl ⟨rfl, rfl⟩ ⟨Nat.le_refl _, Nat.le_refl _⟩ rfl rfl rfl (fun x34 μ34 hc34 => ?_)
      obtain ⟨rfl, hm34⟩ := hc34
      rw [hm34]
      first | refine go_bnz (tgt := 44) dX9_mark_37 rfl (fun h37 => ?_) (fun h37 => ?_) | refine go_if_ne (tgt := 44) dX9_mark_37 rfl (fun h37 => ?_) (fun h37 => ?_)
      ·
        refine go_aload dX9_mark_44 rfl ?_
        refine go_getI 0 dX9_mark_46 fl_X9_273 (by first | assumption | exact Nat.le_of_ble_eq_true rfl) (by first | assumption | rfl) rfl rfl ?_
        try simp (disch := omega) only [ud, ua_same, ua_ne, uf_same, uf_ne]
        first | refine go_bnz (tgt := 72) dX9_mark_49 rfl (fun h49 => ?_) (fun h49 => ?_) | refine go_if_ne (tgt := 72) dX9_mark_49 rfl (fun h49 => ?_) (fun h49 => ?_)
        ·
          refine go_iload_n dX9_mark_72 rfl ?_
          refine go_ldc dX9_mark_73 kc_X9_159 rfl ?_
          refine go_icmp_eq (tgt := 93) dX9_mark_75 rfl (fun h75 => ?_) (fun h75 => ?_)
          ·
            refine go_aload dX9_mark_93 rfl ?_
            refine go_getR dX9_mark_95 fl_X9_281 (by first | assumption | exact Nat.le_of_ble_eq_true rfl) (by first | assumption | rfl) rfl (by first | assumption | rfl) ?_
            refine go_iload_n dX9_mark_98 rfl ?_
            refine go_iload_n dX9_mark_99 rfl ?_
            refine go_iastore dX9_mark_100 (by first | assumption | exact Nat.le_of_ble_eq_true rfl) (by first | assumption | rfl) (by omega) (by omega) ?_
            refine go_iconst dX9_mark_101 rfl ?_
            exact go_ri dX9_mark_102 tyI ⟨Nat.le_refl _, Nat.le_refl _⟩ (⟨fun h => absurd h4 h, fun _ => ⟨fun h => absurd h h24, fun _ => ⟨fun h => absurd h37 h, fun _ => ⟨fun h => absurd h h49, fun _ => ⟨fun h => absurd h75 h.1, fun _ => ⟨rfl, rfl⟩⟩⟩⟩⟩⟩)
          ·
            refine go_iload_n dX9_mark_78 rfl ?_
            refine go_ldcw dX9_mark_79 kc_X9_284 rfl ?_
            refine go_ldc dX9_mark_82 kc_X9_186 rfl ?_
            refine go_sI dX9_mark_84 (ct_X9_isWithin _ _ _) ml_X9_81 mc_X9_isWithin ms_X9_isWithin ⟨rfl, rfl⟩ ⟨Nat.le_refl _, Nat.le_refl _⟩ rfl rfl rfl (fun x84 μ84 hc84 => ?_)
            obtain ⟨rfl, hm84⟩ := hc84
            rw [hm84]
            first | refine go_bnz (tgt := 93) dX9_mark_87 rfl (fun h87 => ?_) (fun h87 => ?_) | refine go_if_ne (tgt := 93) dX9_mark_87 rfl (fun h87 => ?_) (fun h87 => ?_)
            ·
              refine go_aload dX9_mark_93 rfl ?_
              refine go_getR dX9_mark_95 fl_X9_281 (by first | assumption | exact Nat.le_of_ble_eq_true rfl) (by first | assumption | rfl) rfl (by first | assumption | rfl) ?_
              refine go_iload_n dX9_mark_98 rfl ?_
              refine go_iload_n dX9_mark_99 rfl ?_
              refine go_iastore dX9_mark_100 (by first | assumption | exact Nat.le_of_ble_eq_true rfl) (by first | assumption | rfl) (by omega) (by omega) ?_
              refine go_iconst dX9_mark_101 rfl ?_
              exact go_ri dX9_mark_102 tyI ⟨Nat.le_refl _, Nat.le_refl _⟩ (⟨fun h => absurd h4 h, fun _ => ⟨fun h => absurd h h24, fun _ => ⟨fun h => absurd h37 h, fun _ => ⟨fun h => absurd h h49, fun _ => ⟨fun h => absurd h87 h.2, fun _ => ⟨rfl, rfl⟩⟩⟩⟩⟩⟩)
            ·
              refine go_ldc dX9_mark_90 kc_X9_85 rfl ?_
              exact go_ri dX9_mark_92 tyI ⟨Nat.le_refl _, Nat.le_refl _⟩ (⟨fun h => absurd h4 h, fun _ => ⟨fun h => absurd h h24, fun _ => ⟨fun h => absurd h37 h, fun _ => ⟨fun h => absurd h h49, fun _ => ⟨fun _ => ⟨rfl, rfl⟩, fun h => absurd ⟨h75, h87⟩ h⟩⟩⟩⟩⟩)
        ·
          refine go_iload_n dX9_mark_52 rfl ?_
          refine go_ldc dX9_mark_53 kc_X9_159 rfl ?_
          refine go_icmp_ne (tgt := 61) dX9_mark_55 rfl (fun h55 => ?_) (fun h55 => ?_)
          ·
            refine go_aload dX9_mark_61 rfl ?_
            refine go_getR dX9_mark_63 fl_X9_281 (by first | assumption | exact Nat.le_of_ble_eq_true rfl) (by first | assumption | rfl) rfl (by first | assumption | rfl) ?_
            refine go_iload_n dX9_mark_66 rfl ?_
            refine go_iload_n dX9_mark_67 rfl ?_
            refine go_i2s dX9_mark_68 ?_
            refine go_iastore dX9_mark_69 (by first | assumption | exact Nat.le_of_ble_eq_true rfl) (by first | assumption | rfl) (by omega) (by omega) ?_
            refine go_iconst dX9_mark_70 rfl ?_
            exact go_ri dX9_mark_71 tyI ⟨Nat.le_refl _, Nat.le_refl _⟩ (⟨fun h => absurd h4 h, fun _ => ⟨fun h => absurd h h24, fun _ => ⟨fun h => absurd h37 h, fun _ => ⟨fun _ => ⟨fun h => absurd h h55, fun _ => ⟨rfl, rfl⟩⟩, fun h => absurd h49 h⟩⟩⟩⟩)
          ·
            refine go_ldc dX9_mark_58 kc_X9_123 rfl ?_
            exact go_ri dX9_mark_60 tyI ⟨Nat.le_refl _, Nat.le_refl _⟩ (⟨fun h => absurd h4 h, fun _ => ⟨fun h => absurd h h24, fun _ => ⟨fun h => absurd h37 h, fun _ => ⟨fun _ => ⟨fun _ => ⟨rfl, rfl⟩, fun h => absurd h55 h⟩, fun h => absurd h49 h⟩⟩⟩⟩)
      ·
        refine go_ldcw dX9_mark_40 kc_X9_280 rfl ?_
        exact go_ri dX9_mark_43 tyI ⟨Nat.le_refl _, Nat.le_refl _⟩ (⟨fun h => absurd h4 h, fun _ => ⟨fun h => absurd h h24, fun _ => ⟨fun _ => ⟨rfl, rfl⟩, fun h => absurd h h37⟩⟩⟩)
    ·
      refine go_ldcw dX9_mark_27 kc_X9_276 rfl ?_
      exact go_ri dX9_mark_30 tyI ⟨Nat.le_refl _, Nat.le_refl _⟩ (⟨fun h => absurd h4 h, fun _ => ⟨fun _ => ⟨rfl, rfl⟩, fun h => absurd h24 h⟩⟩)
  ·
    refine go_ldc dX9_mark_7 kc_X9_85 rfl ?_
    exact go_ri dX9_mark_9 tyI ⟨Nat.le_refl _, Nat.le_refl _⟩ (⟨fun _ => ⟨rfl, rfl⟩, fun h => absurd h h4⟩)

def rdN (row rk : Int → Int) : Nat → Int → Int
  | 0, _ => -1000000005
  | m + 1, i => if row i ≠ -1000000005 ∧ row i ≠ rk i then i else rdN row rk m (i + 1)

set_option maxRecDepth 100000 in
set_option maxHeartbeats 4000000 in
theorem ct_X9_reads {l : Launch} {D : va_G} {cA : Nat → ClassId} {μ : Mem} (hI : mtI μ 32) (hS : shI μ) (sh : Int) : CtN l D cA yX9_reads cX9_reads 4 (some .int) 7 [vr 0, vi sh] μ (Pi (fun x μ' => x = (if 0 ≤ sh ∧ sh ≤ 3 then (if μ (62 + 2 * sh.toNat) 0 = -1 then -1000000011 else rdN (μ ((62 + 2 * sh.toNat) + 1)) (rkC μ 32) (μ (62 + 2 * sh.toNat) 1).toNat 0) else -1000000001) ∧ ∀ q, q ≠ 3 → q ≠ 37 → μ' q = μ q)) := by
  refine Ct.of (own := RX9) (by decide +kernel) rfl (fun σ => Nat.le_of_ble_eq_true rfl) (fun hM hP ha => ?_)
  obtain ⟨w0_0, w0_1, w0_2, w0_3, w0_4, w0_5, w0_6, w0_7, w0_8, w0_9, w1_0, w1_1, w32_1, w32_2, w32_3, w32_4, w32_5, w32_6, w39_1, w39_2, w39_3, w39_4, w39_5, w39_6, w46_1, w46_2, w46_3, w46_4, w46_5, w46_6, w56_0, w58_0, w58_1, w53_0, w53_1⟩ := ws_f
  have hMt : isMt 32 := Or.inl rfl
  obtain ⟨iK, iS, iL, iT, iTn, iD, iH, iF, iX, iW⟩ := id hI
  simp only [Nat.reduceAdd] at iK iS iL iT
  refine go_iload_n dX9_reads_0 rfl ?_
  refine go_sI dX9_reads_1 (ct_X9_isSheet _) ml_X9_265 mc_X9_isSheet ms_X9_isSheet ⟨rfl, rfl⟩ ⟨Nat.le_refl _, Nat.le_refl _⟩ rfl rfl rfl (fun x1 μ1 hc1 => ?_)
  obtain ⟨rfl, hm1⟩ := hc1
  rw [hm1]
  first | refine go_bnz (tgt := 10) dX9_reads_4 rfl (fun h4 => ?_) (fun h4 => ?_) | refine go_if_ne (tgt := 10) dX9_reads_4 rfl (fun h4 => ?_) (fun h4 => ?_)
  ·
    refine go_aload_n dX9_reads_10 rfl ?_
    refine go_getR dX9_reads_11 fl_X9_56 (by first | assumption | exact Nat.le_of_ble_eq_true rfl) (by first | assumption | rfl) rfl (by first | assumption | rfl) ?_
    refine go_iload_n dX9_reads_14 rfl ?_
    refine go_sheets dX9_reads_15 (by omega) (by omega) (fun hj15_0 hj15_1 hj15_2 hj15_3 hj15_4 => ?_)
    have hSh : isSh (62 + 2 * sh.toNat) := by unfold isSh; omega
    have hsI := hS sh.toNat (by omega)
    refine go_astore_n dX9_reads_16 rfl ?_
    refine go_aload_n dX9_reads_17 rfl ?_
    refine go_getI 0 dX9_reads_18 fl_X9_273 (by first | assumption | exact Nat.le_of_ble_eq_true rfl) (by first | assumption | rfl) rfl rfl ?_
    try simp (disch := omega) only [ud, ua_same, ua_ne, uf_same, uf_ne]
    refine go_iconst dX9_reads_21 rfl ?_
    refine go_icmp_ne (tgt := 29) dX9_reads_22 rfl (fun h22 => ?_) (fun h22 => ?_)
    ·
      refine go_aload_n dX9_reads_29 rfl ?_
      refine go_getR dX9_reads_30 fl_X9_21 (by first | assumption | exact Nat.le_of_ble_eq_true rfl) (by first | assumption | rfl) rfl (by first | assumption | rfl) ?_
      refine go_vV (ci := 2) dX9_reads_33 (ct_X3_weighRisks hMt hI) ml_X9_187 mc_X3_weighRisks mv_X3_weighRisks rfl (by first | assumption | exact Nat.le_of_ble_eq_true rfl) (by first | assumption | rfl) rfl ⟨rfl, rfl⟩ ⟨Nat.le_refl _, Nat.le_refl _⟩ rfl rfl rfl (fun μ33 hc33 => ?_)
      simp only [Nat.reduceAdd] at hc33
      obtain ⟨hw, hf⟩ := hc33
      have hfS : μ33 (62 + 2 * sh.toNat) = μ (62 + 2 * sh.toNat) := hf _ (by omega) (by omega)
      have hfR : μ33 ((62 + 2 * sh.toNat) + 1) = μ ((62 + 2 * sh.toNat) + 1) := hf _ (by omega) (by omega)
      have loop : ∀ (m : Nat) (i : Int), (μ (62 + 2 * sh.toNat) 1) - i = (m : Nat) → 0 ≤ i → (rdN (μ ((62 + 2 * sh.toNat) + 1)) (rkC μ 32) (μ (62 + 2 * sh.toNat) 1).toNat 0 = rdN (μ ((62 + 2 * sh.toNat) + 1)) (rkC μ 32) (μ (62 + 2 * sh.toNat) 1 - i).toNat i) → Go l D cA none RX9 cX9_reads 4 (some .int) (7, 0, 0) (QN (Pi (fun x μ' => x = (if 0 ≤ sh ∧ sh ≤ 3 then (if μ (62 + 2 * sh.toNat) 0 = -1 then -1000000011 else rdN (μ ((62 + 2 * sh.toNat) + 1)) (rkC μ 32) (μ (62 + 2 * sh.toNat) 1).toNat 0) else -1000000001) ∧ ∀ q, q ≠ 3 → q ≠ 37 → μ' q = μ q))) 113 ρ0 0 0 38 [(0, vr 0), (1, vi sh), (2, vr (62 + 2 * sh.toNat)), (3, vi i)] [] μ33 := by
        intro m
        induction m with
        | zero =>
          intro i  hm hv hres
          refine go_iload_n dX9_reads_38 rfl ?_
          refine go_aload_n dX9_reads_39 rfl ?_
          refine go_getI 1 dX9_reads_40 fl_X9_285 (by first | assumption | exact Nat.le_of_ble_eq_true rfl) (by first | assumption | rfl) rfl rfl ?_
          try simp (disch := omega) only [ud, ua_same, ua_ne, uf_same, uf_ne, hfS, hfR]
          refine go_icmp_ge (tgt := 80) dX9_reads_43 rfl (fun h43 => ?_) (fun h43 => ?_)
          ·
            refine go_ldc dX9_reads_80 kc_X9_159 rfl ?_
            exact go_ri dX9_reads_82 tyI ⟨Nat.le_refl _, Nat.le_refl _⟩ (⟨by rw [if_pos (by omega), if_neg h22, hres, show (μ (62 + 2 * sh.toNat) 1 - i).toNat = 0 by omega]; rfl, hf⟩)
          ·
            exact absurd h43 (by omega)
        | succ m ih =>
          intro i  hm hv hres
          refine go_iload_n dX9_reads_38 rfl ?_
          refine go_aload_n dX9_reads_39 rfl ?_
          refine go_getI 1 dX9_reads_40 fl_X9_285 (by first | assumption | exact Nat.le_of_ble_eq_true rfl) (by first | assumption | rfl) rfl rfl ?_
          try simp (disch := omega) only [ud, ua_same, ua_ne, uf_same, uf_ne, hfS, hfR]
          refine go_icmp_ge (tgt := 80) dX9_reads_43 rfl (fun h43 => ?_) (fun h43 => ?_)
          ·
            exact absurd h43 (by omega)
          ·
            have hun : rdN (μ ((62 + 2 * sh.toNat) + 1)) (rkC μ 32) (μ (62 + 2 * sh.toNat) 1 - i).toNat i = if μ ((62 + 2 * sh.toNat) + 1) i ≠ -1000000005 ∧ μ ((62 + 2 * sh.toNat) + 1) i ≠ rkC μ 32 i then i else rdN (μ ((62 + 2 * sh.toNat) + 1)) (rkC μ 32) (μ (62 + 2 * sh.toNat) 1 - (i + 1)).toNat (i + 1) := by rw [show (μ (62 + 2 * sh.toNat) 1 - i).toNat = (μ (62 + 2 * sh.toNat) 1 - (i + 1)).toNat + 1 by omega]; rfl
            refine go_aload_n dX9_reads_46 rfl ?_
            refine go_iload_n dX9_reads_47 rfl ?_
            refine go_vI (ci := 4) dX9_reads_48 (ct_X5_isNumber hSh _ (by omega)) ml_X9_288 mc_X5_isNumber mv_X5_isNumber rfl (by first | assumption | exact Nat.le_of_ble_eq_true rfl) (by first | assumption | rfl) rfl ⟨rfl, rfl⟩ ⟨Nat.le_refl _, Nat.le_refl _⟩ rfl rfl rfl (fun x48 μ48 hc48 => ?_)
            rw [hfR] at hc48
            obtain ⟨rfl, hm48⟩ := hc48
            rw [hm48]
            first | refine go_bz (tgt := 74) dX9_reads_51 rfl (fun h51 => ?_) (fun h51 => ?_) | refine go_if_eq (tgt := 74) dX9_reads_51 rfl (fun h51 => ?_) (fun h51 => ?_)
            ·
              refine go_iinc dX9_reads_74 rfl rfl ⟨by omega, by omega⟩ ?_
              refine go_goto (tgt := 38) dX9_reads_77 rfl ?_
              exact go_drop (ih _ (by omega) (by omega) (by rw [hres, hun, if_neg (fun e => h51 e.1)])) rfl
            ·
              refine go_aload_n dX9_reads_54 rfl ?_
              refine go_getR dX9_reads_55 fl_X9_281 (by first | assumption | exact Nat.le_of_ble_eq_true rfl) (by first | assumption | rfl) rfl (by first | assumption | rfl) ?_
              refine go_iload_n dX9_reads_58 rfl ?_
              refine go_iaload dX9_reads_59 (by first | assumption | exact Nat.le_of_ble_eq_true rfl) (by first | assumption | rfl) (by omega) (by omega) ?_
              try simp (disch := omega) only [ud, ua_same, ua_ne, uf_same, uf_ne, hfS, hfR]
              refine go_aload_n dX9_reads_60 rfl ?_
              refine go_getR dX9_reads_61 fl_X9_21 (by first | assumption | exact Nat.le_of_ble_eq_true rfl) (by first | assumption | rfl) rfl (by first | assumption | rfl) ?_
              refine go_getR dX9_reads_64 fl_X9_190 (by first | assumption | exact Nat.le_of_ble_eq_true rfl) (by first | assumption | rfl) rfl (by first | assumption | rfl) ?_
              refine go_iload_n dX9_reads_67 rfl ?_
              refine go_iaload dX9_reads_68 (by first | assumption | exact Nat.le_of_ble_eq_true rfl) (by first | assumption | rfl) (by omega) (by omega) ?_
              try simp (disch := omega) only [ud, ua_same, ua_ne, uf_same, uf_ne, hfS, hfR]
              rw [hw i (by omega) (by omega)]
              refine go_icmp_eq (tgt := 74) dX9_reads_69 rfl (fun h69 => ?_) (fun h69 => ?_)
              ·
                refine go_iinc dX9_reads_74 rfl rfl ⟨by omega, by omega⟩ ?_
                refine go_goto (tgt := 38) dX9_reads_77 rfl ?_
                exact go_drop (ih _ (by omega) (by omega) (by rw [hres, hun, if_neg (fun e => e.2 h69)])) rfl
              ·
                refine go_iload_n dX9_reads_72 rfl ?_
                exact go_ri dX9_reads_73 tyI ⟨Nat.le_refl _, Nat.le_refl _⟩ (⟨by rw [if_pos (by omega), if_neg h22, hres, hun, if_pos ⟨h51, h69⟩], hf⟩)
      refine go_iconst dX9_reads_36 rfl ?_
      refine go_istore_n dX9_reads_37 rfl ?_
      exact go_drop (loop (μ (62 + 2 * sh.toNat) 1).toNat 0 (by omega) (by omega) (by rw [Int.sub_zero])) rfl
    ·
      refine go_ldcw dX9_reads_25 kc_X9_276 rfl ?_
      exact go_ri dX9_reads_28 tyI ⟨Nat.le_refl _, Nat.le_refl _⟩ (⟨by rw [if_pos (by omega), if_pos h22], fun _ _ _ => rfl⟩)
  ·
    refine go_ldc dX9_reads_7 kc_X9_85 rfl ?_
    exact go_ri dX9_reads_9 tyI ⟨Nat.le_refl _, Nat.le_refl _⟩ (⟨by rw [if_neg h4], fun _ _ _ => rfl⟩)

