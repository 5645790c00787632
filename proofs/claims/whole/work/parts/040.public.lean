/-! THE CLASS: public methods: places, the day, ticks, the track -/
theorem ws_f : ρ0 0 (0 : Nat) = some 1 ∧ ρ0 0 (1 : Nat) = some 32 ∧ ρ0 0 (2 : Nat) = some 39 ∧ ρ0 0 (3 : Nat) = some 46 ∧ ρ0 0 (4 : Nat) = some 53 ∧ ρ0 0 (5 : Nat) = some 56 ∧ ρ0 0 (6 : Nat) = some 58 ∧ ρ0 0 (7 : Nat) = some 61 ∧ ρ0 0 (8 : Nat) = some 70 ∧ ρ0 0 (9 : Nat) = some 86 ∧ ρ0 1 (0 : Nat) = some 2 ∧ ρ0 1 (1 : Nat) = some 3 ∧ ρ0 32 (1 : Nat) = some 33 ∧ ρ0 32 (2 : Nat) = some 34 ∧ ρ0 32 (3 : Nat) = some 35 ∧ ρ0 32 (4 : Nat) = some 36 ∧ ρ0 32 (5 : Nat) = some 37 ∧ ρ0 32 (6 : Nat) = some 38 ∧ ρ0 39 (1 : Nat) = some 40 ∧ ρ0 39 (2 : Nat) = some 41 ∧ ρ0 39 (3 : Nat) = some 42 ∧ ρ0 39 (4 : Nat) = some 43 ∧ ρ0 39 (5 : Nat) = some 44 ∧ ρ0 39 (6 : Nat) = some 45 ∧ ρ0 46 (1 : Nat) = some 47 ∧ ρ0 46 (2 : Nat) = some 48 ∧ ρ0 46 (3 : Nat) = some 49 ∧ ρ0 46 (4 : Nat) = some 50 ∧ ρ0 46 (5 : Nat) = some 51 ∧ ρ0 46 (6 : Nat) = some 52 ∧ ρ0 56 (0 : Nat) = some 57 ∧ ρ0 58 (0 : Nat) = some 56 ∧ ρ0 58 (1 : Nat) = some 59 ∧ ρ0 53 (0 : Nat) = some 54 ∧ ρ0 53 (1 : Nat) = some 55 := by decide +kernel
set_option maxRecDepth 100000 in
set_option maxHeartbeats 4000000 in
theorem ct_X9_place {l : Launch} {D : va_G} {cA : Nat → ClassId} {μ : Mem} (hI : mtI μ 32) (cell kind steep load : Int) : CtN l D cA yX9_place cX9_place 6 (some .int) 4 [vr 0, vi cell, vi kind, vi steep, vi load] μ (Pi (fun x μ' => ((0 ≤ cell ∧ cell ≤ 29 ∧ 0 ≤ kind ∧ kind ≤ 5 ∧ 0 ≤ steep ∧ steep ≤ 60 ∧ 0 ≤ load ∧ load ≤ 999) → x = μ 33 cell ∧ μ' = ud (ud (ud μ 33 cell kind) 34 cell steep) 35 cell load) ∧ (¬ (0 ≤ cell ∧ cell ≤ 29 ∧ 0 ≤ kind ∧ kind ≤ 5 ∧ 0 ≤ steep ∧ steep ≤ 60 ∧ 0 ≤ load ∧ load ≤ 999) → x = -1000000001 ∧ μ' = μ))) := by
  refine Ct.of (own := RX9) (by decide +kernel) rfl (fun σ => Nat.le_of_ble_eq_true rfl) (fun hM hP ha => ?_)
  obtain ⟨w0_0, w0_1, w0_2, w0_3, w0_4, w0_5, w0_6, w0_7, w0_8, w0_9, w1_0, w1_1, w32_1, w32_2, w32_3, w32_4, w32_5, w32_6, w39_1, w39_2, w39_3, w39_4, w39_5, w39_6, w46_1, w46_2, w46_3, w46_4, w46_5, w46_6, w56_0, w58_0, w58_1, w53_0, w53_1⟩ := ws_f
  have hMt : isMt 32 := Or.inl rfl
  obtain ⟨iK, iS, iL, iT, iTn, iD, iH, iF, iX, iW⟩ := id hI
  simp only [Nat.reduceAdd] at iK iS iL iT
  refine go_iload_n dX9_place_0 rfl ?_
  refine go_sI dX9_place_1 (ct_X9_isCell _) ml_X9_72 mc_X9_isCell ms_X9_isCell ⟨rfl, rfl⟩ ⟨Nat.le_refl _, Nat.le_refl _⟩ rfl rfl rfl (fun x1 μ1 hc1 => ?_)
  obtain ⟨rfl, hm1⟩ := hc1
  rw [hm1]
  first | refine go_bz (tgt := 36) dX9_place_4 rfl (fun h4 => ?_) (fun h4 => ?_) | refine go_if_eq (tgt := 36) dX9_place_4 rfl (fun h4 => ?_) (fun h4 => ?_)
  ·
    refine go_ldc dX9_place_36 kc_X9_85 rfl ?_
    exact go_ri dX9_place_38 tyI ⟨Nat.le_refl _, Nat.le_refl _⟩ (by first | exact ⟨fun _ => ⟨rfl, rfl⟩, fun h => absurd (by omega) h⟩ | exact ⟨fun h => absurd h (by omega), fun _ => ⟨rfl, rfl⟩⟩)
  ·
    refine go_iload_n dX9_place_7 rfl ?_
    refine go_sI dX9_place_8 (ct_X0_isKind _) ml_X9_76 mc_X0_isKind ms_X0_isKind ⟨rfl, rfl⟩ ⟨Nat.le_refl _, Nat.le_refl _⟩ rfl rfl rfl (fun x8 μ8 hc8 => ?_)
    obtain ⟨rfl, hm8⟩ := hc8
    rw [hm8]
    first | refine go_bz (tgt := 36) dX9_place_11 rfl (fun h11 => ?_) (fun h11 => ?_) | refine go_if_eq (tgt := 36) dX9_place_11 rfl (fun h11 => ?_) (fun h11 => ?_)
    ·
      refine go_ldc dX9_place_36 kc_X9_85 rfl ?_
      exact go_ri dX9_place_38 tyI ⟨Nat.le_refl _, Nat.le_refl _⟩ (by first | exact ⟨fun _ => ⟨rfl, rfl⟩, fun h => absurd (by omega) h⟩ | exact ⟨fun h => absurd h (by omega), fun _ => ⟨rfl, rfl⟩⟩)
    ·
      refine go_iload_n dX9_place_14 rfl ?_
      refine go_iconst dX9_place_15 rfl ?_
      refine go_bipush dX9_place_16 rfl (by decide) ?_
      refine go_sI dX9_place_18 (ct_X9_isWithin _ _ _) ml_X9_81 mc_X9_isWithin ms_X9_isWithin ⟨rfl, rfl⟩ ⟨Nat.le_refl _, Nat.le_refl _⟩ rfl rfl rfl (fun x18 μ18 hc18 => ?_)
      obtain ⟨rfl, hm18⟩ := hc18
      rw [hm18]
      first | refine go_bz (tgt := 36) dX9_place_21 rfl (fun h21 => ?_) (fun h21 => ?_) | refine go_if_eq (tgt := 36) dX9_place_21 rfl (fun h21 => ?_) (fun h21 => ?_)
      ·
        refine go_ldc dX9_place_36 kc_X9_85 rfl ?_
        exact go_ri dX9_place_38 tyI ⟨Nat.le_refl _, Nat.le_refl _⟩ (by first | exact ⟨fun _ => ⟨rfl, rfl⟩, fun h => absurd (by omega) h⟩ | exact ⟨fun h => absurd h (by omega), fun _ => ⟨rfl, rfl⟩⟩)
      ·
        refine go_iload dX9_place_24 rfl ?_
        refine go_iconst dX9_place_26 rfl ?_
        refine go_sipush dX9_place_27 rfl (by decide) ?_
        refine go_sI dX9_place_30 (ct_X9_isWithin _ _ _) ml_X9_81 mc_X9_isWithin ms_X9_isWithin ⟨rfl, rfl⟩ ⟨Nat.le_refl _, Nat.le_refl _⟩ rfl rfl rfl (fun x30 μ30 hc30 => ?_)
        obtain ⟨rfl, hm30⟩ := hc30
        rw [hm30]
        first | refine go_bnz (tgt := 39) dX9_place_33 rfl (fun h33 => ?_) (fun h33 => ?_) | refine go_if_ne (tgt := 39) dX9_place_33 rfl (fun h33 => ?_) (fun h33 => ?_)
        ·
          refine go_aload_n dX9_place_39 rfl ?_
          refine go_getR dX9_place_40 fl_X9_21 (by first | assumption | exact Nat.le_of_ble_eq_true rfl) (by first | assumption | rfl) rfl (by first | assumption | rfl) ?_
          refine go_getR dX9_place_43 fl_X9_86 (by first | assumption | exact Nat.le_of_ble_eq_true rfl) (by first | assumption | rfl) rfl (by first | assumption | rfl) ?_
          refine go_iload_n dX9_place_46 rfl ?_
          refine go_iaload dX9_place_47 (by first | assumption | exact Nat.le_of_ble_eq_true rfl) (by first | assumption | rfl) (by omega) (by omega) ?_
          try simp (disch := omega) only [ud, ua_same, ua_ne, uf_same, uf_ne]
          refine go_istore dX9_place_48 rfl ?_
          refine go_aload_n dX9_place_50 rfl ?_
          refine go_getR dX9_place_51 fl_X9_21 (by first | assumption | exact Nat.le_of_ble_eq_true rfl) (by first | assumption | rfl) rfl (by first | assumption | rfl) ?_
          refine go_getR dX9_place_54 fl_X9_86 (by first | assumption | exact Nat.le_of_ble_eq_true rfl) (by first | assumption | rfl) rfl (by first | assumption | rfl) ?_
          refine go_iload_n dX9_place_57 rfl ?_
          refine go_iload_n dX9_place_58 rfl ?_
          refine go_iastore dX9_place_59 (by first | assumption | exact Nat.le_of_ble_eq_true rfl) (by first | assumption | rfl) (by omega) (by omega) ?_
          refine go_aload_n dX9_place_60 rfl ?_
          refine go_getR dX9_place_61 fl_X9_21 (by first | assumption | exact Nat.le_of_ble_eq_true rfl) (by first | assumption | rfl) rfl (by first | assumption | rfl) ?_
          refine go_getR dX9_place_64 fl_X9_89 (by first | assumption | exact Nat.le_of_ble_eq_true rfl) (by first | assumption | rfl) rfl (by first | assumption | rfl) ?_
          refine go_iload_n dX9_place_67 rfl ?_
          refine go_iload_n dX9_place_68 rfl ?_
          refine go_iastore dX9_place_69 (by first | assumption | exact Nat.le_of_ble_eq_true rfl) (by first | assumption | rfl) (by omega) (by omega) ?_
          refine go_aload_n dX9_place_70 rfl ?_
          refine go_getR dX9_place_71 fl_X9_21 (by first | assumption | exact Nat.le_of_ble_eq_true rfl) (by first | assumption | rfl) rfl (by first | assumption | rfl) ?_
          refine go_getR dX9_place_74 fl_X9_92 (by first | assumption | exact Nat.le_of_ble_eq_true rfl) (by first | assumption | rfl) rfl (by first | assumption | rfl) ?_
          refine go_iload_n dX9_place_77 rfl ?_
          refine go_iload dX9_place_78 rfl ?_
          refine go_iastore dX9_place_80 (by first | assumption | exact Nat.le_of_ble_eq_true rfl) (by first | assumption | rfl) (by omega) (by omega) ?_
          refine go_iload dX9_place_81 rfl ?_
          exact go_ri dX9_place_83 tyI ⟨Nat.le_refl _, Nat.le_refl _⟩ (by first | exact ⟨fun _ => ⟨rfl, rfl⟩, fun h => absurd (by omega) h⟩ | exact ⟨fun h => absurd h (by omega), fun _ => ⟨rfl, rfl⟩⟩)
        ·
          refine go_ldc dX9_place_36 kc_X9_85 rfl ?_
          exact go_ri dX9_place_38 tyI ⟨Nat.le_refl _, Nat.le_refl _⟩ (by first | exact ⟨fun _ => ⟨rfl, rfl⟩, fun h => absurd (by omega) h⟩ | exact ⟨fun h => absurd h (by omega), fun _ => ⟨rfl, rfl⟩⟩)

set_option maxRecDepth 100000 in
set_option maxHeartbeats 4000000 in
theorem ct_X9_told {l : Launch} {D : va_G} {cA : Nat → ClassId} {μ : Mem} (hI : mtI μ 32) (cell what : Int) : CtN l D cA yX9_told cX9_told 3 (some .int) 7 [vr 0, vi cell, vi what] μ (Pi (fun x μ' => x = (if 0 ≤ cell ∧ cell ≤ 29 then (if what = 0 then μ 33 cell else if what = 1 then μ 34 cell else if what = 2 then μ 35 cell else if what = 3 then prC μ 32 cell else if what = 4 then abv (prC μ 32) cell else if what = 5 then rkC μ 32 cell else if what = 6 then kHold (μ 33 cell) (plainH (LM μ 32) (μ 34 cell) (cell / 6)) (sunV (μ 32 9)) else if what = 7 then kWorth (μ 33 cell) (μ 34 cell) (μ 35 cell) else -1000000001) else -1000000001) ∧ ∀ q, q ≠ 3 → μ' q = μ q)) := by
  refine Ct.of (own := RX9) (by decide +kernel) rfl (fun σ => Nat.le_of_ble_eq_true rfl) (fun hM hP ha => ?_)
  obtain ⟨w0_0, w0_1, w0_2, w0_3, w0_4, w0_5, w0_6, w0_7, w0_8, w0_9, w1_0, w1_1, w32_1, w32_2, w32_3, w32_4, w32_5, w32_6, w39_1, w39_2, w39_3, w39_4, w39_5, w39_6, w46_1, w46_2, w46_3, w46_4, w46_5, w46_6, w56_0, w58_0, w58_1, w53_0, w53_1⟩ := ws_f
  have hMt : isMt 32 := Or.inl rfl
  obtain ⟨iK, iS, iL, iT, iTn, iD, iH, iF, iX, iW⟩ := id hI
  simp only [Nat.reduceAdd] at iK iS iL iT
  refine go_iload_n dX9_told_0 rfl ?_
  refine go_sI dX9_told_1 (ct_X9_isCell _) ml_X9_72 mc_X9_isCell ms_X9_isCell ⟨rfl, rfl⟩ ⟨Nat.le_refl _, Nat.le_refl _⟩ rfl rfl rfl (fun x1 μ1 hc1 => ?_)
  obtain ⟨rfl, hm1⟩ := hc1
  rw [hm1]
  first | refine go_bnz (tgt := 10) dX9_told_4 rfl (fun h4 => ?_) (fun h4 => ?_) | refine go_if_ne (tgt := 10) dX9_told_4 rfl (fun h4 => ?_) (fun h4 => ?_)
  ·
    refine go_iload_n dX9_told_10 rfl ?_
    refine go_case (0) (fun h11_0 => ?_) (fun h11_0 => ?_)
    ·
      refine go_tabIn (tgt := 56) dX9_told_11 (by rw [h11_0]; decide) (by rw [h11_0]; decide) (by rw [h11_0]; try rfl) rfl ?_
      refine go_aload_n dX9_told_56 rfl ?_
      refine go_getR dX9_told_57 fl_X9_21 (by first | assumption | exact Nat.le_of_ble_eq_true rfl) (by first | assumption | rfl) rfl (by first | assumption | rfl) ?_
      refine go_getR dX9_told_60 fl_X9_86 (by first | assumption | exact Nat.le_of_ble_eq_true rfl) (by first | assumption | rfl) rfl (by first | assumption | rfl) ?_
      refine go_iload_n dX9_told_63 rfl ?_
      refine go_iaload dX9_told_64 (by first | assumption | exact Nat.le_of_ble_eq_true rfl) (by first | assumption | rfl) (by omega) (by omega) ?_
      try simp (disch := omega) only [ud, ua_same, ua_ne, uf_same, uf_ne]
      exact go_ri dX9_told_65 tyI ⟨Nat.le_refl _, Nat.le_refl _⟩ (⟨by (repeat (first | rw [if_pos (by omega)] | rw [if_neg (by omega)])), fun _ _ => rfl⟩)
    refine go_case (1) (fun h11_1 => ?_) (fun h11_1 => ?_)
    ·
      refine go_tabIn (tgt := 66) dX9_told_11 (by rw [h11_1]; decide) (by rw [h11_1]; decide) (by rw [h11_1]; try rfl) rfl ?_
      refine go_aload_n dX9_told_66 rfl ?_
      refine go_getR dX9_told_67 fl_X9_21 (by first | assumption | exact Nat.le_of_ble_eq_true rfl) (by first | assumption | rfl) rfl (by first | assumption | rfl) ?_
      refine go_getR dX9_told_70 fl_X9_89 (by first | assumption | exact Nat.le_of_ble_eq_true rfl) (by first | assumption | rfl) rfl (by first | assumption | rfl) ?_
      refine go_iload_n dX9_told_73 rfl ?_
      refine go_iaload dX9_told_74 (by first | assumption | exact Nat.le_of_ble_eq_true rfl) (by first | assumption | rfl) (by omega) (by omega) ?_
      try simp (disch := omega) only [ud, ua_same, ua_ne, uf_same, uf_ne]
      exact go_ri dX9_told_75 tyI ⟨Nat.le_refl _, Nat.le_refl _⟩ (⟨by (repeat (first | rw [if_pos (by omega)] | rw [if_neg (by omega)])), fun _ _ => rfl⟩)
    refine go_case (2) (fun h11_2 => ?_) (fun h11_2 => ?_)
    ·
      refine go_tabIn (tgt := 76) dX9_told_11 (by rw [h11_2]; decide) (by rw [h11_2]; decide) (by rw [h11_2]; try rfl) rfl ?_
      refine go_aload_n dX9_told_76 rfl ?_
      refine go_getR dX9_told_77 fl_X9_21 (by first | assumption | exact Nat.le_of_ble_eq_true rfl) (by first | assumption | rfl) rfl (by first | assumption | rfl) ?_
      refine go_getR dX9_told_80 fl_X9_92 (by first | assumption | exact Nat.le_of_ble_eq_true rfl) (by first | assumption | rfl) rfl (by first | assumption | rfl) ?_
      refine go_iload_n dX9_told_83 rfl ?_
      refine go_iaload dX9_told_84 (by first | assumption | exact Nat.le_of_ble_eq_true rfl) (by first | assumption | rfl) (by omega) (by omega) ?_
      try simp (disch := omega) only [ud, ua_same, ua_ne, uf_same, uf_ne]
      exact go_ri dX9_told_85 tyI ⟨Nat.le_refl _, Nat.le_refl _⟩ (⟨by (repeat (first | rw [if_pos (by omega)] | rw [if_neg (by omega)])), fun _ _ => rfl⟩)
    refine go_case (3) (fun h11_3 => ?_) (fun h11_3 => ?_)
    ·
      refine go_tabIn (tgt := 86) dX9_told_11 (by rw [h11_3]; decide) (by rw [h11_3]; decide) (by rw [h11_3]; try rfl) rfl ?_
      refine go_aload_n dX9_told_86 rfl ?_
      refine go_getR dX9_told_87 fl_X9_21 (by first | assumption | exact Nat.le_of_ble_eq_true rfl) (by first | assumption | rfl) rfl (by first | assumption | rfl) ?_
      refine go_iload_n dX9_told_90 rfl ?_
      refine go_vI (ci := 2) dX9_told_91 (ct_X3_plainRisk hMt hI _ (by omega) (by omega)) ml_X9_95 mc_X3_plainRisk mv_X3_plainRisk rfl (by first | assumption | exact Nat.le_of_ble_eq_true rfl) (by first | assumption | rfl) rfl ⟨rfl, rfl⟩ ⟨Nat.le_refl _, Nat.le_refl _⟩ rfl rfl rfl (fun x91 μ91 hc91 => ?_)
      obtain ⟨rfl, hf⟩ := hc91
      exact go_ri dX9_told_94 tyI ⟨Nat.le_refl _, Nat.le_refl _⟩ (⟨by (repeat (first | rw [if_pos (by omega)] | rw [if_neg (by omega)])), hf⟩)
    refine go_case (4) (fun h11_4 => ?_) (fun h11_4 => ?_)
    ·
      refine go_tabIn (tgt := 95) dX9_told_11 (by rw [h11_4]; decide) (by rw [h11_4]; decide) (by rw [h11_4]; try rfl) rfl ?_
      refine go_aload_n dX9_told_95 rfl ?_
      refine go_getR dX9_told_96 fl_X9_21 (by first | assumption | exact Nat.le_of_ble_eq_true rfl) (by first | assumption | rfl) rfl (by first | assumption | rfl) ?_
      refine go_iload_n dX9_told_99 rfl ?_
      refine go_vI (ci := 2) dX9_told_100 (ct_X3_riskAbove hMt hI _ (by omega) (by omega)) ml_X9_99 mc_X3_riskAbove mv_X3_riskAbove rfl (by first | assumption | exact Nat.le_of_ble_eq_true rfl) (by first | assumption | rfl) rfl ⟨rfl, rfl⟩ ⟨Nat.le_refl _, Nat.le_refl _⟩ rfl rfl rfl (fun x100 μ100 hc100 => ?_)
      obtain ⟨rfl, hf⟩ := hc100
      exact go_ri dX9_told_103 tyI ⟨Nat.le_refl _, Nat.le_refl _⟩ (⟨by (repeat (first | rw [if_pos (by omega)] | rw [if_neg (by omega)])), hf⟩)
    refine go_case (5) (fun h11_5 => ?_) (fun h11_5 => ?_)
    ·
      refine go_tabIn (tgt := 104) dX9_told_11 (by rw [h11_5]; decide) (by rw [h11_5]; decide) (by rw [h11_5]; try rfl) rfl ?_
      refine go_aload_n dX9_told_104 rfl ?_
      refine go_getR dX9_told_105 fl_X9_21 (by first | assumption | exact Nat.le_of_ble_eq_true rfl) (by first | assumption | rfl) rfl (by first | assumption | rfl) ?_
      refine go_iload_n dX9_told_108 rfl ?_
      refine go_vI (ci := 2) dX9_told_109 (ct_X3_risk hMt hI _ (by omega) (by omega)) ml_X9_102 mc_X3_risk mv_X3_risk rfl (by first | assumption | exact Nat.le_of_ble_eq_true rfl) (by first | assumption | rfl) rfl ⟨rfl, rfl⟩ ⟨Nat.le_refl _, Nat.le_refl _⟩ rfl rfl rfl (fun x109 μ109 hc109 => ?_)
      obtain ⟨rfl, hf⟩ := hc109
      exact go_ri dX9_told_112 tyI ⟨Nat.le_refl _, Nat.le_refl _⟩ (⟨by (repeat (first | rw [if_pos (by omega)] | rw [if_neg (by omega)])), hf⟩)
    refine go_case (6) (fun h11_6 => ?_) (fun h11_6 => ?_)
    ·
      refine go_tabIn (tgt := 113) dX9_told_11 (by rw [h11_6]; decide) (by rw [h11_6]; decide) (by rw [h11_6]; try rfl) rfl ?_
      refine go_aload_n dX9_told_113 rfl ?_
      refine go_getR dX9_told_114 fl_X9_21 (by first | assumption | exact Nat.le_of_ble_eq_true rfl) (by first | assumption | rfl) rfl (by first | assumption | rfl) ?_
      refine go_getR dX9_told_117 fl_X9_86 (by first | assumption | exact Nat.le_of_ble_eq_true rfl) (by first | assumption | rfl) rfl (by first | assumption | rfl) ?_
      refine go_iload_n dX9_told_120 rfl ?_
      refine go_iaload dX9_told_121 (by first | assumption | exact Nat.le_of_ble_eq_true rfl) (by first | assumption | rfl) (by omega) (by omega) ?_
      try simp (disch := omega) only [ud, ua_same, ua_ne, uf_same, uf_ne]
      refine go_aload_n dX9_told_122 rfl ?_
      refine go_getR dX9_told_123 fl_X9_21 (by first | assumption | exact Nat.le_of_ble_eq_true rfl) (by first | assumption | rfl) rfl (by first | assumption | rfl) ?_
      refine go_iload_n dX9_told_126 rfl ?_
      refine go_vI (ci := 2) dX9_told_127 (ct_X3_plainHold hMt hI _ (by omega) (by omega)) ml_X9_105 mc_X3_plainHold mv_X3_plainHold rfl (by first | assumption | exact Nat.le_of_ble_eq_true rfl) (by first | assumption | rfl) rfl ⟨rfl, rfl⟩ ⟨Nat.le_refl _, Nat.le_refl _⟩ rfl rfl rfl (fun x127 μ127 hc127 => ?_)
      obtain ⟨rfl, hf⟩ := hc127
      have hI2 := mtI_fr (by omega) (fr3 hf) hI
      have hpb := ph_b (LL := LM μ 32) (row := cell / 6) (iS cell (by omega) (by omega)).1 (iS cell (by omega) (by omega)).2
      refine go_aload_n dX9_told_130 rfl ?_
      refine go_getR dX9_told_131 fl_X9_21 (by first | assumption | exact Nat.le_of_ble_eq_true rfl) (by first | assumption | rfl) rfl (by first | assumption | rfl) ?_
      refine go_vI (ci := 2) dX9_told_134 (ct_X3_sun hMt hI2) ml_X9_108 mc_X3_sun mv_X3_sun rfl (by first | assumption | exact Nat.le_of_ble_eq_true rfl) (by first | assumption | rfl) rfl ⟨rfl, rfl⟩ ⟨Nat.le_refl _, Nat.le_refl _⟩ rfl rfl rfl (fun x134 μ134 hc134 => ?_)
      obtain ⟨rfl, hm134⟩ := hc134
      rw [hm134, hf 32 (by omega)]
      refine go_sI dX9_told_137 (ct_X0_hold _ _ _ hpb.1 hpb.2 (by unfold sunV; omega) (by unfold sunV; omega)) ml_X9_112 mc_X0_hold ms_X0_hold ⟨rfl, rfl⟩ ⟨Nat.le_refl _, Nat.le_refl _⟩ rfl rfl rfl (fun x137 μ137 hc137 => ?_)
      obtain ⟨rfl, hm137⟩ := hc137
      rw [hm137]
      exact go_ri dX9_told_140 tyI ⟨Nat.le_refl _, Nat.le_refl _⟩ (⟨by (repeat (first | rw [if_pos (by omega)] | rw [if_neg (by omega)])), hf⟩)
    refine go_case (7) (fun h11_7 => ?_) (fun h11_7 => ?_)
    ·
      refine go_tabIn (tgt := 141) dX9_told_11 (by rw [h11_7]; decide) (by rw [h11_7]; decide) (by rw [h11_7]; try rfl) rfl ?_
      refine go_aload_n dX9_told_141 rfl ?_
      refine go_getR dX9_told_142 fl_X9_21 (by first | assumption | exact Nat.le_of_ble_eq_true rfl) (by first | assumption | rfl) rfl (by first | assumption | rfl) ?_
      refine go_getR dX9_told_145 fl_X9_86 (by first | assumption | exact Nat.le_of_ble_eq_true rfl) (by first | assumption | rfl) rfl (by first | assumption | rfl) ?_
      refine go_iload_n dX9_told_148 rfl ?_
      refine go_iaload dX9_told_149 (by first | assumption | exact Nat.le_of_ble_eq_true rfl) (by first | assumption | rfl) (by omega) (by omega) ?_
      try simp (disch := omega) only [ud, ua_same, ua_ne, uf_same, uf_ne]
      refine go_aload_n dX9_told_150 rfl ?_
      refine go_getR dX9_told_151 fl_X9_21 (by first | assumption | exact Nat.le_of_ble_eq_true rfl) (by first | assumption | rfl) rfl (by first | assumption | rfl) ?_
      refine go_getR dX9_told_154 fl_X9_89 (by first | assumption | exact Nat.le_of_ble_eq_true rfl) (by first | assumption | rfl) rfl (by first | assumption | rfl) ?_
      refine go_iload_n dX9_told_157 rfl ?_
      refine go_iaload dX9_told_158 (by first | assumption | exact Nat.le_of_ble_eq_true rfl) (by first | assumption | rfl) (by omega) (by omega) ?_
      try simp (disch := omega) only [ud, ua_same, ua_ne, uf_same, uf_ne]
      refine go_aload_n dX9_told_159 rfl ?_
      refine go_getR dX9_told_160 fl_X9_21 (by first | assumption | exact Nat.le_of_ble_eq_true rfl) (by first | assumption | rfl) rfl (by first | assumption | rfl) ?_
      refine go_getR dX9_told_163 fl_X9_92 (by first | assumption | exact Nat.le_of_ble_eq_true rfl) (by first | assumption | rfl) rfl (by first | assumption | rfl) ?_
      refine go_iload_n dX9_told_166 rfl ?_
      refine go_iaload dX9_told_167 (by first | assumption | exact Nat.le_of_ble_eq_true rfl) (by first | assumption | rfl) (by omega) (by omega) ?_
      try simp (disch := omega) only [ud, ua_same, ua_ne, uf_same, uf_ne]
      refine go_sI dX9_told_168 (ct_X0_worth _ _ _ (iS cell (by omega) (by omega)).1 (iS cell (by omega) (by omega)).2 (iL cell (by omega) (by omega)).1 (iL cell (by omega) (by omega)).2) ml_X9_116 mc_X0_worth ms_X0_worth ⟨rfl, rfl⟩ ⟨Nat.le_refl _, Nat.le_refl _⟩ rfl rfl rfl (fun x168 μ168 hc168 => ?_)
      obtain ⟨rfl, hm168⟩ := hc168
      rw [hm168]
      exact go_ri dX9_told_171 tyI ⟨Nat.le_refl _, Nat.le_refl _⟩ (⟨by (repeat (first | rw [if_pos (by omega)] | rw [if_neg (by omega)])), fun _ _ => rfl⟩)
    refine go_tabOut (tgt := 172) dX9_told_11 (by omega) rfl ?_
    refine go_ldc dX9_told_172 kc_X9_85 rfl ?_
    exact go_ri dX9_told_174 tyI ⟨Nat.le_refl _, Nat.le_refl _⟩ (⟨by (repeat (first | rw [if_pos (by omega)] | rw [if_neg (by omega)])), fun _ _ => rfl⟩)
  ·
    refine go_ldc dX9_told_7 kc_X9_85 rfl ?_
    exact go_ri dX9_told_9 tyI ⟨Nat.le_refl _, Nat.le_refl _⟩ (⟨by (repeat (first | rw [if_pos (by omega)] | rw [if_neg (by omega)])), fun _ _ => rfl⟩)

set_option maxRecDepth 100000 in
set_option maxHeartbeats 4000000 in
theorem ct_X9_as {l : Launch} {D : va_G} {cA : Nat → ClassId} {μ : Mem} (hI : mtI μ 32) (cell kind : Int) : CtN l D cA yX9_as cX9_as 3 (some .int) 4 [vr 0, vi cell, vi kind] μ (Pi (fun x μ' => x = (if 0 ≤ cell ∧ cell ≤ 29 ∧ 0 ≤ kind ∧ kind ≤ 5 then (if isUb (μ 33 cell) kind = true then μ 34 cell else -1000000012) else -1000000001) ∧ μ' = μ)) := by
  refine Ct.of (own := RX9) (by decide +kernel) rfl (fun σ => Nat.le_of_ble_eq_true rfl) (fun hM hP ha => ?_)
  obtain ⟨w0_0, w0_1, w0_2, w0_3, w0_4, w0_5, w0_6, w0_7, w0_8, w0_9, w1_0, w1_1, w32_1, w32_2, w32_3, w32_4, w32_5, w32_6, w39_1, w39_2, w39_3, w39_4, w39_5, w39_6, w46_1, w46_2, w46_3, w46_4, w46_5, w46_6, w56_0, w58_0, w58_1, w53_0, w53_1⟩ := ws_f
  have hMt : isMt 32 := Or.inl rfl
  obtain ⟨iK, iS, iL, iT, iTn, iD, iH, iF, iX, iW⟩ := id hI
  simp only [Nat.reduceAdd] at iK iS iL iT
  refine go_iload_n dX9_as_0 rfl ?_
  refine go_sI dX9_as_1 (ct_X9_isCell _) ml_X9_72 mc_X9_isCell ms_X9_isCell ⟨rfl, rfl⟩ ⟨Nat.le_refl _, Nat.le_refl _⟩ rfl rfl rfl (fun x1 μ1 hc1 => ?_)
  obtain ⟨rfl, hm1⟩ := hc1
  rw [hm1]
  first | refine go_bz (tgt := 14) dX9_as_4 rfl (fun h4 => ?_) (fun h4 => ?_) | refine go_if_eq (tgt := 14) dX9_as_4 rfl (fun h4 => ?_) (fun h4 => ?_)
  ·
    refine go_ldc dX9_as_14 kc_X9_85 rfl ?_
    exact go_ri dX9_as_16 tyI ⟨Nat.le_refl _, Nat.le_refl _⟩ (⟨by (repeat (first | rw [if_pos (by omega)] | rw [if_neg (by omega)])), rfl⟩)
  ·
    refine go_iload_n dX9_as_7 rfl ?_
    refine go_sI dX9_as_8 (ct_X0_isKind _) ml_X9_76 mc_X0_isKind ms_X0_isKind ⟨rfl, rfl⟩ ⟨Nat.le_refl _, Nat.le_refl _⟩ rfl rfl rfl (fun x8 μ8 hc8 => ?_)
    obtain ⟨rfl, hm8⟩ := hc8
    rw [hm8]
    first | refine go_bnz (tgt := 17) dX9_as_11 rfl (fun h11 => ?_) (fun h11 => ?_) | refine go_if_ne (tgt := 17) dX9_as_11 rfl (fun h11 => ?_) (fun h11 => ?_)
    ·
      refine go_aload_n dX9_as_17 rfl ?_
      refine go_getR dX9_as_18 fl_X9_21 (by first | assumption | exact Nat.le_of_ble_eq_true rfl) (by first | assumption | rfl) rfl (by first | assumption | rfl) ?_
      refine go_getR dX9_as_21 fl_X9_86 (by first | assumption | exact Nat.le_of_ble_eq_true rfl) (by first | assumption | rfl) rfl (by first | assumption | rfl) ?_
      refine go_iload_n dX9_as_24 rfl ?_
      refine go_iaload dX9_as_25 (by first | assumption | exact Nat.le_of_ble_eq_true rfl) (by first | assumption | rfl) (by omega) (by omega) ?_
      try simp (disch := omega) only [ud, ua_same, ua_ne, uf_same, uf_ne]
      refine go_iload_n dX9_as_26 rfl ?_
      refine go_sI dX9_as_27 (ct_X0_isUnder _ _ (iK cell (by omega) (by omega)).1 (iK cell (by omega) (by omega)).2 (by omega) (by omega)) ml_X9_119 mc_X0_isUnder ms_X0_isUnder ⟨rfl, rfl⟩ ⟨Nat.le_refl _, Nat.le_refl _⟩ rfl rfl rfl (fun x27 μ27 hc27 => ?_)
      obtain ⟨rfl, hm27⟩ := hc27
      rw [hm27]
      first | refine go_bz (tgt := 45) dX9_as_30 rfl (fun h30 => ?_) (fun h30 => ?_) | refine go_if_eq (tgt := 45) dX9_as_30 rfl (fun h30 => ?_) (fun h30 => ?_)
      ·
        refine go_ldc dX9_as_45 kc_X9_123 rfl ?_
        exact go_ri dX9_as_47 tyI ⟨Nat.le_refl _, Nat.le_refl _⟩ (⟨by rw [if_pos (by omega)]; rw [if_neg h30], rfl⟩)
      ·
        refine go_aload_n dX9_as_33 rfl ?_
        refine go_getR dX9_as_34 fl_X9_21 (by first | assumption | exact Nat.le_of_ble_eq_true rfl) (by first | assumption | rfl) rfl (by first | assumption | rfl) ?_
        refine go_getR dX9_as_37 fl_X9_89 (by first | assumption | exact Nat.le_of_ble_eq_true rfl) (by first | assumption | rfl) rfl (by first | assumption | rfl) ?_
        refine go_iload_n dX9_as_40 rfl ?_
        refine go_iaload dX9_as_41 (by first | assumption | exact Nat.le_of_ble_eq_true rfl) (by first | assumption | rfl) (by omega) (by omega) ?_
        try simp (disch := omega) only [ud, ua_same, ua_ne, uf_same, uf_ne]
        refine go_goto (tgt := 47) dX9_as_42 rfl ?_
        exact go_ri dX9_as_47 tyI ⟨Nat.le_refl _, Nat.le_refl _⟩ (⟨by rw [if_pos (by omega)]; rw [if_pos h30], rfl⟩)
    ·
      refine go_ldc dX9_as_14 kc_X9_85 rfl ?_
      exact go_ri dX9_as_16 tyI ⟨Nat.le_refl _, Nat.le_refl _⟩ (⟨by (repeat (first | rw [if_pos (by omega)] | rw [if_neg (by omega)])), rfl⟩)

set_option maxRecDepth 100000 in
set_option maxHeartbeats 4000000 in
theorem ct_X9_turns {l : Launch} {D : va_G} {cA : Nat → ClassId} {μ : Mem} (hI : mtI μ 32) (cell kind : Int) : CtN l D cA yX9_turns cX9_turns 4 (some .int) 4 [vr 0, vi cell, vi kind] μ (Pi (fun x μ' => ((0 ≤ cell ∧ cell ≤ 29 ∧ 0 ≤ kind ∧ kind ≤ 5) → x = μ 33 cell ∧ μ' = ud μ 33 cell kind) ∧ (¬ (0 ≤ cell ∧ cell ≤ 29 ∧ 0 ≤ kind ∧ kind ≤ 5) → x = -1000000001 ∧ μ' = μ))) := by
  refine Ct.of (own := RX9) (by decide +kernel) rfl (fun σ => Nat.le_of_ble_eq_true rfl) (fun hM hP ha => ?_)
  obtain ⟨w0_0, w0_1, w0_2, w0_3, w0_4, w0_5, w0_6, w0_7, w0_8, w0_9, w1_0, w1_1, w32_1, w32_2, w32_3, w32_4, w32_5, w32_6, w39_1, w39_2, w39_3, w39_4, w39_5, w39_6, w46_1, w46_2, w46_3, w46_4, w46_5, w46_6, w56_0, w58_0, w58_1, w53_0, w53_1⟩ := ws_f
  have hMt : isMt 32 := Or.inl rfl
  obtain ⟨iK, iS, iL, iT, iTn, iD, iH, iF, iX, iW⟩ := id hI
  simp only [Nat.reduceAdd] at iK iS iL iT
  refine go_iload_n dX9_turns_0 rfl ?_
  refine go_sI dX9_turns_1 (ct_X9_isCell _) ml_X9_72 mc_X9_isCell ms_X9_isCell ⟨rfl, rfl⟩ ⟨Nat.le_refl _, Nat.le_refl _⟩ rfl rfl rfl (fun x1 μ1 hc1 => ?_)
  obtain ⟨rfl, hm1⟩ := hc1
  rw [hm1]
  first | refine go_bz (tgt := 14) dX9_turns_4 rfl (fun h4 => ?_) (fun h4 => ?_) | refine go_if_eq (tgt := 14) dX9_turns_4 rfl (fun h4 => ?_) (fun h4 => ?_)
  ·
    refine go_ldc dX9_turns_14 kc_X9_85 rfl ?_
    exact go_ri dX9_turns_16 tyI ⟨Nat.le_refl _, Nat.le_refl _⟩ (by first | exact ⟨fun _ => ⟨rfl, rfl⟩, fun h => absurd (by omega) h⟩ | exact ⟨fun h => absurd h (by omega), fun _ => ⟨rfl, rfl⟩⟩)
  ·
    refine go_iload_n dX9_turns_7 rfl ?_
    refine go_sI dX9_turns_8 (ct_X0_isKind _) ml_X9_76 mc_X0_isKind ms_X0_isKind ⟨rfl, rfl⟩ ⟨Nat.le_refl _, Nat.le_refl _⟩ rfl rfl rfl (fun x8 μ8 hc8 => ?_)
    obtain ⟨rfl, hm8⟩ := hc8
    rw [hm8]
    first | refine go_bnz (tgt := 17) dX9_turns_11 rfl (fun h11 => ?_) (fun h11 => ?_) | refine go_if_ne (tgt := 17) dX9_turns_11 rfl (fun h11 => ?_) (fun h11 => ?_)
    ·
      refine go_aload_n dX9_turns_17 rfl ?_
      refine go_getR dX9_turns_18 fl_X9_21 (by first | assumption | exact Nat.le_of_ble_eq_true rfl) (by first | assumption | rfl) rfl (by first | assumption | rfl) ?_
      refine go_getR dX9_turns_21 fl_X9_86 (by first | assumption | exact Nat.le_of_ble_eq_true rfl) (by first | assumption | rfl) rfl (by first | assumption | rfl) ?_
      refine go_iload_n dX9_turns_24 rfl ?_
      refine go_iaload dX9_turns_25 (by first | assumption | exact Nat.le_of_ble_eq_true rfl) (by first | assumption | rfl) (by omega) (by omega) ?_
      try simp (disch := omega) only [ud, ua_same, ua_ne, uf_same, uf_ne]
      refine go_istore_n dX9_turns_26 rfl ?_
      refine go_aload_n dX9_turns_27 rfl ?_
      refine go_getR dX9_turns_28 fl_X9_21 (by first | assumption | exact Nat.le_of_ble_eq_true rfl) (by first | assumption | rfl) rfl (by first | assumption | rfl) ?_
      refine go_getR dX9_turns_31 fl_X9_86 (by first | assumption | exact Nat.le_of_ble_eq_true rfl) (by first | assumption | rfl) rfl (by first | assumption | rfl) ?_
      refine go_iload_n dX9_turns_34 rfl ?_
      refine go_iload_n dX9_turns_35 rfl ?_
      refine go_iastore dX9_turns_36 (by first | assumption | exact Nat.le_of_ble_eq_true rfl) (by first | assumption | rfl) (by omega) (by omega) ?_
      refine go_iload_n dX9_turns_37 rfl ?_
      exact go_ri dX9_turns_38 tyI ⟨Nat.le_refl _, Nat.le_refl _⟩ (by first | exact ⟨fun _ => ⟨rfl, rfl⟩, fun h => absurd (by omega) h⟩ | exact ⟨fun h => absurd h (by omega), fun _ => ⟨rfl, rfl⟩⟩)
    ·
      refine go_ldc dX9_turns_14 kc_X9_85 rfl ?_
      exact go_ri dX9_turns_16 tyI ⟨Nat.le_refl _, Nat.le_refl _⟩ (by first | exact ⟨fun _ => ⟨rfl, rfl⟩, fun h => absurd (by omega) h⟩ | exact ⟨fun h => absurd h (by omega), fun _ => ⟨rfl, rfl⟩⟩)

set_option maxRecDepth 100000 in
set_option maxHeartbeats 4000000 in
theorem ct_X9_set {l : Launch} {D : va_G} {cA : Nat → ClassId} {μ : Mem} (hI : mtI μ 32) (cell what v : Int) : CtN l D cA yX9_set cX9_set 5 (some .int) 4 [vr 0, vi cell, vi what, vi v] μ (Pi (fun x μ' => ((0 ≤ cell ∧ cell ≤ 29 ∧ what = 0 ∧ 0 ≤ v ∧ v ≤ 60) → x = μ 34 cell ∧ μ' = ud μ 34 cell v) ∧ ((0 ≤ cell ∧ cell ≤ 29 ∧ what = 1 ∧ 0 ≤ v ∧ v ≤ 999) → x = μ 35 cell ∧ μ' = ud μ 35 cell v) ∧ (¬ (0 ≤ cell ∧ cell ≤ 29 ∧ what = 0 ∧ 0 ≤ v ∧ v ≤ 60) ∧ ¬ (0 ≤ cell ∧ cell ≤ 29 ∧ what = 1 ∧ 0 ≤ v ∧ v ≤ 999) → x = -1000000001 ∧ μ' = μ))) := by
  refine Ct.of (own := RX9) (by decide +kernel) rfl (fun σ => Nat.le_of_ble_eq_true rfl) (fun hM hP ha => ?_)
  obtain ⟨w0_0, w0_1, w0_2, w0_3, w0_4, w0_5, w0_6, w0_7, w0_8, w0_9, w1_0, w1_1, w32_1, w32_2, w32_3, w32_4, w32_5, w32_6, w39_1, w39_2, w39_3, w39_4, w39_5, w39_6, w46_1, w46_2, w46_3, w46_4, w46_5, w46_6, w56_0, w58_0, w58_1, w53_0, w53_1⟩ := ws_f
  have hMt : isMt 32 := Or.inl rfl
  obtain ⟨iK, iS, iL, iT, iTn, iD, iH, iF, iX, iW⟩ := id hI
  simp only [Nat.reduceAdd] at iK iS iL iT
  refine go_iload_n dX9_set_0 rfl ?_
  refine go_sI dX9_set_1 (ct_X9_isCell _) ml_X9_72 mc_X9_isCell ms_X9_isCell ⟨rfl, rfl⟩ ⟨Nat.le_refl _, Nat.le_refl _⟩ rfl rfl rfl (fun x1 μ1 hc1 => ?_)
  obtain ⟨rfl, hm1⟩ := hc1
  rw [hm1]
  first | refine go_bnz (tgt := 10) dX9_set_4 rfl (fun h4 => ?_) (fun h4 => ?_) | refine go_if_ne (tgt := 10) dX9_set_4 rfl (fun h4 => ?_) (fun h4 => ?_)
  ·
    refine go_ldc dX9_set_10 kc_X9_85 rfl ?_
    refine go_istore dX9_set_12 rfl ?_
    refine go_iload_n dX9_set_14 rfl ?_
    first | refine go_bnz (tgt := 52) dX9_set_15 rfl (fun h15 => ?_) (fun h15 => ?_) | refine go_if_ne (tgt := 52) dX9_set_15 rfl (fun h15 => ?_) (fun h15 => ?_)
    ·
      refine go_iload_n dX9_set_52 rfl ?_
      refine go_iconst dX9_set_53 rfl ?_
      refine go_icmp_ne (tgt := 89) dX9_set_54 rfl (fun h54 => ?_) (fun h54 => ?_)
      ·
        refine go_iload dX9_set_89 rfl ?_
        exact go_ri dX9_set_91 tyI ⟨Nat.le_refl _, Nat.le_refl _⟩ (by first | exact ⟨fun _ => ⟨rfl, rfl⟩, fun h => absurd h (by omega), fun h => absurd h (by omega)⟩ | exact ⟨fun h => absurd h (by omega), fun _ => ⟨rfl, rfl⟩, fun h => absurd h (by omega)⟩ | exact ⟨fun h => absurd h (by omega), fun h => absurd h (by omega), fun _ => ⟨rfl, rfl⟩⟩)
      ·
        refine go_iload_n dX9_set_57 rfl ?_
        refine go_iconst dX9_set_58 rfl ?_
        refine go_sipush dX9_set_59 rfl (by decide) ?_
        refine go_sI dX9_set_62 (ct_X9_isWithin _ _ _) ml_X9_81 mc_X9_isWithin ms_X9_isWithin ⟨rfl, rfl⟩ ⟨Nat.le_refl _, Nat.le_refl _⟩ rfl rfl rfl (fun x62 μ62 hc62 => ?_)
        obtain ⟨rfl, hm62⟩ := hc62
        rw [hm62]
        first | refine go_bz (tgt := 89) dX9_set_65 rfl (fun h65 => ?_) (fun h65 => ?_) | refine go_if_eq (tgt := 89) dX9_set_65 rfl (fun h65 => ?_) (fun h65 => ?_)
        ·
          refine go_iload dX9_set_89 rfl ?_
          exact go_ri dX9_set_91 tyI ⟨Nat.le_refl _, Nat.le_refl _⟩ (by first | exact ⟨fun _ => ⟨rfl, rfl⟩, fun h => absurd h (by omega), fun h => absurd h (by omega)⟩ | exact ⟨fun h => absurd h (by omega), fun _ => ⟨rfl, rfl⟩, fun h => absurd h (by omega)⟩ | exact ⟨fun h => absurd h (by omega), fun h => absurd h (by omega), fun _ => ⟨rfl, rfl⟩⟩)
        ·
          refine go_aload_n dX9_set_68 rfl ?_
          refine go_getR dX9_set_69 fl_X9_21 (by first | assumption | exact Nat.le_of_ble_eq_true rfl) (by first | assumption | rfl) rfl (by first | assumption | rfl) ?_
          refine go_getR dX9_set_72 fl_X9_92 (by first | assumption | exact Nat.le_of_ble_eq_true rfl) (by first | assumption | rfl) rfl (by first | assumption | rfl) ?_
          refine go_iload_n dX9_set_75 rfl ?_
          refine go_iaload dX9_set_76 (by first | assumption | exact Nat.le_of_ble_eq_true rfl) (by first | assumption | rfl) (by omega) (by omega) ?_
          try simp (disch := omega) only [ud, ua_same, ua_ne, uf_same, uf_ne]
          refine go_istore dX9_set_77 rfl ?_
          refine go_aload_n dX9_set_79 rfl ?_
          refine go_getR dX9_set_80 fl_X9_21 (by first | assumption | exact Nat.le_of_ble_eq_true rfl) (by first | assumption | rfl) rfl (by first | assumption | rfl) ?_
          refine go_getR dX9_set_83 fl_X9_92 (by first | assumption | exact Nat.le_of_ble_eq_true rfl) (by first | assumption | rfl) rfl (by first | assumption | rfl) ?_
          refine go_iload_n dX9_set_86 rfl ?_
          refine go_iload_n dX9_set_87 rfl ?_
          refine go_iastore dX9_set_88 (by first | assumption | exact Nat.le_of_ble_eq_true rfl) (by first | assumption | rfl) (by omega) (by omega) ?_
          refine go_iload dX9_set_89 rfl ?_
          exact go_ri dX9_set_91 tyI ⟨Nat.le_refl _, Nat.le_refl _⟩ (by first | exact ⟨fun _ => ⟨rfl, rfl⟩, fun h => absurd h (by omega), fun h => absurd h (by omega)⟩ | exact ⟨fun h => absurd h (by omega), fun _ => ⟨rfl, rfl⟩, fun h => absurd h (by omega)⟩ | exact ⟨fun h => absurd h (by omega), fun h => absurd h (by omega), fun _ => ⟨rfl, rfl⟩⟩)
    ·
      refine go_iload_n dX9_set_18 rfl ?_
      refine go_iconst dX9_set_19 rfl ?_
      refine go_bipush dX9_set_20 rfl (by decide) ?_
      refine go_sI dX9_set_22 (ct_X9_isWithin _ _ _) ml_X9_81 mc_X9_isWithin ms_X9_isWithin ⟨rfl, rfl⟩ ⟨Nat.le_refl _, Nat.le_refl _⟩ rfl rfl rfl (fun x22 μ22 hc22 => ?_)
      obtain ⟨rfl, hm22⟩ := hc22
      rw [hm22]
      first | refine go_bz (tgt := 52) dX9_set_25 rfl (fun h25 => ?_) (fun h25 => ?_) | refine go_if_eq (tgt := 52) dX9_set_25 rfl (fun h25 => ?_) (fun h25 => ?_)
      ·
        refine go_iload_n dX9_set_52 rfl ?_
        refine go_iconst dX9_set_53 rfl ?_
        refine go_icmp_ne (tgt := 89) dX9_set_54 rfl (fun h54 => ?_) (fun h54 => ?_)
        ·
          refine go_iload dX9_set_89 rfl ?_
          exact go_ri dX9_set_91 tyI ⟨Nat.le_refl _, Nat.le_refl _⟩ (by first | exact ⟨fun _ => ⟨rfl, rfl⟩, fun h => absurd h (by omega), fun h => absurd h (by omega)⟩ | exact ⟨fun h => absurd h (by omega), fun _ => ⟨rfl, rfl⟩, fun h => absurd h (by omega)⟩ | exact ⟨fun h => absurd h (by omega), fun h => absurd h (by omega), fun _ => ⟨rfl, rfl⟩⟩)
        ·
          refine go_iload_n dX9_set_57 rfl ?_
          refine go_iconst dX9_set_58 rfl ?_
          refine go_sipush dX9_set_59 rfl (by decide) ?_
          refine go_sI dX9_set_62 (ct_X9_isWithin _ _ _) ml_X9_81 mc_X9_isWithin ms_X9_isWithin ⟨rfl, rfl⟩ ⟨Nat.le_refl _, Nat.le_refl _⟩ rfl rfl rfl (fun x62 μ62 hc62 => ?_)
          obtain ⟨rfl, hm62⟩ := hc62
          rw [hm62]
          first | refine go_bz (tgt := 89) dX9_set_65 rfl (fun h65 => ?_) (fun h65 => ?_) | refine go_if_eq (tgt := 89) dX9_set_65 rfl (fun h65 => ?_) (fun h65 => ?_)
          ·
            refine go_iload dX9_set_89 rfl ?_
            exact go_ri dX9_set_91 tyI ⟨Nat.le_refl _, Nat.le_refl _⟩ (by first | exact ⟨fun _ => ⟨rfl, rfl⟩, fun h => absurd h (by omega), fun h => absurd h (by omega)⟩ | exact ⟨fun h => absurd h (by omega), fun _ => ⟨rfl, rfl⟩, fun h => absurd h (by omega)⟩ | exact ⟨fun h => absurd h (by omega), fun h => absurd h (by omega), fun _ => ⟨rfl, rfl⟩⟩)
          ·
            refine go_aload_n dX9_set_68 rfl ?_
            refine go_getR dX9_set_69 fl_X9_21 (by first | assumption | exact Nat.le_of_ble_eq_true rfl) (by first | assumption | rfl) rfl (by first | assumption | rfl) ?_
            refine go_getR dX9_set_72 fl_X9_92 (by first | assumption | exact Nat.le_of_ble_eq_true rfl) (by first | assumption | rfl) rfl (by first | assumption | rfl) ?_
            refine go_iload_n dX9_set_75 rfl ?_
            refine go_iaload dX9_set_76 (by first | assumption | exact Nat.le_of_ble_eq_true rfl) (by first | assumption | rfl) (by omega) (by omega) ?_
            try simp (disch := omega) only [ud, ua_same, ua_ne, uf_same, uf_ne]
            refine go_istore dX9_set_77 rfl ?_
            refine go_aload_n dX9_set_79 rfl ?_
            refine go_getR dX9_set_80 fl_X9_21 (by first | assumption | exact Nat.le_of_ble_eq_true rfl) (by first | assumption | rfl) rfl (by first | assumption | rfl) ?_
            refine go_getR dX9_set_83 fl_X9_92 (by first | assumption | exact Nat.le_of_ble_eq_true rfl) (by first | assumption | rfl) rfl (by first | assumption | rfl) ?_
            refine go_iload_n dX9_set_86 rfl ?_
            refine go_iload_n dX9_set_87 rfl ?_
            refine go_iastore dX9_set_88 (by first | assumption | exact Nat.le_of_ble_eq_true rfl) (by first | assumption | rfl) (by omega) (by omega) ?_
            refine go_iload dX9_set_89 rfl ?_
            exact go_ri dX9_set_91 tyI ⟨Nat.le_refl _, Nat.le_refl _⟩ (by first | exact ⟨fun _ => ⟨rfl, rfl⟩, fun h => absurd h (by omega), fun h => absurd h (by omega)⟩ | exact ⟨fun h => absurd h (by omega), fun _ => ⟨rfl, rfl⟩, fun h => absurd h (by omega)⟩ | exact ⟨fun h => absurd h (by omega), fun h => absurd h (by omega), fun _ => ⟨rfl, rfl⟩⟩)
      ·
        refine go_aload_n dX9_set_28 rfl ?_
        refine go_getR dX9_set_29 fl_X9_21 (by first | assumption | exact Nat.le_of_ble_eq_true rfl) (by first | assumption | rfl) rfl (by first | assumption | rfl) ?_
        refine go_getR dX9_set_32 fl_X9_89 (by first | assumption | exact Nat.le_of_ble_eq_true rfl) (by first | assumption | rfl) rfl (by first | assumption | rfl) ?_
        refine go_iload_n dX9_set_35 rfl ?_
        refine go_iaload dX9_set_36 (by first | assumption | exact Nat.le_of_ble_eq_true rfl) (by first | assumption | rfl) (by omega) (by omega) ?_
        try simp (disch := omega) only [ud, ua_same, ua_ne, uf_same, uf_ne]
        refine go_istore dX9_set_37 rfl ?_
        refine go_aload_n dX9_set_39 rfl ?_
        refine go_getR dX9_set_40 fl_X9_21 (by first | assumption | exact Nat.le_of_ble_eq_true rfl) (by first | assumption | rfl) rfl (by first | assumption | rfl) ?_
        refine go_getR dX9_set_43 fl_X9_89 (by first | assumption | exact Nat.le_of_ble_eq_true rfl) (by first | assumption | rfl) rfl (by first | assumption | rfl) ?_
        refine go_iload_n dX9_set_46 rfl ?_
        refine go_iload_n dX9_set_47 rfl ?_
        refine go_iastore dX9_set_48 (by first | assumption | exact Nat.le_of_ble_eq_true rfl) (by first | assumption | rfl) (by omega) (by omega) ?_
        refine go_goto (tgt := 89) dX9_set_49 rfl ?_
        refine go_iload dX9_set_89 rfl ?_
        exact go_ri dX9_set_91 tyI ⟨Nat.le_refl _, Nat.le_refl _⟩ (by first | exact ⟨fun _ => ⟨rfl, rfl⟩, fun h => absurd h (by omega), fun h => absurd h (by omega)⟩ | exact ⟨fun h => absurd h (by omega), fun _ => ⟨rfl, rfl⟩, fun h => absurd h (by omega)⟩ | exact ⟨fun h => absurd h (by omega), fun h => absurd h (by omega), fun _ => ⟨rfl, rfl⟩⟩)
  ·
    refine go_ldc dX9_set_7 kc_X9_85 rfl ?_
    exact go_ri dX9_set_9 tyI ⟨Nat.le_refl _, Nat.le_refl _⟩ (by first | exact ⟨fun _ => ⟨rfl, rfl⟩, fun h => absurd h (by omega), fun h => absurd h (by omega)⟩ | exact ⟨fun h => absurd h (by omega), fun _ => ⟨rfl, rfl⟩, fun h => absurd h (by omega)⟩ | exact ⟨fun h => absurd h (by omega), fun h => absurd h (by omega), fun _ => ⟨rfl, rfl⟩⟩)

set_option maxRecDepth 100000 in
set_option maxHeartbeats 4000000 in
theorem ct_X9_today {l : Launch} {D : va_G} {cA : Nat → ClassId} {μ : Mem} (hI : mtI μ 32) (what v : Int) : CtN l D cA yX9_today cX9_today 4 (some .int) 4 [vr 0, vi what, vi v] μ (Pi (fun x μ' => ((what = 0 ∧ 0 ≤ v ∧ v ≤ 5) → x = μ 32 8 ∧ μ' = ud μ 32 8 v) ∧ ((what = 1 ∧ 0 ≤ v ∧ v ≤ 23) → x = μ 32 9 ∧ μ' = ud μ 32 9 v) ∧ ((what = 2 ∧ 0 ≤ v ∧ v ≤ 9) → x = μ 32 10 ∧ μ' = ud μ 32 10 v) ∧ (¬ (what = 0 ∧ 0 ≤ v ∧ v ≤ 5) ∧ ¬ (what = 1 ∧ 0 ≤ v ∧ v ≤ 23) ∧ ¬ (what = 2 ∧ 0 ≤ v ∧ v ≤ 9) → x = -1000000001 ∧ μ' = μ))) := by
  refine Ct.of (own := RX9) (by decide +kernel) rfl (fun σ => Nat.le_of_ble_eq_true rfl) (fun hM hP ha => ?_)
  obtain ⟨w0_0, w0_1, w0_2, w0_3, w0_4, w0_5, w0_6, w0_7, w0_8, w0_9, w1_0, w1_1, w32_1, w32_2, w32_3, w32_4, w32_5, w32_6, w39_1, w39_2, w39_3, w39_4, w39_5, w39_6, w46_1, w46_2, w46_3, w46_4, w46_5, w46_6, w56_0, w58_0, w58_1, w53_0, w53_1⟩ := ws_f
  have hMt : isMt 32 := Or.inl rfl
  obtain ⟨iK, iS, iL, iT, iTn, iD, iH, iF, iX, iW⟩ := id hI
  simp only [Nat.reduceAdd] at iK iS iL iT
  refine go_ldc dX9_today_0 kc_X9_85 rfl ?_
  refine go_istore_n dX9_today_2 rfl ?_
  refine go_iload_n dX9_today_3 rfl ?_
  first | refine go_bnz (tgt := 35) dX9_today_4 rfl (fun h4 => ?_) (fun h4 => ?_) | refine go_if_ne (tgt := 35) dX9_today_4 rfl (fun h4 => ?_) (fun h4 => ?_)
  ·
    refine go_iload_n dX9_today_35 rfl ?_
    refine go_iconst dX9_today_36 rfl ?_
    refine go_icmp_ne (tgt := 69) dX9_today_37 rfl (fun h37 => ?_) (fun h37 => ?_)
    ·
      refine go_iload_n dX9_today_69 rfl ?_
      refine go_iconst dX9_today_70 rfl ?_
      refine go_icmp_ne (tgt := 100) dX9_today_71 rfl (fun h71 => ?_) (fun h71 => ?_)
      ·
        refine go_iload_n dX9_today_100 rfl ?_
        exact go_ri dX9_today_101 tyI ⟨Nat.le_refl _, Nat.le_refl _⟩ (by first | exact ⟨fun _ => ⟨rfl, rfl⟩, fun h => absurd h (by omega), fun h => absurd h (by omega), fun h => absurd h (by omega)⟩ | exact ⟨fun h => absurd h (by omega), fun _ => ⟨rfl, rfl⟩, fun h => absurd h (by omega), fun h => absurd h (by omega)⟩ | exact ⟨fun h => absurd h (by omega), fun h => absurd h (by omega), fun _ => ⟨rfl, rfl⟩, fun h => absurd h (by omega)⟩ | exact ⟨fun h => absurd h (by omega), fun h => absurd h (by omega), fun h => absurd h (by omega), fun _ => ⟨rfl, rfl⟩⟩)
      ·
        refine go_iload_n dX9_today_74 rfl ?_
        refine go_iconst dX9_today_75 rfl ?_
        refine go_bipush dX9_today_76 rfl (by decide) ?_
        refine go_sI dX9_today_78 (ct_X9_isWithin _ _ _) ml_X9_81 mc_X9_isWithin ms_X9_isWithin ⟨rfl, rfl⟩ ⟨Nat.le_refl _, Nat.le_refl _⟩ rfl rfl rfl (fun x78 μ78 hc78 => ?_)
        obtain ⟨rfl, hm78⟩ := hc78
        rw [hm78]
        first | refine go_bz (tgt := 100) dX9_today_81 rfl (fun h81 => ?_) (fun h81 => ?_) | refine go_if_eq (tgt := 100) dX9_today_81 rfl (fun h81 => ?_) (fun h81 => ?_)
        ·
          refine go_iload_n dX9_today_100 rfl ?_
          exact go_ri dX9_today_101 tyI ⟨Nat.le_refl _, Nat.le_refl _⟩ (by first | exact ⟨fun _ => ⟨rfl, rfl⟩, fun h => absurd h (by omega), fun h => absurd h (by omega), fun h => absurd h (by omega)⟩ | exact ⟨fun h => absurd h (by omega), fun _ => ⟨rfl, rfl⟩, fun h => absurd h (by omega), fun h => absurd h (by omega)⟩ | exact ⟨fun h => absurd h (by omega), fun h => absurd h (by omega), fun _ => ⟨rfl, rfl⟩, fun h => absurd h (by omega)⟩ | exact ⟨fun h => absurd h (by omega), fun h => absurd h (by omega), fun h => absurd h (by omega), fun _ => ⟨rfl, rfl⟩⟩)
        ·
          refine go_aload_n dX9_today_84 rfl ?_
          refine go_getR dX9_today_85 fl_X9_21 (by first | assumption | exact Nat.le_of_ble_eq_true rfl) (by first | assumption | rfl) rfl (by first | assumption | rfl) ?_
          refine go_getI 10 dX9_today_88 fl_X9_131 (by first | assumption | exact Nat.le_of_ble_eq_true rfl) (by first | assumption | rfl) rfl rfl ?_
          try simp (disch := omega) only [ud, ua_same, ua_ne, uf_same, uf_ne]
          refine go_istore_n dX9_today_91 rfl ?_
          refine go_aload_n dX9_today_92 rfl ?_
          refine go_getR dX9_today_93 fl_X9_21 (by first | assumption | exact Nat.le_of_ble_eq_true rfl) (by first | assumption | rfl) rfl (by first | assumption | rfl) ?_
          refine go_iload_n dX9_today_96 rfl ?_
          refine go_putI 10 dX9_today_97 pl_X9_131 (by first | assumption | exact Nat.le_of_ble_eq_true rfl) (by first | assumption | rfl) rfl rfl ?_
          refine go_iload_n dX9_today_100 rfl ?_
          exact go_ri dX9_today_101 tyI ⟨Nat.le_refl _, Nat.le_refl _⟩ (by first | exact ⟨fun _ => ⟨rfl, rfl⟩, fun h => absurd h (by omega), fun h => absurd h (by omega), fun h => absurd h (by omega)⟩ | exact ⟨fun h => absurd h (by omega), fun _ => ⟨rfl, rfl⟩, fun h => absurd h (by omega), fun h => absurd h (by omega)⟩ | exact ⟨fun h => absurd h (by omega), fun h => absurd h (by omega), fun _ => ⟨rfl, rfl⟩, fun h => absurd h (by omega)⟩ | exact ⟨fun h => absurd h (by omega), fun h => absurd h (by omega), fun h => absurd h (by omega), fun _ => ⟨rfl, rfl⟩⟩)
    ·
      refine go_iload_n dX9_today_40 rfl ?_
      refine go_iconst dX9_today_41 rfl ?_
      refine go_bipush dX9_today_42 rfl (by decide) ?_
      refine go_sI dX9_today_44 (ct_X9_isWithin _ _ _) ml_X9_81 mc_X9_isWithin ms_X9_isWithin ⟨rfl, rfl⟩ ⟨Nat.le_refl _, Nat.le_refl _⟩ rfl rfl rfl (fun x44 μ44 hc44 => ?_)
      obtain ⟨rfl, hm44⟩ := hc44
      rw [hm44]
      first | refine go_bz (tgt := 69) dX9_today_47 rfl (fun h47 => ?_) (fun h47 => ?_) | refine go_if_eq (tgt := 69) dX9_today_47 rfl (fun h47 => ?_) (fun h47 => ?_)
      ·
        refine go_iload_n dX9_today_69 rfl ?_
        refine go_iconst dX9_today_70 rfl ?_
        refine go_icmp_ne (tgt := 100) dX9_today_71 rfl (fun h71 => ?_) (fun h71 => ?_)
        ·
          refine go_iload_n dX9_today_100 rfl ?_
          exact go_ri dX9_today_101 tyI ⟨Nat.le_refl _, Nat.le_refl _⟩ (by first | exact ⟨fun _ => ⟨rfl, rfl⟩, fun h => absurd h (by omega), fun h => absurd h (by omega), fun h => absurd h (by omega)⟩ | exact ⟨fun h => absurd h (by omega), fun _ => ⟨rfl, rfl⟩, fun h => absurd h (by omega), fun h => absurd h (by omega)⟩ | exact ⟨fun h => absurd h (by omega), fun h => absurd h (by omega), fun _ => ⟨rfl, rfl⟩, fun h => absurd h (by omega)⟩ | exact ⟨fun h => absurd h (by omega), fun h => absurd h (by omega), fun h => absurd h (by omega), fun _ => ⟨rfl, rfl⟩⟩)
        ·
          refine go_iload_n dX9_today_74 rfl ?_
          refine go_iconst dX9_today_75 rfl ?_
          refine go_bipush dX9_today_76 rfl (by decide) ?_
          refine go_sI dX9_today_78 (ct_X9_isWithin _ _ _) ml_X9_81 mc_X9_isWithin ms_X9_isWithin ⟨rfl, rfl⟩ ⟨Nat.le_refl _, Nat.le_refl _⟩ rfl rfl rfl (fun x78 μ78 hc78 => ?_)
          obtain ⟨rfl, hm78⟩ := hc78
          rw [hm78]
          first | refine go_bz (tgt := 100) dX9_today_81 rfl (fun h81 => ?_) (fun h81 => ?_) | refine go_if_eq (tgt := 100) dX9_today_81 rfl (fun h81 => ?_) (fun h81 => ?_)
          ·
            refine go_iload_n dX9_today_100 rfl ?_
            exact go_ri dX9_today_101 tyI ⟨Nat.le_refl _, Nat.le_refl _⟩ (by first | exact ⟨fun _ => ⟨rfl, rfl⟩, fun h => absurd h (by omega), fun h => absurd h (by omega), fun h => absurd h (by omega)⟩ | exact ⟨fun h => absurd h (by omega), fun _ => ⟨rfl, rfl⟩, fun h => absurd h (by omega), fun h => absurd h (by omega)⟩ | exact ⟨fun h => absurd h (by omega), fun h => absurd h (by omega), fun _ => ⟨rfl, rfl⟩, fun h => absurd h (by omega)⟩ | exact ⟨fun h => absurd h (by omega), fun h => absurd h (by omega), fun h => absurd h (by omega), fun _ => ⟨rfl, rfl⟩⟩)
          ·
            refine go_aload_n dX9_today_84 rfl ?_
            refine go_getR dX9_today_85 fl_X9_21 (by first | assumption | exact Nat.le_of_ble_eq_true rfl) (by first | assumption | rfl) rfl (by first | assumption | rfl) ?_
            refine go_getI 10 dX9_today_88 fl_X9_131 (by first | assumption | exact Nat.le_of_ble_eq_true rfl) (by first | assumption | rfl) rfl rfl ?_
            try simp (disch := omega) only [ud, ua_same, ua_ne, uf_same, uf_ne]
            refine go_istore_n dX9_today_91 rfl ?_
            refine go_aload_n dX9_today_92 rfl ?_
            refine go_getR dX9_today_93 fl_X9_21 (by first | assumption | exact Nat.le_of_ble_eq_true rfl) (by first | assumption | rfl) rfl (by first | assumption | rfl) ?_
            refine go_iload_n dX9_today_96 rfl ?_
            refine go_putI 10 dX9_today_97 pl_X9_131 (by first | assumption | exact Nat.le_of_ble_eq_true rfl) (by first | assumption | rfl) rfl rfl ?_
            refine go_iload_n dX9_today_100 rfl ?_
            exact go_ri dX9_today_101 tyI ⟨Nat.le_refl _, Nat.le_refl _⟩ (by first | exact ⟨fun _ => ⟨rfl, rfl⟩, fun h => absurd h (by omega), fun h => absurd h (by omega), fun h => absurd h (by omega)⟩ | exact ⟨fun h => absurd h (by omega), fun _ => ⟨rfl, rfl⟩, fun h => absurd h (by omega), fun h => absurd h (by omega)⟩ | exact ⟨fun h => absurd h (by omega), fun h => absurd h (by omega), fun _ => ⟨rfl, rfl⟩, fun h => absurd h (by omega)⟩ | exact ⟨fun h => absurd h (by omega), fun h => absurd h (by omega), fun h => absurd h (by omega), fun _ => ⟨rfl, rfl⟩⟩)
      ·
        refine go_aload_n dX9_today_50 rfl ?_
        refine go_getR dX9_today_51 fl_X9_21 (by first | assumption | exact Nat.le_of_ble_eq_true rfl) (by first | assumption | rfl) rfl (by first | assumption | rfl) ?_
        refine go_getI 9 dX9_today_54 fl_X9_128 (by first | assumption | exact Nat.le_of_ble_eq_true rfl) (by first | assumption | rfl) rfl rfl ?_
        try simp (disch := omega) only [ud, ua_same, ua_ne, uf_same, uf_ne]
        refine go_istore_n dX9_today_57 rfl ?_
        refine go_aload_n dX9_today_58 rfl ?_
        refine go_getR dX9_today_59 fl_X9_21 (by first | assumption | exact Nat.le_of_ble_eq_true rfl) (by first | assumption | rfl) rfl (by first | assumption | rfl) ?_
        refine go_iload_n dX9_today_62 rfl ?_
        refine go_putI 9 dX9_today_63 pl_X9_128 (by first | assumption | exact Nat.le_of_ble_eq_true rfl) (by first | assumption | rfl) rfl rfl ?_
        refine go_goto (tgt := 100) dX9_today_66 rfl ?_
        refine go_iload_n dX9_today_100 rfl ?_
        exact go_ri dX9_today_101 tyI ⟨Nat.le_refl _, Nat.le_refl _⟩ (by first | exact ⟨fun _ => ⟨rfl, rfl⟩, fun h => absurd h (by omega), fun h => absurd h (by omega), fun h => absurd h (by omega)⟩ | exact ⟨fun h => absurd h (by omega), fun _ => ⟨rfl, rfl⟩, fun h => absurd h (by omega), fun h => absurd h (by omega)⟩ | exact ⟨fun h => absurd h (by omega), fun h => absurd h (by omega), fun _ => ⟨rfl, rfl⟩, fun h => absurd h (by omega)⟩ | exact ⟨fun h => absurd h (by omega), fun h => absurd h (by omega), fun h => absurd h (by omega), fun _ => ⟨rfl, rfl⟩⟩)
  ·
    refine go_iload_n dX9_today_7 rfl ?_
    refine go_iconst dX9_today_8 rfl ?_
    refine go_iconst dX9_today_9 rfl ?_
    refine go_sI dX9_today_10 (ct_X9_isWithin _ _ _) ml_X9_81 mc_X9_isWithin ms_X9_isWithin ⟨rfl, rfl⟩ ⟨Nat.le_refl _, Nat.le_refl _⟩ rfl rfl rfl (fun x10 μ10 hc10 => ?_)
    obtain ⟨rfl, hm10⟩ := hc10
    rw [hm10]
    first | refine go_bz (tgt := 35) dX9_today_13 rfl (fun h13 => ?_) (fun h13 => ?_) | refine go_if_eq (tgt := 35) dX9_today_13 rfl (fun h13 => ?_) (fun h13 => ?_)
    ·
      refine go_iload_n dX9_today_35 rfl ?_
      refine go_iconst dX9_today_36 rfl ?_
      refine go_icmp_ne (tgt := 69) dX9_today_37 rfl (fun h37 => ?_) (fun h37 => ?_)
      ·
        refine go_iload_n dX9_today_69 rfl ?_
        refine go_iconst dX9_today_70 rfl ?_
        refine go_icmp_ne (tgt := 100) dX9_today_71 rfl (fun h71 => ?_) (fun h71 => ?_)
        ·
          refine go_iload_n dX9_today_100 rfl ?_
          exact go_ri dX9_today_101 tyI ⟨Nat.le_refl _, Nat.le_refl _⟩ (by first | exact ⟨fun _ => ⟨rfl, rfl⟩, fun h => absurd h (by omega), fun h => absurd h (by omega), fun h => absurd h (by omega)⟩ | exact ⟨fun h => absurd h (by omega), fun _ => ⟨rfl, rfl⟩, fun h => absurd h (by omega), fun h => absurd h (by omega)⟩ | exact ⟨fun h => absurd h (by omega), fun h => absurd h (by omega), fun _ => ⟨rfl, rfl⟩, fun h => absurd h (by omega)⟩ | exact ⟨fun h => absurd h (by omega), fun h => absurd h (by omega), fun h => absurd h (by omega), fun _ => ⟨rfl, rfl⟩⟩)
        ·
          refine go_iload_n dX9_today_74 rfl ?_
          refine go_iconst dX9_today_75 rfl ?_
          refine go_bipush dX9_today_76 rfl (by decide) ?_
          refine go_sI dX9_today_78 (ct_X9_isWithin _ _ _) ml_X9_81 mc_X9_isWithin ms_X9_isWithin ⟨rfl, rfl⟩ ⟨Nat.le_refl _, Nat.le_refl _⟩ rfl rfl rfl (fun x78 μ78 hc78 => ?_)
          obtain ⟨rfl, hm78⟩ := hc78
          rw [hm78]
          first | refine go_bz (tgt := 100) dX9_today_81 rfl (fun h81 => ?_) (fun h81 => ?_) | refine go_if_eq (tgt := 100) dX9_today_81 rfl (fun h81 => ?_) (fun h81 => ?_)
          ·
            refine go_iload_n dX9_today_100 rfl ?_
            exact go_ri dX9_today_101 tyI ⟨Nat.le_refl _, Nat.le_refl _⟩ (by first | exact ⟨fun _ => ⟨rfl, rfl⟩, fun h => absurd h (by omega), fun h => absurd h (by omega), fun h => absurd h (by omega)⟩ | exact ⟨fun h => absurd h (by omega), fun _ => ⟨rfl, rfl⟩, fun h => absurd h (by omega), fun h => absurd h (by omega)⟩ | exact ⟨fun h => absurd h (by omega), fun h => absurd h (by omega), fun _ => ⟨rfl, rfl⟩, fun h => absurd h (by omega)⟩ | exact ⟨fun h => absurd h (by omega), fun h => absurd h (by omega), fun h => absurd h (by omega), fun _ => ⟨rfl, rfl⟩⟩)
          ·
            refine go_aload_n dX9_today_84 rfl ?_
            refine go_getR dX9_today_85 fl_X9_21 (by first | assumption | exact Nat.le_of_ble_eq_true rfl) (by first | assumption | rfl) rfl (by first | assumption | rfl) ?_
            refine go_getI 10 dX9_today_88 fl_X9_131 (by first | assumption | exact Nat.le_of_ble_eq_true rfl) (by first | assumption | rfl) rfl rfl ?_
            try simp (disch := omega) only [ud, ua_same, ua_ne, uf_same, uf_ne]
            refine go_istore_n dX9_today_91 rfl ?_
            refine go_aload_n dX9_today_92 rfl ?_
            refine go_getR dX9_today_93 fl_X9_21 (by first | assumption | exact Nat.le_of_ble_eq_true rfl) (by first | assumption | rfl) rfl (by first | assumption | rfl) ?_
            refine go_iload_n dX9_today_96 rfl ?_
            refine go_putI 10 dX9_today_97 pl_X9_131 (by first | assumption | exact Nat.le_of_ble_eq_true rfl) (by first | assumption | rfl) rfl rfl ?_
            refine go_iload_n dX9_today_100 rfl ?_
            exact go_ri dX9_today_101 tyI ⟨Nat.le_refl _, Nat.le_refl _⟩ (by first | exact ⟨fun _ => ⟨rfl, rfl⟩, fun h => absurd h (by omega), fun h => absurd h (by omega), fun h => absurd h (by omega)⟩ | exact ⟨fun h => absurd h (by omega), fun _ => ⟨rfl, rfl⟩, fun h => absurd h (by omega), fun h => absurd h (by omega)⟩ | exact ⟨fun h => absurd h (by omega), fun h => absurd h (by omega), fun _ => ⟨rfl, rfl⟩, fun h => absurd h (by omega)⟩ | exact ⟨fun h => absurd h (by omega), fun h => absurd h (by omega), fun h => absurd h (by omega), fun _ => ⟨rfl, rfl⟩⟩)
      ·
        refine go_iload_n dX9_today_40 rfl ?_
        refine go_iconst dX9_today_41 rfl ?_
        refine go_bipush dX9_today_42 rfl (by decide) ?_
        refine go_sI dX9_today_44 (ct_X9_isWithin _ _ _) ml_X9_81 mc_X9_isWithin ms_X9_isWithin ⟨rfl, rfl⟩ ⟨Nat.le_refl _, Nat.le_refl _⟩ rfl rfl rfl (fun x44 μ44 hc44 => ?_)
        obtain ⟨rfl, hm44⟩ := hc44
        rw [hm44]
        first | refine go_bz (tgt := 69) dX9_today_47 rfl (fun h47 => ?_) (fun h47 => ?_) | refine go_if_eq (tgt := 69) dX9_today_47 rfl (fun h47 => ?_) (fun h47 => ?_)
        ·
          refine go_iload_n dX9_today_69 rfl ?_
          refine go_iconst dX9_today_70 rfl ?_
          refine go_icmp_ne (tgt := 100) dX9_today_71 rfl (fun h71 => ?_) (fun h71 => ?_)
          ·
            refine go_iload_n dX9_today_100 rfl ?_
            exact go_ri dX9_today_101 tyI ⟨Nat.le_refl _, Nat.le_refl _⟩ (by first | exact ⟨fun _ => ⟨rfl, rfl⟩, fun h => absurd h (by omega), fun h => absurd h (by omega), fun h => absurd h (by omega)⟩ | exact ⟨fun h => absurd h (by omega), fun _ => ⟨rfl, rfl⟩, fun h => absurd h (by omega), fun h => absurd h (by omega)⟩ | exact ⟨fun h => absurd h (by omega), fun h => absurd h (by omega), fun _ => ⟨rfl, rfl⟩, fun h => absurd h (by omega)⟩ | exact ⟨fun h => absurd h (by omega), fun h => absurd h (by omega), fun h => absurd h (by omega), fun _ => ⟨rfl, rfl⟩⟩)
          ·
            refine go_iload_n dX9_today_74 rfl ?_
            refine go_iconst dX9_today_75 rfl ?_
            refine go_bipush dX9_today_76 rfl (by decide) ?_
            refine go_sI dX9_today_78 (ct_X9_isWithin _ _ _) ml_X9_81 mc_X9_isWithin ms_X9_isWithin ⟨rfl, rfl⟩ ⟨Nat.le_refl _, Nat.le_refl _⟩ rfl rfl rfl (fun x78 μ78 hc78 => ?_)
            obtain ⟨rfl, hm78⟩ := hc78
            rw [hm78]
            first | refine go_bz (tgt := 100) dX9_today_81 rfl (fun h81 => ?_) (fun h81 => ?_) | refine go_if_eq (tgt := 100) dX9_today_81 rfl (fun h81 => ?_) (fun h81 => ?_)
            ·
              refine go_iload_n dX9_today_100 rfl ?_
              exact go_ri dX9_today_101 tyI ⟨Nat.le_refl _, Nat.le_refl _⟩ (by first | exact ⟨fun _ => ⟨rfl, rfl⟩, fun h => absurd h (by omega), fun h => absurd h (by omega), fun h => absurd h (by omega)⟩ | exact ⟨fun h => absurd h (by omega), fun _ => ⟨rfl, rfl⟩, fun h => absurd h (by omega), fun h => absurd h (by omega)⟩ | exact ⟨fun h => absurd h (by omega), fun h => absurd h (by omega), fun _ => ⟨rfl, rfl⟩, fun h => absurd h (by omega)⟩ | exact ⟨fun h => absurd h (by omega), fun h => absurd h (by omega), fun h => absurd h (by omega), fun _ => ⟨rfl, rfl⟩⟩)
            ·
              refine go_aload_n dX9_today_84 rfl ?_
              refine go_getR dX9_today_85 fl_X9_21 (by first | assumption | exact Nat.le_of_ble_eq_true rfl) (by first | assumption | rfl) rfl (by first | assumption | rfl) ?_
              refine go_getI 10 dX9_today_88 fl_X9_131 (by first | assumption | exact Nat.le_of_ble_eq_true rfl) (by first | assumption | rfl) rfl rfl ?_
              try simp (disch := omega) only [ud, ua_same, ua_ne, uf_same, uf_ne]
              refine go_istore_n dX9_today_91 rfl ?_
              refine go_aload_n dX9_today_92 rfl ?_
              refine go_getR dX9_today_93 fl_X9_21 (by first | assumption | exact Nat.le_of_ble_eq_true rfl) (by first | assumption | rfl) rfl (by first | assumption | rfl) ?_
              refine go_iload_n dX9_today_96 rfl ?_
              refine go_putI 10 dX9_today_97 pl_X9_131 (by first | assumption | exact Nat.le_of_ble_eq_true rfl) (by first | assumption | rfl) rfl rfl ?_
              refine go_iload_n dX9_today_100 rfl ?_
              exact go_ri dX9_today_101 tyI ⟨Nat.le_refl _, Nat.le_refl _⟩ (by first | exact ⟨fun _ => ⟨rfl, rfl⟩, fun h => absurd h (by omega), fun h => absurd h (by omega), fun h => absurd h (by omega)⟩ | exact ⟨fun h => absurd h (by omega), fun _ => ⟨rfl, rfl⟩, fun h => absurd h (by omega), fun h => absurd h (by omega)⟩ | exact ⟨fun h => absurd h (by omega), fun h => absurd h (by omega), fun _ => ⟨rfl, rfl⟩, fun h => absurd h (by omega)⟩ | exact ⟨fun h => absurd h (by omega), fun h => absurd h (by omega), fun h => absurd h (by omega), fun _ => ⟨rfl, rfl⟩⟩)
        ·
          refine go_aload_n dX9_today_50 rfl ?_
          refine go_getR dX9_today_51 fl_X9_21 (by first | assumption | exact Nat.le_of_ble_eq_true rfl) (by first | assumption | rfl) rfl (by first | assumption | rfl) ?_
          refine go_getI 9 dX9_today_54 fl_X9_128 (by first | assumption | exact Nat.le_of_ble_eq_true rfl) (by first | assumption | rfl) rfl rfl ?_
          try simp (disch := omega) only [ud, ua_same, ua_ne, uf_same, uf_ne]
          refine go_istore_n dX9_today_57 rfl ?_
          refine go_aload_n dX9_today_58 rfl ?_
          refine go_getR dX9_today_59 fl_X9_21 (by first | assumption | exact Nat.le_of_ble_eq_true rfl) (by first | assumption | rfl) rfl (by first | assumption | rfl) ?_
          refine go_iload_n dX9_today_62 rfl ?_
          refine go_putI 9 dX9_today_63 pl_X9_128 (by first | assumption | exact Nat.le_of_ble_eq_true rfl) (by first | assumption | rfl) rfl rfl ?_
          refine go_goto (tgt := 100) dX9_today_66 rfl ?_
          refine go_iload_n dX9_today_100 rfl ?_
          exact go_ri dX9_today_101 tyI ⟨Nat.le_refl _, Nat.le_refl _⟩ (by first | exact ⟨fun _ => ⟨rfl, rfl⟩, fun h => absurd h (by omega), fun h => absurd h (by omega), fun h => absurd h (by omega)⟩ | exact ⟨fun h => absurd h (by omega), fun _ => ⟨rfl, rfl⟩, fun h => absurd h (by omega), fun h => absurd h (by omega)⟩ | exact ⟨fun h => absurd h (by omega), fun h => absurd h (by omega), fun _ => ⟨rfl, rfl⟩, fun h => absurd h (by omega)⟩ | exact ⟨fun h => absurd h (by omega), fun h => absurd h (by omega), fun h => absurd h (by omega), fun _ => ⟨rfl, rfl⟩⟩)
    ·
      refine go_aload_n dX9_today_16 rfl ?_
      refine go_getR dX9_today_17 fl_X9_21 (by first | assumption | exact Nat.le_of_ble_eq_true rfl) (by first | assumption | rfl) rfl (by first | assumption | rfl) ?_
      refine go_getI 8 dX9_today_20 fl_X9_124 (by first | assumption | exact Nat.le_of_ble_eq_true rfl) (by first | assumption | rfl) rfl rfl ?_
      try simp (disch := omega) only [ud, ua_same, ua_ne, uf_same, uf_ne]
      refine go_istore_n dX9_today_23 rfl ?_
      refine go_aload_n dX9_today_24 rfl ?_
      refine go_getR dX9_today_25 fl_X9_21 (by first | assumption | exact Nat.le_of_ble_eq_true rfl) (by first | assumption | rfl) rfl (by first | assumption | rfl) ?_
      refine go_iload_n dX9_today_28 rfl ?_
      refine go_putI 8 dX9_today_29 pl_X9_124 (by first | assumption | exact Nat.le_of_ble_eq_true rfl) (by first | assumption | rfl) rfl rfl ?_
      refine go_goto (tgt := 100) dX9_today_32 rfl ?_
      refine go_iload_n dX9_today_100 rfl ?_
      exact go_ri dX9_today_101 tyI ⟨Nat.le_refl _, Nat.le_refl _⟩ (by first | exact ⟨fun _ => ⟨rfl, rfl⟩, fun h => absurd h (by omega), fun h => absurd h (by omega), fun h => absurd h (by omega)⟩ | exact ⟨fun h => absurd h (by omega), fun _ => ⟨rfl, rfl⟩, fun h => absurd h (by omega), fun h => absurd h (by omega)⟩ | exact ⟨fun h => absurd h (by omega), fun h => absurd h (by omega), fun _ => ⟨rfl, rfl⟩, fun h => absurd h (by omega)⟩ | exact ⟨fun h => absurd h (by omega), fun h => absurd h (by omega), fun h => absurd h (by omega), fun _ => ⟨rfl, rfl⟩⟩)

set_option maxRecDepth 100000 in
set_option maxHeartbeats 4000000 in
theorem ct_X9_seed {l : Launch} {D : va_G} {cA : Nat → ClassId} {μ : Mem} (hI : mtI μ 32) (v : Int) : CtN l D cA yX9_seed cX9_seed 3 (some .int) 1 [vr 0, vi v] μ (Pi (fun x μ' => x = μ 32 11 ∧ μ' = ud μ 32 11 v)) := by
  refine Ct.of (own := RX9) (by decide +kernel) rfl (fun σ => Nat.le_of_ble_eq_true rfl) (fun hM hP ha => ?_)
  obtain ⟨w0_0, w0_1, w0_2, w0_3, w0_4, w0_5, w0_6, w0_7, w0_8, w0_9, w1_0, w1_1, w32_1, w32_2, w32_3, w32_4, w32_5, w32_6, w39_1, w39_2, w39_3, w39_4, w39_5, w39_6, w46_1, w46_2, w46_3, w46_4, w46_5, w46_6, w56_0, w58_0, w58_1, w53_0, w53_1⟩ := ws_f
  have hMt : isMt 32 := Or.inl rfl
  obtain ⟨iK, iS, iL, iT, iTn, iD, iH, iF, iX, iW⟩ := id hI
  simp only [Nat.reduceAdd] at iK iS iL iT
  refine go_aload_n dX9_seed_0 rfl ?_
  refine go_getR dX9_seed_1 fl_X9_21 (by first | assumption | exact Nat.le_of_ble_eq_true rfl) (by first | assumption | rfl) rfl (by first | assumption | rfl) ?_
  refine go_getI 11 dX9_seed_4 fl_X9_140 (by first | assumption | exact Nat.le_of_ble_eq_true rfl) (by first | assumption | rfl) rfl rfl ?_
  refine go_istore_n dX9_seed_7 rfl ?_
  refine go_aload_n dX9_seed_8 rfl ?_
  refine go_getR dX9_seed_9 fl_X9_21 (by first | assumption | exact Nat.le_of_ble_eq_true rfl) (by first | assumption | rfl) rfl (by first | assumption | rfl) ?_
  refine go_iload_n dX9_seed_12 rfl ?_
  refine go_putI 11 dX9_seed_13 pl_X9_140 (by first | assumption | exact Nat.le_of_ble_eq_true rfl) (by first | assumption | rfl) rfl rfl ?_
  refine go_iload_n dX9_seed_16 rfl ?_
  exact go_ri dX9_seed_17 tyI ⟨Nat.le_refl _, Nat.le_refl _⟩ (⟨rfl, rfl⟩)

set_option maxRecDepth 100000 in
set_option maxHeartbeats 4000000 in
theorem ct_X9_wipe {l : Launch} {D : va_G} {cA : Nat → ClassId} {μ : Mem} (hI : mtI μ 32) : CtN l D cA yX9_wipe cX9_wipe 2 (some .int) 1 [vr 0] μ (Pi (fun x μ' => x = μ 32 7 ∧ μ' = ud μ 32 7 0)) := by
  refine Ct.of (own := RX9) (by decide +kernel) rfl (fun σ => Nat.le_of_ble_eq_true rfl) (fun hM hP ha => ?_)
  obtain ⟨w0_0, w0_1, w0_2, w0_3, w0_4, w0_5, w0_6, w0_7, w0_8, w0_9, w1_0, w1_1, w32_1, w32_2, w32_3, w32_4, w32_5, w32_6, w39_1, w39_2, w39_3, w39_4, w39_5, w39_6, w46_1, w46_2, w46_3, w46_4, w46_5, w46_6, w56_0, w58_0, w58_1, w53_0, w53_1⟩ := ws_f
  have hMt : isMt 32 := Or.inl rfl
  obtain ⟨iK, iS, iL, iT, iTn, iD, iH, iF, iX, iW⟩ := id hI
  simp only [Nat.reduceAdd] at iK iS iL iT
  refine go_aload_n dX9_wipe_0 rfl ?_
  refine go_getR dX9_wipe_1 fl_X9_21 (by first | assumption | exact Nat.le_of_ble_eq_true rfl) (by first | assumption | rfl) rfl (by first | assumption | rfl) ?_
  refine go_getI 7 dX9_wipe_4 fl_X9_160 (by first | assumption | exact Nat.le_of_ble_eq_true rfl) (by first | assumption | rfl) rfl rfl ?_
  refine go_istore_n dX9_wipe_7 rfl ?_
  refine go_aload_n dX9_wipe_8 rfl ?_
  refine go_getR dX9_wipe_9 fl_X9_21 (by first | assumption | exact Nat.le_of_ble_eq_true rfl) (by first | assumption | rfl) rfl (by first | assumption | rfl) ?_
  refine go_iconst dX9_wipe_12 rfl ?_
  refine go_putI 7 dX9_wipe_13 pl_X9_160 (by first | assumption | exact Nat.le_of_ble_eq_true rfl) (by first | assumption | rfl) rfl rfl ?_
  refine go_iload_n dX9_wipe_16 rfl ?_
  exact go_ri dX9_wipe_17 tyI ⟨Nat.le_refl _, Nat.le_refl _⟩ (⟨rfl, rfl⟩)

set_option maxRecDepth 100000 in
set_option maxHeartbeats 4000000 in
theorem ct_X9_at {l : Launch} {D : va_G} {cA : Nat → ClassId} {μ : Mem} (hI : mtI μ 32) (i : Int) : CtN l D cA yX9_at cX9_at 2 (some .int) 1 [vr 0, vi i] μ (Pi (fun x μ' => x = (if i < 0 then -1000000001 else if i < μ 32 7 then μ 36 i else -1000000005) ∧ μ' = μ)) := by
  refine Ct.of (own := RX9) (by decide +kernel) rfl (fun σ => Nat.le_of_ble_eq_true rfl) (fun hM hP ha => ?_)
  obtain ⟨w0_0, w0_1, w0_2, w0_3, w0_4, w0_5, w0_6, w0_7, w0_8, w0_9, w1_0, w1_1, w32_1, w32_2, w32_3, w32_4, w32_5, w32_6, w39_1, w39_2, w39_3, w39_4, w39_5, w39_6, w46_1, w46_2, w46_3, w46_4, w46_5, w46_6, w56_0, w58_0, w58_1, w53_0, w53_1⟩ := ws_f
  have hMt : isMt 32 := Or.inl rfl
  obtain ⟨iK, iS, iL, iT, iTn, iD, iH, iF, iX, iW⟩ := id hI
  simp only [Nat.reduceAdd] at iK iS iL iT
  refine go_iload_n dX9_at_0 rfl ?_
  refine go_if_ge (tgt := 7) dX9_at_1 rfl (fun h1 => ?_) (fun h1 => ?_)
  ·
    refine go_iload_n dX9_at_7 rfl ?_
    refine go_aload_n dX9_at_8 rfl ?_
    refine go_getR dX9_at_9 fl_X9_21 (by first | assumption | exact Nat.le_of_ble_eq_true rfl) (by first | assumption | rfl) rfl (by first | assumption | rfl) ?_
    refine go_getI 7 dX9_at_12 fl_X9_160 (by first | assumption | exact Nat.le_of_ble_eq_true rfl) (by first | assumption | rfl) rfl rfl ?_
    refine go_icmp_ge (tgt := 30) dX9_at_15 rfl (fun h15 => ?_) (fun h15 => ?_)
    ·
      refine go_ldc dX9_at_30 kc_X9_159 rfl ?_
      exact go_ri dX9_at_32 tyI ⟨Nat.le_refl _, Nat.le_refl _⟩ (⟨by (repeat (first | rw [if_pos (by omega)] | rw [if_neg (by omega)])), rfl⟩)
    ·
      refine go_aload_n dX9_at_18 rfl ?_
      refine go_getR dX9_at_19 fl_X9_21 (by first | assumption | exact Nat.le_of_ble_eq_true rfl) (by first | assumption | rfl) rfl (by first | assumption | rfl) ?_
      refine go_getR dX9_at_22 fl_X9_163 (by first | assumption | exact Nat.le_of_ble_eq_true rfl) (by first | assumption | rfl) rfl (by first | assumption | rfl) ?_
      refine go_iload_n dX9_at_25 rfl ?_
      refine go_iaload dX9_at_26 (by first | assumption | exact Nat.le_of_ble_eq_true rfl) (by first | assumption | rfl) (by omega) (by omega) ?_
      refine go_goto (tgt := 32) dX9_at_27 rfl ?_
      exact go_ri dX9_at_32 tyI ⟨Nat.le_refl _, Nat.le_refl _⟩ (⟨by (repeat (first | rw [if_pos (by omega)] | rw [if_neg (by omega)])), rfl⟩)
  ·
    refine go_ldc dX9_at_4 kc_X9_85 rfl ?_
    exact go_ri dX9_at_6 tyI ⟨Nat.le_refl _, Nat.le_refl _⟩ (⟨by (repeat (first | rw [if_pos (by omega)] | rw [if_neg (by omega)])), rfl⟩)

set_option maxRecDepth 100000 in
set_option maxHeartbeats 4000000 in
theorem ct_X9_track {l : Launch} {D : va_G} {cA : Nat → ClassId} {μ : Mem} (hI : mtI μ 32) (cell : Int) : CtN l D cA yX9_track cX9_track 3 (some .int) 4 [vr 0, vi cell] μ (Pi (fun x μ' => (¬ (0 ≤ cell ∧ cell ≤ 29) → x = -1000000001 ∧ μ' = μ) ∧ ((0 ≤ cell ∧ cell ≤ 29) → (0 < μ 32 7 ∧ ¬ (bsdb (μ 36 (μ 32 7 - 1)) cell = true) → x = -1000000002 ∧ μ' = μ) ∧ (¬ (0 < μ 32 7 ∧ ¬ (bsdb (μ 36 (μ 32 7 - 1)) cell = true)) → (24 ≤ μ 32 7 → x = -1000000003 ∧ μ' = μ) ∧ (μ 32 7 < 24 → x = μ 32 7 + 1 ∧ μ' = ud (ud μ 36 (μ 32 7) cell) 32 7 (μ 32 7 + 1)))))) := by
  refine Ct.of (own := RX9) (by decide +kernel) rfl (fun σ => Nat.le_of_ble_eq_true rfl) (fun hM hP ha => ?_)
  obtain ⟨w0_0, w0_1, w0_2, w0_3, w0_4, w0_5, w0_6, w0_7, w0_8, w0_9, w1_0, w1_1, w32_1, w32_2, w32_3, w32_4, w32_5, w32_6, w39_1, w39_2, w39_3, w39_4, w39_5, w39_6, w46_1, w46_2, w46_3, w46_4, w46_5, w46_6, w56_0, w58_0, w58_1, w53_0, w53_1⟩ := ws_f
  have hMt : isMt 32 := Or.inl rfl
  obtain ⟨iK, iS, iL, iT, iTn, iD, iH, iF, iX, iW⟩ := id hI
  simp only [Nat.reduceAdd] at iK iS iL iT
  refine go_iload_n dX9_track_0 rfl ?_
  refine go_sI dX9_track_1 (ct_X9_isCell _) ml_X9_72 mc_X9_isCell ms_X9_isCell ⟨rfl, rfl⟩ ⟨Nat.le_refl _, Nat.le_refl _⟩ rfl rfl rfl (fun x1 μ1 hc1 => ?_)
  obtain ⟨rfl, hm1⟩ := hc1
  rw [hm1]
  first | refine go_bnz (tgt := 10) dX9_track_4 rfl (fun h4 => ?_) (fun h4 => ?_) | refine go_if_ne (tgt := 10) dX9_track_4 rfl (fun h4 => ?_) (fun h4 => ?_)
  ·
    refine go_aload_n dX9_track_10 rfl ?_
    refine go_getR dX9_track_11 fl_X9_21 (by first | assumption | exact Nat.le_of_ble_eq_true rfl) (by first | assumption | rfl) rfl (by first | assumption | rfl) ?_
    refine go_getI 7 dX9_track_14 fl_X9_160 (by first | assumption | exact Nat.le_of_ble_eq_true rfl) (by first | assumption | rfl) rfl rfl ?_
    try simp (disch := omega) only [ud, ua_same, ua_ne, uf_same, uf_ne]
    refine go_istore_n dX9_track_17 rfl ?_
    refine go_iload_n dX9_track_18 rfl ?_
    refine go_if_le (tgt := 43) dX9_track_19 rfl (fun h19 => ?_) (fun h19 => ?_)
    ·
      refine go_iload_n dX9_track_43 rfl ?_
      refine go_bipush dX9_track_44 rfl (by decide) ?_
      refine go_icmp_lt (tgt := 52) dX9_track_46 rfl (fun h46 => ?_) (fun h46 => ?_)
      ·
        refine go_aload_n dX9_track_52 rfl ?_
        refine go_getR dX9_track_53 fl_X9_21 (by first | assumption | exact Nat.le_of_ble_eq_true rfl) (by first | assumption | rfl) rfl (by first | assumption | rfl) ?_
        refine go_getR dX9_track_56 fl_X9_163 (by first | assumption | exact Nat.le_of_ble_eq_true rfl) (by first | assumption | rfl) rfl (by first | assumption | rfl) ?_
        refine go_iload_n dX9_track_59 rfl ?_
        refine go_iload_n dX9_track_60 rfl ?_
        refine go_iastore dX9_track_61 (by first | assumption | exact Nat.le_of_ble_eq_true rfl) (by first | assumption | rfl) (by omega) (by omega) ?_
        refine go_aload_n dX9_track_62 rfl ?_
        refine go_getR dX9_track_63 fl_X9_21 (by first | assumption | exact Nat.le_of_ble_eq_true rfl) (by first | assumption | rfl) rfl (by first | assumption | rfl) ?_
        refine go_iload_n dX9_track_66 rfl ?_
        refine go_iconst dX9_track_67 rfl ?_
        refine go_iadd dX9_track_68 ⟨by omega, by omega⟩ ?_
        refine go_putI 7 dX9_track_69 pl_X9_160 (by first | assumption | exact Nat.le_of_ble_eq_true rfl) (by first | assumption | rfl) rfl rfl ?_
        refine go_aload_n dX9_track_72 rfl ?_
        refine go_getR dX9_track_73 fl_X9_21 (by first | assumption | exact Nat.le_of_ble_eq_true rfl) (by first | assumption | rfl) rfl (by first | assumption | rfl) ?_
        refine go_getI 7 dX9_track_76 fl_X9_160 (by first | assumption | exact Nat.le_of_ble_eq_true rfl) (by first | assumption | rfl) rfl rfl ?_
        try simp (disch := omega) only [ud, ua_same, ua_ne, uf_same, uf_ne]
        exact go_ri dX9_track_79 tyI ⟨Nat.le_refl _, Nat.le_refl _⟩ (⟨fun h => absurd h4 h, fun _ => ⟨fun h => absurd h.1 (by omega), fun _ => ⟨fun h => absurd h (by omega), fun _ => ⟨rfl, by simp (disch := omega) only [ud, ua_same, ua_ne, uf_same, uf_ne]⟩⟩⟩⟩)
      ·
        refine go_ldc dX9_track_49 kc_X9_170 rfl ?_
        exact go_ri dX9_track_51 tyI ⟨Nat.le_refl _, Nat.le_refl _⟩ (⟨fun h => absurd h4 h, fun _ => ⟨fun h => absurd h.1 (by omega), fun _ => ⟨fun _ => ⟨rfl, rfl⟩, fun h => absurd h (by omega)⟩⟩⟩)
    ·
      refine go_aload_n dX9_track_22 rfl ?_
      refine go_getR dX9_track_23 fl_X9_21 (by first | assumption | exact Nat.le_of_ble_eq_true rfl) (by first | assumption | rfl) rfl (by first | assumption | rfl) ?_
      refine go_getR dX9_track_26 fl_X9_163 (by first | assumption | exact Nat.le_of_ble_eq_true rfl) (by first | assumption | rfl) rfl (by first | assumption | rfl) ?_
      refine go_iload_n dX9_track_29 rfl ?_
      refine go_iconst dX9_track_30 rfl ?_
      refine go_isub dX9_track_31 ⟨by omega, by omega⟩ ?_
      refine go_iaload dX9_track_32 (by first | assumption | exact Nat.le_of_ble_eq_true rfl) (by first | assumption | rfl) (by omega) (by omega) ?_
      try simp (disch := omega) only [ud, ua_same, ua_ne, uf_same, uf_ne]
      refine go_iload_n dX9_track_33 rfl ?_
      refine go_sI dX9_track_34 (ct_X9_isBeside _ _ (iT _ (by omega) (by omega)).1 (iT _ (by omega) (by omega)).2) ml_X9_166 mc_X9_isBeside ms_X9_isBeside ⟨rfl, rfl⟩ ⟨Nat.le_refl _, Nat.le_refl _⟩ rfl rfl rfl (fun x34 μ34 hc34 => ?_)
      obtain ⟨rfl, hm34⟩ := hc34
      rw [hm34]
      first | refine go_bnz (tgt := 43) dX9_track_37 rfl (fun h37 => ?_) (fun h37 => ?_) | refine go_if_ne (tgt := 43) dX9_track_37 rfl (fun h37 => ?_) (fun h37 => ?_)
      ·
        refine go_iload_n dX9_track_43 rfl ?_
        refine go_bipush dX9_track_44 rfl (by decide) ?_
        refine go_icmp_lt (tgt := 52) dX9_track_46 rfl (fun h46 => ?_) (fun h46 => ?_)
        ·
          refine go_aload_n dX9_track_52 rfl ?_
          refine go_getR dX9_track_53 fl_X9_21 (by first | assumption | exact Nat.le_of_ble_eq_true rfl) (by first | assumption | rfl) rfl (by first | assumption | rfl) ?_
          refine go_getR dX9_track_56 fl_X9_163 (by first | assumption | exact Nat.le_of_ble_eq_true rfl) (by first | assumption | rfl) rfl (by first | assumption | rfl) ?_
          refine go_iload_n dX9_track_59 rfl ?_
          refine go_iload_n dX9_track_60 rfl ?_
          refine go_iastore dX9_track_61 (by first | assumption | exact Nat.le_of_ble_eq_true rfl) (by first | assumption | rfl) (by omega) (by omega) ?_
          refine go_aload_n dX9_track_62 rfl ?_
          refine go_getR dX9_track_63 fl_X9_21 (by first | assumption | exact Nat.le_of_ble_eq_true rfl) (by first | assumption | rfl) rfl (by first | assumption | rfl) ?_
          refine go_iload_n dX9_track_66 rfl ?_
          refine go_iconst dX9_track_67 rfl ?_
          refine go_iadd dX9_track_68 ⟨by omega, by omega⟩ ?_
          refine go_putI 7 dX9_track_69 pl_X9_160 (by first | assumption | exact Nat.le_of_ble_eq_true rfl) (by first | assumption | rfl) rfl rfl ?_
          refine go_aload_n dX9_track_72 rfl ?_
          refine go_getR dX9_track_73 fl_X9_21 (by first | assumption | exact Nat.le_of_ble_eq_true rfl) (by first | assumption | rfl) rfl (by first | assumption | rfl) ?_
          refine go_getI 7 dX9_track_76 fl_X9_160 (by first | assumption | exact Nat.le_of_ble_eq_true rfl) (by first | assumption | rfl) rfl rfl ?_
          try simp (disch := omega) only [ud, ua_same, ua_ne, uf_same, uf_ne]
          exact go_ri dX9_track_79 tyI ⟨Nat.le_refl _, Nat.le_refl _⟩ (⟨fun h => absurd h4 h, fun _ => ⟨fun h => absurd h37 h.2, fun _ => ⟨fun h => absurd h (by omega), fun _ => ⟨rfl, by simp (disch := omega) only [ud, ua_same, ua_ne, uf_same, uf_ne]⟩⟩⟩⟩)
        ·
          refine go_ldc dX9_track_49 kc_X9_170 rfl ?_
          exact go_ri dX9_track_51 tyI ⟨Nat.le_refl _, Nat.le_refl _⟩ (⟨fun h => absurd h4 h, fun _ => ⟨fun h => absurd h37 h.2, fun _ => ⟨fun _ => ⟨rfl, rfl⟩, fun h => absurd h (by omega)⟩⟩⟩)
      ·
        refine go_ldc dX9_track_40 kc_X9_169 rfl ?_
        exact go_ri dX9_track_42 tyI ⟨Nat.le_refl _, Nat.le_refl _⟩ (⟨fun h => absurd h4 h, fun _ => ⟨fun _ => ⟨rfl, rfl⟩, fun h => absurd ⟨by omega, h37⟩ h⟩⟩)
  ·
    refine go_ldc dX9_track_7 kc_X9_85 rfl ?_
    exact go_ri dX9_track_9 tyI ⟨Nat.le_refl _, Nat.le_refl _⟩ (⟨fun _ => ⟨rfl, rfl⟩, fun h => absurd h h4⟩)

set_option maxRecDepth 100000 in
set_option maxHeartbeats 4000000 in
theorem ct_X9_along {l : Launch} {D : va_G} {cA : Nat → ClassId} {μ : Mem} (hI : mtI μ 32) (what : Int) : CtN l D cA yX9_along cX9_along 2 (some .int) 7 [vr 0, vi what] μ (Pi (fun x μ' => x = (if 0 ≤ what ∧ what ≤ 4 then (if μ 32 7 = 0 then -1000000005 else if what = 0 then trS (fun i => rkC μ 32 (μ 36 i)) (μ 32 7).toNat else if what = 1 then trS (fun i => stepV (LM μ 32) (μ 34 (μ 36 i)) (upV (μ 36 (i - 1)) (μ 36 i))) (μ 32 7).toNat else if what = 2 then trT (μ 36) (μ 32 7).toNat else if what = 3 then mxN (fun i => μ 34 (μ 36 i)) (μ 32 7).toNat else mxN (fun i => rkC μ 32 (μ 36 i)) (μ 32 7).toNat) else -1000000001) ∧ ∀ q, q ≠ 3 → q ≠ 37 → μ' q = μ q)) := by
  refine Ct.of (own := RX9) (by decide +kernel) rfl (fun σ => Nat.le_of_ble_eq_true rfl) (fun hM hP ha => ?_)
  obtain ⟨w0_0, w0_1, w0_2, w0_3, w0_4, w0_5, w0_6, w0_7, w0_8, w0_9, w1_0, w1_1, w32_1, w32_2, w32_3, w32_4, w32_5, w32_6, w39_1, w39_2, w39_3, w39_4, w39_5, w39_6, w46_1, w46_2, w46_3, w46_4, w46_5, w46_6, w56_0, w58_0, w58_1, w53_0, w53_1⟩ := ws_f
  have hMt : isMt 32 := Or.inl rfl
  obtain ⟨iK, iS, iL, iT, iTn, iD, iH, iF, iX, iW⟩ := id hI
  simp only [Nat.reduceAdd] at iK iS iL iT
  refine go_iload_n dX9_along_0 rfl ?_
  refine go_iconst dX9_along_1 rfl ?_
  refine go_iconst dX9_along_2 rfl ?_
  refine go_sI dX9_along_3 (ct_X9_isWithin _ _ _) ml_X9_81 mc_X9_isWithin ms_X9_isWithin ⟨rfl, rfl⟩ ⟨Nat.le_refl _, Nat.le_refl _⟩ rfl rfl rfl (fun x3 μ3 hc3 => ?_)
  obtain ⟨rfl, hm3⟩ := hc3
  rw [hm3]
  first | refine go_bnz (tgt := 12) dX9_along_6 rfl (fun h6 => ?_) (fun h6 => ?_) | refine go_if_ne (tgt := 12) dX9_along_6 rfl (fun h6 => ?_) (fun h6 => ?_)
  ·
    refine go_aload_n dX9_along_12 rfl ?_
    refine go_getR dX9_along_13 fl_X9_21 (by first | assumption | exact Nat.le_of_ble_eq_true rfl) (by first | assumption | rfl) rfl (by first | assumption | rfl) ?_
    refine go_getI 7 dX9_along_16 fl_X9_160 (by first | assumption | exact Nat.le_of_ble_eq_true rfl) (by first | assumption | rfl) rfl rfl ?_
    try simp (disch := omega) only [ud, ua_same, ua_ne, uf_same, uf_ne]
    first | refine go_bnz (tgt := 25) dX9_along_19 rfl (fun h19 => ?_) (fun h19 => ?_) | refine go_if_ne (tgt := 25) dX9_along_19 rfl (fun h19 => ?_) (fun h19 => ?_)
    ·
      refine go_iload_n dX9_along_25 rfl ?_
      refine go_case (0) (fun h26_0 => ?_) (fun h26_0 => ?_)
      ·
        refine go_tabIn (tgt := 56) dX9_along_26 (by rw [h26_0]; decide) (by rw [h26_0]; decide) (by rw [h26_0]; try rfl) rfl ?_
        refine go_aload_n dX9_along_56 rfl ?_
        refine go_getR dX9_along_57 fl_X9_21 (by first | assumption | exact Nat.le_of_ble_eq_true rfl) (by first | assumption | rfl) rfl (by first | assumption | rfl) ?_
        refine go_vI (ci := 2) dX9_along_60 (ct_X3_trackRisk hMt hI (by omega)) ml_X9_171 mc_X3_trackRisk mv_X3_trackRisk rfl (by first | assumption | exact Nat.le_of_ble_eq_true rfl) (by first | assumption | rfl) rfl ⟨rfl, rfl⟩ ⟨Nat.le_refl _, Nat.le_refl _⟩ rfl rfl rfl (fun x60 μ60 hc60 => ?_)
        simp only [Nat.reduceAdd] at hc60
        obtain ⟨rfl, hf⟩ := hc60
        exact go_ri dX9_along_63 tyI ⟨Nat.le_refl _, Nat.le_refl _⟩ (⟨by (repeat (first | rw [if_pos (by omega)] | rw [if_neg (by omega)])), hf⟩)
      refine go_case (1) (fun h26_1 => ?_) (fun h26_1 => ?_)
      ·
        refine go_tabIn (tgt := 64) dX9_along_26 (by rw [h26_1]; decide) (by rw [h26_1]; decide) (by rw [h26_1]; try rfl) rfl ?_
        refine go_aload_n dX9_along_64 rfl ?_
        refine go_getR dX9_along_65 fl_X9_21 (by first | assumption | exact Nat.le_of_ble_eq_true rfl) (by first | assumption | rfl) rfl (by first | assumption | rfl) ?_
        refine go_vI (ci := 2) dX9_along_68 (ct_X3_trackBreath hMt hI (by omega)) ml_X9_174 mc_X3_trackBreath mv_X3_trackBreath rfl (by first | assumption | exact Nat.le_of_ble_eq_true rfl) (by first | assumption | rfl) rfl ⟨rfl, rfl⟩ ⟨Nat.le_refl _, Nat.le_refl _⟩ rfl rfl rfl (fun x68 μ68 hc68 => ?_)
        simp only [Nat.reduceAdd] at hc68
        obtain ⟨rfl, hf⟩ := hc68
        exact go_ri dX9_along_71 tyI ⟨Nat.le_refl _, Nat.le_refl _⟩ (⟨by (repeat (first | rw [if_pos (by omega)] | rw [if_neg (by omega)])), fun q h _ => hf q h⟩)
      refine go_case (2) (fun h26_2 => ?_) (fun h26_2 => ?_)
      ·
        refine go_tabIn (tgt := 72) dX9_along_26 (by rw [h26_2]; decide) (by rw [h26_2]; decide) (by rw [h26_2]; try rfl) rfl ?_
        refine go_aload_n dX9_along_72 rfl ?_
        refine go_getR dX9_along_73 fl_X9_21 (by first | assumption | exact Nat.le_of_ble_eq_true rfl) (by first | assumption | rfl) rfl (by first | assumption | rfl) ?_
        refine go_vI (ci := 2) dX9_along_76 (ct_X3_trackTurns hMt hI (by omega)) ml_X9_177 mc_X3_trackTurns mv_X3_trackTurns rfl (by first | assumption | exact Nat.le_of_ble_eq_true rfl) (by first | assumption | rfl) rfl ⟨rfl, rfl⟩ ⟨Nat.le_refl _, Nat.le_refl _⟩ rfl rfl rfl (fun x76 μ76 hc76 => ?_)
        simp only [Nat.reduceAdd] at hc76
        obtain ⟨rfl, hf⟩ := hc76
        exact go_ri dX9_along_79 tyI ⟨Nat.le_refl _, Nat.le_refl _⟩ (⟨by (repeat (first | rw [if_pos (by omega)] | rw [if_neg (by omega)])), fun q _ _ => by rw [hf]⟩)
      refine go_case (3) (fun h26_3 => ?_) (fun h26_3 => ?_)
      ·
        refine go_tabIn (tgt := 80) dX9_along_26 (by rw [h26_3]; decide) (by rw [h26_3]; decide) (by rw [h26_3]; try rfl) rfl ?_
        refine go_aload_n dX9_along_80 rfl ?_
        refine go_getR dX9_along_81 fl_X9_21 (by first | assumption | exact Nat.le_of_ble_eq_true rfl) (by first | assumption | rfl) rfl (by first | assumption | rfl) ?_
        refine go_vI (ci := 2) dX9_along_84 (ct_X3_trackSteepest hMt hI (by omega)) ml_X9_180 mc_X3_trackSteepest mv_X3_trackSteepest rfl (by first | assumption | exact Nat.le_of_ble_eq_true rfl) (by first | assumption | rfl) rfl ⟨rfl, rfl⟩ ⟨Nat.le_refl _, Nat.le_refl _⟩ rfl rfl rfl (fun x84 μ84 hc84 => ?_)
        simp only [Nat.reduceAdd] at hc84
        obtain ⟨rfl, hf⟩ := hc84
        exact go_ri dX9_along_87 tyI ⟨Nat.le_refl _, Nat.le_refl _⟩ (⟨by (repeat (first | rw [if_pos (by omega)] | rw [if_neg (by omega)])), fun q _ _ => by rw [hf]⟩)
      refine go_tabOut (tgt := 88) dX9_along_26 (by omega) rfl ?_
      refine go_aload_n dX9_along_88 rfl ?_
      refine go_getR dX9_along_89 fl_X9_21 (by first | assumption | exact Nat.le_of_ble_eq_true rfl) (by first | assumption | rfl) rfl (by first | assumption | rfl) ?_
      refine go_vI (ci := 2) dX9_along_92 (ct_X3_trackRiskiest hMt hI (by omega)) ml_X9_183 mc_X3_trackRiskiest mv_X3_trackRiskiest rfl (by first | assumption | exact Nat.le_of_ble_eq_true rfl) (by first | assumption | rfl) rfl ⟨rfl, rfl⟩ ⟨Nat.le_refl _, Nat.le_refl _⟩ rfl rfl rfl (fun x92 μ92 hc92 => ?_)
      simp only [Nat.reduceAdd] at hc92
      obtain ⟨rfl, hf⟩ := hc92
      exact go_ri dX9_along_95 tyI ⟨Nat.le_refl _, Nat.le_refl _⟩ (⟨by (repeat (first | rw [if_pos (by omega)] | rw [if_neg (by omega)])), hf⟩)
    ·
      refine go_ldc dX9_along_22 kc_X9_159 rfl ?_
      exact go_ri dX9_along_24 tyI ⟨Nat.le_refl _, Nat.le_refl _⟩ (⟨by (repeat (first | rw [if_pos (by omega)] | rw [if_neg (by omega)])), fun _ _ _ => rfl⟩)
  ·
    refine go_ldc dX9_along_9 kc_X9_85 rfl ?_
    exact go_ri dX9_along_11 tyI ⟨Nat.le_refl _, Nat.le_refl _⟩ (⟨by (repeat (first | rw [if_pos (by omega)] | rw [if_neg (by omega)])), fun _ _ _ => rfl⟩)

def tbk (g : Int → Int) (r : Int) : Nat → Int → Int
  | 0, _ => -1000000005
  | m + 1, i => if r < g i then i else tbk g r m (i + 1)

set_option maxRecDepth 100000 in
set_option maxHeartbeats 4000000 in
theorem ct_X9_turnBack {l : Launch} {D : va_G} {cA : Nat → ClassId} {μ : Mem} (hI : mtI μ 32) (r : Int) : CtN l D cA yX9_turnBack cX9_turnBack 3 (some .int) 7 [vr 0, vi r] μ (Pi (fun x μ' => x = (if 0 ≤ r ∧ r ≤ 99999 then tbk (fun i => rkC μ 32 (μ 36 i)) r (μ 32 7).toNat 0 else -1000000001) ∧ ∀ q, q ≠ 3 → q ≠ 37 → μ' q = μ q)) := by
  refine Ct.of (own := RX9) (by decide +kernel) rfl (fun σ => Nat.le_of_ble_eq_true rfl) (fun hM hP ha => ?_)
  obtain ⟨w0_0, w0_1, w0_2, w0_3, w0_4, w0_5, w0_6, w0_7, w0_8, w0_9, w1_0, w1_1, w32_1, w32_2, w32_3, w32_4, w32_5, w32_6, w39_1, w39_2, w39_3, w39_4, w39_5, w39_6, w46_1, w46_2, w46_3, w46_4, w46_5, w46_6, w56_0, w58_0, w58_1, w53_0, w53_1⟩ := ws_f
  have hMt : isMt 32 := Or.inl rfl
  obtain ⟨iK, iS, iL, iT, iTn, iD, iH, iF, iX, iW⟩ := id hI
  simp only [Nat.reduceAdd] at iK iS iL iT
  refine go_iload_n dX9_turnBack_0 rfl ?_
  refine go_iconst dX9_turnBack_1 rfl ?_
  refine go_ldc dX9_turnBack_2 kc_X9_186 rfl ?_
  refine go_sI dX9_turnBack_4 (ct_X9_isWithin _ _ _) ml_X9_81 mc_X9_isWithin ms_X9_isWithin ⟨rfl, rfl⟩ ⟨Nat.le_refl _, Nat.le_refl _⟩ rfl rfl rfl (fun x4 μ4 hc4 => ?_)
  obtain ⟨rfl, hm4⟩ := hc4
  rw [hm4]
  first | refine go_bnz (tgt := 13) dX9_turnBack_7 rfl (fun h7 => ?_) (fun h7 => ?_) | refine go_if_ne (tgt := 13) dX9_turnBack_7 rfl (fun h7 => ?_) (fun h7 => ?_)
  ·
    refine go_aload_n dX9_turnBack_13 rfl ?_
    refine go_getR dX9_turnBack_14 fl_X9_21 (by first | assumption | exact Nat.le_of_ble_eq_true rfl) (by first | assumption | rfl) rfl (by first | assumption | rfl) ?_
    refine go_vV (ci := 2) dX9_turnBack_17 (ct_X3_weighRisks hMt hI) ml_X9_187 mc_X3_weighRisks mv_X3_weighRisks rfl (by first | assumption | exact Nat.le_of_ble_eq_true rfl) (by first | assumption | rfl) rfl ⟨rfl, rfl⟩ ⟨Nat.le_refl _, Nat.le_refl _⟩ rfl rfl rfl (fun μ17 hc17 => ?_)
    simp only [Nat.reduceAdd] at hc17
    obtain ⟨hw, hf⟩ := hc17
    have hfM : μ17 32 = μ 32 := hf 32 (by omega) (by omega)
    have hfT : μ17 36 = μ 36 := hf 36 (by omega) (by omega)
    have loop : ∀ (m : Nat) (i : Int), (μ 32 7) - i = (m : Nat) → 0 ≤ i → (tbk (fun i => rkC μ 32 (μ 36 i)) r (μ 32 7).toNat 0 = tbk (fun i => rkC μ 32 (μ 36 i)) r (μ 32 7 - i).toNat i) → Go l D cA none RX9 cX9_turnBack 3 (some .int) (7, 0, 0) (QN (Pi (fun x μ' => x = (if 0 ≤ r ∧ r ≤ 99999 then tbk (fun i => rkC μ 32 (μ 36 i)) r (μ 32 7).toNat 0 else -1000000001) ∧ ∀ q, q ≠ 3 → q ≠ 37 → μ' q = μ q))) 113 ρ0 0 0 22 [(0, vr 0), (1, vi r), (2, vi i)] [] μ17 := by
      intro m
      induction m with
      | zero =>
        intro i  hm hv hres
        refine go_iload_n dX9_turnBack_22 rfl ?_
        refine go_aload_n dX9_turnBack_23 rfl ?_
        refine go_getR dX9_turnBack_24 fl_X9_21 (by first | assumption | exact Nat.le_of_ble_eq_true rfl) (by first | assumption | rfl) rfl (by first | assumption | rfl) ?_
        refine go_getI 7 dX9_turnBack_27 fl_X9_160 (by first | assumption | exact Nat.le_of_ble_eq_true rfl) (by first | assumption | rfl) rfl rfl ?_
        try simp (disch := omega) only [ud, ua_same, ua_ne, uf_same, uf_ne, hfM]
        refine go_icmp_ge (tgt := 62) dX9_turnBack_30 rfl (fun h30 => ?_) (fun h30 => ?_)
        ·
          refine go_ldc dX9_turnBack_62 kc_X9_159 rfl ?_
          exact go_ri dX9_turnBack_64 tyI ⟨Nat.le_refl _, Nat.le_refl _⟩ (⟨by rw [if_pos (by omega), hres, show (μ 32 7 - i).toNat = 0 by omega]; rfl, hf⟩)
        ·
          exact absurd h30 (by omega)
      | succ m ih =>
        intro i  hm hv hres
        refine go_iload_n dX9_turnBack_22 rfl ?_
        refine go_aload_n dX9_turnBack_23 rfl ?_
        refine go_getR dX9_turnBack_24 fl_X9_21 (by first | assumption | exact Nat.le_of_ble_eq_true rfl) (by first | assumption | rfl) rfl (by first | assumption | rfl) ?_
        refine go_getI 7 dX9_turnBack_27 fl_X9_160 (by first | assumption | exact Nat.le_of_ble_eq_true rfl) (by first | assumption | rfl) rfl rfl ?_
        try simp (disch := omega) only [ud, ua_same, ua_ne, uf_same, uf_ne, hfM, hfT]
        refine go_icmp_ge (tgt := 62) dX9_turnBack_30 rfl (fun h30 => ?_) (fun h30 => ?_)
        ·
          exact absurd h30 (by omega)
        ·
          have ht := iT i (by omega) (by omega)
          have hun : tbk (fun i => rkC μ 32 (μ 36 i)) r (μ 32 7 - i).toNat i = if r < rkC μ 32 (μ 36 i) then i else tbk (fun i => rkC μ 32 (μ 36 i)) r (μ 32 7 - (i + 1)).toNat (i + 1) := by rw [show (μ 32 7 - i).toNat = (μ 32 7 - (i + 1)).toNat + 1 by omega]; rfl
          refine go_aload_n dX9_turnBack_33 rfl ?_
          refine go_getR dX9_turnBack_34 fl_X9_21 (by first | assumption | exact Nat.le_of_ble_eq_true rfl) (by first | assumption | rfl) rfl (by first | assumption | rfl) ?_
          refine go_getR dX9_turnBack_37 fl_X9_190 (by first | assumption | exact Nat.le_of_ble_eq_true rfl) (by first | assumption | rfl) rfl (by first | assumption | rfl) ?_
          refine go_aload_n dX9_turnBack_40 rfl ?_
          refine go_getR dX9_turnBack_41 fl_X9_21 (by first | assumption | exact Nat.le_of_ble_eq_true rfl) (by first | assumption | rfl) rfl (by first | assumption | rfl) ?_
          refine go_getR dX9_turnBack_44 fl_X9_163 (by first | assumption | exact Nat.le_of_ble_eq_true rfl) (by first | assumption | rfl) rfl (by first | assumption | rfl) ?_
          refine go_iload_n dX9_turnBack_47 rfl ?_
          refine go_iaload dX9_turnBack_48 (by first | assumption | exact Nat.le_of_ble_eq_true rfl) (by first | assumption | rfl) (by omega) (by omega) ?_
          try simp (disch := omega) only [ud, ua_same, ua_ne, uf_same, uf_ne, hfM, hfT]
          refine go_iaload dX9_turnBack_49 (by first | assumption | exact Nat.le_of_ble_eq_true rfl) (by first | assumption | rfl) (by omega) (by omega) ?_
          try simp (disch := omega) only [ud, ua_same, ua_ne, uf_same, uf_ne, hfM, hfT]
          rw [hw _ ht.1 ht.2]
          refine go_iload_n dX9_turnBack_50 rfl ?_
          refine go_icmp_le (tgt := 56) dX9_turnBack_51 rfl (fun h51 => ?_) (fun h51 => ?_)
          ·
            refine go_iinc dX9_turnBack_56 rfl rfl ⟨by omega, by omega⟩ ?_
            refine go_goto (tgt := 22) dX9_turnBack_59 rfl ?_
            exact go_drop (ih _ (by omega) (by omega) (by rw [hres, hun, if_neg (by omega)])) rfl
          ·
            refine go_iload_n dX9_turnBack_54 rfl ?_
            exact go_ri dX9_turnBack_55 tyI ⟨Nat.le_refl _, Nat.le_refl _⟩ (⟨by rw [if_pos (by omega), hres, hun, if_pos (by omega)], hf⟩)
    refine go_iconst dX9_turnBack_20 rfl ?_
    refine go_istore_n dX9_turnBack_21 rfl ?_
    exact go_drop (loop (μ 32 7).toNat 0 (by omega) (by omega) (by rw [Int.sub_zero])) rfl
  ·
    refine go_ldc dX9_turnBack_10 kc_X9_85 rfl ?_
    exact go_ri dX9_turnBack_12 tyI ⟨Nat.le_refl _, Nat.le_refl _⟩ (⟨by rw [if_neg (by omega)], fun _ _ _ => rfl⟩)

