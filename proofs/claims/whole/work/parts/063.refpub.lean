/-! THE REFERENCE: public methods: places, the day, ticks, the track -/
set_option maxRecDepth 100000 in
set_option maxHeartbeats 4000000 in
theorem ct_X10_place {l : Launch} {D : va_G} {cA : Nat → ClassId} {μ : Mem} (cell kind steep load : Int) : CtN l D cA yX10_place cX10_place 6 (some .int) 3 [vr 87, vi cell, vi kind, vi steep, vi load] μ (Pi (fun x μ' => ((0 ≤ cell ∧ cell ≤ 29 ∧ 0 ≤ kind ∧ kind ≤ 5 ∧ 0 ≤ steep ∧ steep ≤ 60 ∧ 0 ≤ load ∧ load ≤ 999) → x = vm (μ 88) 33 cell ∧ μ' = ud (ud (ud μ 88 (8 + 3 * cell + 0) kind) 88 (8 + 3 * cell + 1) steep) 88 (8 + 3 * cell + 2) load) ∧ (¬ (0 ≤ cell ∧ cell ≤ 29 ∧ 0 ≤ kind ∧ kind ≤ 5 ∧ 0 ≤ steep ∧ steep ≤ 60 ∧ 0 ≤ load ∧ load ≤ 999) → x = -1000000001 ∧ μ' = μ))) := by
  refine Ct.of (own := RX10) (by decide +kernel) rfl (fun σ => Nat.le_of_ble_eq_true rfl) (fun hM hP ha => ?_)
  obtain ⟨m87, r88, s88, r89, s89, r90, s90, r91, s91, r92, s92, r93, s93, r94, s94, r95, s95, r96, s96, r97, s97, r98, s98, r99, s99, r100, s100, r101, s101, r102, s102, r103, s103, r104, s104, r105, s105, r106, s106, r107, s107, r108, s108, r109, s109, r110, s110, r111, s111, r112, s112⟩ := md_f
  refine go_iload_n dX10_place_0 rfl ?_
  refine go_sI dX10_place_1 (ct_X10_isCell _) ml_X10_116 mc_X10_isCell ms_X10_isCell ⟨rfl, rfl⟩ ⟨Nat.le_refl _, Nat.le_refl _⟩ rfl rfl rfl (fun x1 μ1 hc1 => ?_)
  obtain ⟨rfl, hm1⟩ := hc1
  rw [hm1]
  first | refine go_bz (tgt := 44) dX10_place_4 rfl (fun h4 => ?_) (fun h4 => ?_) | refine go_if_eq (tgt := 44) dX10_place_4 rfl (fun h4 => ?_) (fun h4 => ?_)
  ·
    refine go_ldc dX10_place_44 kc_X10_126 rfl ?_
    exact go_ri dX10_place_46 tyI ⟨Nat.le_refl _, Nat.le_refl _⟩ (by first | exact ⟨fun _ => ⟨(vm_33 (by omega) (by omega)).symm, rfl⟩, fun h => absurd (by omega) h⟩ | exact ⟨fun h => absurd h (by omega), fun _ => ⟨rfl, rfl⟩⟩)
  ·
    refine go_iload_n dX10_place_7 rfl ?_
    refine go_i2l dX10_place_8 ?_
    refine go_lconst dX10_place_9 ?_
    refine go_ldc2 dX10_place_10 kl_X10_120 rfl ?_
    refine go_sI dX10_place_13 (ct_X10_isIn _ _ _) ml_X10_87 mc_X10_isIn ms_X10_isIn ⟨rfl, rfl⟩ ⟨Nat.le_refl _, Nat.le_refl _⟩ rfl rfl rfl (fun x13 μ13 hc13 => ?_)
    obtain ⟨rfl, hm13⟩ := hc13
    rw [hm13]
    first | refine go_bz (tgt := 44) dX10_place_16 rfl (fun h16 => ?_) (fun h16 => ?_) | refine go_if_eq (tgt := 44) dX10_place_16 rfl (fun h16 => ?_) (fun h16 => ?_)
    ·
      refine go_ldc dX10_place_44 kc_X10_126 rfl ?_
      exact go_ri dX10_place_46 tyI ⟨Nat.le_refl _, Nat.le_refl _⟩ (by first | exact ⟨fun _ => ⟨(vm_33 (by omega) (by omega)).symm, rfl⟩, fun h => absurd (by omega) h⟩ | exact ⟨fun h => absurd h (by omega), fun _ => ⟨rfl, rfl⟩⟩)
    ·
      refine go_iload_n dX10_place_19 rfl ?_
      refine go_i2l dX10_place_20 ?_
      refine go_lconst dX10_place_21 ?_
      refine go_ldc2 dX10_place_22 kl_X10_122 rfl ?_
      refine go_sI dX10_place_25 (ct_X10_isIn _ _ _) ml_X10_87 mc_X10_isIn ms_X10_isIn ⟨rfl, rfl⟩ ⟨Nat.le_refl _, Nat.le_refl _⟩ rfl rfl rfl (fun x25 μ25 hc25 => ?_)
      obtain ⟨rfl, hm25⟩ := hc25
      rw [hm25]
      first | refine go_bz (tgt := 44) dX10_place_28 rfl (fun h28 => ?_) (fun h28 => ?_) | refine go_if_eq (tgt := 44) dX10_place_28 rfl (fun h28 => ?_) (fun h28 => ?_)
      ·
        refine go_ldc dX10_place_44 kc_X10_126 rfl ?_
        exact go_ri dX10_place_46 tyI ⟨Nat.le_refl _, Nat.le_refl _⟩ (by first | exact ⟨fun _ => ⟨(vm_33 (by omega) (by omega)).symm, rfl⟩, fun h => absurd (by omega) h⟩ | exact ⟨fun h => absurd h (by omega), fun _ => ⟨rfl, rfl⟩⟩)
      ·
        refine go_iload dX10_place_31 rfl ?_
        refine go_i2l dX10_place_33 ?_
        refine go_lconst dX10_place_34 ?_
        refine go_ldc2 dX10_place_35 kl_X10_124 rfl ?_
        refine go_sI dX10_place_38 (ct_X10_isIn _ _ _) ml_X10_87 mc_X10_isIn ms_X10_isIn ⟨rfl, rfl⟩ ⟨Nat.le_refl _, Nat.le_refl _⟩ rfl rfl rfl (fun x38 μ38 hc38 => ?_)
        obtain ⟨rfl, hm38⟩ := hc38
        rw [hm38]
        first | refine go_bnz (tgt := 47) dX10_place_41 rfl (fun h41 => ?_) (fun h41 => ?_) | refine go_if_ne (tgt := 47) dX10_place_41 rfl (fun h41 => ?_) (fun h41 => ?_)
        ·
          refine go_aload_n dX10_place_47 rfl ?_
          refine go_iload_n dX10_place_48 rfl ?_
          refine go_iconst dX10_place_49 rfl ?_
          refine go_vI (ci := 9) dX10_place_50 (ct_X10_of _ _ (by omega) (by omega) (by omega) (by omega)) ml_X10_92 mc_X10_of mv_X10_of rfl (by first | assumption | exact Nat.le_of_ble_eq_true rfl) (by first | assumption | rfl) rfl ⟨rfl, rfl⟩ ⟨Nat.le_refl _, Nat.le_refl _⟩ rfl rfl rfl (fun x50 μ50 hc50 => ?_)
          obtain ⟨rfl, hm50⟩ := hc50
          rw [hm50]
          try simp (disch := omega) only [ud, ua_same, ua_ne, uf_same, uf_ne]
          refine go_istore dX10_place_53 rfl ?_
          refine go_aload_n dX10_place_55 rfl ?_
          refine go_iload_n dX10_place_56 rfl ?_
          refine go_iconst dX10_place_57 rfl ?_
          refine go_iload_n dX10_place_58 rfl ?_
          refine go_vV (ci := 9) dX10_place_59 (ct_X10_sets _ _ _ (by omega) (by omega) (by omega) (by omega)) ml_X10_127 mc_X10_sets mv_X10_sets rfl (by first | assumption | exact Nat.le_of_ble_eq_true rfl) (by first | assumption | rfl) rfl ⟨rfl, rfl⟩ ⟨Nat.le_refl _, Nat.le_refl _⟩ rfl rfl rfl (fun μ59 hc59 => ?_)
          subst hc59
          refine go_aload_n dX10_place_62 rfl ?_
          refine go_iload_n dX10_place_63 rfl ?_
          refine go_iconst dX10_place_64 rfl ?_
          refine go_iload_n dX10_place_65 rfl ?_
          refine go_vV (ci := 9) dX10_place_66 (ct_X10_sets _ _ _ (by omega) (by omega) (by omega) (by omega)) ml_X10_127 mc_X10_sets mv_X10_sets rfl (by first | assumption | exact Nat.le_of_ble_eq_true rfl) (by first | assumption | rfl) rfl ⟨rfl, rfl⟩ ⟨Nat.le_refl _, Nat.le_refl _⟩ rfl rfl rfl (fun μ66 hc66 => ?_)
          subst hc66
          refine go_aload_n dX10_place_69 rfl ?_
          refine go_iload_n dX10_place_70 rfl ?_
          refine go_iconst dX10_place_71 rfl ?_
          refine go_iload dX10_place_72 rfl ?_
          refine go_vV (ci := 9) dX10_place_74 (ct_X10_sets _ _ _ (by omega) (by omega) (by omega) (by omega)) ml_X10_127 mc_X10_sets mv_X10_sets rfl (by first | assumption | exact Nat.le_of_ble_eq_true rfl) (by first | assumption | rfl) rfl ⟨rfl, rfl⟩ ⟨Nat.le_refl _, Nat.le_refl _⟩ rfl rfl rfl (fun μ74 hc74 => ?_)
          subst hc74
          refine go_iload dX10_place_77 rfl ?_
          exact go_ri dX10_place_79 tyI ⟨Nat.le_refl _, Nat.le_refl _⟩ (by first | exact ⟨fun _ => ⟨(vm_33 (by omega) (by omega)).symm, rfl⟩, fun h => absurd (by omega) h⟩ | exact ⟨fun h => absurd h (by omega), fun _ => ⟨rfl, rfl⟩⟩)
        ·
          refine go_ldc dX10_place_44 kc_X10_126 rfl ?_
          exact go_ri dX10_place_46 tyI ⟨Nat.le_refl _, Nat.le_refl _⟩ (by first | exact ⟨fun _ => ⟨(vm_33 (by omega) (by omega)).symm, rfl⟩, fun h => absurd (by omega) h⟩ | exact ⟨fun h => absurd h (by omega), fun _ => ⟨rfl, rfl⟩⟩)

set_option maxRecDepth 100000 in
set_option maxHeartbeats 4000000 in
theorem ct_X10_told {l : Launch} {D : va_G} {cA : Nat → ClassId} {μ : Mem} (hI : mdI (μ 88)) (cell what : Int) : CtN l D cA yX10_told cX10_told 3 (some .int) 7 [vr 87, vi cell, vi what] μ (Pi (fun x μ' => x = (if 0 ≤ cell ∧ cell ≤ 29 then (if what = 0 then vm (μ 88) 33 cell else if what = 1 then vm (μ 88) 34 cell else if what = 2 then vm (μ 88) 35 cell else if what = 3 then prC (vm (μ 88)) 32 cell else if what = 4 then abv (prC (vm (μ 88)) 32) cell else if what = 5 then rkC (vm (μ 88)) 32 cell else if what = 6 then kHold (vm (μ 88) 33 cell) (plainH (LM (vm (μ 88)) 32) (vm (μ 88) 34 cell) (cell / 6)) (sunV (μ 88 3)) else if what = 7 then kWorth (vm (μ 88) 33 cell) (vm (μ 88) 34 cell) (vm (μ 88) 35 cell) else -1000000001) else -1000000001) ∧ ∀ q, q ≠ 108 → q ≠ 109 → μ' q = μ q)) := by
  refine Ct.of (own := RX10) (by decide +kernel) rfl (fun σ => Nat.le_of_ble_eq_true rfl) (fun hM hP ha => ?_)
  obtain ⟨m87, r88, s88, r89, s89, r90, s90, r91, s91, r92, s92, r93, s93, r94, s94, r95, s95, r96, s96, r97, s97, r98, s98, r99, s99, r100, s100, r101, s101, r102, s102, r103, s103, r104, s104, r105, s105, r106, s106, r107, s107, r108, s108, r109, s109, r110, s110, r111, s111, r112, s112⟩ := md_f
  obtain ⟨iK, iS, iL, iT, iTn, iD, iH, iF, iX⟩ := md_b hI
  refine go_iload_n dX10_told_0 rfl ?_
  refine go_sI dX10_told_1 (ct_X10_isCell _) ml_X10_116 mc_X10_isCell ms_X10_isCell ⟨rfl, rfl⟩ ⟨Nat.le_refl _, Nat.le_refl _⟩ rfl rfl rfl (fun x1 μ1 hc1 => ?_)
  obtain ⟨rfl, hm1⟩ := hc1
  rw [hm1]
  first | refine go_bnz (tgt := 10) dX10_told_4 rfl (fun h4 => ?_) (fun h4 => ?_) | refine go_if_ne (tgt := 10) dX10_told_4 rfl (fun h4 => ?_) (fun h4 => ?_)
  ·
    refine go_iload_n dX10_told_10 rfl ?_
    refine go_case (0) (fun h11_0 => ?_) (fun h11_0 => ?_)
    ·
      refine go_tabIn (tgt := 56) dX10_told_11 (by rw [h11_0]; decide) (by rw [h11_0]; decide) (by rw [h11_0]; try rfl) rfl ?_
      refine go_aload_n dX10_told_56 rfl ?_
      refine go_iload_n dX10_told_57 rfl ?_
      refine go_iload_n dX10_told_58 rfl ?_
      refine go_vI (ci := 9) dX10_told_59 (ct_X10_of _ _ (by omega) (by omega) (by omega) (by omega)) ml_X10_92 mc_X10_of mv_X10_of rfl (by first | assumption | exact Nat.le_of_ble_eq_true rfl) (by first | assumption | rfl) rfl ⟨rfl, rfl⟩ ⟨Nat.le_refl _, Nat.le_refl _⟩ rfl rfl rfl (fun x59 μ59 hc59 => ?_)
      obtain ⟨rfl, hm59⟩ := hc59
      rw [hm59]
      exact go_ri dX10_told_62 tyI ⟨Nat.le_refl _, Nat.le_refl _⟩ (⟨by rw [if_pos (by omega)]; (repeat (first | rw [if_pos (by omega)] | rw [if_neg (by omega)])); rw [h11_0, vm_33 (by omega) (by omega)], fun _ _ _ => rfl⟩)
    refine go_case (1) (fun h11_1 => ?_) (fun h11_1 => ?_)
    ·
      refine go_tabIn (tgt := 56) dX10_told_11 (by rw [h11_1]; decide) (by rw [h11_1]; decide) (by rw [h11_1]; try rfl) rfl ?_
      refine go_aload_n dX10_told_56 rfl ?_
      refine go_iload_n dX10_told_57 rfl ?_
      refine go_iload_n dX10_told_58 rfl ?_
      refine go_vI (ci := 9) dX10_told_59 (ct_X10_of _ _ (by omega) (by omega) (by omega) (by omega)) ml_X10_92 mc_X10_of mv_X10_of rfl (by first | assumption | exact Nat.le_of_ble_eq_true rfl) (by first | assumption | rfl) rfl ⟨rfl, rfl⟩ ⟨Nat.le_refl _, Nat.le_refl _⟩ rfl rfl rfl (fun x59 μ59 hc59 => ?_)
      obtain ⟨rfl, hm59⟩ := hc59
      rw [hm59]
      exact go_ri dX10_told_62 tyI ⟨Nat.le_refl _, Nat.le_refl _⟩ (⟨by rw [if_pos (by omega)]; (repeat (first | rw [if_pos (by omega)] | rw [if_neg (by omega)])); rw [h11_1, vm_34 (by omega) (by omega)], fun _ _ _ => rfl⟩)
    refine go_case (2) (fun h11_2 => ?_) (fun h11_2 => ?_)
    ·
      refine go_tabIn (tgt := 56) dX10_told_11 (by rw [h11_2]; decide) (by rw [h11_2]; decide) (by rw [h11_2]; try rfl) rfl ?_
      refine go_aload_n dX10_told_56 rfl ?_
      refine go_iload_n dX10_told_57 rfl ?_
      refine go_iload_n dX10_told_58 rfl ?_
      refine go_vI (ci := 9) dX10_told_59 (ct_X10_of _ _ (by omega) (by omega) (by omega) (by omega)) ml_X10_92 mc_X10_of mv_X10_of rfl (by first | assumption | exact Nat.le_of_ble_eq_true rfl) (by first | assumption | rfl) rfl ⟨rfl, rfl⟩ ⟨Nat.le_refl _, Nat.le_refl _⟩ rfl rfl rfl (fun x59 μ59 hc59 => ?_)
      obtain ⟨rfl, hm59⟩ := hc59
      rw [hm59]
      exact go_ri dX10_told_62 tyI ⟨Nat.le_refl _, Nat.le_refl _⟩ (⟨by rw [if_pos (by omega)]; (repeat (first | rw [if_pos (by omega)] | rw [if_neg (by omega)])); rw [h11_2, vm_35 (by omega) (by omega)], fun _ _ _ => rfl⟩)
    refine go_case (3) (fun h11_3 => ?_) (fun h11_3 => ?_)
    ·
      refine go_tabIn (tgt := 63) dX10_told_11 (by rw [h11_3]; decide) (by rw [h11_3]; decide) (by rw [h11_3]; try rfl) rfl ?_
      refine go_aload_n dX10_told_63 rfl ?_
      refine go_iload_n dX10_told_64 rfl ?_
      refine go_vI (ci := 9) dX10_told_65 (ct_X10_plainRisk hI _ (by omega) (by omega)) ml_X10_106 mc_X10_plainRisk mv_X10_plainRisk rfl (by first | assumption | exact Nat.le_of_ble_eq_true rfl) (by first | assumption | rfl) rfl ⟨rfl, rfl⟩ ⟨Nat.le_refl _, Nat.le_refl _⟩ rfl rfl rfl (fun x65 μ65 hc65 => ?_)
      obtain ⟨rfl, hf⟩ := hc65
      exact go_ri dX10_told_68 tyI ⟨Nat.le_refl _, Nat.le_refl _⟩ (⟨by (repeat (first | rw [if_pos (by omega)] | rw [if_neg (by omega)])), hf⟩)
    refine go_case (4) (fun h11_4 => ?_) (fun h11_4 => ?_)
    ·
      refine go_tabIn (tgt := 69) dX10_told_11 (by rw [h11_4]; decide) (by rw [h11_4]; decide) (by rw [h11_4]; try rfl) rfl ?_
      refine go_aload_n dX10_told_69 rfl ?_
      refine go_iload_n dX10_told_70 rfl ?_
      refine go_vI (ci := 9) dX10_told_71 (ct_X10_above hI _ (by omega) (by omega)) ml_X10_109 mc_X10_above mv_X10_above rfl (by first | assumption | exact Nat.le_of_ble_eq_true rfl) (by first | assumption | rfl) rfl ⟨rfl, rfl⟩ ⟨Nat.le_refl _, Nat.le_refl _⟩ rfl rfl rfl (fun x71 μ71 hc71 => ?_)
      obtain ⟨rfl, hf⟩ := hc71
      exact go_ri dX10_told_74 tyI ⟨Nat.le_refl _, Nat.le_refl _⟩ (⟨by (repeat (first | rw [if_pos (by omega)] | rw [if_neg (by omega)])), hf⟩)
    refine go_case (5) (fun h11_5 => ?_) (fun h11_5 => ?_)
    ·
      refine go_tabIn (tgt := 75) dX10_told_11 (by rw [h11_5]; decide) (by rw [h11_5]; decide) (by rw [h11_5]; try rfl) rfl ?_
      refine go_aload_n dX10_told_75 rfl ?_
      refine go_iload_n dX10_told_76 rfl ?_
      refine go_vI (ci := 9) dX10_told_77 (ct_X10_risk hI _ (by omega) (by omega)) ml_X10_131 mc_X10_risk mv_X10_risk rfl (by first | assumption | exact Nat.le_of_ble_eq_true rfl) (by first | assumption | rfl) rfl ⟨rfl, rfl⟩ ⟨Nat.le_refl _, Nat.le_refl _⟩ rfl rfl rfl (fun x77 μ77 hc77 => ?_)
      obtain ⟨rfl, hf⟩ := hc77
      exact go_ri dX10_told_80 tyI ⟨Nat.le_refl _, Nat.le_refl _⟩ (⟨by (repeat (first | rw [if_pos (by omega)] | rw [if_neg (by omega)])), hf⟩)
    refine go_case (6) (fun h11_6 => ?_) (fun h11_6 => ?_)
    ·
      refine go_tabIn (tgt := 81) dX10_told_11 (by rw [h11_6]; decide) (by rw [h11_6]; decide) (by rw [h11_6]; try rfl) rfl ?_
      refine go_aload_n dX10_told_81 rfl ?_
      refine go_iload_n dX10_told_82 rfl ?_
      refine go_vI (ci := 9) dX10_told_83 (ct_X10_holds (md_t hI) _ (by omega) (by omega) iS iH) ml_X10_134 mc_X10_holds mv_X10_holds rfl (by first | assumption | exact Nat.le_of_ble_eq_true rfl) (by first | assumption | rfl) rfl ⟨rfl, rfl⟩ ⟨Nat.le_refl _, Nat.le_refl _⟩ rfl rfl rfl (fun x83 μ83 hc83 => ?_)
      obtain ⟨rfl, hf⟩ := hc83
      exact go_ri dX10_told_86 tyI ⟨Nat.le_refl _, Nat.le_refl _⟩ (⟨by (repeat (first | rw [if_pos (by omega)] | rw [if_neg (by omega)])), hf⟩)
    refine go_case (7) (fun h11_7 => ?_) (fun h11_7 => ?_)
    ·
      refine go_tabIn (tgt := 87) dX10_told_11 (by rw [h11_7]; decide) (by rw [h11_7]; decide) (by rw [h11_7]; try rfl) rfl ?_
      refine go_aload_n dX10_told_87 rfl ?_
      refine go_iload_n dX10_told_88 rfl ?_
      refine go_vI (ci := 9) dX10_told_89 (ct_X10_worth hI _ (by omega) (by omega)) ml_X10_137 mc_X10_worth mv_X10_worth rfl (by first | assumption | exact Nat.le_of_ble_eq_true rfl) (by first | assumption | rfl) rfl ⟨rfl, rfl⟩ ⟨Nat.le_refl _, Nat.le_refl _⟩ rfl rfl rfl (fun x89 μ89 hc89 => ?_)
      obtain ⟨rfl, hm89⟩ := hc89
      rw [hm89]
      exact go_ri dX10_told_92 tyI ⟨Nat.le_refl _, Nat.le_refl _⟩ (⟨by (repeat (first | rw [if_pos (by omega)] | rw [if_neg (by omega)])), fun _ _ _ => rfl⟩)
    refine go_tabOut (tgt := 93) dX10_told_11 (by omega) rfl ?_
    refine go_ldc dX10_told_93 kc_X10_126 rfl ?_
    exact go_ri dX10_told_95 tyI ⟨Nat.le_refl _, Nat.le_refl _⟩ (⟨by (repeat (first | rw [if_pos (by omega)] | rw [if_neg (by omega)])), fun _ _ _ => rfl⟩)
  ·
    refine go_ldc dX10_told_7 kc_X10_126 rfl ?_
    exact go_ri dX10_told_9 tyI ⟨Nat.le_refl _, Nat.le_refl _⟩ (⟨by (repeat (first | rw [if_pos (by omega)] | rw [if_neg (by omega)])), fun _ _ _ => rfl⟩)

set_option maxRecDepth 100000 in
set_option maxHeartbeats 4000000 in
theorem ct_X10_as {l : Launch} {D : va_G} {cA : Nat → ClassId} {μ : Mem} (cell kind : Int) : CtN l D cA yX10_as cX10_as 3 (some .int) 3 [vr 87, vi cell, vi kind] μ (Pi (fun x μ' => x = (if 0 ≤ cell ∧ cell ≤ 29 ∧ 0 ≤ kind ∧ kind ≤ 5 then (if isUb (vm (μ 88) 33 cell) kind = true then vm (μ 88) 34 cell else -1000000012) else -1000000001) ∧ μ' = μ)) := by
  refine Ct.of (own := RX10) (by decide +kernel) rfl (fun σ => Nat.le_of_ble_eq_true rfl) (fun hM hP ha => ?_)
  obtain ⟨m87, r88, s88, r89, s89, r90, s90, r91, s91, r92, s92, r93, s93, r94, s94, r95, s95, r96, s96, r97, s97, r98, s98, r99, s99, r100, s100, r101, s101, r102, s102, r103, s103, r104, s104, r105, s105, r106, s106, r107, s107, r108, s108, r109, s109, r110, s110, r111, s111, r112, s112⟩ := md_f
  refine go_iload_n dX10_as_0 rfl ?_
  refine go_sI dX10_as_1 (ct_X10_isCell _) ml_X10_116 mc_X10_isCell ms_X10_isCell ⟨rfl, rfl⟩ ⟨Nat.le_refl _, Nat.le_refl _⟩ rfl rfl rfl (fun x1 μ1 hc1 => ?_)
  obtain ⟨rfl, hm1⟩ := hc1
  rw [hm1]
  first | refine go_bz (tgt := 19) dX10_as_4 rfl (fun h4 => ?_) (fun h4 => ?_) | refine go_if_eq (tgt := 19) dX10_as_4 rfl (fun h4 => ?_) (fun h4 => ?_)
  ·
    refine go_ldc dX10_as_19 kc_X10_126 rfl ?_
    exact go_ri dX10_as_21 tyI ⟨Nat.le_refl _, Nat.le_refl _⟩ (⟨by (repeat (first | rw [if_pos (by omega)] | rw [if_neg (by omega)])), rfl⟩)
  ·
    refine go_iload_n dX10_as_7 rfl ?_
    refine go_i2l dX10_as_8 ?_
    refine go_lconst dX10_as_9 ?_
    refine go_ldc2 dX10_as_10 kl_X10_120 rfl ?_
    refine go_sI dX10_as_13 (ct_X10_isIn _ _ _) ml_X10_87 mc_X10_isIn ms_X10_isIn ⟨rfl, rfl⟩ ⟨Nat.le_refl _, Nat.le_refl _⟩ rfl rfl rfl (fun x13 μ13 hc13 => ?_)
    obtain ⟨rfl, hm13⟩ := hc13
    rw [hm13]
    first | refine go_bnz (tgt := 22) dX10_as_16 rfl (fun h16 => ?_) (fun h16 => ?_) | refine go_if_ne (tgt := 22) dX10_as_16 rfl (fun h16 => ?_) (fun h16 => ?_)
    ·
      refine go_aload_n dX10_as_22 rfl ?_
      refine go_iload_n dX10_as_23 rfl ?_
      refine go_iconst dX10_as_24 rfl ?_
      refine go_vI (ci := 9) dX10_as_25 (ct_X10_of _ _ (by omega) (by omega) (by omega) (by omega)) ml_X10_92 mc_X10_of mv_X10_of rfl (by first | assumption | exact Nat.le_of_ble_eq_true rfl) (by first | assumption | rfl) rfl ⟨rfl, rfl⟩ ⟨Nat.le_refl _, Nat.le_refl _⟩ rfl rfl rfl (fun x25 μ25 hc25 => ?_)
      rw [← vm_33 (f := μ 88) (c := cell) (by omega) (by omega)] at hc25
      obtain ⟨rfl, hm25⟩ := hc25
      rw [hm25]
      refine go_iload_n dX10_as_28 rfl ?_
      refine go_sI dX10_as_29 (ct_X10_isOf _ _) ml_X10_140 mc_X10_isOf ms_X10_isOf ⟨rfl, rfl⟩ ⟨Nat.le_refl _, Nat.le_refl _⟩ rfl rfl rfl (fun x29 μ29 hc29 => ?_)
      obtain ⟨rfl, hm29⟩ := hc29
      rw [hm29]
      first | refine go_bz (tgt := 44) dX10_as_32 rfl (fun h32 => ?_) (fun h32 => ?_) | refine go_if_eq (tgt := 44) dX10_as_32 rfl (fun h32 => ?_) (fun h32 => ?_)
      ·
        refine go_ldc dX10_as_44 kc_X10_144 rfl ?_
        exact go_ri dX10_as_46 tyI ⟨Nat.le_refl _, Nat.le_refl _⟩ (⟨by rw [if_pos (by omega)]; rw [if_neg h32], rfl⟩)
      ·
        refine go_aload_n dX10_as_35 rfl ?_
        refine go_iload_n dX10_as_36 rfl ?_
        refine go_iconst dX10_as_37 rfl ?_
        refine go_vI (ci := 9) dX10_as_38 (ct_X10_of _ _ (by omega) (by omega) (by omega) (by omega)) ml_X10_92 mc_X10_of mv_X10_of rfl (by first | assumption | exact Nat.le_of_ble_eq_true rfl) (by first | assumption | rfl) rfl ⟨rfl, rfl⟩ ⟨Nat.le_refl _, Nat.le_refl _⟩ rfl rfl rfl (fun x38 μ38 hc38 => ?_)
        rw [← vm_34 (f := μ 88) (c := cell) (by omega) (by omega)] at hc38
        obtain ⟨rfl, hm38⟩ := hc38
        rw [hm38]
        refine go_goto (tgt := 46) dX10_as_41 rfl ?_
        exact go_ri dX10_as_46 tyI ⟨Nat.le_refl _, Nat.le_refl _⟩ (⟨by rw [if_pos (by omega)]; rw [if_pos h32], rfl⟩)
    ·
      refine go_ldc dX10_as_19 kc_X10_126 rfl ?_
      exact go_ri dX10_as_21 tyI ⟨Nat.le_refl _, Nat.le_refl _⟩ (⟨by (repeat (first | rw [if_pos (by omega)] | rw [if_neg (by omega)])), rfl⟩)

set_option maxRecDepth 100000 in
set_option maxHeartbeats 4000000 in
theorem ct_X10_turns {l : Launch} {D : va_G} {cA : Nat → ClassId} {μ : Mem} (cell kind : Int) : CtN l D cA yX10_turns cX10_turns 3 (some .int) 3 [vr 87, vi cell, vi kind] μ (Pi (fun x μ' => ((0 ≤ cell ∧ cell ≤ 29 ∧ 0 ≤ kind ∧ kind ≤ 5) → x = vm (μ 88) 33 cell ∧ μ' = ud μ 88 (8 + 3 * cell + 0) kind) ∧ (¬ (0 ≤ cell ∧ cell ≤ 29 ∧ 0 ≤ kind ∧ kind ≤ 5) → x = -1000000001 ∧ μ' = μ))) := by
  refine Ct.of (own := RX10) (by decide +kernel) rfl (fun σ => Nat.le_of_ble_eq_true rfl) (fun hM hP ha => ?_)
  obtain ⟨m87, r88, s88, r89, s89, r90, s90, r91, s91, r92, s92, r93, s93, r94, s94, r95, s95, r96, s96, r97, s97, r98, s98, r99, s99, r100, s100, r101, s101, r102, s102, r103, s103, r104, s104, r105, s105, r106, s106, r107, s107, r108, s108, r109, s109, r110, s110, r111, s111, r112, s112⟩ := md_f
  refine go_iload_n dX10_turns_0 rfl ?_
  refine go_sI dX10_turns_1 (ct_X10_isCell _) ml_X10_116 mc_X10_isCell ms_X10_isCell ⟨rfl, rfl⟩ ⟨Nat.le_refl _, Nat.le_refl _⟩ rfl rfl rfl (fun x1 μ1 hc1 => ?_)
  obtain ⟨rfl, hm1⟩ := hc1
  rw [hm1]
  first | refine go_bz (tgt := 33) dX10_turns_4 rfl (fun h4 => ?_) (fun h4 => ?_) | refine go_if_eq (tgt := 33) dX10_turns_4 rfl (fun h4 => ?_) (fun h4 => ?_)
  ·
    refine go_ldc dX10_turns_33 kc_X10_126 rfl ?_
    exact go_ri dX10_turns_35 tyI ⟨Nat.le_refl _, Nat.le_refl _⟩ (⟨fun h => absurd h (by omega), fun _ => ⟨rfl, rfl⟩⟩)
  ·
    refine go_iload_n dX10_turns_7 rfl ?_
    refine go_i2l dX10_turns_8 ?_
    refine go_lconst dX10_turns_9 ?_
    refine go_ldc2 dX10_turns_10 kl_X10_120 rfl ?_
    refine go_sI dX10_turns_13 (ct_X10_isIn _ _ _) ml_X10_87 mc_X10_isIn ms_X10_isIn ⟨rfl, rfl⟩ ⟨Nat.le_refl _, Nat.le_refl _⟩ rfl rfl rfl (fun x13 μ13 hc13 => ?_)
    obtain ⟨rfl, hm13⟩ := hc13
    rw [hm13]
    first | refine go_bz (tgt := 33) dX10_turns_16 rfl (fun h16 => ?_) (fun h16 => ?_) | refine go_if_eq (tgt := 33) dX10_turns_16 rfl (fun h16 => ?_) (fun h16 => ?_)
    ·
      refine go_ldc dX10_turns_33 kc_X10_126 rfl ?_
      exact go_ri dX10_turns_35 tyI ⟨Nat.le_refl _, Nat.le_refl _⟩ (⟨fun h => absurd h (by omega), fun _ => ⟨rfl, rfl⟩⟩)
    ·
      refine go_aload_n dX10_turns_19 rfl ?_
      refine go_bipush dX10_turns_20 rfl (by decide) ?_
      refine go_iconst dX10_turns_22 rfl ?_
      refine go_iload_n dX10_turns_23 rfl ?_
      refine go_imul dX10_turns_24 ⟨by omega, by omega⟩ ?_
      refine go_iadd dX10_turns_25 ⟨by omega, by omega⟩ ?_
      refine go_iload_n dX10_turns_26 rfl ?_
      refine go_vI (ci := 9) dX10_turns_27 (ct_X10_becomes _ _ (by omega) (by omega)) ml_X10_145 mc_X10_becomes mv_X10_becomes rfl (by first | assumption | exact Nat.le_of_ble_eq_true rfl) (by first | assumption | rfl) rfl ⟨rfl, rfl⟩ ⟨Nat.le_refl _, Nat.le_refl _⟩ rfl rfl rfl (fun x27 μ27 hc27 => ?_)
      obtain ⟨rfl, hm27⟩ := hc27
      subst hm27
      refine go_goto (tgt := 35) dX10_turns_30 rfl ?_
      exact go_ri dX10_turns_35 tyI ⟨Nat.le_refl _, Nat.le_refl _⟩ (⟨fun _ => ⟨by rw [vm_33 (by omega) (by omega), Int.add_zero], by rw [Int.add_zero]⟩, fun h => absurd (by omega) h⟩)

set_option maxRecDepth 100000 in
set_option maxHeartbeats 4000000 in
theorem ct_X10_set {l : Launch} {D : va_G} {cA : Nat → ClassId} {μ : Mem} (cell what v : Int) : CtN l D cA yX10_set cX10_set 4 (some .int) 3 [vr 87, vi cell, vi what, vi v] μ (Pi (fun x μ' => ((0 ≤ cell ∧ cell ≤ 29 ∧ what = 0 ∧ 0 ≤ v ∧ v ≤ 60) → x = vm (μ 88) 34 cell ∧ μ' = ud μ 88 (8 + 3 * cell + 1) v) ∧ ((0 ≤ cell ∧ cell ≤ 29 ∧ what = 1 ∧ 0 ≤ v ∧ v ≤ 999) → x = vm (μ 88) 35 cell ∧ μ' = ud μ 88 (8 + 3 * cell + 2) v) ∧ (¬ (0 ≤ cell ∧ cell ≤ 29 ∧ what = 0 ∧ 0 ≤ v ∧ v ≤ 60) ∧ ¬ (0 ≤ cell ∧ cell ≤ 29 ∧ what = 1 ∧ 0 ≤ v ∧ v ≤ 999) → x = -1000000001 ∧ μ' = μ))) := by
  refine Ct.of (own := RX10) (by decide +kernel) rfl (fun σ => Nat.le_of_ble_eq_true rfl) (fun hM hP ha => ?_)
  obtain ⟨m87, r88, s88, r89, s89, r90, s90, r91, s91, r92, s92, r93, s93, r94, s94, r95, s95, r96, s96, r97, s97, r98, s98, r99, s99, r100, s100, r101, s101, r102, s102, r103, s103, r104, s104, r105, s105, r106, s106, r107, s107, r108, s108, r109, s109, r110, s110, r111, s111, r112, s112⟩ := md_f
  refine go_iload_n dX10_set_0 rfl ?_
  refine go_sI dX10_set_1 (ct_X10_isCell _) ml_X10_116 mc_X10_isCell ms_X10_isCell ⟨rfl, rfl⟩ ⟨Nat.le_refl _, Nat.le_refl _⟩ rfl rfl rfl (fun x1 μ1 hc1 => ?_)
  obtain ⟨rfl, hm1⟩ := hc1
  rw [hm1]
  first | refine go_bz (tgt := 39) dX10_set_4 rfl (fun h4 => ?_) (fun h4 => ?_) | refine go_if_eq (tgt := 39) dX10_set_4 rfl (fun h4 => ?_) (fun h4 => ?_)
  ·
    refine go_ldc dX10_set_39 kc_X10_126 rfl ?_
    exact go_ri dX10_set_41 tyI ⟨Nat.le_refl _, Nat.le_refl _⟩ (⟨fun h => absurd h (by omega), fun h => absurd h (by omega), fun _ => ⟨rfl, rfl⟩⟩)
  ·
    refine go_iload_n dX10_set_7 rfl ?_
    refine go_i2l dX10_set_8 ?_
    refine go_lconst dX10_set_9 ?_
    refine go_lconst dX10_set_10 ?_
    refine go_sI dX10_set_11 (ct_X10_isIn _ _ _) ml_X10_87 mc_X10_isIn ms_X10_isIn ⟨rfl, rfl⟩ ⟨Nat.le_refl _, Nat.le_refl _⟩ rfl rfl rfl (fun x11 μ11 hc11 => ?_)
    obtain ⟨rfl, hm11⟩ := hc11
    rw [hm11]
    first | refine go_bz (tgt := 39) dX10_set_14 rfl (fun h14 => ?_) (fun h14 => ?_) | refine go_if_eq (tgt := 39) dX10_set_14 rfl (fun h14 => ?_) (fun h14 => ?_)
    ·
      refine go_ldc dX10_set_39 kc_X10_126 rfl ?_
      exact go_ri dX10_set_41 tyI ⟨Nat.le_refl _, Nat.le_refl _⟩ (⟨fun h => absurd h (by omega), fun h => absurd h (by omega), fun _ => ⟨rfl, rfl⟩⟩)
    ·
      refine go_iload_n dX10_set_17 rfl ?_
      refine go_i2l dX10_set_18 ?_
      refine go_lconst dX10_set_19 ?_
      refine go_iload_n dX10_set_20 rfl ?_
      first | refine go_bnz (tgt := 30) dX10_set_21 rfl (fun h21 => ?_) (fun h21 => ?_) | refine go_if_ne (tgt := 30) dX10_set_21 rfl (fun h21 => ?_) (fun h21 => ?_)
      ·
        refine go_ldc2 dX10_set_30 kl_X10_124 rfl ?_
        refine go_sI dX10_set_33 (ct_X10_isIn _ _ _) ml_X10_87 mc_X10_isIn ms_X10_isIn ⟨rfl, rfl⟩ ⟨Nat.le_refl _, Nat.le_refl _⟩ rfl rfl rfl (fun x33 μ33 hc33 => ?_)
        obtain ⟨rfl, hm33⟩ := hc33
        rw [hm33]
        first | refine go_bnz (tgt := 42) dX10_set_36 rfl (fun h36 => ?_) (fun h36 => ?_) | refine go_if_ne (tgt := 42) dX10_set_36 rfl (fun h36 => ?_) (fun h36 => ?_)
        ·
          refine go_aload_n dX10_set_42 rfl ?_
          refine go_bipush dX10_set_43 rfl (by decide) ?_
          refine go_iconst dX10_set_45 rfl ?_
          refine go_iload_n dX10_set_46 rfl ?_
          refine go_imul dX10_set_47 ⟨by omega, by omega⟩ ?_
          refine go_iadd dX10_set_48 ⟨by omega, by omega⟩ ?_
          refine go_iconst dX10_set_49 rfl ?_
          refine go_iadd dX10_set_50 ⟨by omega, by omega⟩ ?_
          refine go_iload_n dX10_set_51 rfl ?_
          refine go_iadd dX10_set_52 ⟨by omega, by omega⟩ ?_
          refine go_iload_n dX10_set_53 rfl ?_
          refine go_vI (ci := 9) dX10_set_54 (ct_X10_becomes _ _ (by omega) (by omega)) ml_X10_145 mc_X10_becomes mv_X10_becomes rfl (by first | assumption | exact Nat.le_of_ble_eq_true rfl) (by first | assumption | rfl) rfl ⟨rfl, rfl⟩ ⟨Nat.le_refl _, Nat.le_refl _⟩ rfl rfl rfl (fun x54 μ54 hc54 => ?_)
          obtain ⟨rfl, hm54⟩ := hc54
          subst hm54
          exact go_ri dX10_set_57 tyI ⟨Nat.le_refl _, Nat.le_refl _⟩ (⟨fun h => absurd h (by omega), fun _ => ⟨by rw [vm_35 (by omega) (by omega), show 8 + 3 * cell + 1 + what = 8 + 3 * cell + 2 by omega], by rw [show 8 + 3 * cell + 1 + what = 8 + 3 * cell + 2 by omega]⟩, fun h => absurd h (by omega)⟩)
        ·
          refine go_ldc dX10_set_39 kc_X10_126 rfl ?_
          exact go_ri dX10_set_41 tyI ⟨Nat.le_refl _, Nat.le_refl _⟩ (⟨fun h => absurd h (by omega), fun h => absurd h (by omega), fun _ => ⟨rfl, rfl⟩⟩)
      ·
        refine go_ldc2 dX10_set_24 kl_X10_122 rfl ?_
        refine go_goto (tgt := 33) dX10_set_27 rfl ?_
        refine go_sI dX10_set_33 (ct_X10_isIn _ _ _) ml_X10_87 mc_X10_isIn ms_X10_isIn ⟨rfl, rfl⟩ ⟨Nat.le_refl _, Nat.le_refl _⟩ rfl rfl rfl (fun x33 μ33 hc33 => ?_)
        obtain ⟨rfl, hm33⟩ := hc33
        rw [hm33]
        first | refine go_bnz (tgt := 42) dX10_set_36 rfl (fun h36 => ?_) (fun h36 => ?_) | refine go_if_ne (tgt := 42) dX10_set_36 rfl (fun h36 => ?_) (fun h36 => ?_)
        ·
          refine go_aload_n dX10_set_42 rfl ?_
          refine go_bipush dX10_set_43 rfl (by decide) ?_
          refine go_iconst dX10_set_45 rfl ?_
          refine go_iload_n dX10_set_46 rfl ?_
          refine go_imul dX10_set_47 ⟨by omega, by omega⟩ ?_
          refine go_iadd dX10_set_48 ⟨by omega, by omega⟩ ?_
          refine go_iconst dX10_set_49 rfl ?_
          refine go_iadd dX10_set_50 ⟨by omega, by omega⟩ ?_
          refine go_iload_n dX10_set_51 rfl ?_
          refine go_iadd dX10_set_52 ⟨by omega, by omega⟩ ?_
          refine go_iload_n dX10_set_53 rfl ?_
          refine go_vI (ci := 9) dX10_set_54 (ct_X10_becomes _ _ (by omega) (by omega)) ml_X10_145 mc_X10_becomes mv_X10_becomes rfl (by first | assumption | exact Nat.le_of_ble_eq_true rfl) (by first | assumption | rfl) rfl ⟨rfl, rfl⟩ ⟨Nat.le_refl _, Nat.le_refl _⟩ rfl rfl rfl (fun x54 μ54 hc54 => ?_)
          obtain ⟨rfl, hm54⟩ := hc54
          subst hm54
          exact go_ri dX10_set_57 tyI ⟨Nat.le_refl _, Nat.le_refl _⟩ (⟨fun _ => ⟨by rw [vm_34 (by omega) (by omega), h21, Int.add_zero], by rw [h21, Int.add_zero]⟩, fun h => absurd h (by omega), fun h => absurd h (by omega)⟩)
        ·
          refine go_ldc dX10_set_39 kc_X10_126 rfl ?_
          exact go_ri dX10_set_41 tyI ⟨Nat.le_refl _, Nat.le_refl _⟩ (⟨fun h => absurd h (by omega), fun h => absurd h (by omega), fun _ => ⟨rfl, rfl⟩⟩)

set_option maxRecDepth 100000 in
set_option maxHeartbeats 4000000 in
theorem ct_X10_today {l : Launch} {D : va_G} {cA : Nat → ClassId} {μ : Mem} (what v : Int) : CtN l D cA yX10_today cX10_today 3 (some .int) 3 [vr 87, vi what, vi v] μ (Pi (fun x μ' => ((what = 0 ∧ 0 ≤ v ∧ v ≤ 5) → x = μ 88 2 ∧ μ' = ud μ 88 2 v) ∧ ((what = 1 ∧ 0 ≤ v ∧ v ≤ 23) → x = μ 88 3 ∧ μ' = ud μ 88 3 v) ∧ ((what = 2 ∧ 0 ≤ v ∧ v ≤ 9) → x = μ 88 4 ∧ μ' = ud μ 88 4 v) ∧ (¬ (what = 0 ∧ 0 ≤ v ∧ v ≤ 5) ∧ ¬ (what = 1 ∧ 0 ≤ v ∧ v ≤ 23) ∧ ¬ (what = 2 ∧ 0 ≤ v ∧ v ≤ 9) → x = -1000000001 ∧ μ' = μ))) := by
  refine Ct.of (own := RX10) (by decide +kernel) rfl (fun σ => Nat.le_of_ble_eq_true rfl) (fun hM hP ha => ?_)
  obtain ⟨m87, r88, s88, r89, s89, r90, s90, r91, s91, r92, s92, r93, s93, r94, s94, r95, s95, r96, s96, r97, s97, r98, s98, r99, s99, r100, s100, r101, s101, r102, s102, r103, s103, r104, s104, r105, s105, r106, s106, r107, s107, r108, s108, r109, s109, r110, s110, r111, s111, r112, s112⟩ := md_f
  refine go_iload_n dX10_today_0 rfl ?_
  refine go_i2l dX10_today_1 ?_
  refine go_lconst dX10_today_2 ?_
  refine go_ldc2 dX10_today_3 kl_X10_148 rfl ?_
  refine go_sI dX10_today_6 (ct_X10_isIn _ _ _) ml_X10_87 mc_X10_isIn ms_X10_isIn ⟨rfl, rfl⟩ ⟨Nat.le_refl _, Nat.le_refl _⟩ rfl rfl rfl (fun x6 μ6 hc6 => ?_)
  obtain ⟨rfl, hm6⟩ := hc6
  rw [hm6]
  first | refine go_bz (tgt := 45) dX10_today_9 rfl (fun h9 => ?_) (fun h9 => ?_) | refine go_if_eq (tgt := 45) dX10_today_9 rfl (fun h9 => ?_) (fun h9 => ?_)
  ·
    refine go_ldc dX10_today_45 kc_X10_126 rfl ?_
    exact go_ri dX10_today_47 tyI ⟨Nat.le_refl _, Nat.le_refl _⟩ (⟨fun h => absurd h (by omega), fun h => absurd h (by omega), fun h => absurd h (by omega), fun _ => ⟨rfl, rfl⟩⟩)
  ·
    refine go_iload_n dX10_today_12 rfl ?_
    refine go_i2l dX10_today_13 ?_
    refine go_lconst dX10_today_14 ?_
    refine go_iload_n dX10_today_15 rfl ?_
    first | refine go_bnz (tgt := 25) dX10_today_16 rfl (fun h16 => ?_) (fun h16 => ?_) | refine go_if_ne (tgt := 25) dX10_today_16 rfl (fun h16 => ?_) (fun h16 => ?_)
    ·
      refine go_iload_n dX10_today_25 rfl ?_
      refine go_iconst dX10_today_26 rfl ?_
      refine go_icmp_ne (tgt := 36) dX10_today_27 rfl (fun h27 => ?_) (fun h27 => ?_)
      ·
        refine go_ldc2 dX10_today_36 kl_X10_152 rfl ?_
        refine go_sI dX10_today_39 (ct_X10_isIn _ _ _) ml_X10_87 mc_X10_isIn ms_X10_isIn ⟨rfl, rfl⟩ ⟨Nat.le_refl _, Nat.le_refl _⟩ rfl rfl rfl (fun x39 μ39 hc39 => ?_)
        obtain ⟨rfl, hm39⟩ := hc39
        rw [hm39]
        first | refine go_bnz (tgt := 48) dX10_today_42 rfl (fun h42 => ?_) (fun h42 => ?_) | refine go_if_ne (tgt := 48) dX10_today_42 rfl (fun h42 => ?_) (fun h42 => ?_)
        ·
          refine go_aload_n dX10_today_48 rfl ?_
          refine go_iconst dX10_today_49 rfl ?_
          refine go_iload_n dX10_today_50 rfl ?_
          refine go_iadd dX10_today_51 ⟨by omega, by omega⟩ ?_
          refine go_iload_n dX10_today_52 rfl ?_
          refine go_vI (ci := 9) dX10_today_53 (ct_X10_becomes _ _ (by omega) (by omega)) ml_X10_145 mc_X10_becomes mv_X10_becomes rfl (by first | assumption | exact Nat.le_of_ble_eq_true rfl) (by first | assumption | rfl) rfl ⟨rfl, rfl⟩ ⟨Nat.le_refl _, Nat.le_refl _⟩ rfl rfl rfl (fun x53 μ53 hc53 => ?_)
          obtain ⟨rfl, hm53⟩ := hc53
          subst hm53
          exact go_ri dX10_today_56 tyI ⟨Nat.le_refl _, Nat.le_refl _⟩ (⟨fun h => absurd h (by omega), fun h => absurd h (by omega), fun _ => ⟨by rw [show 2 + what = 4 by omega], by rw [show 2 + what = 4 by omega]⟩, fun h => absurd h (by omega)⟩)
        ·
          refine go_ldc dX10_today_45 kc_X10_126 rfl ?_
          exact go_ri dX10_today_47 tyI ⟨Nat.le_refl _, Nat.le_refl _⟩ (⟨fun h => absurd h (by omega), fun h => absurd h (by omega), fun h => absurd h (by omega), fun _ => ⟨rfl, rfl⟩⟩)
      ·
        refine go_ldc2 dX10_today_30 kl_X10_150 rfl ?_
        refine go_goto (tgt := 39) dX10_today_33 rfl ?_
        refine go_sI dX10_today_39 (ct_X10_isIn _ _ _) ml_X10_87 mc_X10_isIn ms_X10_isIn ⟨rfl, rfl⟩ ⟨Nat.le_refl _, Nat.le_refl _⟩ rfl rfl rfl (fun x39 μ39 hc39 => ?_)
        obtain ⟨rfl, hm39⟩ := hc39
        rw [hm39]
        first | refine go_bnz (tgt := 48) dX10_today_42 rfl (fun h42 => ?_) (fun h42 => ?_) | refine go_if_ne (tgt := 48) dX10_today_42 rfl (fun h42 => ?_) (fun h42 => ?_)
        ·
          refine go_aload_n dX10_today_48 rfl ?_
          refine go_iconst dX10_today_49 rfl ?_
          refine go_iload_n dX10_today_50 rfl ?_
          refine go_iadd dX10_today_51 ⟨by omega, by omega⟩ ?_
          refine go_iload_n dX10_today_52 rfl ?_
          refine go_vI (ci := 9) dX10_today_53 (ct_X10_becomes _ _ (by omega) (by omega)) ml_X10_145 mc_X10_becomes mv_X10_becomes rfl (by first | assumption | exact Nat.le_of_ble_eq_true rfl) (by first | assumption | rfl) rfl ⟨rfl, rfl⟩ ⟨Nat.le_refl _, Nat.le_refl _⟩ rfl rfl rfl (fun x53 μ53 hc53 => ?_)
          obtain ⟨rfl, hm53⟩ := hc53
          subst hm53
          exact go_ri dX10_today_56 tyI ⟨Nat.le_refl _, Nat.le_refl _⟩ (⟨fun h => absurd h (by omega), fun _ => ⟨by rw [show 2 + what = 3 by omega], by rw [show 2 + what = 3 by omega]⟩, fun h => absurd h (by omega), fun h => absurd h (by omega)⟩)
        ·
          refine go_ldc dX10_today_45 kc_X10_126 rfl ?_
          exact go_ri dX10_today_47 tyI ⟨Nat.le_refl _, Nat.le_refl _⟩ (⟨fun h => absurd h (by omega), fun h => absurd h (by omega), fun h => absurd h (by omega), fun _ => ⟨rfl, rfl⟩⟩)
    ·
      refine go_ldc2 dX10_today_19 kl_X10_120 rfl ?_
      refine go_goto (tgt := 39) dX10_today_22 rfl ?_
      refine go_sI dX10_today_39 (ct_X10_isIn _ _ _) ml_X10_87 mc_X10_isIn ms_X10_isIn ⟨rfl, rfl⟩ ⟨Nat.le_refl _, Nat.le_refl _⟩ rfl rfl rfl (fun x39 μ39 hc39 => ?_)
      obtain ⟨rfl, hm39⟩ := hc39
      rw [hm39]
      first | refine go_bnz (tgt := 48) dX10_today_42 rfl (fun h42 => ?_) (fun h42 => ?_) | refine go_if_ne (tgt := 48) dX10_today_42 rfl (fun h42 => ?_) (fun h42 => ?_)
      ·
        refine go_aload_n dX10_today_48 rfl ?_
        refine go_iconst dX10_today_49 rfl ?_
        refine go_iload_n dX10_today_50 rfl ?_
        refine go_iadd dX10_today_51 ⟨by omega, by omega⟩ ?_
        refine go_iload_n dX10_today_52 rfl ?_
        refine go_vI (ci := 9) dX10_today_53 (ct_X10_becomes _ _ (by omega) (by omega)) ml_X10_145 mc_X10_becomes mv_X10_becomes rfl (by first | assumption | exact Nat.le_of_ble_eq_true rfl) (by first | assumption | rfl) rfl ⟨rfl, rfl⟩ ⟨Nat.le_refl _, Nat.le_refl _⟩ rfl rfl rfl (fun x53 μ53 hc53 => ?_)
        obtain ⟨rfl, hm53⟩ := hc53
        subst hm53
        exact go_ri dX10_today_56 tyI ⟨Nat.le_refl _, Nat.le_refl _⟩ (⟨fun _ => ⟨by rw [show 2 + what = 2 by omega], by rw [show 2 + what = 2 by omega]⟩, fun h => absurd h (by omega), fun h => absurd h (by omega), fun h => absurd h (by omega)⟩)
      ·
        refine go_ldc dX10_today_45 kc_X10_126 rfl ?_
        exact go_ri dX10_today_47 tyI ⟨Nat.le_refl _, Nat.le_refl _⟩ (⟨fun h => absurd h (by omega), fun h => absurd h (by omega), fun h => absurd h (by omega), fun _ => ⟨rfl, rfl⟩⟩)

set_option maxRecDepth 100000 in
set_option maxHeartbeats 4000000 in
theorem ct_X10_seed {l : Launch} {D : va_G} {cA : Nat → ClassId} {μ : Mem} (v : Int) : CtN l D cA yX10_seed cX10_seed 2 (some .int) 3 [vr 87, vi v] μ (Pi (fun x μ' => x = μ 88 6 ∧ μ' = ud μ 88 6 v)) := by
  refine Ct.of (own := RX10) (by decide +kernel) rfl (fun σ => Nat.le_of_ble_eq_true rfl) (fun hM hP ha => ?_)
  obtain ⟨m87, r88, s88, r89, s89, r90, s90, r91, s91, r92, s92, r93, s93, r94, s94, r95, s95, r96, s96, r97, s97, r98, s98, r99, s99, r100, s100, r101, s101, r102, s102, r103, s103, r104, s104, r105, s105, r106, s106, r107, s107, r108, s108, r109, s109, r110, s110, r111, s111, r112, s112⟩ := md_f
  refine go_aload_n dX10_seed_0 rfl ?_
  refine go_bipush dX10_seed_1 rfl (by decide) ?_
  refine go_iload_n dX10_seed_3 rfl ?_
  refine go_vI (ci := 9) dX10_seed_4 (ct_X10_becomes _ _ (by omega) (by omega)) ml_X10_145 mc_X10_becomes mv_X10_becomes rfl (by first | assumption | exact Nat.le_of_ble_eq_true rfl) (by first | assumption | rfl) rfl ⟨rfl, rfl⟩ ⟨Nat.le_refl _, Nat.le_refl _⟩ rfl rfl rfl (fun x4 μ4 hc4 => ?_)
  obtain ⟨rfl, hm4⟩ := hc4
  subst hm4
  exact go_ri dX10_seed_7 tyI ⟨Nat.le_refl _, Nat.le_refl _⟩ (⟨rfl, rfl⟩)

set_option maxRecDepth 100000 in
set_option maxHeartbeats 4000000 in
theorem ct_X10_wipe {l : Launch} {D : va_G} {cA : Nat → ClassId} {μ : Mem} : CtN l D cA yX10_wipe cX10_wipe 1 (some .int) 3 [vr 87] μ (Pi (fun x μ' => x = μ 88 0 ∧ μ' = ud μ 88 0 0)) := by
  refine Ct.of (own := RX10) (by decide +kernel) rfl (fun σ => Nat.le_of_ble_eq_true rfl) (fun hM hP ha => ?_)
  obtain ⟨m87, r88, s88, r89, s89, r90, s90, r91, s91, r92, s92, r93, s93, r94, s94, r95, s95, r96, s96, r97, s97, r98, s98, r99, s99, r100, s100, r101, s101, r102, s102, r103, s103, r104, s104, r105, s105, r106, s106, r107, s107, r108, s108, r109, s109, r110, s110, r111, s111, r112, s112⟩ := md_f
  refine go_aload_n dX10_wipe_0 rfl ?_
  refine go_iconst dX10_wipe_1 rfl ?_
  refine go_iconst dX10_wipe_2 rfl ?_
  refine go_vI (ci := 9) dX10_wipe_3 (ct_X10_becomes _ _ (by omega) (by omega)) ml_X10_145 mc_X10_becomes mv_X10_becomes rfl (by first | assumption | exact Nat.le_of_ble_eq_true rfl) (by first | assumption | rfl) rfl ⟨rfl, rfl⟩ ⟨Nat.le_refl _, Nat.le_refl _⟩ rfl rfl rfl (fun x3 μ3 hc3 => ?_)
  obtain ⟨rfl, hm3⟩ := hc3
  subst hm3
  exact go_ri dX10_wipe_6 tyI ⟨Nat.le_refl _, Nat.le_refl _⟩ (⟨rfl, rfl⟩)

set_option maxRecDepth 100000 in
set_option maxHeartbeats 4000000 in
theorem ct_X10_at {l : Launch} {D : va_G} {cA : Nat → ClassId} {μ : Mem} (hI : mdI (μ 88)) (i : Int) : CtN l D cA yX10_at cX10_at 2 (some .int) 3 [vr 87, vi i] μ (Pi (fun x μ' => x = (if i < 0 then -1000000001 else if i < μ 88 0 then vm (μ 88) 36 i else -1000000005) ∧ μ' = μ)) := by
  refine Ct.of (own := RX10) (by decide +kernel) rfl (fun σ => Nat.le_of_ble_eq_true rfl) (fun hM hP ha => ?_)
  obtain ⟨m87, r88, s88, r89, s89, r90, s90, r91, s91, r92, s92, r93, s93, r94, s94, r95, s95, r96, s96, r97, s97, r98, s98, r99, s99, r100, s100, r101, s101, r102, s102, r103, s103, r104, s104, r105, s105, r106, s106, r107, s107, r108, s108, r109, s109, r110, s110, r111, s111, r112, s112⟩ := md_f
  obtain ⟨iK, iS, iL, iT, iTn, iD, iH, iF, iX⟩ := md_b hI
  refine go_iload_n dX10_at_0 rfl ?_
  refine go_if_ge (tgt := 9) dX10_at_1 rfl (fun h1 => ?_) (fun h1 => ?_)
  ·
    refine go_iload_n dX10_at_9 rfl ?_
    refine go_aload_n dX10_at_10 rfl ?_
    refine go_getR dX10_at_11 fl_X10_7 (by first | assumption | exact Nat.le_of_ble_eq_true rfl) (by first | assumption | rfl) rfl (by first | assumption | rfl) ?_
    refine go_iconst dX10_at_14 rfl ?_
    refine go_iaload dX10_at_15 (by first | assumption | exact Nat.le_of_ble_eq_true rfl) (by first | assumption | rfl) (by omega) (by omega) ?_
    refine go_icmp_ge (tgt := 27) dX10_at_16 rfl (fun h16 => ?_) (fun h16 => ?_)
    ·
      refine go_ldc dX10_at_27 kc_X10_86 rfl ?_
      exact go_ri dX10_at_29 tyI ⟨Nat.le_refl _, Nat.le_refl _⟩ (⟨by (repeat (first | rw [if_pos (by omega)] | rw [if_neg (by omega)])), rfl⟩)
    ·
      refine go_aload_n dX10_at_19 rfl ?_
      refine go_iload_n dX10_at_20 rfl ?_
      refine go_vI (ci := 9) dX10_at_21 (ct_X10_trackAt _ (by omega) (by omega)) ml_X10_182 mc_X10_trackAt mv_X10_trackAt rfl (by first | assumption | exact Nat.le_of_ble_eq_true rfl) (by first | assumption | rfl) rfl ⟨rfl, rfl⟩ ⟨Nat.le_refl _, Nat.le_refl _⟩ rfl rfl rfl (fun x21 μ21 hc21 => ?_)
      rw [← vm_36 (f := μ 88) (c := i) (by omega) (by omega)] at hc21
      obtain ⟨rfl, hm21⟩ := hc21
      rw [hm21]
      refine go_goto (tgt := 29) dX10_at_24 rfl ?_
      exact go_ri dX10_at_29 tyI ⟨Nat.le_refl _, Nat.le_refl _⟩ (⟨by (repeat (first | rw [if_pos (by omega)] | rw [if_neg (by omega)])), rfl⟩)
  ·
    refine go_ldc dX10_at_4 kc_X10_126 rfl ?_
    refine go_goto (tgt := 29) dX10_at_6 rfl ?_
    exact go_ri dX10_at_29 tyI ⟨Nat.le_refl _, Nat.le_refl _⟩ (⟨by (repeat (first | rw [if_pos (by omega)] | rw [if_neg (by omega)])), rfl⟩)

set_option maxRecDepth 100000 in
set_option maxHeartbeats 4000000 in
theorem ct_X10_track {l : Launch} {D : va_G} {cA : Nat → ClassId} {μ : Mem} (hI : mdI (μ 88)) (cell : Int) : CtN l D cA yX10_track cX10_track 3 (some .int) 4 [vr 87, vi cell] μ (Pi (fun x μ' => (¬ (0 ≤ cell ∧ cell ≤ 29) → x = -1000000001 ∧ μ' = μ) ∧ ((0 ≤ cell ∧ cell ≤ 29) → (0 < μ 88 0 ∧ ¬ (bsdb (vm (μ 88) 36 (μ 88 0 - 1)) cell = true) → x = -1000000002 ∧ μ' = μ) ∧ (¬ (0 < μ 88 0 ∧ ¬ (bsdb (vm (μ 88) 36 (μ 88 0 - 1)) cell = true)) → (24 ≤ μ 88 0 → x = -1000000003 ∧ μ' = μ) ∧ (μ 88 0 < 24 → x = μ 88 0 + 1 ∧ μ' = ud (ud μ 88 (98 + μ 88 0) cell) 88 0 (μ 88 0 + 1)))))) := by
  refine Ct.of (own := RX10) (by decide +kernel) rfl (fun σ => Nat.le_of_ble_eq_true rfl) (fun hM hP ha => ?_)
  obtain ⟨m87, r88, s88, r89, s89, r90, s90, r91, s91, r92, s92, r93, s93, r94, s94, r95, s95, r96, s96, r97, s97, r98, s98, r99, s99, r100, s100, r101, s101, r102, s102, r103, s103, r104, s104, r105, s105, r106, s106, r107, s107, r108, s108, r109, s109, r110, s110, r111, s111, r112, s112⟩ := md_f
  obtain ⟨iK, iS, iL, iT, iTn, iD, iH, iF, iX⟩ := md_b hI
  refine go_iload_n dX10_track_0 rfl ?_
  refine go_sI dX10_track_1 (ct_X10_isCell _) ml_X10_116 mc_X10_isCell ms_X10_isCell ⟨rfl, rfl⟩ ⟨Nat.le_refl _, Nat.le_refl _⟩ rfl rfl rfl (fun x1 μ1 hc1 => ?_)
  obtain ⟨rfl, hm1⟩ := hc1
  rw [hm1]
  first | refine go_bnz (tgt := 10) dX10_track_4 rfl (fun h4 => ?_) (fun h4 => ?_) | refine go_if_ne (tgt := 10) dX10_track_4 rfl (fun h4 => ?_) (fun h4 => ?_)
  ·
    refine go_aload_n dX10_track_10 rfl ?_
    refine go_getR dX10_track_11 fl_X10_7 (by first | assumption | exact Nat.le_of_ble_eq_true rfl) (by first | assumption | rfl) rfl (by first | assumption | rfl) ?_
    refine go_iconst dX10_track_14 rfl ?_
    refine go_iaload dX10_track_15 (by first | assumption | exact Nat.le_of_ble_eq_true rfl) (by first | assumption | rfl) (by omega) (by omega) ?_
    try simp (disch := omega) only [ud, ua_same, ua_ne, uf_same, uf_ne]
    refine go_istore_n dX10_track_16 rfl ?_
    refine go_iload_n dX10_track_17 rfl ?_
    refine go_if_le (tgt := 38) dX10_track_18 rfl (fun h18 => ?_) (fun h18 => ?_)
    ·
      refine go_iload_n dX10_track_38 rfl ?_
      refine go_bipush dX10_track_39 rfl (by decide) ?_
      refine go_icmp_ne (tgt := 47) dX10_track_41 rfl (fun h41 => ?_) (fun h41 => ?_)
      ·
        refine go_aload_n dX10_track_47 rfl ?_
        refine go_getR dX10_track_48 fl_X10_7 (by first | assumption | exact Nat.le_of_ble_eq_true rfl) (by first | assumption | rfl) rfl (by first | assumption | rfl) ?_
        refine go_bipush dX10_track_51 rfl (by decide) ?_
        refine go_iload_n dX10_track_53 rfl ?_
        refine go_iadd dX10_track_54 ⟨by omega, by omega⟩ ?_
        refine go_iload_n dX10_track_55 rfl ?_
        refine go_iastore dX10_track_56 (by first | assumption | exact Nat.le_of_ble_eq_true rfl) (by first | assumption | rfl) (by omega) (by omega) ?_
        refine go_aload_n dX10_track_57 rfl ?_
        refine go_getR dX10_track_58 fl_X10_7 (by first | assumption | exact Nat.le_of_ble_eq_true rfl) (by first | assumption | rfl) rfl (by first | assumption | rfl) ?_
        refine go_iconst dX10_track_61 rfl ?_
        refine go_dup2 dX10_track_62 rfl rfl ?_
        refine go_iaload dX10_track_63 (by first | assumption | exact Nat.le_of_ble_eq_true rfl) (by first | assumption | rfl) (by omega) (by omega) ?_
        try simp (disch := omega) only [ud, ua_same, ua_ne, uf_same, uf_ne]
        refine go_iconst dX10_track_64 rfl ?_
        refine go_iadd dX10_track_65 ⟨by omega, by omega⟩ ?_
        refine go_iastore dX10_track_66 (by first | assumption | exact Nat.le_of_ble_eq_true rfl) (by first | assumption | rfl) (by omega) (by omega) ?_
        refine go_aload_n dX10_track_67 rfl ?_
        refine go_getR dX10_track_68 fl_X10_7 (by first | assumption | exact Nat.le_of_ble_eq_true rfl) (by first | assumption | rfl) rfl (by first | assumption | rfl) ?_
        refine go_iconst dX10_track_71 rfl ?_
        refine go_iaload dX10_track_72 (by first | assumption | exact Nat.le_of_ble_eq_true rfl) (by first | assumption | rfl) (by omega) (by omega) ?_
        try simp (disch := omega) only [ud, ua_same, ua_ne, uf_same, uf_ne]
        exact go_ri dX10_track_73 tyI ⟨Nat.le_refl _, Nat.le_refl _⟩ (⟨fun h => absurd h4 h, fun _ => ⟨fun h => absurd h.1 (by omega), fun _ => ⟨fun h => absurd h (by omega), fun _ => ⟨rfl, rfl⟩⟩⟩⟩)
      ·
        refine go_ldc dX10_track_44 kc_X10_189 rfl ?_
        exact go_ri dX10_track_46 tyI ⟨Nat.le_refl _, Nat.le_refl _⟩ (⟨fun h => absurd h4 h, fun _ => ⟨fun h => absurd h.1 (by omega), fun _ => ⟨fun _ => ⟨rfl, rfl⟩, fun h => absurd h (by omega)⟩⟩⟩)
    ·
      refine go_aload_n dX10_track_21 rfl ?_
      refine go_iload_n dX10_track_22 rfl ?_
      refine go_iconst dX10_track_23 rfl ?_
      refine go_isub dX10_track_24 ⟨by omega, by omega⟩ ?_
      refine go_vI (ci := 9) dX10_track_25 (ct_X10_trackAt _ (by omega) (by omega)) ml_X10_182 mc_X10_trackAt mv_X10_trackAt rfl (by first | assumption | exact Nat.le_of_ble_eq_true rfl) (by first | assumption | rfl) rfl ⟨rfl, rfl⟩ ⟨Nat.le_refl _, Nat.le_refl _⟩ rfl rfl rfl (fun x25 μ25 hc25 => ?_)
      rw [← vm_36 (f := μ 88) (c := μ 88 0 - 1) (by omega) (by omega)] at hc25
      obtain ⟨rfl, hm25⟩ := hc25
      rw [hm25]
      refine go_iload_n dX10_track_28 rfl ?_
      refine go_sI dX10_track_29 (ct_X10_isBeside _ _ (hI.1.2.2.2.1 _ (by omega) (by omega)).1 (hI.1.2.2.2.1 _ (by omega) (by omega)).2 (by omega)) ml_X10_185 mc_X10_isBeside ms_X10_isBeside ⟨rfl, rfl⟩ ⟨Nat.le_refl _, Nat.le_refl _⟩ rfl rfl rfl (fun x29 μ29 hc29 => ?_)
      obtain ⟨rfl, hm29⟩ := hc29
      rw [hm29]
      first | refine go_bnz (tgt := 38) dX10_track_32 rfl (fun h32 => ?_) (fun h32 => ?_) | refine go_if_ne (tgt := 38) dX10_track_32 rfl (fun h32 => ?_) (fun h32 => ?_)
      ·
        refine go_iload_n dX10_track_38 rfl ?_
        refine go_bipush dX10_track_39 rfl (by decide) ?_
        refine go_icmp_ne (tgt := 47) dX10_track_41 rfl (fun h41 => ?_) (fun h41 => ?_)
        ·
          refine go_aload_n dX10_track_47 rfl ?_
          refine go_getR dX10_track_48 fl_X10_7 (by first | assumption | exact Nat.le_of_ble_eq_true rfl) (by first | assumption | rfl) rfl (by first | assumption | rfl) ?_
          refine go_bipush dX10_track_51 rfl (by decide) ?_
          refine go_iload_n dX10_track_53 rfl ?_
          refine go_iadd dX10_track_54 ⟨by omega, by omega⟩ ?_
          refine go_iload_n dX10_track_55 rfl ?_
          refine go_iastore dX10_track_56 (by first | assumption | exact Nat.le_of_ble_eq_true rfl) (by first | assumption | rfl) (by omega) (by omega) ?_
          refine go_aload_n dX10_track_57 rfl ?_
          refine go_getR dX10_track_58 fl_X10_7 (by first | assumption | exact Nat.le_of_ble_eq_true rfl) (by first | assumption | rfl) rfl (by first | assumption | rfl) ?_
          refine go_iconst dX10_track_61 rfl ?_
          refine go_dup2 dX10_track_62 rfl rfl ?_
          refine go_iaload dX10_track_63 (by first | assumption | exact Nat.le_of_ble_eq_true rfl) (by first | assumption | rfl) (by omega) (by omega) ?_
          try simp (disch := omega) only [ud, ua_same, ua_ne, uf_same, uf_ne]
          refine go_iconst dX10_track_64 rfl ?_
          refine go_iadd dX10_track_65 ⟨by omega, by omega⟩ ?_
          refine go_iastore dX10_track_66 (by first | assumption | exact Nat.le_of_ble_eq_true rfl) (by first | assumption | rfl) (by omega) (by omega) ?_
          refine go_aload_n dX10_track_67 rfl ?_
          refine go_getR dX10_track_68 fl_X10_7 (by first | assumption | exact Nat.le_of_ble_eq_true rfl) (by first | assumption | rfl) rfl (by first | assumption | rfl) ?_
          refine go_iconst dX10_track_71 rfl ?_
          refine go_iaload dX10_track_72 (by first | assumption | exact Nat.le_of_ble_eq_true rfl) (by first | assumption | rfl) (by omega) (by omega) ?_
          try simp (disch := omega) only [ud, ua_same, ua_ne, uf_same, uf_ne]
          exact go_ri dX10_track_73 tyI ⟨Nat.le_refl _, Nat.le_refl _⟩ (⟨fun h => absurd h4 h, fun _ => ⟨fun h => absurd h32 h.2, fun _ => ⟨fun h => absurd h (by omega), fun _ => ⟨rfl, rfl⟩⟩⟩⟩)
        ·
          refine go_ldc dX10_track_44 kc_X10_189 rfl ?_
          exact go_ri dX10_track_46 tyI ⟨Nat.le_refl _, Nat.le_refl _⟩ (⟨fun h => absurd h4 h, fun _ => ⟨fun h => absurd h32 h.2, fun _ => ⟨fun _ => ⟨rfl, rfl⟩, fun h => absurd h (by omega)⟩⟩⟩)
      ·
        refine go_ldc dX10_track_35 kc_X10_188 rfl ?_
        exact go_ri dX10_track_37 tyI ⟨Nat.le_refl _, Nat.le_refl _⟩ (⟨fun h => absurd h4 h, fun _ => ⟨fun _ => ⟨rfl, rfl⟩, fun h => absurd ⟨by omega, h32⟩ h⟩⟩)
  ·
    refine go_ldc dX10_track_7 kc_X10_126 rfl ?_
    exact go_ri dX10_track_9 tyI ⟨Nat.le_refl _, Nat.le_refl _⟩ (⟨fun _ => ⟨rfl, rfl⟩, fun h => absurd h h4⟩)

theorem trS_s {g : Int → Int} {i : Int} (h : 1 ≤ i) : trS g (i + 1).toNat = trS g i.toNat + g i := by
  rw [show (i + 1).toNat = i.toNat + 1 by omega]
  show trS g i.toNat + (if 1 ≤ i.toNat then g (i.toNat : Nat) else 0) = _
  rw [if_pos (by omega), show ((i.toNat : Nat) : Int) = i by omega]
theorem trT_s {t : Int → Int} {i : Int} (h : 1 ≤ i) : trT t (i + 1).toNat = trT t i.toNat + (if 2 ≤ i ∧ t i - t (i - 1) ≠ t (i - 1) - t (i - 2) then 1 else 0) := by
  rw [show (i + 1).toNat = i.toNat + 1 by omega]
  show trT t i.toNat + (if 2 ≤ i.toNat ∧ t (i.toNat : Nat) - t ((i.toNat : Nat) - 1) ≠ t ((i.toNat : Nat) - 1) - t ((i.toNat : Nat) - 2) then 1 else 0) = _
  rw [show ((i.toNat : Nat) : Int) = i by omega]
  by_cases e : 2 ≤ i ∧ t i - t (i - 1) ≠ t (i - 1) - t (i - 2)
  · rw [if_pos e, if_pos ⟨by omega, e.2⟩]
  · rw [if_neg e, if_neg (fun q => e ⟨by omega, q.2⟩)]
theorem mxN_s {g : Int → Int} {i : Int} (h : 0 ≤ i) : mxN g (i + 1).toNat = max (mxN g i.toNat) (g i) := by
  rw [show (i + 1).toNat = i.toNat + 1 by omega]
  show max (mxN g i.toNat) (g (i.toNat : Nat)) = _
  rw [show ((i.toNat : Nat) : Int) = i by omega]
theorem mxN_1 {g : Int → Int} (h : 0 ≤ g 0) : mxN g 1 = g 0 := by
  show max 0 (g ((0 : Nat) : Int)) = g 0
  show max 0 (g 0) = g 0
  omega

theorem trSv_b {μ : Mem} (hI : mdI (μ 88)) (i : Int) (h0 : 0 ≤ i) (h1 : i ≤ 24) : 0 ≤ trS (fun i => stepV (LM (vm (μ 88)) 32) (vm (μ 88) 34 (vm (μ 88) 36 i)) (upV (vm (μ 88) 36 (i - 1)) (vm (μ 88) 36 i))) i.toNat ∧ trS (fun i => stepV (LM (vm (μ 88)) 32) (vm (μ 88) 34 (vm (μ 88) 36 i)) (upV (vm (μ 88) 36 (i - 1)) (vm (μ 88) 36 i))) i.toNat ≤ 99 * i := by
  have e : ∀ n : Nat, n ≤ 24 → 0 ≤ trS (fun i => stepV (LM (vm (μ 88)) 32) (vm (μ 88) 34 (vm (μ 88) 36 i)) (upV (vm (μ 88) 36 (i - 1)) (vm (μ 88) 36 i))) n ∧ trS (fun i => stepV (LM (vm (μ 88)) 32) (vm (μ 88) 34 (vm (μ 88) 36 i)) (upV (vm (μ 88) 36 (i - 1)) (vm (μ 88) 36 i))) n ≤ 99 * (n : Nat) := by
    intro n
    induction n with
    | zero => intro _; exact ⟨Int.le_refl _, by show (0 : Int) ≤ _; omega⟩
    | succ n ih =>
      intro hn
      have h := ih (by omega)
      by_cases h1 : 1 ≤ n
      · have ht := hI.1.2.2.2.1 (n : Nat) (by omega) (by omega)
        have hs := hI.1.2.1 _ ht.1 ht.2
        have hb := sv_b (LL := LM (vm (μ 88)) 32) hs.1 hs.2 (up_b (a := vm (μ 88) 36 ((n : Nat) - 1)) (b := vm (μ 88) 36 (n : Nat))).1 (up_b (a := vm (μ 88) 36 ((n : Nat) - 1)) (b := vm (μ 88) 36 (n : Nat))).2
        simp only [Nat.reduceAdd] at hb
        have e2 : trS (fun i => stepV (LM (vm (μ 88)) 32) (vm (μ 88) 34 (vm (μ 88) 36 i)) (upV (vm (μ 88) 36 (i - 1)) (vm (μ 88) 36 i))) (n + 1) = trS (fun i => stepV (LM (vm (μ 88)) 32) (vm (μ 88) 34 (vm (μ 88) 36 i)) (upV (vm (μ 88) 36 (i - 1)) (vm (μ 88) 36 i))) n + stepV (LM (vm (μ 88)) 32) (vm (μ 88) 34 (vm (μ 88) 36 (n : Nat))) (upV (vm (μ 88) 36 ((n : Nat) - 1)) (vm (μ 88) 36 (n : Nat))) := by
          show trS (fun i => stepV (LM (vm (μ 88)) 32) (vm (μ 88) 34 (vm (μ 88) 36 i)) (upV (vm (μ 88) 36 (i - 1)) (vm (μ 88) 36 i))) n + (if 1 ≤ n then _ else 0) = _
          rw [if_pos h1]
        omega
      · have e2 : trS (fun i => stepV (LM (vm (μ 88)) 32) (vm (μ 88) 34 (vm (μ 88) 36 i)) (upV (vm (μ 88) 36 (i - 1)) (vm (μ 88) 36 i))) (n + 1) = trS (fun i => stepV (LM (vm (μ 88)) 32) (vm (μ 88) 34 (vm (μ 88) 36 i)) (upV (vm (μ 88) 36 (i - 1)) (vm (μ 88) 36 i))) n + 0 := by
          show trS (fun i => stepV (LM (vm (μ 88)) 32) (vm (μ 88) 34 (vm (μ 88) 36 i)) (upV (vm (μ 88) 36 (i - 1)) (vm (μ 88) 36 i))) n + (if 1 ≤ n then _ else 0) = _
          rw [if_neg h1]
        omega
  have := e i.toNat (by omega)
  omega

set_option maxRecDepth 100000 in
set_option maxHeartbeats 4000000 in
theorem ct_X10_along {l : Launch} {D : va_G} {cA : Nat → ClassId} {μ : Mem} (hI : mdI (μ 88)) (what : Int) : CtN l D cA yX10_along cX10_along 10 (some .int) 7 [vr 87, vi what] μ (Pi (fun x μ' => x = (if 0 ≤ what ∧ what ≤ 4 then (if μ 88 0 = 0 then -1000000005 else if what = 0 then trS (fun i => rkC (vm (μ 88)) 32 (vm (μ 88) 36 i)) (μ 88 0).toNat else if what = 1 then trS (fun i => stepV (LM (vm (μ 88)) 32) (vm (μ 88) 34 (vm (μ 88) 36 i)) (upV (vm (μ 88) 36 (i - 1)) (vm (μ 88) 36 i))) (μ 88 0).toNat else if what = 2 then trT (vm (μ 88) 36) (μ 88 0).toNat else if what = 3 then mxN (fun i => vm (μ 88) 34 (vm (μ 88) 36 i)) (μ 88 0).toNat else mxN (fun i => rkC (vm (μ 88)) 32 (vm (μ 88) 36 i)) (μ 88 0).toNat) else -1000000001) ∧ ∀ q, q ≠ 108 → q ≠ 109 → μ' q = μ q)) := by
  refine Ct.of (own := RX10) (by decide +kernel) rfl (fun σ => Nat.le_of_ble_eq_true rfl) (fun hM hP ha => ?_)
  obtain ⟨m87, r88, s88, r89, s89, r90, s90, r91, s91, r92, s92, r93, s93, r94, s94, r95, s95, r96, s96, r97, s97, r98, s98, r99, s99, r100, s100, r101, s101, r102, s102, r103, s103, r104, s104, r105, s105, r106, s106, r107, s107, r108, s108, r109, s109, r110, s110, r111, s111, r112, s112⟩ := md_f
  obtain ⟨iK, iS, iL, iT, iTn, iD, iH, iF, iX⟩ := md_b hI
  have loop : ∀ (m : Nat) (i : Int) (su : Int) (br : Int) (ot : Int) (se : Int) (wo : Int) (μ1 : Mem), (μ 88 0) - i = (m : Nat) → 1 ≤ i → (0 ≤ what ∧ what ≤ 4) → (μ 88 0 ≠ 0) → (su = trS (fun i => rkC (vm (μ 88)) 32 (vm (μ 88) 36 i)) i.toNat) → (br = trS (fun i => stepV (LM (vm (μ 88)) 32) (vm (μ 88) 34 (vm (μ 88) 36 i)) (upV (vm (μ 88) 36 (i - 1)) (vm (μ 88) 36 i))) i.toNat) → (ot = trT (vm (μ 88) 36) i.toNat) → (se = mxN (fun i => vm (μ 88) 34 (vm (μ 88) 36 i)) i.toNat) → (wo = mxN (fun i => rkC (vm (μ 88)) 32 (vm (μ 88) 36 i)) i.toNat) → (∀ q, q ≠ 108 → q ≠ 109 → μ1 q = μ q) → Go l D cA none RX10 cX10_along 10 (some .int) (7, 0, 0) (QN (Pi (fun x μ' => x = (if 0 ≤ what ∧ what ≤ 4 then (if μ 88 0 = 0 then -1000000005 else if what = 0 then trS (fun i => rkC (vm (μ 88)) 32 (vm (μ 88) 36 i)) (μ 88 0).toNat else if what = 1 then trS (fun i => stepV (LM (vm (μ 88)) 32) (vm (μ 88) 34 (vm (μ 88) 36 i)) (upV (vm (μ 88) 36 (i - 1)) (vm (μ 88) 36 i))) (μ 88 0).toNat else if what = 2 then trT (vm (μ 88) 36) (μ 88 0).toNat else if what = 3 then mxN (fun i => vm (μ 88) 34 (vm (μ 88) 36 i)) (μ 88 0).toNat else mxN (fun i => rkC (vm (μ 88)) 32 (vm (μ 88) 36 i)) (μ 88 0).toNat) else -1000000001) ∧ ∀ q, q ≠ 108 → q ≠ 109 → μ' q = μ q))) 113 ρ0 0 0 60 [(0, vr 87), (1, vi what), (2, vi su), (3, vi br), (4, vi ot), (5, vi se), (6, vi wo), (7, vi i)] [] μ1 := by
    intro m
    induction m with
    | zero =>
      intro i su br ot se wo μ1 hm hv hwh hn0 hsu hbr hot hse hwo hf
      have e88 : μ1 88 = μ 88 := hf _ (by omega) (by omega)
      refine go_iload dX10_along_60 rfl ?_
      refine go_aload_n dX10_along_62 rfl ?_
      refine go_getR dX10_along_63 fl_X10_7 (by first | assumption | exact Nat.le_of_ble_eq_true rfl) (by first | assumption | rfl) rfl (by first | assumption | rfl) ?_
      refine go_iconst dX10_along_66 rfl ?_
      refine go_iaload dX10_along_67 (by first | assumption | exact Nat.le_of_ble_eq_true rfl) (by first | assumption | rfl) (by omega) (by omega) ?_
      rw [e88]
      refine go_icmp_ge (tgt := 204) dX10_along_68 rfl (fun h68 => ?_) (fun h68 => ?_)
      ·
        refine go_iload_n dX10_along_204 rfl ?_
        refine go_case (0) (fun h205_0 => ?_) (fun h205_0 => ?_)
        ·
          refine go_tabIn (tgt := 236) dX10_along_205 (by rw [h205_0]; decide) (by rw [h205_0]; decide) (by rw [h205_0]; try rfl) rfl ?_
          refine go_iload_n dX10_along_236 rfl ?_
          exact go_ri dX10_along_237 tyI ⟨Nat.le_refl _, Nat.le_refl _⟩ (⟨by (repeat (first | rw [if_pos (by omega)] | rw [if_neg (by omega)])); rw [hsu, show i = μ 88 0 by omega], hf⟩)
        refine go_case (1) (fun h205_1 => ?_) (fun h205_1 => ?_)
        ·
          refine go_tabIn (tgt := 238) dX10_along_205 (by rw [h205_1]; decide) (by rw [h205_1]; decide) (by rw [h205_1]; try rfl) rfl ?_
          refine go_iload_n dX10_along_238 rfl ?_
          exact go_ri dX10_along_239 tyI ⟨Nat.le_refl _, Nat.le_refl _⟩ (⟨by (repeat (first | rw [if_pos (by omega)] | rw [if_neg (by omega)])); rw [hbr, show i = μ 88 0 by omega], hf⟩)
        refine go_case (2) (fun h205_2 => ?_) (fun h205_2 => ?_)
        ·
          refine go_tabIn (tgt := 240) dX10_along_205 (by rw [h205_2]; decide) (by rw [h205_2]; decide) (by rw [h205_2]; try rfl) rfl ?_
          refine go_iload dX10_along_240 rfl ?_
          exact go_ri dX10_along_242 tyI ⟨Nat.le_refl _, Nat.le_refl _⟩ (⟨by (repeat (first | rw [if_pos (by omega)] | rw [if_neg (by omega)])); rw [hot, show i = μ 88 0 by omega], hf⟩)
        refine go_case (3) (fun h205_3 => ?_) (fun h205_3 => ?_)
        ·
          refine go_tabIn (tgt := 243) dX10_along_205 (by rw [h205_3]; decide) (by rw [h205_3]; decide) (by rw [h205_3]; try rfl) rfl ?_
          refine go_iload dX10_along_243 rfl ?_
          exact go_ri dX10_along_245 tyI ⟨Nat.le_refl _, Nat.le_refl _⟩ (⟨by (repeat (first | rw [if_pos (by omega)] | rw [if_neg (by omega)])); rw [hse, show i = μ 88 0 by omega], hf⟩)
        refine go_tabOut (tgt := 246) dX10_along_205 (by omega) rfl ?_
        refine go_iload dX10_along_246 rfl ?_
        exact go_ri dX10_along_248 tyI ⟨Nat.le_refl _, Nat.le_refl _⟩ (⟨by (repeat (first | rw [if_pos (by omega)] | rw [if_neg (by omega)])); rw [hwo, show i = μ 88 0 by omega], hf⟩)
      ·
        exact absurd h68 (by omega)
    | succ m ih =>
      intro i su br ot se wo μ1 hm hv hwh hn0 hsu hbr hot hse hwo hf
      have e88 : μ1 88 = μ 88 := hf _ (by omega) (by omega)
      refine go_iload dX10_along_60 rfl ?_
      refine go_aload_n dX10_along_62 rfl ?_
      refine go_getR dX10_along_63 fl_X10_7 (by first | assumption | exact Nat.le_of_ble_eq_true rfl) (by first | assumption | rfl) rfl (by first | assumption | rfl) ?_
      refine go_iconst dX10_along_66 rfl ?_
      refine go_iaload dX10_along_67 (by first | assumption | exact Nat.le_of_ble_eq_true rfl) (by first | assumption | rfl) (by omega) (by omega) ?_
      rw [e88]
      refine go_icmp_ge (tgt := 204) dX10_along_68 rfl (fun h68 => ?_) (fun h68 => ?_)
      ·
        exact absurd h68 (by omega)
      ·
        have ht := hI.1.2.2.2.1 i (by omega) (by omega)
        simp only [Nat.reduceAdd] at ht
        have ht1 := hI.1.2.2.2.1 (i - 1) (by omega) (by omega)
        simp only [Nat.reduceAdd] at ht1
        have hrk := rkC_b hI.1 _ ht.1 ht.2
        have hst := hI.1.2.1 _ ht.1 ht.2
        simp only [Nat.reduceAdd] at hst
        have hb1 := trS_b (g := (fun i => rkC (vm (μ 88)) 32 (vm (μ 88) 36 i))) (N := 2996) (by omega) i.toNat (fun j j0 j1 => rkC_b hI.1 _ (hI.1.2.2.2.1 j j0 (by omega)).1 (hI.1.2.2.2.1 j j0 (by omega)).2)
        have hb2 := trT_b (t := vm (μ 88) 36) i.toNat
        have hb3 : 0 ≤ br ∧ br ≤ 99 * i := by rw [hbr]; exact trSv_b hI i (by omega) (by omega)
        refine go_aload_n dX10_along_71 rfl ?_
        refine go_iload dX10_along_72 rfl ?_
        refine go_vI (ci := 9) dX10_along_74 (ct_X10_trackAt _ (by omega) (by omega)) ml_X10_182 mc_X10_trackAt mv_X10_trackAt rfl (by first | assumption | exact Nat.le_of_ble_eq_true rfl) (by first | assumption | rfl) rfl ⟨rfl, rfl⟩ ⟨Nat.le_refl _, Nat.le_refl _⟩ rfl rfl rfl (fun x74 μ74 hc74 => ?_)
        rw [e88, ← vm_36 (f := μ 88) (c := i) (by omega) (by omega)] at hc74
        obtain ⟨rfl, hm74⟩ := hc74
        rw [hm74]
        refine go_istore dX10_along_77 rfl ?_
        refine go_aload_n dX10_along_79 rfl ?_
        refine go_iload dX10_along_80 rfl ?_
        refine go_vI (ci := 9) dX10_along_82 (ct_X10_risk (by rw [e88]; exact hI) _ (by omega) (by omega)) ml_X10_131 mc_X10_risk mv_X10_risk rfl (by first | assumption | exact Nat.le_of_ble_eq_true rfl) (by first | assumption | rfl) rfl ⟨rfl, rfl⟩ ⟨Nat.le_refl _, Nat.le_refl _⟩ rfl rfl rfl (fun x82 μ82 hc82 => ?_)
        rw [e88] at hc82
        obtain ⟨rfl, hf82⟩ := hc82
        have e88b : μ82 88 = μ 88 := (hf82 _ (by omega) (by omega)).trans e88
        refine go_istore dX10_along_85 rfl ?_
        refine go_iload_n dX10_along_87 rfl ?_
        refine go_iload dX10_along_88 rfl ?_
        refine go_iadd dX10_along_90 ⟨by omega, by omega⟩ ?_
        refine go_istore_n dX10_along_91 rfl ?_
        refine go_iload_n dX10_along_92 rfl ?_
        refine go_aload_n dX10_along_93 rfl ?_
        refine go_aload_n dX10_along_94 rfl ?_
        refine go_iload dX10_along_95 rfl ?_
        refine go_iconst dX10_along_97 rfl ?_
        refine go_isub dX10_along_98 ⟨by omega, by omega⟩ ?_
        refine go_vI (ci := 9) dX10_along_99 (ct_X10_trackAt _ (by omega) (by omega)) ml_X10_182 mc_X10_trackAt mv_X10_trackAt rfl (by first | assumption | exact Nat.le_of_ble_eq_true rfl) (by first | assumption | rfl) rfl ⟨rfl, rfl⟩ ⟨Nat.le_refl _, Nat.le_refl _⟩ rfl rfl rfl (fun x99 μ99 hc99 => ?_)
        rw [e88b, ← vm_36 (f := μ 88) (c := i - 1) (by omega) (by omega)] at hc99
        obtain ⟨rfl, hm99⟩ := hc99
        rw [hm99]
        refine go_iload dX10_along_102 rfl ?_
        refine go_vI (ci := 9) dX10_along_104 (ct_X10_stepInto (by rw [e88b]; exact hI) _ _ (by omega) (by omega) (by omega) (by omega)) ml_X10_192 mc_X10_stepInto mv_X10_stepInto rfl (by first | assumption | exact Nat.le_of_ble_eq_true rfl) (by first | assumption | rfl) rfl ⟨rfl, rfl⟩ ⟨Nat.le_refl _, Nat.le_refl _⟩ rfl rfl rfl (fun x104 μ104 hc104 => ?_)
        rw [e88b] at hc104
        obtain ⟨rfl, hf104⟩ := hc104
        have e88c : μ104 88 = μ 88 := (hf104 _ (by omega) (by omega)).trans e88b
        have hsv := sv_b (LL := LM (vm (μ 88)) 32) hst.1 hst.2 (up_b (a := vm (μ 88) 36 (i - 1)) (b := vm (μ 88) 36 i)).1 (up_b (a := vm (μ 88) 36 (i - 1)) (b := vm (μ 88) 36 i)).2
        have k196 : ∀ (ot2 se2 wo2 : Int), ot2 = trT (vm (μ 88) 36) (i + 1).toNat → se2 = mxN (fun i => vm (μ 88) 34 (vm (μ 88) 36 i)) (i + 1).toNat → wo2 = mxN (fun i => rkC (vm (μ 88)) 32 (vm (μ 88) 36 i)) (i + 1).toNat → Go l D cA none RX10 cX10_along 10 (some .int) (7, 0, 0) (QN (Pi (fun x μ' => x = (if 0 ≤ what ∧ what ≤ 4 then (if μ 88 0 = 0 then -1000000005 else if what = 0 then trS (fun i => rkC (vm (μ 88)) 32 (vm (μ 88) 36 i)) (μ 88 0).toNat else if what = 1 then trS (fun i => stepV (LM (vm (μ 88)) 32) (vm (μ 88) 34 (vm (μ 88) 36 i)) (upV (vm (μ 88) 36 (i - 1)) (vm (μ 88) 36 i))) (μ 88 0).toNat else if what = 2 then trT (vm (μ 88) 36) (μ 88 0).toNat else if what = 3 then mxN (fun i => vm (μ 88) 34 (vm (μ 88) 36 i)) (μ 88 0).toNat else mxN (fun i => rkC (vm (μ 88)) 32 (vm (μ 88) 36 i)) (μ 88 0).toNat) else -1000000001) ∧ ∀ q, q ≠ 108 → q ≠ 109 → μ' q = μ q))) 113 ρ0 0 0 196 [(0, vr 87), (1, vi what), (2, vi (su + (rkC (vm (μ 88)) 32 (vm (μ 88) 36 i)))), (3, vi (br + (stepV (LM (vm (μ 88)) 32) (vm (μ 88) 34 (vm (μ 88) 36 i)) (upV (vm (μ 88) 36 (i - 1)) (vm (μ 88) 36 i))))), (4, vi ot2), (5, vi se2), (6, vi wo), (7, vi i), (8, vi (vm (μ 88) 36 i)), (9, vi (rkC (vm (μ 88)) 32 (vm (μ 88) 36 i)))] [vi wo2] μ104 := by
          intro ot2 se2 wo2 hot2 hse2 hwo2
          refine go_istore dX10_along_196 rfl ?_
          refine go_iinc dX10_along_198 rfl rfl ⟨by omega, by omega⟩ ?_
          refine go_goto (tgt := 60) dX10_along_201 rfl ?_
          refine go_drop (ih _ _ _ _ _ _ μ104 (by omega) (by omega) hwh hn0 ?_ ?_ hot2 hse2 hwo2 ?_) rfl
          · rw [trS_s hv, ← hsu]
          · rw [trS_s hv, ← hbr]
          · intro q a b; rw [hf104 q a b, hf82 q a b]; exact hf q a b
        have k180 : ∀ (ot2 se2 : Int), ot2 = trT (vm (μ 88) 36) (i + 1).toNat → se2 = mxN (fun i => vm (μ 88) 34 (vm (μ 88) 36 i)) (i + 1).toNat → Go l D cA none RX10 cX10_along 10 (some .int) (7, 0, 0) (QN (Pi (fun x μ' => x = (if 0 ≤ what ∧ what ≤ 4 then (if μ 88 0 = 0 then -1000000005 else if what = 0 then trS (fun i => rkC (vm (μ 88)) 32 (vm (μ 88) 36 i)) (μ 88 0).toNat else if what = 1 then trS (fun i => stepV (LM (vm (μ 88)) 32) (vm (μ 88) 34 (vm (μ 88) 36 i)) (upV (vm (μ 88) 36 (i - 1)) (vm (μ 88) 36 i))) (μ 88 0).toNat else if what = 2 then trT (vm (μ 88) 36) (μ 88 0).toNat else if what = 3 then mxN (fun i => vm (μ 88) 34 (vm (μ 88) 36 i)) (μ 88 0).toNat else mxN (fun i => rkC (vm (μ 88)) 32 (vm (μ 88) 36 i)) (μ 88 0).toNat) else -1000000001) ∧ ∀ q, q ≠ 108 → q ≠ 109 → μ' q = μ q))) 113 ρ0 0 0 180 [(0, vr 87), (1, vi what), (2, vi (su + (rkC (vm (μ 88)) 32 (vm (μ 88) 36 i)))), (3, vi (br + (stepV (LM (vm (μ 88)) 32) (vm (μ 88) 34 (vm (μ 88) 36 i)) (upV (vm (μ 88) 36 (i - 1)) (vm (μ 88) 36 i))))), (4, vi ot2), (5, vi se), (6, vi wo), (7, vi i), (8, vi (vm (μ 88) 36 i)), (9, vi (rkC (vm (μ 88)) 32 (vm (μ 88) 36 i)))] [vi se2] μ104 := by
          intro ot2 se2 hot2 hse2
          refine go_istore dX10_along_180 rfl ?_
          refine go_iload dX10_along_182 rfl ?_
          refine go_iload dX10_along_184 rfl ?_
          refine go_icmp_le (tgt := 194) dX10_along_186 rfl (fun h186 => ?_) (fun h186 => ?_)
          ·
            refine go_iload dX10_along_194 rfl ?_
            exact go_drop (k196 _ _ _ hot2 hse2 (by rw [mxN_s (by omega), ← hwo]; show _ = max wo (rkC (vm (μ 88)) 32 (vm (μ 88) 36 i)); omega)) rfl
          ·
            refine go_iload dX10_along_189 rfl ?_
            refine go_goto (tgt := 196) dX10_along_191 rfl ?_
            exact go_drop (k196 _ _ _ hot2 hse2 (by rw [mxN_s (by omega), ← hwo]; show _ = max wo (rkC (vm (μ 88)) 32 (vm (μ 88) 36 i)); omega)) rfl
        have k153 : ∀ (d : Int), ot + d = trT (vm (μ 88) 36) (i + 1).toNat → 0 ≤ d → d ≤ 1 → Go l D cA none RX10 cX10_along 10 (some .int) (7, 0, 0) (QN (Pi (fun x μ' => x = (if 0 ≤ what ∧ what ≤ 4 then (if μ 88 0 = 0 then -1000000005 else if what = 0 then trS (fun i => rkC (vm (μ 88)) 32 (vm (μ 88) 36 i)) (μ 88 0).toNat else if what = 1 then trS (fun i => stepV (LM (vm (μ 88)) 32) (vm (μ 88) 34 (vm (μ 88) 36 i)) (upV (vm (μ 88) 36 (i - 1)) (vm (μ 88) 36 i))) (μ 88 0).toNat else if what = 2 then trT (vm (μ 88) 36) (μ 88 0).toNat else if what = 3 then mxN (fun i => vm (μ 88) 34 (vm (μ 88) 36 i)) (μ 88 0).toNat else mxN (fun i => rkC (vm (μ 88)) 32 (vm (μ 88) 36 i)) (μ 88 0).toNat) else -1000000001) ∧ ∀ q, q ≠ 108 → q ≠ 109 → μ' q = μ q))) 113 ρ0 0 0 153 [(0, vr 87), (1, vi what), (2, vi (su + (rkC (vm (μ 88)) 32 (vm (μ 88) 36 i)))), (3, vi (br + (stepV (LM (vm (μ 88)) 32) (vm (μ 88) 34 (vm (μ 88) 36 i)) (upV (vm (μ 88) 36 (i - 1)) (vm (μ 88) 36 i))))), (4, vi ot), (5, vi se), (6, vi wo), (7, vi i), (8, vi (vm (μ 88) 36 i)), (9, vi (rkC (vm (μ 88)) 32 (vm (μ 88) 36 i)))] [vi d, vi ot] μ104 := by
          intro d hd hd0 hd1
          refine go_iadd dX10_along_153 ⟨by omega, by omega⟩ ?_
          refine go_istore dX10_along_154 rfl ?_
          refine go_aload_n dX10_along_156 rfl ?_
          refine go_iload dX10_along_157 rfl ?_
          refine go_iconst dX10_along_159 rfl ?_
          refine go_vI (ci := 9) dX10_along_160 (ct_X10_of _ _ (by omega) (by omega) (by omega) (by omega)) ml_X10_92 mc_X10_of mv_X10_of rfl (by first | assumption | exact Nat.le_of_ble_eq_true rfl) (by first | assumption | rfl) rfl ⟨rfl, rfl⟩ ⟨Nat.le_refl _, Nat.le_refl _⟩ rfl rfl rfl (fun x160 μ160 hc160 => ?_)
          rw [e88c, ← vm_34 (f := μ 88) (c := vm (μ 88) 36 i) (by omega) (by omega)] at hc160
          obtain ⟨rfl, hm160⟩ := hc160
          rw [hm160]
          refine go_iload dX10_along_163 rfl ?_
          refine go_icmp_le (tgt := 178) dX10_along_165 rfl (fun h165 => ?_) (fun h165 => ?_)
          ·
            refine go_iload dX10_along_178 rfl ?_
            exact go_drop (k180 _ _ hd (by rw [mxN_s (by omega), ← hse]; show _ = max se (vm (μ 88) 34 (vm (μ 88) 36 i)); omega)) rfl
          ·
            refine go_aload_n dX10_along_168 rfl ?_
            refine go_iload dX10_along_169 rfl ?_
            refine go_iconst dX10_along_171 rfl ?_
            refine go_vI (ci := 9) dX10_along_172 (ct_X10_of _ _ (by omega) (by omega) (by omega) (by omega)) ml_X10_92 mc_X10_of mv_X10_of rfl (by first | assumption | exact Nat.le_of_ble_eq_true rfl) (by first | assumption | rfl) rfl ⟨rfl, rfl⟩ ⟨Nat.le_refl _, Nat.le_refl _⟩ rfl rfl rfl (fun x172 μ172 hc172 => ?_)
            rw [e88c, ← vm_34 (f := μ 88) (c := vm (μ 88) 36 i) (by omega) (by omega)] at hc172
            obtain ⟨rfl, hm172⟩ := hc172
            rw [hm172]
            refine go_goto (tgt := 180) dX10_along_175 rfl ?_
            exact go_drop (k180 _ _ hd (by rw [mxN_s (by omega), ← hse]; show _ = max se (vm (μ 88) 34 (vm (μ 88) 36 i)); omega)) rfl
        refine go_iadd dX10_along_107 ⟨by omega, by omega⟩ ?_
        refine go_istore_n dX10_along_108 rfl ?_
        refine go_iload dX10_along_109 rfl ?_
        refine go_iload dX10_along_111 rfl ?_
        refine go_iconst dX10_along_113 rfl ?_
        refine go_icmp_le (tgt := 152) dX10_along_114 rfl (fun h114 => ?_) (fun h114 => ?_)
        ·
          refine go_iconst dX10_along_152 rfl ?_
          exact go_drop (k153 _ (by rw [trT_s hv, ← hot, if_neg (by omega)]) (by omega) (by omega)) rfl
        ·
          have ht2 := hI.1.2.2.2.1 (i - 2) (by omega) (by omega)
          simp only [Nat.reduceAdd] at ht2
          refine go_iload dX10_along_117 rfl ?_
          refine go_aload_n dX10_along_119 rfl ?_
          refine go_iload dX10_along_120 rfl ?_
          refine go_iconst dX10_along_122 rfl ?_
          refine go_isub dX10_along_123 ⟨by omega, by omega⟩ ?_
          refine go_vI (ci := 9) dX10_along_124 (ct_X10_trackAt _ (by omega) (by omega)) ml_X10_182 mc_X10_trackAt mv_X10_trackAt rfl (by first | assumption | exact Nat.le_of_ble_eq_true rfl) (by first | assumption | rfl) rfl ⟨rfl, rfl⟩ ⟨Nat.le_refl _, Nat.le_refl _⟩ rfl rfl rfl (fun x124 μ124 hc124 => ?_)
          rw [e88c, ← vm_36 (f := μ 88) (c := i - 1) (by omega) (by omega)] at hc124
          obtain ⟨rfl, hm124⟩ := hc124
          rw [hm124]
          refine go_isub dX10_along_127 ⟨by omega, by omega⟩ ?_
          refine go_aload_n dX10_along_128 rfl ?_
          refine go_iload dX10_along_129 rfl ?_
          refine go_iconst dX10_along_131 rfl ?_
          refine go_isub dX10_along_132 ⟨by omega, by omega⟩ ?_
          refine go_vI (ci := 9) dX10_along_133 (ct_X10_trackAt _ (by omega) (by omega)) ml_X10_182 mc_X10_trackAt mv_X10_trackAt rfl (by first | assumption | exact Nat.le_of_ble_eq_true rfl) (by first | assumption | rfl) rfl ⟨rfl, rfl⟩ ⟨Nat.le_refl _, Nat.le_refl _⟩ rfl rfl rfl (fun x133 μ133 hc133 => ?_)
          rw [e88c, ← vm_36 (f := μ 88) (c := i - 1) (by omega) (by omega)] at hc133
          obtain ⟨rfl, hm133⟩ := hc133
          rw [hm133]
          refine go_aload_n dX10_along_136 rfl ?_
          refine go_iload dX10_along_137 rfl ?_
          refine go_iconst dX10_along_139 rfl ?_
          refine go_isub dX10_along_140 ⟨by omega, by omega⟩ ?_
          refine go_vI (ci := 9) dX10_along_141 (ct_X10_trackAt _ (by omega) (by omega)) ml_X10_182 mc_X10_trackAt mv_X10_trackAt rfl (by first | assumption | exact Nat.le_of_ble_eq_true rfl) (by first | assumption | rfl) rfl ⟨rfl, rfl⟩ ⟨Nat.le_refl _, Nat.le_refl _⟩ rfl rfl rfl (fun x141 μ141 hc141 => ?_)
          rw [e88c, ← vm_36 (f := μ 88) (c := i - 2) (by omega) (by omega)] at hc141
          obtain ⟨rfl, hm141⟩ := hc141
          rw [hm141]
          refine go_isub dX10_along_144 ⟨by omega, by omega⟩ ?_
          refine go_icmp_eq (tgt := 152) dX10_along_145 rfl (fun h145 => ?_) (fun h145 => ?_)
          ·
            refine go_iconst dX10_along_152 rfl ?_
            exact go_drop (k153 _ (by rw [trT_s hv, ← hot, if_neg (by omega)]) (by omega) (by omega)) rfl
          ·
            refine go_iconst dX10_along_148 rfl ?_
            refine go_goto (tgt := 153) dX10_along_149 rfl ?_
            exact go_drop (k153 _ (by rw [trT_s hv, ← hot, if_pos ⟨by omega, by omega⟩]) (by omega) (by omega)) rfl
  refine go_iload_n dX10_along_0 rfl ?_
  refine go_i2l dX10_along_1 ?_
  refine go_lconst dX10_along_2 ?_
  refine go_ldc2 dX10_along_3 kl_X10_190 rfl ?_
  refine go_sI dX10_along_6 (ct_X10_isIn _ _ _) ml_X10_87 mc_X10_isIn ms_X10_isIn ⟨rfl, rfl⟩ ⟨Nat.le_refl _, Nat.le_refl _⟩ rfl rfl rfl (fun x6 μ6 hc6 => ?_)
  obtain ⟨rfl, hm6⟩ := hc6
  rw [hm6]
  first | refine go_bnz (tgt := 15) dX10_along_9 rfl (fun h9 => ?_) (fun h9 => ?_) | refine go_if_ne (tgt := 15) dX10_along_9 rfl (fun h9 => ?_) (fun h9 => ?_)
  ·
    refine go_aload_n dX10_along_15 rfl ?_
    refine go_getR dX10_along_16 fl_X10_7 (by first | assumption | exact Nat.le_of_ble_eq_true rfl) (by first | assumption | rfl) rfl (by first | assumption | rfl) ?_
    refine go_iconst dX10_along_19 rfl ?_
    refine go_iaload dX10_along_20 (by first | assumption | exact Nat.le_of_ble_eq_true rfl) (by first | assumption | rfl) (by omega) (by omega) ?_
    try simp (disch := omega) only [ud, ua_same, ua_ne, uf_same, uf_ne]
    first | refine go_bnz (tgt := 27) dX10_along_21 rfl (fun h21 => ?_) (fun h21 => ?_) | refine go_if_ne (tgt := 27) dX10_along_21 rfl (fun h21 => ?_) (fun h21 => ?_)
    ·
      have ht := hI.1.2.2.2.1 0 (by omega) (by omega)
      simp only [Nat.reduceAdd] at ht
      have hrk := rkC_b hI.1 _ ht.1 ht.2
      have hst := hI.1.2.1 _ ht.1 ht.2
      simp only [Nat.reduceAdd] at hst
      refine go_iconst dX10_along_27 rfl ?_
      refine go_istore_n dX10_along_28 rfl ?_
      refine go_iconst dX10_along_29 rfl ?_
      refine go_istore_n dX10_along_30 rfl ?_
      refine go_iconst dX10_along_31 rfl ?_
      refine go_istore dX10_along_32 rfl ?_
      refine go_aload_n dX10_along_34 rfl ?_
      refine go_aload_n dX10_along_35 rfl ?_
      refine go_iconst dX10_along_36 rfl ?_
      refine go_vI (ci := 9) dX10_along_37 (ct_X10_trackAt _ (by omega) (by omega)) ml_X10_182 mc_X10_trackAt mv_X10_trackAt rfl (by first | assumption | exact Nat.le_of_ble_eq_true rfl) (by first | assumption | rfl) rfl ⟨rfl, rfl⟩ ⟨Nat.le_refl _, Nat.le_refl _⟩ rfl rfl rfl (fun x37 μ37 hc37 => ?_)
      rw [← vm_36 (f := μ 88) (c := 0) (by omega) (by omega)] at hc37
      obtain ⟨rfl, hm37⟩ := hc37
      rw [hm37]
      refine go_iconst dX10_along_40 rfl ?_
      refine go_vI (ci := 9) dX10_along_41 (ct_X10_of _ _ (by omega) (by omega) (by omega) (by omega)) ml_X10_92 mc_X10_of mv_X10_of rfl (by first | assumption | exact Nat.le_of_ble_eq_true rfl) (by first | assumption | rfl) rfl ⟨rfl, rfl⟩ ⟨Nat.le_refl _, Nat.le_refl _⟩ rfl rfl rfl (fun x41 μ41 hc41 => ?_)
      rw [← vm_34 (f := μ 88) (c := vm (μ 88) 36 0) (by omega) (by omega)] at hc41
      obtain ⟨rfl, hm41⟩ := hc41
      rw [hm41]
      refine go_istore dX10_along_44 rfl ?_
      refine go_aload_n dX10_along_46 rfl ?_
      refine go_aload_n dX10_along_47 rfl ?_
      refine go_iconst dX10_along_48 rfl ?_
      refine go_vI (ci := 9) dX10_along_49 (ct_X10_trackAt _ (by omega) (by omega)) ml_X10_182 mc_X10_trackAt mv_X10_trackAt rfl (by first | assumption | exact Nat.le_of_ble_eq_true rfl) (by first | assumption | rfl) rfl ⟨rfl, rfl⟩ ⟨Nat.le_refl _, Nat.le_refl _⟩ rfl rfl rfl (fun x49 μ49 hc49 => ?_)
      rw [← vm_36 (f := μ 88) (c := 0) (by omega) (by omega)] at hc49
      obtain ⟨rfl, hm49⟩ := hc49
      rw [hm49]
      refine go_vI (ci := 9) dX10_along_52 (ct_X10_risk hI _ (by omega) (by omega)) ml_X10_131 mc_X10_risk mv_X10_risk rfl (by first | assumption | exact Nat.le_of_ble_eq_true rfl) (by first | assumption | rfl) rfl ⟨rfl, rfl⟩ ⟨Nat.le_refl _, Nat.le_refl _⟩ rfl rfl rfl (fun x52 μ52 hc52 => ?_)
      obtain ⟨rfl, hf52⟩ := hc52
      refine go_istore dX10_along_55 rfl ?_
      refine go_iconst dX10_along_57 rfl ?_
      refine go_istore dX10_along_58 rfl ?_
      exact go_drop (loop (μ 88 0 - 1).toNat 1 0 0 0 _ _ μ52 (by omega) (by omega) (by omega) (by omega) trS_1.symm trS_1.symm (by simp [trT]) (mxN_1 (g := (fun i => vm (μ 88) 34 (vm (μ 88) 36 i))) hst.1).symm (mxN_1 (g := (fun i => rkC (vm (μ 88)) 32 (vm (μ 88) 36 i))) hrk.1).symm hf52) rfl
    ·
      refine go_ldc dX10_along_24 kc_X10_86 rfl ?_
      exact go_ri dX10_along_26 tyI ⟨Nat.le_refl _, Nat.le_refl _⟩ (⟨by rw [if_pos (by omega), if_pos (by omega)], fun _ _ _ => rfl⟩)
  ·
    refine go_ldc dX10_along_12 kc_X10_126 rfl ?_
    exact go_ri dX10_along_14 tyI ⟨Nat.le_refl _, Nat.le_refl _⟩ (⟨by rw [if_neg (by omega)], fun _ _ _ => rfl⟩)

set_option maxRecDepth 100000 in
set_option maxHeartbeats 4000000 in
theorem ct_X10_turnBack {l : Launch} {D : va_G} {cA : Nat → ClassId} {μ : Mem} (hI : mdI (μ 88)) (r : Int) : CtN l D cA yX10_turnBack cX10_turnBack 3 (some .int) 7 [vr 87, vi r] μ (Pi (fun x μ' => x = (if 0 ≤ r ∧ r ≤ 99999 then tbk (fun i => rkC (vm (μ 88)) 32 (vm (μ 88) 36 i)) r (μ 88 0).toNat 0 else -1000000001) ∧ ∀ q, q ≠ 108 → q ≠ 109 → μ' q = μ q)) := by
  refine Ct.of (own := RX10) (by decide +kernel) rfl (fun σ => Nat.le_of_ble_eq_true rfl) (fun hM hP ha => ?_)
  obtain ⟨m87, r88, s88, r89, s89, r90, s90, r91, s91, r92, s92, r93, s93, r94, s94, r95, s95, r96, s96, r97, s97, r98, s98, r99, s99, r100, s100, r101, s101, r102, s102, r103, s103, r104, s104, r105, s105, r106, s106, r107, s107, r108, s108, r109, s109, r110, s110, r111, s111, r112, s112⟩ := md_f
  obtain ⟨iK, iS, iL, iT, iTn, iD, iH, iF, iX⟩ := md_b hI
  have loop : ∀ (m : Nat) (i : Int) (μ1 : Mem), (μ 88 0) - i = (m : Nat) → 0 ≤ i → (0 ≤ r ∧ r ≤ 99999) → (tbk (fun i => rkC (vm (μ 88)) 32 (vm (μ 88) 36 i)) r (μ 88 0).toNat 0 = tbk (fun i => rkC (vm (μ 88)) 32 (vm (μ 88) 36 i)) r (μ 88 0 - i).toNat i) → (∀ q, q ≠ 108 → q ≠ 109 → μ1 q = μ q) → Go l D cA none RX10 cX10_turnBack 3 (some .int) (7, 0, 0) (QN (Pi (fun x μ' => x = (if 0 ≤ r ∧ r ≤ 99999 then tbk (fun i => rkC (vm (μ 88)) 32 (vm (μ 88) 36 i)) r (μ 88 0).toNat 0 else -1000000001) ∧ ∀ q, q ≠ 108 → q ≠ 109 → μ' q = μ q))) 113 ρ0 0 0 12 [(0, vr 87), (1, vi r), (2, vi i)] [] μ1 := by
    intro m
    induction m with
    | zero =>
      intro i μ1 hm hv hr0 hres hf
      have e88 : μ1 88 = μ 88 := hf _ (by omega) (by omega)
      refine go_iload_n dX10_turnBack_12 rfl ?_
      refine go_aload_n dX10_turnBack_13 rfl ?_
      refine go_getR dX10_turnBack_14 fl_X10_7 (by first | assumption | exact Nat.le_of_ble_eq_true rfl) (by first | assumption | rfl) rfl (by first | assumption | rfl) ?_
      refine go_iconst dX10_turnBack_17 rfl ?_
      refine go_iaload dX10_turnBack_18 (by first | assumption | exact Nat.le_of_ble_eq_true rfl) (by first | assumption | rfl) (by omega) (by omega) ?_
      rw [e88]
      refine go_icmp_ge (tgt := 43) dX10_turnBack_19 rfl (fun h19 => ?_) (fun h19 => ?_)
      ·
        refine go_ldc dX10_turnBack_43 kc_X10_86 rfl ?_
        exact go_ri dX10_turnBack_45 tyI ⟨Nat.le_refl _, Nat.le_refl _⟩ (⟨by rw [if_pos hr0, hres, show (μ 88 0 - i).toNat = 0 by omega]; rfl, hf⟩)
      ·
        exact absurd h19 (by omega)
    | succ m ih =>
      intro i μ1 hm hv hr0 hres hf
      have e88 : μ1 88 = μ 88 := hf _ (by omega) (by omega)
      refine go_iload_n dX10_turnBack_12 rfl ?_
      refine go_aload_n dX10_turnBack_13 rfl ?_
      refine go_getR dX10_turnBack_14 fl_X10_7 (by first | assumption | exact Nat.le_of_ble_eq_true rfl) (by first | assumption | rfl) rfl (by first | assumption | rfl) ?_
      refine go_iconst dX10_turnBack_17 rfl ?_
      refine go_iaload dX10_turnBack_18 (by first | assumption | exact Nat.le_of_ble_eq_true rfl) (by first | assumption | rfl) (by omega) (by omega) ?_
      rw [e88]
      refine go_icmp_ge (tgt := 43) dX10_turnBack_19 rfl (fun h19 => ?_) (fun h19 => ?_)
      ·
        exact absurd h19 (by omega)
      ·
        have ht := hI.1.2.2.2.1 i (by omega) (by omega)
        simp only [Nat.reduceAdd] at ht
        have hun : tbk (fun i => rkC (vm (μ 88)) 32 (vm (μ 88) 36 i)) r (μ 88 0 - i).toNat i = if r < rkC (vm (μ 88)) 32 (vm (μ 88) 36 i) then i else tbk (fun i => rkC (vm (μ 88)) 32 (vm (μ 88) 36 i)) r (μ 88 0 - (i + 1)).toNat (i + 1) := by rw [show (μ 88 0 - i).toNat = (μ 88 0 - (i + 1)).toNat + 1 by omega]; rfl
        refine go_aload_n dX10_turnBack_22 rfl ?_
        refine go_aload_n dX10_turnBack_23 rfl ?_
        refine go_iload_n dX10_turnBack_24 rfl ?_
        refine go_vI (ci := 9) dX10_turnBack_25 (ct_X10_trackAt _ (by omega) (by omega)) ml_X10_182 mc_X10_trackAt mv_X10_trackAt rfl (by first | assumption | exact Nat.le_of_ble_eq_true rfl) (by first | assumption | rfl) rfl ⟨rfl, rfl⟩ ⟨Nat.le_refl _, Nat.le_refl _⟩ rfl rfl rfl (fun x25 μ25 hc25 => ?_)
        rw [e88, ← vm_36 (f := μ 88) (c := i) (by omega) (by omega)] at hc25
        obtain ⟨rfl, hm25⟩ := hc25
        rw [hm25]
        refine go_vI (ci := 9) dX10_turnBack_28 (ct_X10_risk (by rw [e88]; exact hI) _ (by omega) (by omega)) ml_X10_131 mc_X10_risk mv_X10_risk rfl (by first | assumption | exact Nat.le_of_ble_eq_true rfl) (by first | assumption | rfl) rfl ⟨rfl, rfl⟩ ⟨Nat.le_refl _, Nat.le_refl _⟩ rfl rfl rfl (fun x28 μ28 hc28 => ?_)
        rw [e88] at hc28
        obtain ⟨rfl, hf28⟩ := hc28
        have hfb : ∀ q, q ≠ 108 → q ≠ 109 → μ28 q = μ q := fun q a b => (hf28 q a b).trans (hf q a b)
        refine go_iload_n dX10_turnBack_31 rfl ?_
        refine go_icmp_le (tgt := 37) dX10_turnBack_32 rfl (fun h32 => ?_) (fun h32 => ?_)
        ·
          refine go_iinc dX10_turnBack_37 rfl rfl ⟨by omega, by omega⟩ ?_
          refine go_goto (tgt := 12) dX10_turnBack_40 rfl ?_
          exact go_drop (ih _ _ (by omega) (by omega) hr0 (by rw [hres, hun, if_neg (by omega)]) hfb) rfl
        ·
          refine go_iload_n dX10_turnBack_35 rfl ?_
          exact go_ri dX10_turnBack_36 tyI ⟨Nat.le_refl _, Nat.le_refl _⟩ (⟨by rw [if_pos hr0, hres, hun, if_pos (by omega)], hfb⟩)
  refine go_iload_n dX10_turnBack_0 rfl ?_
  refine go_sI dX10_turnBack_1 (ct_X10_isBound _) ml_X10_197 mc_X10_isBound ms_X10_isBound ⟨rfl, rfl⟩ ⟨Nat.le_refl _, Nat.le_refl _⟩ rfl rfl rfl (fun x1 μ1 hc1 => ?_)
  obtain ⟨rfl, hm1⟩ := hc1
  rw [hm1]
  first | refine go_bnz (tgt := 10) dX10_turnBack_4 rfl (fun h4 => ?_) (fun h4 => ?_) | refine go_if_ne (tgt := 10) dX10_turnBack_4 rfl (fun h4 => ?_) (fun h4 => ?_)
  ·
    refine go_iconst dX10_turnBack_10 rfl ?_
    refine go_istore_n dX10_turnBack_11 rfl ?_
    exact go_drop (loop (μ 88 0).toNat 0 μ (by omega) (by omega) (by omega) (by rw [Int.sub_zero]) (fun _ _ _ => rfl)) rfl
  ·
    refine go_ldc dX10_turnBack_7 kc_X10_126 rfl ?_
    exact go_ri dX10_turnBack_9 tyI ⟨Nat.le_refl _, Nat.le_refl _⟩ (⟨by rw [if_neg (by omega)], fun _ _ _ => rfl⟩)

set_option maxRecDepth 100000 in
set_option maxHeartbeats 4000000 in
theorem ct_X10_textTold {l : Launch} {D : va_G} {cA : Nat → ClassId} {μ : Mem} (hI : mdI (μ 88)) (t what : Int) : CtN l D cA yX10_textTold cX10_textTold 3 (some .int) 3 [vr 87, vi t, vi what] μ (Pi (fun x μ' => x = (if (0 ≤ t ∧ t ≤ μ 88 1 - 1) ∧ 0 ≤ what ∧ what ≤ 1 then (if what = 0 then vm (μ 88) (4 + 2 * t.toNat) 0 else vm (μ 88) (4 + 2 * t.toNat) 1) else -1000000001) ∧ μ' = μ)) := by
  refine Ct.of (own := RX10) (by decide +kernel) rfl (fun σ => Nat.le_of_ble_eq_true rfl) (fun hM hP ha => ?_)
  obtain ⟨m87, r88, s88, r89, s89, r90, s90, r91, s91, r92, s92, r93, s93, r94, s94, r95, s95, r96, s96, r97, s97, r98, s98, r99, s99, r100, s100, r101, s101, r102, s102, r103, s103, r104, s104, r105, s105, r106, s106, r107, s107, r108, s108, r109, s109, r110, s110, r111, s111, r112, s112⟩ := md_f
  obtain ⟨iK, iS, iL, iT, iTn, iD, iH, iF, iX⟩ := md_b hI
  refine go_aload_n dX10_textTold_0 rfl ?_
  refine go_iload_n dX10_textTold_1 rfl ?_
  refine go_vI (ci := 9) dX10_textTold_2 (ct_X10_isText hI _) ml_X10_313 mc_X10_isText mv_X10_isText rfl (by first | assumption | exact Nat.le_of_ble_eq_true rfl) (by first | assumption | rfl) rfl ⟨rfl, rfl⟩ ⟨Nat.le_refl _, Nat.le_refl _⟩ rfl rfl rfl (fun x2 μ2 hc2 => ?_)
  obtain ⟨rfl, hm2⟩ := hc2
  rw [hm2]
  first | refine go_bz (tgt := 18) dX10_textTold_5 rfl (fun h5 => ?_) (fun h5 => ?_) | refine go_if_eq (tgt := 18) dX10_textTold_5 rfl (fun h5 => ?_) (fun h5 => ?_)
  ·
    refine go_ldc dX10_textTold_18 kc_X10_126 rfl ?_
    exact go_ri dX10_textTold_20 tyI ⟨Nat.le_refl _, Nat.le_refl _⟩ (⟨by (repeat (first | rw [if_pos (by omega)] | rw [if_neg (by omega)])), rfl⟩)
  ·
    refine go_iload_n dX10_textTold_8 rfl ?_
    refine go_i2l dX10_textTold_9 ?_
    refine go_lconst dX10_textTold_10 ?_
    refine go_lconst dX10_textTold_11 ?_
    refine go_sI dX10_textTold_12 (ct_X10_isIn _ _ _) ml_X10_87 mc_X10_isIn ms_X10_isIn ⟨rfl, rfl⟩ ⟨Nat.le_refl _, Nat.le_refl _⟩ rfl rfl rfl (fun x12 μ12 hc12 => ?_)
    obtain ⟨rfl, hm12⟩ := hc12
    rw [hm12]
    first | refine go_bnz (tgt := 21) dX10_textTold_15 rfl (fun h15 => ?_) (fun h15 => ?_) | refine go_if_ne (tgt := 21) dX10_textTold_15 rfl (fun h15 => ?_) (fun h15 => ?_)
    ·
      refine go_aload_n dX10_textTold_21 rfl ?_
      refine go_getR dX10_textTold_22 fl_X10_7 (by first | assumption | exact Nat.le_of_ble_eq_true rfl) (by first | assumption | rfl) rfl (by first | assumption | rfl) ?_
      refine go_aload_n dX10_textTold_25 rfl ?_
      refine go_iload_n dX10_textTold_26 rfl ?_
      refine go_vI (ci := 9) dX10_textTold_27 (ct_X10_textAt _ (by omega) (by omega)) ml_X10_304 mc_X10_textAt mv_X10_textAt rfl (by first | assumption | exact Nat.le_of_ble_eq_true rfl) (by first | assumption | rfl) rfl ⟨rfl, rfl⟩ ⟨Nat.le_refl _, Nat.le_refl _⟩ rfl rfl rfl (fun x27 μ27 hc27 => ?_)
      obtain ⟨rfl, hm27⟩ := hc27
      rw [hm27]
      refine go_iload_n dX10_textTold_30 rfl ?_
      refine go_iadd dX10_textTold_31 ⟨by omega, by omega⟩ ?_
      refine go_iaload dX10_textTold_32 (by first | assumption | exact Nat.le_of_ble_eq_true rfl) (by first | assumption | rfl) (by omega) (by omega) ?_
      try simp (disch := omega) only [ud, ua_same, ua_ne, uf_same, uf_ne]
      exact go_ri dX10_textTold_33 tyI ⟨Nat.le_refl _, Nat.le_refl _⟩ (⟨by
          rw [if_pos (by omega), vm_lw (by omega) (by omega) (by omega), vm_lw (by omega) (by omega) (by omega), show ((t.toNat : Nat) : Int) = t by omega]
          by_cases e : what = 0
          · rw [if_pos e, e]
          · rw [if_neg e, show what = 1 by omega], rfl⟩)
    ·
      refine go_ldc dX10_textTold_18 kc_X10_126 rfl ?_
      exact go_ri dX10_textTold_20 tyI ⟨Nat.le_refl _, Nat.le_refl _⟩ (⟨by (repeat (first | rw [if_pos (by omega)] | rw [if_neg (by omega)])), rfl⟩)

theorem on_M {o : Option Nat} : (if onM o < 0 then (-1000000005 : Int) else onM o) = onI o := by
  cases o with
  | none => rfl
  | some i => show (if ((i : Nat) : Int) < 0 then _ else ((i : Nat) : Int)) = ((i : Nat) : Int); rw [if_neg (by omega)]

set_option maxRecDepth 100000 in
set_option maxHeartbeats 4000000 in
theorem ct_X10_why {l : Launch} {D : va_G} {cA : Nat → ClassId} {μ : Mem} (hI : mdI (μ 88)) (key : Int) : CtN l D cA yX10_why cX10_why 2 (some .int) 3 [vr 87, vi key] μ (Pi (fun x μ' => x = (if 0 ≤ key ∧ key ≤ 2 then onI (lastK (fun i => vm (μ 88) (4 + 2 * i) 0) key (μ 88 1).toNat) else -1000000001) ∧ μ' = μ)) := by
  refine Ct.of (own := RX10) (by decide +kernel) rfl (fun σ => Nat.le_of_ble_eq_true rfl) (fun hM hP ha => ?_)
  obtain ⟨m87, r88, s88, r89, s89, r90, s90, r91, s91, r92, s92, r93, s93, r94, s94, r95, s95, r96, s96, r97, s97, r98, s98, r99, s99, r100, s100, r101, s101, r102, s102, r103, s103, r104, s104, r105, s105, r106, s106, r107, s107, r108, s108, r109, s109, r110, s110, r111, s111, r112, s112⟩ := md_f
  obtain ⟨iK, iS, iL, iT, iTn, iD, iH, iF, iX⟩ := md_b hI
  refine go_iload_n dX10_why_0 rfl ?_
  refine go_i2l dX10_why_1 ?_
  refine go_lconst dX10_why_2 ?_
  refine go_ldc2 dX10_why_3 kl_X10_148 rfl ?_
  refine go_sI dX10_why_6 (ct_X10_isIn _ _ _) ml_X10_87 mc_X10_isIn ms_X10_isIn ⟨rfl, rfl⟩ ⟨Nat.le_refl _, Nat.le_refl _⟩ rfl rfl rfl (fun x6 μ6 hc6 => ?_)
  obtain ⟨rfl, hm6⟩ := hc6
  rw [hm6]
  first | refine go_bz (tgt := 23) dX10_why_9 rfl (fun h9 => ?_) (fun h9 => ?_) | refine go_if_eq (tgt := 23) dX10_why_9 rfl (fun h9 => ?_) (fun h9 => ?_)
  ·
    refine go_ldc dX10_why_23 kc_X10_126 rfl ?_
    exact go_ri dX10_why_25 tyI ⟨Nat.le_refl _, Nat.le_refl _⟩ (⟨by rw [if_neg (by omega)], rfl⟩)
  ·
    refine go_aload_n dX10_why_12 rfl ?_
    refine go_iload_n dX10_why_13 rfl ?_
    refine go_vI (ci := 9) dX10_why_14 (ct_X10_counts (md_t hI) _) ml_X10_96 mc_X10_counts mv_X10_counts rfl (by first | assumption | exact Nat.le_of_ble_eq_true rfl) (by first | assumption | rfl) rfl ⟨rfl, rfl⟩ ⟨Nat.le_refl _, Nat.le_refl _⟩ rfl rfl rfl (fun x14 μ14 hc14 => ?_)
    obtain ⟨rfl, hm14⟩ := hc14
    rw [hm14]
    refine go_sI dX10_why_17 (ct_X10_orNone _) ml_X10_316 mc_X10_orNone ms_X10_orNone ⟨rfl, rfl⟩ ⟨Nat.le_refl _, Nat.le_refl _⟩ rfl rfl rfl (fun x17 μ17 hc17 => ?_)
    rw [on_M] at hc17
    obtain ⟨rfl, hm17⟩ := hc17
    rw [hm17]
    refine go_goto (tgt := 25) dX10_why_20 rfl ?_
    exact go_ri dX10_why_25 tyI ⟨Nat.le_refl _, Nat.le_refl _⟩ (⟨by rw [if_pos (by omega)], rfl⟩)

set_option maxRecDepth 100000 in
set_option maxHeartbeats 4000000 in
theorem ct_X10_tell {l : Launch} {D : va_G} {cA : Nat → ClassId} {μ : Mem} (hw : 0 ≤ μ 87 36 ∧ μ 87 36 ≤ 60) (v : Int) : CtN l D cA yX10_tell cX10_tell 2 (some .int) 1 [vr 87, vi v] μ (Pi (fun x μ' => (60 ≤ μ 87 36 → x = -1000000003 ∧ μ' = μ) ∧ (μ 87 36 < 60 → x = μ 87 36 + 1 ∧ μ' = ud (ud μ 111 (μ 87 36) v) 87 36 (μ 87 36 + 1)))) := by
  refine Ct.of (own := RX10) (by decide +kernel) rfl (fun σ => Nat.le_of_ble_eq_true rfl) (fun hM hP ha => ?_)
  obtain ⟨m87, r88, s88, r89, s89, r90, s90, r91, s91, r92, s92, r93, s93, r94, s94, r95, s95, r96, s96, r97, s97, r98, s98, r99, s99, r100, s100, r101, s101, r102, s102, r103, s103, r104, s104, r105, s105, r106, s106, r107, s107, r108, s108, r109, s109, r110, s110, r111, s111, r112, s112⟩ := md_f
  refine go_aload_n dX10_tell_0 rfl ?_
  refine go_getI 36 dX10_tell_1 fl_X10_336 (by first | assumption | exact Nat.le_of_ble_eq_true rfl) (by first | assumption | rfl) rfl rfl ?_
  refine go_bipush dX10_tell_4 rfl (by decide) ?_
  refine go_icmp_ne (tgt := 12) dX10_tell_6 rfl (fun h6 => ?_) (fun h6 => ?_)
  ·
    refine go_aload_n dX10_tell_12 rfl ?_
    refine go_getR dX10_tell_13 fl_X10_80 (by first | assumption | exact Nat.le_of_ble_eq_true rfl) (by first | assumption | rfl) rfl (by first | assumption | rfl) ?_
    refine go_aload_n dX10_tell_16 rfl ?_
    refine go_getI 36 dX10_tell_17 fl_X10_336 (by first | assumption | exact Nat.le_of_ble_eq_true rfl) (by first | assumption | rfl) rfl rfl ?_
    refine go_iload_n dX10_tell_20 rfl ?_
    refine go_iastore dX10_tell_21 (by first | assumption | exact Nat.le_of_ble_eq_true rfl) (by first | assumption | rfl) (by omega) (by omega) ?_
    refine go_aload_n dX10_tell_22 rfl ?_
    refine go_dup dX10_tell_23 rfl ?_
    refine go_getI 36 dX10_tell_24 fl_X10_336 (by first | assumption | exact Nat.le_of_ble_eq_true rfl) (by first | assumption | rfl) rfl rfl ?_
    try simp (disch := omega) only [ud, ua_same, ua_ne, uf_same, uf_ne]
    refine go_iconst dX10_tell_27 rfl ?_
    refine go_iadd dX10_tell_28 ⟨by omega, by omega⟩ ?_
    refine go_putI 36 dX10_tell_29 pl_X10_336 (by first | assumption | exact Nat.le_of_ble_eq_true rfl) (by first | assumption | rfl) rfl rfl ?_
    refine go_aload_n dX10_tell_32 rfl ?_
    refine go_getI 36 dX10_tell_33 fl_X10_336 (by first | assumption | exact Nat.le_of_ble_eq_true rfl) (by first | assumption | rfl) rfl rfl ?_
    try simp (disch := omega) only [ud, ua_same, ua_ne, uf_same, uf_ne]
    exact go_ri dX10_tell_36 tyI ⟨Nat.le_refl _, Nat.le_refl _⟩ (⟨fun h => absurd h (by omega), fun _ => ⟨rfl, rfl⟩⟩)
  ·
    refine go_ldc dX10_tell_9 kc_X10_189 rfl ?_
    exact go_ri dX10_tell_11 tyI ⟨Nat.le_refl _, Nat.le_refl _⟩ (⟨fun _ => ⟨rfl, rfl⟩, fun h => absurd h (by omega)⟩)

set_option maxRecDepth 100000 in
set_option maxHeartbeats 4000000 in
theorem ct_X10_trim {l : Launch} {D : va_G} {cA : Nat → ClassId} {μ : Mem} (n : Int) : CtN l D cA yX10_trim cX10_trim 2 (some .int) 3 [vr 87, vi n] μ (Pi (fun x μ' => ((0 ≤ n ∧ n ≤ μ 87 21) → x = n ∧ μ' = ud μ 87 21 n) ∧ (¬ (0 ≤ n ∧ n ≤ μ 87 21) → x = -1000000001 ∧ μ' = μ))) := by
  refine Ct.of (own := RX10) (by decide +kernel) rfl (fun σ => Nat.le_of_ble_eq_true rfl) (fun hM hP ha => ?_)
  obtain ⟨m87, r88, s88, r89, s89, r90, s90, r91, s91, r92, s92, r93, s93, r94, s94, r95, s95, r96, s96, r97, s97, r98, s98, r99, s99, r100, s100, r101, s101, r102, s102, r103, s103, r104, s104, r105, s105, r106, s106, r107, s107, r108, s108, r109, s109, r110, s110, r111, s111, r112, s112⟩ := md_f
  refine go_iload_n dX10_trim_0 rfl ?_
  refine go_i2l dX10_trim_1 ?_
  refine go_lconst dX10_trim_2 ?_
  refine go_aload_n dX10_trim_3 rfl ?_
  refine go_getI 21 dX10_trim_4 fl_X10_223 (by first | assumption | exact Nat.le_of_ble_eq_true rfl) (by first | assumption | rfl) rfl rfl ?_
  refine go_i2l dX10_trim_7 ?_
  refine go_sI dX10_trim_8 (ct_X10_isIn _ _ _) ml_X10_87 mc_X10_isIn ms_X10_isIn ⟨rfl, rfl⟩ ⟨Nat.le_refl _, Nat.le_refl _⟩ rfl rfl rfl (fun x8 μ8 hc8 => ?_)
  obtain ⟨rfl, hm8⟩ := hc8
  rw [hm8]
  first | refine go_bnz (tgt := 17) dX10_trim_11 rfl (fun h11 => ?_) (fun h11 => ?_) | refine go_if_ne (tgt := 17) dX10_trim_11 rfl (fun h11 => ?_) (fun h11 => ?_)
  ·
    refine go_aload_n dX10_trim_17 rfl ?_
    refine go_iload_n dX10_trim_18 rfl ?_
    refine go_putI 21 dX10_trim_19 pl_X10_223 (by first | assumption | exact Nat.le_of_ble_eq_true rfl) (by first | assumption | rfl) rfl rfl ?_
    refine go_iload_n dX10_trim_22 rfl ?_
    exact go_ri dX10_trim_23 tyI ⟨Nat.le_refl _, Nat.le_refl _⟩ (by first | exact ⟨fun _ => ⟨rfl, rfl⟩, fun h => absurd (by omega) h⟩ | exact ⟨fun h => absurd h (by omega), fun _ => ⟨rfl, rfl⟩⟩)
  ·
    refine go_ldc dX10_trim_14 kc_X10_126 rfl ?_
    exact go_ri dX10_trim_16 tyI ⟨Nat.le_refl _, Nat.le_refl _⟩ (by first | exact ⟨fun _ => ⟨rfl, rfl⟩, fun h => absurd (by omega) h⟩ | exact ⟨fun h => absurd h (by omega), fun _ => ⟨rfl, rfl⟩⟩)

set_option maxRecDepth 100000 in
set_option maxHeartbeats 4000000 in
theorem ct_X10_count {l : Launch} {D : va_G} {cA : Nat → ClassId} {μ : Mem} (hI : mdI (μ 88)) (what : Int) : CtN l D cA yX10_count cX10_count 2 (some .int) 3 [vr 87, vi what] μ (Pi (fun x μ' => x = (if what = 0 then sumN (vm (μ 88) 35) 30 else if what = 1 then μ 88 5 else if what = 2 then μ 88 2 else if what = 3 then μ 88 3 else if what = 4 then μ 88 4 else if what = 5 then μ 88 0 else if what = 6 then μ 88 1 else if what = 7 then μ 87 36 else if what = 8 then μ 87 21 else if what = 9 then μ 88 6 else -1000000001) ∧ μ' = μ)) := by
  refine Ct.of (own := RX10) (by decide +kernel) rfl (fun σ => Nat.le_of_ble_eq_true rfl) (fun hM hP ha => ?_)
  obtain ⟨m87, r88, s88, r89, s89, r90, s90, r91, s91, r92, s92, r93, s93, r94, s94, r95, s95, r96, s96, r97, s97, r98, s98, r99, s99, r100, s100, r101, s101, r102, s102, r103, s103, r104, s104, r105, s105, r106, s106, r107, s107, r108, s108, r109, s109, r110, s110, r111, s111, r112, s112⟩ := md_f
  obtain ⟨iK, iS, iL, iT, iTn, iD, iH, iF, iX⟩ := md_b hI
  refine go_iload_n dX10_count_0 rfl ?_
  refine go_case (0) (fun h1_0 => ?_) (fun h1_0 => ?_)
  ·
    refine go_tabIn (tgt := 56) dX10_count_1 (by rw [h1_0]; decide) (by rw [h1_0]; decide) (by rw [h1_0]; try rfl) rfl ?_
    refine go_aload_n dX10_count_56 rfl ?_
    refine go_vI (ci := 9) dX10_count_57 (ct_X10_allLoad hI.1.2.2.1) ml_X10_157 mc_X10_allLoad mv_X10_allLoad rfl (by first | assumption | exact Nat.le_of_ble_eq_true rfl) (by first | assumption | rfl) rfl ⟨rfl, rfl⟩ ⟨Nat.le_refl _, Nat.le_refl _⟩ rfl rfl rfl (fun x57 μ57 hc57 => ?_)
    obtain ⟨rfl, hm57⟩ := hc57
    rw [hm57]
    exact go_ri dX10_count_60 tyI ⟨Nat.le_refl _, Nat.le_refl _⟩ (⟨by (repeat (first | rw [if_pos (by omega)] | rw [if_neg (by omega)])), rfl⟩)
  refine go_case (1) (fun h1_1 => ?_) (fun h1_1 => ?_)
  ·
    refine go_tabIn (tgt := 61) dX10_count_1 (by rw [h1_1]; decide) (by rw [h1_1]; decide) (by rw [h1_1]; try rfl) rfl ?_
    refine go_aload_n dX10_count_61 rfl ?_
    refine go_getR dX10_count_62 fl_X10_7 (by first | assumption | exact Nat.le_of_ble_eq_true rfl) (by first | assumption | rfl) rfl (by first | assumption | rfl) ?_
    refine go_iconst dX10_count_65 rfl ?_
    refine go_iaload dX10_count_66 (by first | assumption | exact Nat.le_of_ble_eq_true rfl) (by first | assumption | rfl) (by omega) (by omega) ?_
    exact go_ri dX10_count_67 tyI ⟨Nat.le_refl _, Nat.le_refl _⟩ (⟨by (repeat (first | rw [if_pos (by omega)] | rw [if_neg (by omega)])), rfl⟩)
  refine go_case (2) (fun h1_2 => ?_) (fun h1_2 => ?_)
  ·
    refine go_tabIn (tgt := 68) dX10_count_1 (by rw [h1_2]; decide) (by rw [h1_2]; decide) (by rw [h1_2]; try rfl) rfl ?_
    refine go_aload_n dX10_count_68 rfl ?_
    refine go_getR dX10_count_69 fl_X10_7 (by first | assumption | exact Nat.le_of_ble_eq_true rfl) (by first | assumption | rfl) rfl (by first | assumption | rfl) ?_
    refine go_iconst dX10_count_72 rfl ?_
    refine go_iaload dX10_count_73 (by first | assumption | exact Nat.le_of_ble_eq_true rfl) (by first | assumption | rfl) (by omega) (by omega) ?_
    exact go_ri dX10_count_74 tyI ⟨Nat.le_refl _, Nat.le_refl _⟩ (⟨by (repeat (first | rw [if_pos (by omega)] | rw [if_neg (by omega)])), rfl⟩)
  refine go_case (3) (fun h1_3 => ?_) (fun h1_3 => ?_)
  ·
    refine go_tabIn (tgt := 75) dX10_count_1 (by rw [h1_3]; decide) (by rw [h1_3]; decide) (by rw [h1_3]; try rfl) rfl ?_
    refine go_aload_n dX10_count_75 rfl ?_
    refine go_getR dX10_count_76 fl_X10_7 (by first | assumption | exact Nat.le_of_ble_eq_true rfl) (by first | assumption | rfl) rfl (by first | assumption | rfl) ?_
    refine go_iconst dX10_count_79 rfl ?_
    refine go_iaload dX10_count_80 (by first | assumption | exact Nat.le_of_ble_eq_true rfl) (by first | assumption | rfl) (by omega) (by omega) ?_
    exact go_ri dX10_count_81 tyI ⟨Nat.le_refl _, Nat.le_refl _⟩ (⟨by (repeat (first | rw [if_pos (by omega)] | rw [if_neg (by omega)])), rfl⟩)
  refine go_case (4) (fun h1_4 => ?_) (fun h1_4 => ?_)
  ·
    refine go_tabIn (tgt := 82) dX10_count_1 (by rw [h1_4]; decide) (by rw [h1_4]; decide) (by rw [h1_4]; try rfl) rfl ?_
    refine go_aload_n dX10_count_82 rfl ?_
    refine go_getR dX10_count_83 fl_X10_7 (by first | assumption | exact Nat.le_of_ble_eq_true rfl) (by first | assumption | rfl) rfl (by first | assumption | rfl) ?_
    refine go_iconst dX10_count_86 rfl ?_
    refine go_iaload dX10_count_87 (by first | assumption | exact Nat.le_of_ble_eq_true rfl) (by first | assumption | rfl) (by omega) (by omega) ?_
    exact go_ri dX10_count_88 tyI ⟨Nat.le_refl _, Nat.le_refl _⟩ (⟨by (repeat (first | rw [if_pos (by omega)] | rw [if_neg (by omega)])), rfl⟩)
  refine go_case (5) (fun h1_5 => ?_) (fun h1_5 => ?_)
  ·
    refine go_tabIn (tgt := 89) dX10_count_1 (by rw [h1_5]; decide) (by rw [h1_5]; decide) (by rw [h1_5]; try rfl) rfl ?_
    refine go_aload_n dX10_count_89 rfl ?_
    refine go_getR dX10_count_90 fl_X10_7 (by first | assumption | exact Nat.le_of_ble_eq_true rfl) (by first | assumption | rfl) rfl (by first | assumption | rfl) ?_
    refine go_iconst dX10_count_93 rfl ?_
    refine go_iaload dX10_count_94 (by first | assumption | exact Nat.le_of_ble_eq_true rfl) (by first | assumption | rfl) (by omega) (by omega) ?_
    exact go_ri dX10_count_95 tyI ⟨Nat.le_refl _, Nat.le_refl _⟩ (⟨by (repeat (first | rw [if_pos (by omega)] | rw [if_neg (by omega)])), rfl⟩)
  refine go_case (6) (fun h1_6 => ?_) (fun h1_6 => ?_)
  ·
    refine go_tabIn (tgt := 96) dX10_count_1 (by rw [h1_6]; decide) (by rw [h1_6]; decide) (by rw [h1_6]; try rfl) rfl ?_
    refine go_aload_n dX10_count_96 rfl ?_
    refine go_getR dX10_count_97 fl_X10_7 (by first | assumption | exact Nat.le_of_ble_eq_true rfl) (by first | assumption | rfl) rfl (by first | assumption | rfl) ?_
    refine go_iconst dX10_count_100 rfl ?_
    refine go_iaload dX10_count_101 (by first | assumption | exact Nat.le_of_ble_eq_true rfl) (by first | assumption | rfl) (by omega) (by omega) ?_
    exact go_ri dX10_count_102 tyI ⟨Nat.le_refl _, Nat.le_refl _⟩ (⟨by (repeat (first | rw [if_pos (by omega)] | rw [if_neg (by omega)])), rfl⟩)
  refine go_case (7) (fun h1_7 => ?_) (fun h1_7 => ?_)
  ·
    refine go_tabIn (tgt := 103) dX10_count_1 (by rw [h1_7]; decide) (by rw [h1_7]; decide) (by rw [h1_7]; try rfl) rfl ?_
    refine go_aload_n dX10_count_103 rfl ?_
    refine go_getI 36 dX10_count_104 fl_X10_336 (by first | assumption | exact Nat.le_of_ble_eq_true rfl) (by first | assumption | rfl) rfl rfl ?_
    exact go_ri dX10_count_107 tyI ⟨Nat.le_refl _, Nat.le_refl _⟩ (⟨by (repeat (first | rw [if_pos (by omega)] | rw [if_neg (by omega)])), rfl⟩)
  refine go_case (8) (fun h1_8 => ?_) (fun h1_8 => ?_)
  ·
    refine go_tabIn (tgt := 108) dX10_count_1 (by rw [h1_8]; decide) (by rw [h1_8]; decide) (by rw [h1_8]; try rfl) rfl ?_
    refine go_aload_n dX10_count_108 rfl ?_
    refine go_getI 21 dX10_count_109 fl_X10_223 (by first | assumption | exact Nat.le_of_ble_eq_true rfl) (by first | assumption | rfl) rfl rfl ?_
    exact go_ri dX10_count_112 tyI ⟨Nat.le_refl _, Nat.le_refl _⟩ (⟨by (repeat (first | rw [if_pos (by omega)] | rw [if_neg (by omega)])), rfl⟩)
  refine go_case (9) (fun h1_9 => ?_) (fun h1_9 => ?_)
  ·
    refine go_tabIn (tgt := 113) dX10_count_1 (by rw [h1_9]; decide) (by rw [h1_9]; decide) (by rw [h1_9]; try rfl) rfl ?_
    refine go_aload_n dX10_count_113 rfl ?_
    refine go_getR dX10_count_114 fl_X10_7 (by first | assumption | exact Nat.le_of_ble_eq_true rfl) (by first | assumption | rfl) rfl (by first | assumption | rfl) ?_
    refine go_bipush dX10_count_117 rfl (by decide) ?_
    refine go_iaload dX10_count_119 (by first | assumption | exact Nat.le_of_ble_eq_true rfl) (by first | assumption | rfl) (by omega) (by omega) ?_
    exact go_ri dX10_count_120 tyI ⟨Nat.le_refl _, Nat.le_refl _⟩ (⟨by (repeat (first | rw [if_pos (by omega)] | rw [if_neg (by omega)])), rfl⟩)
  refine go_tabOut (tgt := 121) dX10_count_1 (by omega) rfl ?_
  refine go_ldc dX10_count_121 kc_X10_126 rfl ?_
  exact go_ri dX10_count_123 tyI ⟨Nat.le_refl _, Nat.le_refl _⟩ (⟨by (repeat (first | rw [if_pos (by omega)] | rw [if_neg (by omega)])), rfl⟩)

