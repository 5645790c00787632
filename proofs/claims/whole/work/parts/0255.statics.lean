/-! THE CLASS: small static methods -/
abbrev nNONE : Int := -1000000005
def nb (c d : Int) : Int := if d = 0 then (if c < 24 then c + 6 else nNONE) else if d = 1 then (if c % 6 < 5 then c + 1 else nNONE) else if d = 2 then (if 6 ≤ c then c - 6 else nNONE) else (if 0 < c % 6 then c - 1 else nNONE)
def kRisk (kind plain above sun : Int) : Int := if kind = 1 then plain + above / 2 else if kind = 3 then 2 * (plain + above / 2) else if kind = 2 then plain / 2 else if kind = 4 then plain / 2 + sun else if kind = 5 then plain / 3 else plain
def kHold (kind plain sun : Int) : Int := if kind = 2 then plain + 5 else if kind = 4 then plain + 5 - sun else if kind = 5 then plain + 20 else plain
def kWorth (kind steep load : Int) : Int := if kind = 1 then steep + load else if kind = 3 then 2 * (steep + load) else if kind = 2 then 60 - steep else if kind = 4 then 69 - steep else if kind = 5 then load else steep

set_option maxRecDepth 100000 in
set_option maxHeartbeats 4000000 in
theorem ct_X9_isWithin {l : Launch} {D : va_G} {cA : Nat → ClassId} {μ : Mem} (v a b : Int) : CtN l D cA yX9_isWithin cX9_isWithin 3 (some .boolean) 1 [vi v, vi a, vi b] μ (Pi (fun x μ' => x = tv (a ≤ v ∧ v ≤ b) inferInstance ∧ μ' = μ)) := by
  refine Ct.of (own := RX9) (by decide +kernel) rfl (fun σ => Nat.le_of_ble_eq_true rfl) (fun hM hP ha => ?_)
  refine go_iload_n dX9_isWithin_0 rfl ?_
  refine go_iload_n dX9_isWithin_1 rfl ?_
  refine go_icmp_lt (tgt := 14) dX9_isWithin_2 rfl (fun h2 => ?_) (fun h2 => ?_)
  ·
    refine go_iconst dX9_isWithin_14 rfl ?_
    exact go_ri dX9_isWithin_15 (tyZ (by first | exact Or.inl rfl | exact Or.inr rfl | exact tv_01)) ⟨Nat.le_refl _, Nat.le_refl _⟩ (by first | exact ⟨(tv_n (by omega)).symm, rfl⟩ | exact ⟨(tv_1 (by omega)).symm, rfl⟩)
  ·
    refine go_iload_n dX9_isWithin_5 rfl ?_
    refine go_iload_n dX9_isWithin_6 rfl ?_
    refine go_icmp_gt (tgt := 14) dX9_isWithin_7 rfl (fun h7 => ?_) (fun h7 => ?_)
    ·
      refine go_iconst dX9_isWithin_14 rfl ?_
      exact go_ri dX9_isWithin_15 (tyZ (by first | exact Or.inl rfl | exact Or.inr rfl | exact tv_01)) ⟨Nat.le_refl _, Nat.le_refl _⟩ (by first | exact ⟨(tv_n (by omega)).symm, rfl⟩ | exact ⟨(tv_1 (by omega)).symm, rfl⟩)
    ·
      refine go_iconst dX9_isWithin_10 rfl ?_
      refine go_goto (tgt := 15) dX9_isWithin_11 rfl ?_
      exact go_ri dX9_isWithin_15 (tyZ (by first | exact Or.inl rfl | exact Or.inr rfl | exact tv_01)) ⟨Nat.le_refl _, Nat.le_refl _⟩ (by first | exact ⟨(tv_n (by omega)).symm, rfl⟩ | exact ⟨(tv_1 (by omega)).symm, rfl⟩)

set_option maxRecDepth 100000 in
set_option maxHeartbeats 4000000 in
theorem ct_X9_heldWithin {l : Launch} {D : va_G} {cA : Nat → ClassId} {μ : Mem} (v a b : Int) : CtN l D cA yX9_heldWithin cX9_heldWithin 3 (some .int) 2 [vi v, vi a, vi b] μ (Pi (fun x μ' => x = max a (min b v) ∧ μ' = μ)) := by
  refine Ct.of (own := RX9) (by decide +kernel) rfl (fun σ => Nat.le_of_ble_eq_true rfl) (fun hM hP ha => ?_)
  refine go_iload_n dX9_heldWithin_0 rfl ?_
  refine go_iload_n dX9_heldWithin_1 rfl ?_
  refine go_iload_n dX9_heldWithin_2 rfl ?_
  refine go_min dX9_heldWithin_3 mw_X9_341 rfl rfl ⟨Nat.le_refl _, Nat.le_refl _⟩ ?_
  refine go_max dX9_heldWithin_6 mw_X9_346 rfl rfl ⟨Nat.le_refl _, Nat.le_refl _⟩ ?_
  exact go_ri dX9_heldWithin_9 tyI ⟨Nat.le_refl _, Nat.le_refl _⟩ (⟨rfl, rfl⟩)

set_option maxRecDepth 100000 in
set_option maxHeartbeats 4000000 in
theorem ct_X9_isCell {l : Launch} {D : va_G} {cA : Nat → ClassId} {μ : Mem} (v : Int) : CtN l D cA yX9_isCell cX9_isCell 1 (some .boolean) 2 [vi v] μ (Pi (fun x μ' => x = tv (0 ≤ v ∧ v ≤ 29) inferInstance ∧ μ' = μ)) := by
  refine Ct.of (own := RX9) (by decide +kernel) rfl (fun σ => Nat.le_of_ble_eq_true rfl) (fun hM hP ha => ?_)
  refine go_iload_n dX9_isCell_0 rfl ?_
  refine go_iconst dX9_isCell_1 rfl ?_
  refine go_bipush dX9_isCell_2 rfl (by decide) ?_
  refine go_sI dX9_isCell_4 (ct_X9_isWithin _ _ _) ml_X9_81 mc_X9_isWithin ms_X9_isWithin ⟨rfl, rfl⟩ ⟨Nat.le_refl _, Nat.le_refl _⟩ rfl rfl rfl (fun x4 μ4 hc4 => ?_)
  obtain ⟨rfl, hm4⟩ := hc4
  rw [hm4]
  exact go_ri dX9_isCell_7 (tyZ (by first | exact Or.inl rfl | exact Or.inr rfl | exact tv_01)) ⟨Nat.le_refl _, Nat.le_refl _⟩ (⟨rfl, rfl⟩)

set_option maxRecDepth 100000 in
set_option maxHeartbeats 4000000 in
theorem ct_X9_isSheet {l : Launch} {D : va_G} {cA : Nat → ClassId} {μ : Mem} (v : Int) : CtN l D cA yX9_isSheet cX9_isSheet 1 (some .boolean) 2 [vi v] μ (Pi (fun x μ' => x = tv (0 ≤ v ∧ v ≤ 3) inferInstance ∧ μ' = μ)) := by
  refine Ct.of (own := RX9) (by decide +kernel) rfl (fun σ => Nat.le_of_ble_eq_true rfl) (fun hM hP ha => ?_)
  refine go_iload_n dX9_isSheet_0 rfl ?_
  refine go_iconst dX9_isSheet_1 rfl ?_
  refine go_iconst dX9_isSheet_2 rfl ?_
  refine go_sI dX9_isSheet_3 (ct_X9_isWithin _ _ _) ml_X9_81 mc_X9_isWithin ms_X9_isWithin ⟨rfl, rfl⟩ ⟨Nat.le_refl _, Nat.le_refl _⟩ rfl rfl rfl (fun x3 μ3 hc3 => ?_)
  obtain ⟨rfl, hm3⟩ := hc3
  rw [hm3]
  exact go_ri dX9_isSheet_6 (tyZ (by first | exact Or.inl rfl | exact Or.inr rfl | exact tv_01)) ⟨Nat.le_refl _, Nat.le_refl _⟩ (⟨rfl, rfl⟩)

set_option maxRecDepth 100000 in
set_option maxHeartbeats 4000000 in
theorem ct_X9_isSlot {l : Launch} {D : va_G} {cA : Nat → ClassId} {μ : Mem} (v : Int) : CtN l D cA yX9_isSlot cX9_isSlot 1 (some .boolean) 2 [vi v] μ (Pi (fun x μ' => x = tv (0 ≤ v ∧ v ≤ 4) inferInstance ∧ μ' = μ)) := by
  refine Ct.of (own := RX9) (by decide +kernel) rfl (fun σ => Nat.le_of_ble_eq_true rfl) (fun hM hP ha => ?_)
  refine go_iload_n dX9_isSlot_0 rfl ?_
  refine go_iconst dX9_isSlot_1 rfl ?_
  refine go_iconst dX9_isSlot_2 rfl ?_
  refine go_sI dX9_isSlot_3 (ct_X9_isWithin _ _ _) ml_X9_81 mc_X9_isWithin ms_X9_isWithin ⟨rfl, rfl⟩ ⟨Nat.le_refl _, Nat.le_refl _⟩ rfl rfl rfl (fun x3 μ3 hc3 => ?_)
  obtain ⟨rfl, hm3⟩ := hc3
  rw [hm3]
  exact go_ri dX9_isSlot_6 (tyZ (by first | exact Or.inl rfl | exact Or.inr rfl | exact tv_01)) ⟨Nat.le_refl _, Nat.le_refl _⟩ (⟨rfl, rfl⟩)

set_option maxRecDepth 100000 in
set_option maxHeartbeats 4000000 in
theorem ct_X0_isKind {l : Launch} {D : va_G} {cA : Nat → ClassId} {μ : Mem} (v : Int) : CtN l D cA yX0_isKind cX0_isKind 1 (some .boolean) 2 [vi v] μ (Pi (fun x μ' => x = tv (0 ≤ v ∧ v ≤ 5) inferInstance ∧ μ' = μ)) := by
  refine Ct.of (own := RX0) (by decide +kernel) rfl (fun σ => Nat.le_of_ble_eq_true rfl) (fun hM hP ha => ?_)
  refine go_iload_n dX0_isKind_0 rfl ?_
  refine go_iconst dX0_isKind_1 rfl ?_
  refine go_iconst dX0_isKind_2 rfl ?_
  refine go_sI dX0_isKind_3 (ct_X9_isWithin _ _ _) ml_X0_11 mc_X9_isWithin ms_X9_isWithin ⟨rfl, rfl⟩ ⟨Nat.le_refl _, Nat.le_refl _⟩ rfl rfl rfl (fun x3 μ3 hc3 => ?_)
  obtain ⟨rfl, hm3⟩ := hc3
  rw [hm3]
  exact go_ri dX0_isKind_6 (tyZ (by first | exact Or.inl rfl | exact Or.inr rfl | exact tv_01)) ⟨Nat.le_refl _, Nat.le_refl _⟩ (⟨rfl, rfl⟩)

set_option maxRecDepth 100000 in
set_option maxHeartbeats 4000000 in
theorem ct_X9_neighbour {l : Launch} {D : va_G} {cA : Nat → ClassId} {μ : Mem} (c d : Int) (hc0 : 0 ≤ c) (hc1 : c < 30) : CtN l D cA yX9_neighbour cX9_neighbour 3 (some .int) 1 [vi c, vi d] μ (Pi (fun x μ' => x = nb c d ∧ μ' = μ)) := by
  refine Ct.of (own := RX9) (by decide +kernel) rfl (fun σ => Nat.le_of_ble_eq_true rfl) (fun hM hP ha => ?_)
  refine go_iload_n dX9_neighbour_0 rfl ?_
  refine go_bipush dX9_neighbour_1 rfl (by decide) ?_
  refine go_irem dX9_neighbour_3 (by omega) (by omega) ?_
  refine go_istore_n dX9_neighbour_4 rfl ?_
  refine go_iload_n dX9_neighbour_5 rfl ?_
  refine go_case (0) (fun h6_0 => ?_) (fun h6_0 => ?_)
  ·
    refine go_tabIn (tgt := 32) dX9_neighbour_6 (by rw [h6_0]; decide) (by rw [h6_0]; decide) (by rw [h6_0]; try rfl) rfl ?_
    refine go_iload_n dX9_neighbour_32 rfl ?_
    refine go_bipush dX9_neighbour_33 rfl (by decide) ?_
    refine go_icmp_ge (tgt := 45) dX9_neighbour_35 rfl (fun h35 => ?_) (fun h35 => ?_)
    ·
      refine go_ldc dX9_neighbour_45 kc_X9_159 rfl ?_
      exact go_ri dX9_neighbour_47 tyI ⟨Nat.le_refl _, Nat.le_refl _⟩ (⟨by unfold nb nNONE; split <;> (try split) <;> (try split) <;> (try split) <;> omega, rfl⟩)
    ·
      refine go_iload_n dX9_neighbour_38 rfl ?_
      refine go_bipush dX9_neighbour_39 rfl (by decide) ?_
      refine go_iadd dX9_neighbour_41 ⟨by omega, by omega⟩ ?_
      refine go_goto (tgt := 47) dX9_neighbour_42 rfl ?_
      exact go_ri dX9_neighbour_47 tyI ⟨Nat.le_refl _, Nat.le_refl _⟩ (⟨by unfold nb nNONE; split <;> (try split) <;> (try split) <;> (try split) <;> omega, rfl⟩)
  refine go_case (1) (fun h6_1 => ?_) (fun h6_1 => ?_)
  ·
    refine go_tabIn (tgt := 48) dX9_neighbour_6 (by rw [h6_1]; decide) (by rw [h6_1]; decide) (by rw [h6_1]; try rfl) rfl ?_
    refine go_iload_n dX9_neighbour_48 rfl ?_
    refine go_iconst dX9_neighbour_49 rfl ?_
    refine go_icmp_ge (tgt := 59) dX9_neighbour_50 rfl (fun h50 => ?_) (fun h50 => ?_)
    ·
      refine go_ldc dX9_neighbour_59 kc_X9_159 rfl ?_
      exact go_ri dX9_neighbour_61 tyI ⟨Nat.le_refl _, Nat.le_refl _⟩ (⟨by unfold nb nNONE; split <;> (try split) <;> (try split) <;> (try split) <;> omega, rfl⟩)
    ·
      refine go_iload_n dX9_neighbour_53 rfl ?_
      refine go_iconst dX9_neighbour_54 rfl ?_
      refine go_iadd dX9_neighbour_55 ⟨by omega, by omega⟩ ?_
      refine go_goto (tgt := 61) dX9_neighbour_56 rfl ?_
      exact go_ri dX9_neighbour_61 tyI ⟨Nat.le_refl _, Nat.le_refl _⟩ (⟨by unfold nb nNONE; split <;> (try split) <;> (try split) <;> (try split) <;> omega, rfl⟩)
  refine go_case (2) (fun h6_2 => ?_) (fun h6_2 => ?_)
  ·
    refine go_tabIn (tgt := 62) dX9_neighbour_6 (by rw [h6_2]; decide) (by rw [h6_2]; decide) (by rw [h6_2]; try rfl) rfl ?_
    refine go_iload_n dX9_neighbour_62 rfl ?_
    refine go_bipush dX9_neighbour_63 rfl (by decide) ?_
    refine go_icmp_lt (tgt := 75) dX9_neighbour_65 rfl (fun h65 => ?_) (fun h65 => ?_)
    ·
      refine go_ldc dX9_neighbour_75 kc_X9_159 rfl ?_
      exact go_ri dX9_neighbour_77 tyI ⟨Nat.le_refl _, Nat.le_refl _⟩ (⟨by unfold nb nNONE; split <;> (try split) <;> (try split) <;> (try split) <;> omega, rfl⟩)
    ·
      refine go_iload_n dX9_neighbour_68 rfl ?_
      refine go_bipush dX9_neighbour_69 rfl (by decide) ?_
      refine go_isub dX9_neighbour_71 ⟨by omega, by omega⟩ ?_
      refine go_goto (tgt := 77) dX9_neighbour_72 rfl ?_
      exact go_ri dX9_neighbour_77 tyI ⟨Nat.le_refl _, Nat.le_refl _⟩ (⟨by unfold nb nNONE; split <;> (try split) <;> (try split) <;> (try split) <;> omega, rfl⟩)
  refine go_tabOut (tgt := 78) dX9_neighbour_6 (by omega) rfl ?_
  refine go_iload_n dX9_neighbour_78 rfl ?_
  refine go_if_le (tgt := 88) dX9_neighbour_79 rfl (fun h79 => ?_) (fun h79 => ?_)
  ·
    refine go_ldc dX9_neighbour_88 kc_X9_159 rfl ?_
    exact go_ri dX9_neighbour_90 tyI ⟨Nat.le_refl _, Nat.le_refl _⟩ (⟨by unfold nb nNONE; split <;> (try split) <;> (try split) <;> (try split) <;> omega, rfl⟩)
  ·
    refine go_iload_n dX9_neighbour_82 rfl ?_
    refine go_iconst dX9_neighbour_83 rfl ?_
    refine go_isub dX9_neighbour_84 ⟨by omega, by omega⟩ ?_
    refine go_goto (tgt := 90) dX9_neighbour_85 rfl ?_
    exact go_ri dX9_neighbour_90 tyI ⟨Nat.le_refl _, Nat.le_refl _⟩ (⟨by unfold nb nNONE; split <;> (try split) <;> (try split) <;> (try split) <;> omega, rfl⟩)

set_option maxRecDepth 100000 in
set_option maxHeartbeats 4000000 in
theorem ct_X0_risk {l : Launch} {D : va_G} {cA : Nat → ClassId} {μ : Mem} (kind plain above sun : Int) (h1 : 0 ≤ plain) (h2 : plain ≤ 999) (h3 : 0 ≤ above) (h4 : above ≤ 999) (h5 : 0 ≤ sun) (h6 : sun ≤ 99) : CtN l D cA yX0_risk cX0_risk 4 (some .int) 1 [vi kind, vi plain, vi above, vi sun] μ (Pi (fun x μ' => x = kRisk kind plain above sun ∧ μ' = μ)) := by
  refine Ct.of (own := RX0) (by decide +kernel) rfl (fun σ => Nat.le_of_ble_eq_true rfl) (fun hM hP ha => ?_)
  refine go_iload_n dX0_risk_0 rfl ?_
  refine go_case (1) (fun h1_1 => ?_) (fun h1_1 => ?_)
  ·
    refine go_tabIn (tgt := 36) dX0_risk_1 (by rw [h1_1]; decide) (by rw [h1_1]; decide) (by rw [h1_1]; try rfl) rfl ?_
    refine go_iload_n dX0_risk_36 rfl ?_
    refine go_iload_n dX0_risk_37 rfl ?_
    refine go_iconst dX0_risk_38 rfl ?_
    refine go_idiv dX0_risk_39 (by omega) (by omega) ?_
    refine go_iadd dX0_risk_40 ⟨by omega, by omega⟩ ?_
    exact go_ri dX0_risk_41 tyI ⟨Nat.le_refl _, Nat.le_refl _⟩ (⟨by unfold kRisk; simp [*], rfl⟩)
  refine go_case (2) (fun h1_2 => ?_) (fun h1_2 => ?_)
  ·
    refine go_tabIn (tgt := 50) dX0_risk_1 (by rw [h1_2]; decide) (by rw [h1_2]; decide) (by rw [h1_2]; try rfl) rfl ?_
    refine go_iload_n dX0_risk_50 rfl ?_
    refine go_iconst dX0_risk_51 rfl ?_
    refine go_idiv dX0_risk_52 (by omega) (by omega) ?_
    exact go_ri dX0_risk_53 tyI ⟨Nat.le_refl _, Nat.le_refl _⟩ (⟨by unfold kRisk; simp [*], rfl⟩)
  refine go_case (3) (fun h1_3 => ?_) (fun h1_3 => ?_)
  ·
    refine go_tabIn (tgt := 42) dX0_risk_1 (by rw [h1_3]; decide) (by rw [h1_3]; decide) (by rw [h1_3]; try rfl) rfl ?_
    refine go_iconst dX0_risk_42 rfl ?_
    refine go_iload_n dX0_risk_43 rfl ?_
    refine go_iload_n dX0_risk_44 rfl ?_
    refine go_iconst dX0_risk_45 rfl ?_
    refine go_idiv dX0_risk_46 (by omega) (by omega) ?_
    refine go_iadd dX0_risk_47 ⟨by omega, by omega⟩ ?_
    refine go_imul dX0_risk_48 ⟨by omega, by omega⟩ ?_
    exact go_ri dX0_risk_49 tyI ⟨Nat.le_refl _, Nat.le_refl _⟩ (⟨by unfold kRisk; simp [*], rfl⟩)
  refine go_case (4) (fun h1_4 => ?_) (fun h1_4 => ?_)
  ·
    refine go_tabIn (tgt := 54) dX0_risk_1 (by rw [h1_4]; decide) (by rw [h1_4]; decide) (by rw [h1_4]; try rfl) rfl ?_
    refine go_iload_n dX0_risk_54 rfl ?_
    refine go_iconst dX0_risk_55 rfl ?_
    refine go_idiv dX0_risk_56 (by omega) (by omega) ?_
    refine go_iload_n dX0_risk_57 rfl ?_
    refine go_iadd dX0_risk_58 ⟨by omega, by omega⟩ ?_
    exact go_ri dX0_risk_59 tyI ⟨Nat.le_refl _, Nat.le_refl _⟩ (⟨by unfold kRisk; simp [*], rfl⟩)
  refine go_case (5) (fun h1_5 => ?_) (fun h1_5 => ?_)
  ·
    refine go_tabIn (tgt := 60) dX0_risk_1 (by rw [h1_5]; decide) (by rw [h1_5]; decide) (by rw [h1_5]; try rfl) rfl ?_
    refine go_iload_n dX0_risk_60 rfl ?_
    refine go_iconst dX0_risk_61 rfl ?_
    refine go_idiv dX0_risk_62 (by omega) (by omega) ?_
    exact go_ri dX0_risk_63 tyI ⟨Nat.le_refl _, Nat.le_refl _⟩ (⟨by unfold kRisk; simp [*], rfl⟩)
  refine go_tabOut (tgt := 64) dX0_risk_1 (by omega) rfl ?_
  refine go_iload_n dX0_risk_64 rfl ?_
  exact go_ri dX0_risk_65 tyI ⟨Nat.le_refl _, Nat.le_refl _⟩ (⟨by unfold kRisk; simp [*], rfl⟩)

set_option maxRecDepth 100000 in
set_option maxHeartbeats 4000000 in
theorem ct_X0_hold {l : Launch} {D : va_G} {cA : Nat → ClassId} {μ : Mem} (kind plain sun : Int) (h1 : 0 ≤ plain) (h2 : plain ≤ 99) (h5 : 0 ≤ sun) (h6 : sun ≤ 99) : CtN l D cA yX0_hold cX0_hold 3 (some .int) 1 [vi kind, vi plain, vi sun] μ (Pi (fun x μ' => x = kHold kind plain sun ∧ μ' = μ)) := by
  refine Ct.of (own := RX0) (by decide +kernel) rfl (fun σ => Nat.le_of_ble_eq_true rfl) (fun hM hP ha => ?_)
  refine go_iload_n dX0_hold_0 rfl ?_
  refine go_case (2) (fun h1_2 => ?_) (fun h1_2 => ?_)
  ·
    refine go_tabIn (tgt := 32) dX0_hold_1 (by rw [h1_2]; decide) (by rw [h1_2]; decide) (by rw [h1_2]; try rfl) rfl ?_
    refine go_iload_n dX0_hold_32 rfl ?_
    refine go_iconst dX0_hold_33 rfl ?_
    refine go_iadd dX0_hold_34 ⟨by omega, by omega⟩ ?_
    exact go_ri dX0_hold_35 tyI ⟨Nat.le_refl _, Nat.le_refl _⟩ (⟨by unfold kHold; simp [*], rfl⟩)
  refine go_case (3) (fun h1_3 => ?_) (fun h1_3 => ?_)
  ·
    refine go_tabIn (tgt := 47) dX0_hold_1 (by rw [h1_3]; decide) (by rw [h1_3]; decide) (by rw [h1_3]; try rfl) rfl ?_
    refine go_iload_n dX0_hold_47 rfl ?_
    exact go_ri dX0_hold_48 tyI ⟨Nat.le_refl _, Nat.le_refl _⟩ (⟨by unfold kHold; simp [*], rfl⟩)
  refine go_case (4) (fun h1_4 => ?_) (fun h1_4 => ?_)
  ·
    refine go_tabIn (tgt := 36) dX0_hold_1 (by rw [h1_4]; decide) (by rw [h1_4]; decide) (by rw [h1_4]; try rfl) rfl ?_
    refine go_iload_n dX0_hold_36 rfl ?_
    refine go_iconst dX0_hold_37 rfl ?_
    refine go_iadd dX0_hold_38 ⟨by omega, by omega⟩ ?_
    refine go_iload_n dX0_hold_39 rfl ?_
    refine go_isub dX0_hold_40 ⟨by omega, by omega⟩ ?_
    exact go_ri dX0_hold_41 tyI ⟨Nat.le_refl _, Nat.le_refl _⟩ (⟨by unfold kHold; simp [*], rfl⟩)
  refine go_case (5) (fun h1_5 => ?_) (fun h1_5 => ?_)
  ·
    refine go_tabIn (tgt := 42) dX0_hold_1 (by rw [h1_5]; decide) (by rw [h1_5]; decide) (by rw [h1_5]; try rfl) rfl ?_
    refine go_iload_n dX0_hold_42 rfl ?_
    refine go_bipush dX0_hold_43 rfl (by decide) ?_
    refine go_iadd dX0_hold_45 ⟨by omega, by omega⟩ ?_
    exact go_ri dX0_hold_46 tyI ⟨Nat.le_refl _, Nat.le_refl _⟩ (⟨by unfold kHold; simp [*], rfl⟩)
  refine go_tabOut (tgt := 47) dX0_hold_1 (by omega) rfl ?_
  refine go_iload_n dX0_hold_47 rfl ?_
  exact go_ri dX0_hold_48 tyI ⟨Nat.le_refl _, Nat.le_refl _⟩ (⟨by unfold kHold; simp [*], rfl⟩)

set_option maxRecDepth 100000 in
set_option maxHeartbeats 4000000 in
theorem ct_X0_worth {l : Launch} {D : va_G} {cA : Nat → ClassId} {μ : Mem} (kind steep load : Int) (h1 : 0 ≤ steep) (h2 : steep ≤ 60) (h3 : 0 ≤ load) (h4 : load ≤ 999) : CtN l D cA yX0_worth cX0_worth 3 (some .int) 1 [vi kind, vi steep, vi load] μ (Pi (fun x μ' => x = kWorth kind steep load ∧ μ' = μ)) := by
  refine Ct.of (own := RX0) (by decide +kernel) rfl (fun σ => Nat.le_of_ble_eq_true rfl) (fun hM hP ha => ?_)
  refine go_iload_n dX0_worth_0 rfl ?_
  refine go_case (1) (fun h1_1 => ?_) (fun h1_1 => ?_)
  ·
    refine go_tabIn (tgt := 36) dX0_worth_1 (by rw [h1_1]; decide) (by rw [h1_1]; decide) (by rw [h1_1]; try rfl) rfl ?_
    refine go_iload_n dX0_worth_36 rfl ?_
    refine go_iload_n dX0_worth_37 rfl ?_
    refine go_iadd dX0_worth_38 ⟨by omega, by omega⟩ ?_
    exact go_ri dX0_worth_39 tyI ⟨Nat.le_refl _, Nat.le_refl _⟩ (⟨by unfold kWorth; simp [*]; try omega, rfl⟩)
  refine go_case (2) (fun h1_2 => ?_) (fun h1_2 => ?_)
  ·
    refine go_tabIn (tgt := 46) dX0_worth_1 (by rw [h1_2]; decide) (by rw [h1_2]; decide) (by rw [h1_2]; try rfl) rfl ?_
    refine go_bipush dX0_worth_46 rfl (by decide) ?_
    refine go_iload_n dX0_worth_48 rfl ?_
    refine go_isub dX0_worth_49 ⟨by omega, by omega⟩ ?_
    exact go_ri dX0_worth_50 tyI ⟨Nat.le_refl _, Nat.le_refl _⟩ (⟨by unfold kWorth; simp [*]; try omega, rfl⟩)
  refine go_case (3) (fun h1_3 => ?_) (fun h1_3 => ?_)
  ·
    refine go_tabIn (tgt := 40) dX0_worth_1 (by rw [h1_3]; decide) (by rw [h1_3]; decide) (by rw [h1_3]; try rfl) rfl ?_
    refine go_iconst dX0_worth_40 rfl ?_
    refine go_iload_n dX0_worth_41 rfl ?_
    refine go_iload_n dX0_worth_42 rfl ?_
    refine go_iadd dX0_worth_43 ⟨by omega, by omega⟩ ?_
    refine go_imul dX0_worth_44 ⟨by omega, by omega⟩ ?_
    exact go_ri dX0_worth_45 tyI ⟨Nat.le_refl _, Nat.le_refl _⟩ (⟨by unfold kWorth; simp [*]; try omega, rfl⟩)
  refine go_case (4) (fun h1_4 => ?_) (fun h1_4 => ?_)
  ·
    refine go_tabIn (tgt := 51) dX0_worth_1 (by rw [h1_4]; decide) (by rw [h1_4]; decide) (by rw [h1_4]; try rfl) rfl ?_
    refine go_bipush dX0_worth_51 rfl (by decide) ?_
    refine go_iload_n dX0_worth_53 rfl ?_
    refine go_isub dX0_worth_54 ⟨by omega, by omega⟩ ?_
    refine go_bipush dX0_worth_55 rfl (by decide) ?_
    refine go_iadd dX0_worth_57 ⟨by omega, by omega⟩ ?_
    exact go_ri dX0_worth_58 tyI ⟨Nat.le_refl _, Nat.le_refl _⟩ (⟨by unfold kWorth; simp [*]; try omega, rfl⟩)
  refine go_case (5) (fun h1_5 => ?_) (fun h1_5 => ?_)
  ·
    refine go_tabIn (tgt := 59) dX0_worth_1 (by rw [h1_5]; decide) (by rw [h1_5]; decide) (by rw [h1_5]; try rfl) rfl ?_
    refine go_iload_n dX0_worth_59 rfl ?_
    exact go_ri dX0_worth_60 tyI ⟨Nat.le_refl _, Nat.le_refl _⟩ (⟨by unfold kWorth; simp [*]; try omega, rfl⟩)
  refine go_tabOut (tgt := 61) dX0_worth_1 (by omega) rfl ?_
  refine go_iload_n dX0_worth_61 rfl ?_
  exact go_ri dX0_worth_62 tyI ⟨Nat.le_refl _, Nat.le_refl _⟩ (⟨by unfold kWorth; simp [*]; try omega, rfl⟩)

