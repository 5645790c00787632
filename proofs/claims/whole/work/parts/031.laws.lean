/-! THE CLASS: a text that was read, all texts, what they give -/
theorem ud_s {μ : Mem} {i : Nat} {k x : Int} : ud μ i k x i = uf (μ i) k x := ua_same _ _ _
theorem ud_n {μ : Mem} {i a : Nat} {k x : Int} (h : a ≠ i) : ud μ i k x a = μ a := ua_ne h
set_option maxRecDepth 100000 in
set_option maxHeartbeats 4000000 in
theorem ct_X1_begin {l : Launch} {D : va_G} {cA : Nat → ClassId} {μ : Mem} {j : Nat} (hj : isLw j) : CtN l D cA yX1_begin cX1_begin 1 none 1 [vr j] μ (Pv (fun μ' => μ' = ud (ud μ j 1 0) j 2 0)) := by
  refine Ct.of (own := RX1) (by decide +kernel) rfl (fun σ => Nat.le_of_ble_eq_true rfl) (fun hM hP ha => ?_)
  obtain ⟨_, _, hJ0, hJ1, hJ2, hJ3, hJ4⟩ := lw_f hj
  refine go_aload_n dX1_begin_0 rfl ?_
  refine go_iconst dX1_begin_1 rfl ?_
  refine go_putI 1 dX1_begin_2 pl_X1_15 (by first | assumption | exact Nat.le_of_ble_eq_true rfl) (by first | assumption | rfl) rfl rfl ?_
  refine go_aload_n dX1_begin_5 rfl ?_
  refine go_iconst dX1_begin_6 rfl ?_
  refine go_putI 2 dX1_begin_7 pl_X1_19 (by first | assumption | exact Nat.le_of_ble_eq_true rfl) (by first | assumption | rfl) rfl rfl ?_
  exact go_rv dX1_begin_10 rfl ⟨Nat.le_refl _, Nat.le_refl _⟩ (rfl)

set_option maxRecDepth 100000 in
set_option maxHeartbeats 4000000 in
theorem ct_X1_add {l : Launch} {D : va_G} {cA : Nat → ClassId} {μ : Mem} {j : Nat} (hj : isLw j) (c : Int) (h0 : 0 ≤ μ j 2) (h1 : μ j 2 ≤ 96) : CtN l D cA yX1_add cX1_add 2 none 1 [vr j, vi c] μ (Pv (fun μ' => μ' = if μ j 2 < 96 then ud (ud μ (j + 1) (μ j 2) c) j 2 (μ j 2 + 1) else μ)) := by
  refine Ct.of (own := RX1) (by decide +kernel) rfl (fun σ => Nat.le_of_ble_eq_true rfl) (fun hM hP ha => ?_)
  obtain ⟨_, _, hJ0, hJ1, hJ2, hJ3, hJ4⟩ := lw_f hj
  refine go_aload_n dX1_add_0 rfl ?_
  refine go_getI 2 dX1_add_1 fl_X1_19 (by first | assumption | exact Nat.le_of_ble_eq_true rfl) (by first | assumption | rfl) rfl rfl ?_
  refine go_bipush dX1_add_4 rfl (by decide) ?_
  refine go_icmp_ge (tgt := 29) dX1_add_6 rfl (fun h6 => ?_) (fun h6 => ?_)
  ·
    exact go_rv dX1_add_29 rfl ⟨Nat.le_refl _, Nat.le_refl _⟩ (by rw [if_neg (by omega)])
  ·
    refine go_aload_n dX1_add_9 rfl ?_
    refine go_getR dX1_add_10 fl_X1_9 (by first | assumption | exact Nat.le_of_ble_eq_true rfl) (by first | assumption | rfl) rfl (by first | assumption | rfl) ?_
    refine go_aload_n dX1_add_13 rfl ?_
    refine go_getI 2 dX1_add_14 fl_X1_19 (by first | assumption | exact Nat.le_of_ble_eq_true rfl) (by first | assumption | rfl) rfl rfl ?_
    refine go_iload_n dX1_add_17 rfl ?_
    refine go_iastore dX1_add_18 (by first | assumption | exact Nat.le_of_ble_eq_true rfl) (by first | assumption | rfl) (by omega) (by omega) ?_
    refine go_aload_n dX1_add_19 rfl ?_
    refine go_dup dX1_add_20 rfl ?_
    refine go_getI 2 dX1_add_21 fl_X1_19 (by first | assumption | exact Nat.le_of_ble_eq_true rfl) (by first | assumption | rfl) rfl rfl ?_
    try simp (disch := omega) only [ud, ua_same, ua_ne, uf_same, uf_ne]
    refine go_iconst dX1_add_24 rfl ?_
    refine go_iadd dX1_add_25 ⟨by omega, by omega⟩ ?_
    refine go_putI 2 dX1_add_26 pl_X1_19 (by first | assumption | exact Nat.le_of_ble_eq_true rfl) (by first | assumption | rfl) rfl rfl ?_
    exact go_rv dX1_add_29 rfl ⟨Nat.le_refl _, Nat.le_refl _⟩ (by rw [if_pos (by omega)]; simp (disch := omega) only [ud, ua_same, ua_ne, uf_same, uf_ne])

set_option maxRecDepth 100000 in
set_option maxHeartbeats 4000000 in
theorem ct_X1_addPiece {l : Launch} {D : va_G} {cA : Nat → ClassId} {μ : Mem} {j : Nat} (hj : isLw j) (c : Int) (h0 : 0 ≤ μ j 2) (h1 : μ j 2 < 96) (h2 : 0 ≤ μ j 1) (h3 : μ j 1 ≤ 1000) : CtN l D cA yX1_addPiece cX1_addPiece 2 none 2 [vr j, vi c] μ (Pv (fun μ' => μ' = ud (ud (ud μ (j + 1) (μ j 2) c) j 2 (μ j 2 + 1)) j 1 (μ j 1 + 1))) := by
  refine Ct.of (own := RX1) (by decide +kernel) rfl (fun σ => Nat.le_of_ble_eq_true rfl) (fun hM hP ha => ?_)
  obtain ⟨_, _, hJ0, hJ1, hJ2, hJ3, hJ4⟩ := lw_f hj
  refine go_aload_n dX1_addPiece_0 rfl ?_
  refine go_iload_n dX1_addPiece_1 rfl ?_
  refine go_vV (ci := 0) dX1_addPiece_2 (ct_X1_add hj _ h0 (by omega)) ml_X1_22 mc_X1_add mv_X1_add rfl (by first | assumption | exact Nat.le_of_ble_eq_true rfl) (by first | assumption | rfl) rfl ⟨rfl, rfl⟩ ⟨Nat.le_refl _, Nat.le_refl _⟩ rfl rfl rfl (fun μ2 hc2 => ?_)
  rw [if_pos h1] at hc2
  subst hc2
  refine go_aload_n dX1_addPiece_5 rfl ?_
  refine go_dup dX1_addPiece_6 rfl ?_
  refine go_getI 1 dX1_addPiece_7 fl_X1_15 (by first | assumption | exact Nat.le_of_ble_eq_true rfl) (by first | assumption | rfl) rfl rfl ?_
  try simp (disch := omega) only [ud, ua_same, ua_ne, uf_same, uf_ne]
  refine go_iconst dX1_addPiece_10 rfl ?_
  refine go_iadd dX1_addPiece_11 ⟨by omega, by omega⟩ ?_
  refine go_putI 1 dX1_addPiece_12 pl_X1_15 (by first | assumption | exact Nat.le_of_ble_eq_true rfl) (by first | assumption | rfl) rfl rfl ?_
  exact go_rv dX1_addPiece_15 rfl ⟨Nat.le_refl _, Nat.le_refl _⟩ (by simp (disch := omega) only [ud, ua_same, ua_ne, uf_same, uf_ne])

set_option maxRecDepth 100000 in
set_option maxHeartbeats 4000000 in
theorem ct_X1_become {l : Launch} {D : va_G} {cA : Nat → ClassId} {μ : Mem} {j i : Nat} (hj : isLw j) (hi : isLw i) (hij : i ≠ j) (hij2 : i ≠ j + 1) (hij3 : i + 1 ≠ j) : CtN l D cA yX1_become cX1_become 2 none 2 [vr j, vr i] μ (Pv (fun μ' => μ' j 0 = μ i 0 ∧ μ' j 1 = μ i 1 ∧ μ' j 2 = μ i 2 ∧ (∀ q, 0 ≤ q → q < 96 → μ' (j + 1) q = μ (i + 1) q) ∧ ∀ q, q ≠ j → q ≠ j + 1 → μ' q = μ q)) := by
  refine Ct.of (own := RX1) (by decide +kernel) rfl (fun σ => Nat.le_of_ble_eq_true rfl) (fun hM hP ha => ?_)
  obtain ⟨_, _, hJ0, hJ1, hJ2, hJ3, hJ4⟩ := lw_f hj
  obtain ⟨_, _, hI0, hI1, hI2, hI3, hI4⟩ := lw_f hi
  refine go_aload_n dX1_become_0 rfl ?_
  refine go_aload_n dX1_become_1 rfl ?_
  refine go_getI 0 dX1_become_2 fl_X1_26 (by first | assumption | exact Nat.le_of_ble_eq_true rfl) (by first | assumption | rfl) rfl rfl ?_
  refine go_putI 0 dX1_become_5 pl_X1_26 (by first | assumption | exact Nat.le_of_ble_eq_true rfl) (by first | assumption | rfl) rfl rfl ?_
  refine go_aload_n dX1_become_8 rfl ?_
  refine go_aload_n dX1_become_9 rfl ?_
  refine go_getI 1 dX1_become_10 fl_X1_15 (by first | assumption | exact Nat.le_of_ble_eq_true rfl) (by first | assumption | rfl) rfl rfl ?_
  try simp (disch := omega) only [ud, ua_same, ua_ne, uf_same, uf_ne]
  refine go_putI 1 dX1_become_13 pl_X1_15 (by first | assumption | exact Nat.le_of_ble_eq_true rfl) (by first | assumption | rfl) rfl rfl ?_
  refine go_aload_n dX1_become_16 rfl ?_
  refine go_aload_n dX1_become_17 rfl ?_
  refine go_getI 2 dX1_become_18 fl_X1_19 (by first | assumption | exact Nat.le_of_ble_eq_true rfl) (by first | assumption | rfl) rfl rfl ?_
  try simp (disch := omega) only [ud, ua_same, ua_ne, uf_same, uf_ne]
  refine go_putI 2 dX1_become_21 pl_X1_19 (by first | assumption | exact Nat.le_of_ble_eq_true rfl) (by first | assumption | rfl) rfl rfl ?_
  refine go_aload_n dX1_become_24 rfl ?_
  refine go_getR dX1_become_25 fl_X1_9 (by first | assumption | exact Nat.le_of_ble_eq_true rfl) (by first | assumption | rfl) rfl (by first | assumption | rfl) ?_
  refine go_iconst dX1_become_28 rfl ?_
  refine go_aload_n dX1_become_29 rfl ?_
  refine go_getR dX1_become_30 fl_X1_9 (by first | assumption | exact Nat.le_of_ble_eq_true rfl) (by first | assumption | rfl) rfl (by first | assumption | rfl) ?_
  refine go_iconst dX1_become_33 rfl ?_
  refine go_bipush dX1_become_34 rfl (by decide) ?_
  refine go_copy dX1_become_36 aw_X1_29 rfl rfl (by first | assumption | exact Nat.le_of_ble_eq_true rfl) (by first | assumption | exact Nat.le_of_ble_eq_true rfl) (by first | assumption | rfl) (by first | assumption | rfl) (by omega) (by omega) (by omega) (by omega) (by omega) ?_
  exact go_rv dX1_become_39 rfl ⟨Nat.le_refl _, Nat.le_refl _⟩ (by
      refine ⟨?_, ?_, ?_, fun q h1 h2 => ?_, fun q h1 h2 => ?_⟩
      · simp (disch := omega) only [ud, ua_same, ua_ne, uf_same, uf_ne]
      · simp (disch := omega) only [ud, ua_same, ua_ne, uf_same, uf_ne]
      · simp (disch := omega) only [ud, ua_same, ua_ne, uf_same, uf_ne]
      · simp (disch := omega) only [ud, ua_same, ua_ne, uf_same, uf_ne]
        unfold cpI
        rw [if_pos (by omega), show (0 : Int) + (q - 0) = q by omega]
      · simp (disch := omega) only [ud, ua_same, ua_ne, uf_same, uf_ne])

set_option maxRecDepth 100000 in
set_option maxHeartbeats 4000000 in
theorem ct_X2_isPiece {l : Launch} {D : va_G} {cA : Nat → ClassId} {μ : Mem} (c : Int) (hc1 : -200 ≤ c) : CtN l D cA yX2_isPiece cX2_isPiece 1 (some .boolean) 2 [vi c] μ (Pi (fun x μ' => x = tv (0 ≤ c ∨ (97 ≤ -c ∧ -c ≤ 122)) inferInstance ∧ μ' = μ)) := by
  refine Ct.of (own := RX2) (by decide +kernel) rfl (fun σ => Nat.le_of_ble_eq_true rfl) (fun hM hP ha => ?_)
  refine go_iload_n dX2_isPiece_0 rfl ?_
  refine go_if_ge (tgt := 16) dX2_isPiece_1 rfl (fun h1 => ?_) (fun h1 => ?_)
  ·
    refine go_iconst dX2_isPiece_16 rfl ?_
    refine go_goto (tgt := 21) dX2_isPiece_17 rfl ?_
    exact go_ri dX2_isPiece_21 (tyZ (by first | exact Or.inl rfl | exact Or.inr rfl | exact tv_01)) ⟨Nat.le_refl _, Nat.le_refl _⟩ (by first | exact ⟨(tv_n (by omega)).symm, rfl⟩ | exact ⟨(tv_1 (by omega)).symm, rfl⟩)
  ·
    refine go_iload_n dX2_isPiece_4 rfl ?_
    refine go_ineg dX2_isPiece_5 ?_
    rw [show wr (-c) = -c from wr_id ⟨by omega, by omega⟩]
    refine go_bipush dX2_isPiece_6 rfl (by decide) ?_
    refine go_bipush dX2_isPiece_8 rfl (by decide) ?_
    refine go_sI dX2_isPiece_10 (ct_X9_isWithin _ _ _) ml_X2_51 mc_X9_isWithin ms_X9_isWithin ⟨rfl, rfl⟩ ⟨Nat.le_refl _, Nat.le_refl _⟩ rfl rfl rfl (fun x10 μ10 hc10 => ?_)
    obtain ⟨rfl, hm10⟩ := hc10
    rw [hm10]
    first | refine go_bz (tgt := 20) dX2_isPiece_13 rfl (fun h13 => ?_) (fun h13 => ?_) | refine go_if_eq (tgt := 20) dX2_isPiece_13 rfl (fun h13 => ?_) (fun h13 => ?_)
    ·
      refine go_iconst dX2_isPiece_20 rfl ?_
      exact go_ri dX2_isPiece_21 (tyZ (by first | exact Or.inl rfl | exact Or.inr rfl | exact tv_01)) ⟨Nat.le_refl _, Nat.le_refl _⟩ (by first | exact ⟨(tv_n (by omega)).symm, rfl⟩ | exact ⟨(tv_1 (by omega)).symm, rfl⟩)
    ·
      refine go_iconst dX2_isPiece_16 rfl ?_
      refine go_goto (tgt := 21) dX2_isPiece_17 rfl ?_
      exact go_ri dX2_isPiece_21 (tyZ (by first | exact Or.inl rfl | exact Or.inr rfl | exact tv_01)) ⟨Nat.le_refl _, Nat.le_refl _⟩ (by first | exact ⟨(tv_n (by omega)).symm, rfl⟩ | exact ⟨(tv_1 (by omega)).symm, rfl⟩)

set_option maxRecDepth 100000 in
set_option maxHeartbeats 4000000 in
theorem ct_X2_pieceWorth {l : Launch} {D : va_G} {cA : Nat → ClassId} {μ : Mem} (c s t d : Int) : CtN l D cA yX2_pieceWorth cX2_pieceWorth 4 (some .int) 1 [vi c, vi s, vi t, vi d] μ (Pi (fun x μ' => x = pvW s t d c ∧ μ' = μ)) := by
  refine Ct.of (own := RX2) (by decide +kernel) rfl (fun σ => Nat.le_of_ble_eq_true rfl) (fun hM hP ha => ?_)
  refine go_iload_n dX2_pieceWorth_0 rfl ?_
  refine go_if_lt (tgt := 6) dX2_pieceWorth_1 rfl (fun h1 => ?_) (fun h1 => ?_)
  ·
    refine go_iload_n dX2_pieceWorth_6 rfl ?_
    refine go_bipush dX2_pieceWorth_7 rfl (by decide) ?_
    refine go_icmp_ne (tgt := 14) dX2_pieceWorth_9 rfl (fun h9 => ?_) (fun h9 => ?_)
    ·
      refine go_iload_n dX2_pieceWorth_14 rfl ?_
      refine go_bipush dX2_pieceWorth_15 rfl (by decide) ?_
      refine go_icmp_ne (tgt := 24) dX2_pieceWorth_17 rfl (fun h17 => ?_) (fun h17 => ?_)
      ·
        refine go_iload_n dX2_pieceWorth_24 rfl ?_
        exact go_ri dX2_pieceWorth_25 tyI ⟨Nat.le_refl _, Nat.le_refl _⟩ (⟨by unfold pvW; first | rw [if_pos (by omega)] | (rw [if_neg (by omega)]; first | rw [if_pos (by omega)] | (rw [if_neg (by omega)]; first | rw [if_pos (by omega)] | rw [if_neg (by omega)])), rfl⟩)
      ·
        refine go_iload_n dX2_pieceWorth_20 rfl ?_
        refine go_goto (tgt := 25) dX2_pieceWorth_21 rfl ?_
        exact go_ri dX2_pieceWorth_25 tyI ⟨Nat.le_refl _, Nat.le_refl _⟩ (⟨by unfold pvW; first | rw [if_pos (by omega)] | (rw [if_neg (by omega)]; first | rw [if_pos (by omega)] | (rw [if_neg (by omega)]; first | rw [if_pos (by omega)] | rw [if_neg (by omega)])), rfl⟩)
    ·
      refine go_iload_n dX2_pieceWorth_12 rfl ?_
      exact go_ri dX2_pieceWorth_13 tyI ⟨Nat.le_refl _, Nat.le_refl _⟩ (⟨by unfold pvW; first | rw [if_pos (by omega)] | (rw [if_neg (by omega)]; first | rw [if_pos (by omega)] | (rw [if_neg (by omega)]; first | rw [if_pos (by omega)] | rw [if_neg (by omega)])), rfl⟩)
  ·
    refine go_iload_n dX2_pieceWorth_4 rfl ?_
    exact go_ri dX2_pieceWorth_5 tyI ⟨Nat.le_refl _, Nat.le_refl _⟩ (⟨by unfold pvW; first | rw [if_pos (by omega)] | (rw [if_neg (by omega)]; first | rw [if_pos (by omega)] | (rw [if_neg (by omega)]; first | rw [if_pos (by omega)] | rw [if_neg (by omega)])), rfl⟩)

set_option maxRecDepth 100000 in
set_option maxHeartbeats 4000000 in
theorem ct_X2_joined {l : Launch} {D : va_G} {cA : Nat → ClassId} {μ : Mem} (c a b : Int) : CtN l D cA yX2_joined cX2_joined 3 (some .int) 1 [vi c, vi a, vi b] μ (Pi (fun x μ' => x = joinI c a b ∧ μ' = μ)) := by
  refine Ct.of (own := RX2) (by decide +kernel) rfl (fun σ => Nat.le_of_ble_eq_true rfl) (fun hM hP ha => ?_)
  refine go_iload_n dX2_joined_0 rfl ?_
  refine go_case (38) (fun h1_38 => ?_) (fun h1_38 => ?_)
  ·
    refine go_lookup (tgt := 90) dX2_joined_1 rfl (by rw [h1_38]; try rfl) rfl ?_
    refine go_iload_n dX2_joined_90 rfl ?_
    first | refine go_bz (tgt := 102) dX2_joined_91 rfl (fun h91 => ?_) (fun h91 => ?_) | refine go_if_eq (tgt := 102) dX2_joined_91 rfl (fun h91 => ?_) (fun h91 => ?_)
    ·
      refine go_iconst dX2_joined_102 rfl ?_
      exact go_ri dX2_joined_103 tyI ⟨Nat.le_refl _, Nat.le_refl _⟩ (⟨by unfold joinI; simp [*], rfl⟩)
    ·
      refine go_iload_n dX2_joined_94 rfl ?_
      first | refine go_bz (tgt := 102) dX2_joined_95 rfl (fun h95 => ?_) (fun h95 => ?_) | refine go_if_eq (tgt := 102) dX2_joined_95 rfl (fun h95 => ?_) (fun h95 => ?_)
      ·
        refine go_iconst dX2_joined_102 rfl ?_
        exact go_ri dX2_joined_103 tyI ⟨Nat.le_refl _, Nat.le_refl _⟩ (⟨by unfold joinI; simp [*], rfl⟩)
      ·
        refine go_iconst dX2_joined_98 rfl ?_
        refine go_goto (tgt := 103) dX2_joined_99 rfl ?_
        exact go_ri dX2_joined_103 tyI ⟨Nat.le_refl _, Nat.le_refl _⟩ (⟨by unfold joinI; simp [*], rfl⟩)
  refine go_case (42) (fun h1_42 => ?_) (fun h1_42 => ?_)
  ·
    refine go_lookup (tgt := 145) dX2_joined_1 rfl (by rw [h1_42]; try rfl) rfl ?_
    refine go_iload_n dX2_joined_145 rfl ?_
    refine go_iload_n dX2_joined_146 rfl ?_
    refine go_imulw dX2_joined_147 ?_
    exact go_ri dX2_joined_148 tyI ⟨Nat.le_refl _, Nat.le_refl _⟩ (⟨by unfold joinI; simp [*], rfl⟩)
  refine go_case (43) (fun h1_43 => ?_) (fun h1_43 => ?_)
  ·
    refine go_lookup (tgt := 137) dX2_joined_1 rfl (by rw [h1_43]; try rfl) rfl ?_
    refine go_iload_n dX2_joined_137 rfl ?_
    refine go_iload_n dX2_joined_138 rfl ?_
    refine go_iaddw dX2_joined_139 ?_
    exact go_ri dX2_joined_140 tyI ⟨Nat.le_refl _, Nat.le_refl _⟩ (⟨by unfold joinI; simp [*], rfl⟩)
  refine go_case (45) (fun h1_45 => ?_) (fun h1_45 => ?_)
  ·
    refine go_lookup (tgt := 141) dX2_joined_1 rfl (by rw [h1_45]; try rfl) rfl ?_
    refine go_iload_n dX2_joined_141 rfl ?_
    refine go_iload_n dX2_joined_142 rfl ?_
    refine go_isubw dX2_joined_143 ?_
    exact go_ri dX2_joined_144 tyI ⟨Nat.le_refl _, Nat.le_refl _⟩ (⟨by unfold joinI; simp [*], rfl⟩)
  refine go_case (60) (fun h1_60 => ?_) (fun h1_60 => ?_)
  ·
    refine go_lookup (tgt := 104) dX2_joined_1 rfl (by rw [h1_60]; try rfl) rfl ?_
    refine go_iload_n dX2_joined_104 rfl ?_
    refine go_iload_n dX2_joined_105 rfl ?_
    refine go_icmp_ge (tgt := 113) dX2_joined_106 rfl (fun h106 => ?_) (fun h106 => ?_)
    ·
      refine go_iconst dX2_joined_113 rfl ?_
      exact go_ri dX2_joined_114 tyI ⟨Nat.le_refl _, Nat.le_refl _⟩ (⟨by unfold joinI; simp [*], rfl⟩)
    ·
      refine go_iconst dX2_joined_109 rfl ?_
      refine go_goto (tgt := 114) dX2_joined_110 rfl ?_
      exact go_ri dX2_joined_114 tyI ⟨Nat.le_refl _, Nat.le_refl _⟩ (⟨by unfold joinI; simp [*], rfl⟩)
  refine go_case (61) (fun h1_61 => ?_) (fun h1_61 => ?_)
  ·
    refine go_lookup (tgt := 115) dX2_joined_1 rfl (by rw [h1_61]; try rfl) rfl ?_
    refine go_iload_n dX2_joined_115 rfl ?_
    refine go_iload_n dX2_joined_116 rfl ?_
    refine go_icmp_ne (tgt := 124) dX2_joined_117 rfl (fun h117 => ?_) (fun h117 => ?_)
    ·
      refine go_iconst dX2_joined_124 rfl ?_
      exact go_ri dX2_joined_125 tyI ⟨Nat.le_refl _, Nat.le_refl _⟩ (⟨by unfold joinI; simp [*], rfl⟩)
    ·
      refine go_iconst dX2_joined_120 rfl ?_
      refine go_goto (tgt := 125) dX2_joined_121 rfl ?_
      exact go_ri dX2_joined_125 tyI ⟨Nat.le_refl _, Nat.le_refl _⟩ (⟨by unfold joinI; simp [*], rfl⟩)
  refine go_case (62) (fun h1_62 => ?_) (fun h1_62 => ?_)
  ·
    refine go_lookup (tgt := 126) dX2_joined_1 rfl (by rw [h1_62]; try rfl) rfl ?_
    refine go_iload_n dX2_joined_126 rfl ?_
    refine go_iload_n dX2_joined_127 rfl ?_
    refine go_icmp_le (tgt := 135) dX2_joined_128 rfl (fun h128 => ?_) (fun h128 => ?_)
    ·
      refine go_iconst dX2_joined_135 rfl ?_
      exact go_ri dX2_joined_136 tyI ⟨Nat.le_refl _, Nat.le_refl _⟩ (⟨by unfold joinI; simp [*], rfl⟩)
    ·
      refine go_iconst dX2_joined_131 rfl ?_
      refine go_goto (tgt := 136) dX2_joined_132 rfl ?_
      exact go_ri dX2_joined_136 tyI ⟨Nat.le_refl _, Nat.le_refl _⟩ (⟨by unfold joinI; simp [*], rfl⟩)
  refine go_case (124) (fun h1_124 => ?_) (fun h1_124 => ?_)
  ·
    refine go_lookup (tgt := 76) dX2_joined_1 rfl (by rw [h1_124]; try rfl) rfl ?_
    refine go_iload_n dX2_joined_76 rfl ?_
    first | refine go_bnz (tgt := 84) dX2_joined_77 rfl (fun h77 => ?_) (fun h77 => ?_) | refine go_if_ne (tgt := 84) dX2_joined_77 rfl (fun h77 => ?_) (fun h77 => ?_)
    ·
      refine go_iconst dX2_joined_84 rfl ?_
      refine go_goto (tgt := 89) dX2_joined_85 rfl ?_
      exact go_ri dX2_joined_89 tyI ⟨Nat.le_refl _, Nat.le_refl _⟩ (⟨by unfold joinI; simp [*], rfl⟩)
    ·
      refine go_iload_n dX2_joined_80 rfl ?_
      first | refine go_bz (tgt := 88) dX2_joined_81 rfl (fun h81 => ?_) (fun h81 => ?_) | refine go_if_eq (tgt := 88) dX2_joined_81 rfl (fun h81 => ?_) (fun h81 => ?_)
      ·
        refine go_iconst dX2_joined_88 rfl ?_
        exact go_ri dX2_joined_89 tyI ⟨Nat.le_refl _, Nat.le_refl _⟩ (⟨by unfold joinI; simp [*], rfl⟩)
      ·
        refine go_iconst dX2_joined_84 rfl ?_
        refine go_goto (tgt := 89) dX2_joined_85 rfl ?_
        exact go_ri dX2_joined_89 tyI ⟨Nat.le_refl _, Nat.le_refl _⟩ (⟨by unfold joinI; simp [*], rfl⟩)
  refine go_lookup (tgt := 149) (off := 148) dX2_joined_1 rfl (by simp [Op.lookupswitch.offset, Ne.symm h1_38, Ne.symm h1_42, Ne.symm h1_43, Ne.symm h1_45, Ne.symm h1_60, Ne.symm h1_61, Ne.symm h1_62, Ne.symm h1_124]) rfl ?_
  refine go_iload_n dX2_joined_149 rfl ?_
  first | refine go_bnz (tgt := 157) dX2_joined_150 rfl (fun h150 => ?_) (fun h150 => ?_) | refine go_if_ne (tgt := 157) dX2_joined_150 rfl (fun h150 => ?_) (fun h150 => ?_)
  ·
    refine go_iload_n dX2_joined_157 rfl ?_
    refine go_iload_n dX2_joined_158 rfl ?_
    refine go_idivw dX2_joined_159 (by omega) ?_
    exact go_ri dX2_joined_160 tyI ⟨Nat.le_refl _, Nat.le_refl _⟩ (⟨by unfold joinI; simp [*], rfl⟩)
  ·
    refine go_iconst dX2_joined_153 rfl ?_
    refine go_goto (tgt := 160) dX2_joined_154 rfl ?_
    exact go_ri dX2_joined_160 tyI ⟨Nat.le_refl _, Nat.le_refl _⟩ (⟨by unfold joinI; simp [*], rfl⟩)

set_option maxRecDepth 100000 in
set_option maxHeartbeats 4000000 in
theorem ct_X2_lastOf {l : Launch} {D : va_G} {cA : Nat → ClassId} {μ : Mem} (key t : Int) (h0 : 0 ≤ t) (h1 : t ≤ 14) : CtN l D cA yX2_lastOf cX2_lastOf 4 (some .int) 2 [vr 1, vi key, vi t] μ (Pi (fun x μ' => x = onI (lastK (fun i => μ (4 + 2 * i) 0) key (t.toNat)) ∧ μ' = μ)) := by
  refine Ct.of (own := RX2) (by decide +kernel) rfl (fun σ => Nat.le_of_ble_eq_true rfl) (fun hM hP ha => ?_)
  have loop : ∀ (m : Nat) (i : Int), m ≤ 14 → i = (m : Int) - 1 → Go l D cA none RX2 cX2_lastOf 4 (some .int) (2, 0, 0) (QN (Pi (fun x μ' => x = onI (lastK (fun i => μ (4 + 2 * i) 0) key (m)) ∧ μ' = μ))) 113 ρ0 0 0 9 [(0, vr 1), (1, vi key), (2, vi t), (3, vi i)] [] μ := by
    intro m
    induction m with
    | zero =>
      intro i hm hi
      refine go_iload_n dX2_lastOf_9 rfl ?_
      refine go_if_lt (tgt := 34) dX2_lastOf_10 rfl (fun h10 => ?_) (fun h10 => ?_)
      ·
        refine go_ldc dX2_lastOf_34 kc_X2_32 rfl ?_
        exact go_ri dX2_lastOf_36 tyI ⟨Nat.le_refl _, Nat.le_refl _⟩ (⟨rfl, rfl⟩)
      ·
        exact absurd h10 (by omega)
    | succ m ih =>
      intro i hm hi
      refine go_iload_n dX2_lastOf_9 rfl ?_
      refine go_if_lt (tgt := 34) dX2_lastOf_10 rfl (fun h10 => ?_) (fun h10 => ?_)
      ·
        exact absurd h10 (by omega)
      ·
        refine go_aload_n dX2_lastOf_13 rfl ?_
        refine go_getR dX2_lastOf_14 fl_X2_11 (by first | assumption | exact Nat.le_of_ble_eq_true rfl) (by first | assumption | rfl) rfl (by first | assumption | rfl) ?_
        refine go_iload_n dX2_lastOf_17 rfl ?_
        refine go_rows dX2_lastOf_18 (by omega) (by omega) (fun hj18_0 hj18_1 hj18_2 hj18_3 hj18_4 => ?_)
        refine go_getI 0 dX2_lastOf_19 fl_X2_28 (by first | assumption | exact Nat.le_of_ble_eq_true rfl) (by first | assumption | rfl) rfl rfl ?_
        refine go_iload_n dX2_lastOf_22 rfl ?_
        refine go_icmp_ne (tgt := 28) dX2_lastOf_23 rfl (fun h23 => ?_) (fun h23 => ?_)
        ·
          refine go_iinc dX2_lastOf_28 rfl rfl ⟨by omega, by omega⟩ ?_
          refine go_goto (tgt := 9) dX2_lastOf_31 rfl ?_
          rw [show lastK (fun i => μ (4 + 2 * i) 0) key (m + 1) = lastK (fun i => μ (4 + 2 * i) 0) key m from if_neg (fun e => h23 (by rw [← e]; congr 2; omega))]
          exact go_drop (ih _ (by omega) (by omega)) rfl
        ·
          refine go_iload_n dX2_lastOf_26 rfl ?_
          exact go_ri dX2_lastOf_27 tyI ⟨Nat.le_refl _, Nat.le_refl _⟩ (⟨by rw [show lastK (fun i => μ (4 + 2 * i) 0) key (m + 1) = some m from if_pos (by rw [← h23]; congr 2; omega)]; show _ = ((m : Nat) : Int); omega, rfl⟩)
  refine go_iload_n dX2_lastOf_0 rfl ?_
  refine go_bipush dX2_lastOf_1 rfl (by decide) ?_
  refine go_min dX2_lastOf_3 mw_X2_22 rfl rfl ⟨Nat.le_refl _, Nat.le_refl _⟩ ?_
  refine go_iconst dX2_lastOf_6 rfl ?_
  refine go_isub dX2_lastOf_7 ⟨by omega, by omega⟩ ?_
  refine go_istore_n dX2_lastOf_8 rfl ?_
  exact go_drop (loop t.toNat _ (by omega) (by omega)) rfl

theorem evS_succ {pv : Int → Int} {g : Nat → Int} {n : Nat} : evS pv ((List.range (n + 1)).map g) = stE pv (evS pv ((List.range n).map g)) (g n) := by
  unfold evS
  rw [List.range_succ, List.map_append, List.foldl_append]
  rfl

theorem stE_not {pv : Int → Int} {x : Int} {t : List Int} : stE pv (x :: t) (-33) = (if x = 0 then 1 else 0) :: t := by simp [stE]
theorem one_of {S : List Int} (h : 1 ≤ S.length) : ∃ x t, S = x :: t := by
  match S, h with
  | x :: t, _ => exact ⟨x, t, rfl⟩
theorem two_of {S : List Int} (h : 2 ≤ S.length) : ∃ x y t, S = x :: y :: t := by
  match S, h with
  | x :: y :: t, _ => exact ⟨x, y, t, rfl⟩
theorem stE_not0 {pv : Int → Int} : stE pv [] (-33) = [] := by simp [stE]
theorem stE_pc {pv : Int → Int} {S : List Int} {c : Int} (h : c ≠ -33) (hp : 0 ≤ c ∨ (97 ≤ -c ∧ -c ≤ 122)) : stE pv S c = pv c :: S := by
  unfold stE; rw [if_neg h, if_pos hp]
theorem stE_bin {pv : Int → Int} {b a : Int} {t : List Int} {c : Int} (h : c ≠ -33) (hp : ¬ (0 ≤ c ∨ (97 ≤ -c ∧ -c ≤ 122))) : stE pv (b :: a :: t) c = joinI (-c) a b :: t := by
  unfold stE; rw [if_neg h, if_neg hp]
theorem stE_few {pv : Int → Int} {S : List Int} {c : Int} (hp : ¬ (0 ≤ c ∨ (97 ≤ -c ∧ -c ≤ 122))) (hl : S.length < 2) (h : c = -33 → S = []) : stE pv S c = S := by
  unfold stE
  by_cases h1 : c = -33
  · rw [if_pos h1, h h1]
  · rw [if_neg h1, if_neg hp]
    match S, hl with
    | [], _ => rfl
    | [x], _ => rfl

set_option maxRecDepth 100000 in
set_option maxHeartbeats 4000000 in
theorem ct_X2_worth {l : Launch} {D : va_G} {cA : Nat → ClassId} {μ : Mem} (i s t d : Int) (hi0 : 0 ≤ i) (hi1 : i < 14) (hlen0 : 0 ≤ μ (4 + 2 * i.toNat) 2) (hlen1 : μ (4 + 2 * i.toNat) 2 ≤ 96) (hcodes : ∀ q, 0 ≤ q → q < μ (4 + 2 * i.toNat) 2 → -200 ≤ μ ((4 + 2 * i.toNat) + 1) q ∧ μ ((4 + 2 * i.toNat) + 1) q ≤ 9999) (hne0 : evS (pvW s t d) ((List.range (μ (4 + 2 * i.toNat) 2).toNat).map (fun k : Nat => μ ((4 + 2 * i.toNat) + 1) k)) ≠ []) : CtN l D cA yX2_worth cX2_worth 9 (some .int) 3 [vr 1, vi i, vi s, vi t, vi d] μ (Pi (fun x μ' => x = evL (pvW s t d) ((List.range (μ (4 + 2 * i.toNat) 2).toNat).map (fun k : Nat => μ (4 + 2 * i.toNat + 1) k)) ∧ ∀ q, q ≠ 3 → μ' q = μ q)) := by
  refine Ct.of (own := RX2) (by decide +kernel) rfl (fun σ => Nat.le_of_ble_eq_true rfl) (fun hM hP ha => ?_)
  obtain ⟨_, _, hJ0, hJ1, hJ2, hJ3, hJ4⟩ := lw_f (show isLw (4 + 2 * i.toNat) by unfold isLw; omega)
  have loop : ∀ (m : Nat) (q top : Int) (μ1 : Mem) (S : List Int), (μ (4 + 2 * i.toNat) 2) - q = m → 0 ≤ q → S = evS (pvW s t d) ((List.range q.toNat).map (fun k : Nat => μ ((4 + 2 * i.toNat) + 1) k)) → top = (S.length : Nat) → top ≤ q → stk (μ1 3) S → (∀ r, r ≠ 3 → μ1 r = μ r) → Go l D cA none RX2 cX2_worth 9 (some .int) (3, 0, 0) (QN (Pi (fun x μ' => x = evL (pvW s t d) ((List.range (μ (4 + 2 * i.toNat) 2).toNat).map (fun k : Nat => μ (4 + 2 * i.toNat + 1) k)) ∧ ∀ q, q ≠ 3 → μ' q = μ q))) 113 ρ0 0 0 14 [(0, vr 1), (1, vi i), (2, vi s), (3, vi t), (4, vi d), (5, vr (4 + 2 * i.toNat)), (6, vi top), (7, vi q)] [] μ1 := by
    intro m
    induction m with
    | zero =>
      intro q top μ1 S hm h0 hS htop htq hst hf
      refine go_iload dX2_worth_14 rfl ?_
      have eL : μ1 (4 + 2 * i.toNat) = μ (4 + 2 * i.toNat) := hf _ (by omega)
      have eC : μ1 ((4 + 2 * i.toNat) + 1) = μ ((4 + 2 * i.toNat) + 1) := hf _ (by omega)
      refine go_aload dX2_worth_16 rfl ?_
      refine go_getI 2 dX2_worth_18 fl_X2_33 (by first | assumption | exact Nat.le_of_ble_eq_true rfl) (by first | assumption | rfl) rfl rfl ?_
      refine go_icmp_ge (tgt := 151) dX2_worth_21 rfl (fun h21 => ?_) (fun h21 => ?_)
      ·
        refine go_aload_n dX2_worth_151 rfl ?_
        refine go_getR dX2_worth_152 fl_X2_17 (by first | assumption | exact Nat.le_of_ble_eq_true rfl) (by first | assumption | rfl) rfl (by first | assumption | rfl) ?_
        refine go_iconst dX2_worth_155 rfl ?_
        refine go_iaload dX2_worth_156 (by first | assumption | exact Nat.le_of_ble_eq_true rfl) (by first | assumption | rfl) (by omega) (by omega) ?_
        exact go_ri dX2_worth_157 tyI ⟨Nat.le_refl _, Nat.le_refl _⟩ (⟨by rw [show q = μ (4 + 2 * i.toNat) 2 by omega] at hS; rw [stk_last hst (by rw [hS]; exact hne0), hS]; rfl, hf⟩)
      ·
        exact absurd h21 (by rw [eL]; omega)
    | succ m ih =>
      intro q top μ1 S hm h0 hS htop htq hst hf
      refine go_iload dX2_worth_14 rfl ?_
      have eL : μ1 (4 + 2 * i.toNat) = μ (4 + 2 * i.toNat) := hf _ (by omega)
      have eC : μ1 ((4 + 2 * i.toNat) + 1) = μ ((4 + 2 * i.toNat) + 1) := hf _ (by omega)
      refine go_aload dX2_worth_16 rfl ?_
      refine go_getI 2 dX2_worth_18 fl_X2_33 (by first | assumption | exact Nat.le_of_ble_eq_true rfl) (by first | assumption | rfl) rfl rfl ?_
      refine go_icmp_ge (tgt := 151) dX2_worth_21 rfl (fun h21 => ?_) (fun h21 => ?_)
      ·
        exact absurd h21 (by rw [eL]; omega)
      ·
        have hq2 : ((q.toNat : Nat) : Int) = q := by omega
        refine go_aload dX2_worth_24 rfl ?_
        refine go_getR dX2_worth_26 fl_X2_36 (by first | assumption | exact Nat.le_of_ble_eq_true rfl) (by first | assumption | rfl) rfl (by first | assumption | rfl) ?_
        refine go_iload dX2_worth_29 rfl ?_
        refine go_iaload dX2_worth_31 (by first | assumption | exact Nat.le_of_ble_eq_true rfl) (by first | assumption | rfl) (by omega) (by omega) ?_
        refine go_istore dX2_worth_32 rfl ?_
        have hcd := hcodes q h0 (by rw [eL] at h21; omega)
        rw [eC]
        refine go_iload dX2_worth_34 rfl ?_
        refine go_bipush dX2_worth_36 rfl (by decide) ?_
        refine go_icmp_ne (tgt := 75) dX2_worth_38 rfl (fun h38 => ?_) (fun h38 => ?_)
        ·
          have hne : ¬ (μ ((4 + 2 * i.toNat) + 1) q = -33) := h38
          refine go_iload dX2_worth_75 rfl ?_
          refine go_sI dX2_worth_77 (ct_X2_isPiece _ (by omega)) ml_X2_39 mc_X2_isPiece ms_X2_isPiece ⟨rfl, rfl⟩ ⟨Nat.le_refl _, Nat.le_refl _⟩ rfl rfl rfl (fun x77 μ77 hc77 => ?_)
          obtain ⟨rfl, hm77⟩ := hc77
          rw [hm77]
          first | refine go_bz (tgt := 105) dX2_worth_80 rfl (fun h80 => ?_) (fun h80 => ?_) | refine go_if_eq (tgt := 105) dX2_worth_80 rfl (fun h80 => ?_) (fun h80 => ?_)
          ·
            refine go_iload dX2_worth_105 rfl ?_
            refine go_iconst dX2_worth_107 rfl ?_
            refine go_icmp_le (tgt := 145) dX2_worth_108 rfl (fun h108 => ?_) (fun h108 => ?_)
            ·
              refine go_iinc dX2_worth_145 rfl rfl ⟨by omega, by omega⟩ ?_
              refine go_goto (tgt := 14) dX2_worth_148 rfl ?_
              exact go_drop (ih (q + 1) _ _ S (by omega) (by omega) (by rw [show (q + 1).toNat = q.toNat + 1 by omega, evS_succ, ← hS, hq2]; exact (stE_few h80 (by omega) (fun e => List.length_eq_zero_iff.mp (by omega))).symm) htop (by omega) hst hf) rfl
            ·
              obtain ⟨x2, y2, t2, rfl⟩ := two_of (S := S) (by omega)
              have hl2 : ((x2 :: y2 :: t2).length : Int) = t2.length + 2 := by simp; omega
              have hx : μ1 3 (top + -1) = x2 := by rw [show top + -1 = ((y2 :: t2).length : Nat) by simp; omega]; exact hst.1
              have hy : μ1 3 (top + -1 - 1) = y2 := by rw [show top + -1 - 1 = (t2.length : Nat) by omega]; exact hst.2.1
              refine go_iinc dX2_worth_111 rfl rfl ⟨by omega, by omega⟩ ?_
              refine go_aload_n dX2_worth_114 rfl ?_
              refine go_getR dX2_worth_115 fl_X2_17 (by first | assumption | exact Nat.le_of_ble_eq_true rfl) (by first | assumption | rfl) rfl (by first | assumption | rfl) ?_
              refine go_iload dX2_worth_118 rfl ?_
              refine go_iconst dX2_worth_120 rfl ?_
              refine go_isub dX2_worth_121 ⟨by omega, by omega⟩ ?_
              refine go_iload dX2_worth_122 rfl ?_
              refine go_ineg dX2_worth_124 ?_
              rw [show wr (-(μ ((4 + 2 * i.toNat) + 1) q)) = -(μ ((4 + 2 * i.toNat) + 1) q) from wr_id ⟨by omega, by omega⟩]
              refine go_aload_n dX2_worth_125 rfl ?_
              refine go_getR dX2_worth_126 fl_X2_17 (by first | assumption | exact Nat.le_of_ble_eq_true rfl) (by first | assumption | rfl) rfl (by first | assumption | rfl) ?_
              refine go_iload dX2_worth_129 rfl ?_
              refine go_iconst dX2_worth_131 rfl ?_
              refine go_isub dX2_worth_132 ⟨by omega, by omega⟩ ?_
              refine go_iaload dX2_worth_133 (by first | assumption | exact Nat.le_of_ble_eq_true rfl) (by first | assumption | rfl) (by omega) (by omega) ?_
              try simp (disch := omega) only [ud, ua_same, ua_ne, uf_same, uf_ne]
              refine go_aload_n dX2_worth_134 rfl ?_
              refine go_getR dX2_worth_135 fl_X2_17 (by first | assumption | exact Nat.le_of_ble_eq_true rfl) (by first | assumption | rfl) rfl (by first | assumption | rfl) ?_
              refine go_iload dX2_worth_138 rfl ?_
              refine go_iaload dX2_worth_140 (by first | assumption | exact Nat.le_of_ble_eq_true rfl) (by first | assumption | rfl) (by omega) (by omega) ?_
              try simp (disch := omega) only [ud, ua_same, ua_ne, uf_same, uf_ne]
              refine go_sI dX2_worth_141 (ct_X2_joined _ _ _) ml_X2_47 mc_X2_joined ms_X2_joined ⟨rfl, rfl⟩ ⟨Nat.le_refl _, Nat.le_refl _⟩ rfl rfl rfl (fun x141 μ141 hc141 => ?_)
              obtain ⟨rfl, hm141⟩ := hc141
              rw [hm141]
              rw [hx, hy]
              refine go_iastore dX2_worth_144 (by first | assumption | exact Nat.le_of_ble_eq_true rfl) (by first | assumption | rfl) (by omega) (by omega) ?_
              refine go_iinc dX2_worth_145 rfl rfl ⟨by omega, by omega⟩ ?_
              refine go_goto (tgt := 14) dX2_worth_148 rfl ?_
              refine go_drop (ih (q + 1) _ _ (joinI (-(μ ((4 + 2 * i.toNat) + 1) q)) y2 x2 :: t2) (by omega) (by omega) (by rw [show (q + 1).toNat = q.toNat + 1 by omega, evS_succ, ← hS, hq2]; exact (stE_bin hne h80).symm) (by simp at htop ⊢; omega) (by omega) ?_ (fun r hr => (ua_ne hr).trans (hf r hr))) rfl
              rw [ud_s, show top + -1 - 1 = (t2.length : Nat) by omega]
              exact ⟨uf_same _ _ _, stk_uf hst.2.2 (by omega)⟩
          ·
            refine go_aload_n dX2_worth_83 rfl ?_
            refine go_getR dX2_worth_84 fl_X2_17 (by first | assumption | exact Nat.le_of_ble_eq_true rfl) (by first | assumption | rfl) rfl (by first | assumption | rfl) ?_
            refine go_iload dX2_worth_87 rfl ?_
            refine go_iload dX2_worth_89 rfl ?_
            refine go_iload_n dX2_worth_91 rfl ?_
            refine go_iload_n dX2_worth_92 rfl ?_
            refine go_iload dX2_worth_93 rfl ?_
            refine go_sI dX2_worth_95 (ct_X2_pieceWorth _ _ _ _) ml_X2_43 mc_X2_pieceWorth ms_X2_pieceWorth ⟨rfl, rfl⟩ ⟨Nat.le_refl _, Nat.le_refl _⟩ rfl rfl rfl (fun x95 μ95 hc95 => ?_)
            obtain ⟨rfl, hm95⟩ := hc95
            rw [hm95]
            refine go_iastore dX2_worth_98 (by first | assumption | exact Nat.le_of_ble_eq_true rfl) (by first | assumption | rfl) (by omega) (by omega) ?_
            refine go_iinc dX2_worth_99 rfl rfl ⟨by omega, by omega⟩ ?_
            refine go_goto (tgt := 145) dX2_worth_102 rfl ?_
            refine go_iinc dX2_worth_145 rfl rfl ⟨by omega, by omega⟩ ?_
            refine go_goto (tgt := 14) dX2_worth_148 rfl ?_
            refine go_drop (ih (q + 1) _ _ (pvW s t d (μ ((4 + 2 * i.toNat) + 1) q) :: S) (by omega) (by omega) (by rw [show (q + 1).toNat = q.toNat + 1 by omega, evS_succ, ← hS, hq2]; exact (stE_pc hne h80).symm) (by simp; omega) (by omega) ?_ (fun r hr => (ua_ne hr).trans (hf r hr))) rfl
            rw [ud_s, htop]
            exact ⟨uf_same _ _ _, stk_uf hst (by omega)⟩
        ·
          refine go_iload dX2_worth_41 rfl ?_
          refine go_if_le (tgt := 75) dX2_worth_43 rfl (fun h43 => ?_) (fun h43 => ?_)
          ·
            refine go_iload dX2_worth_75 rfl ?_
            refine go_sI dX2_worth_77 (ct_X2_isPiece _ (by omega)) ml_X2_39 mc_X2_isPiece ms_X2_isPiece ⟨rfl, rfl⟩ ⟨Nat.le_refl _, Nat.le_refl _⟩ rfl rfl rfl (fun x77 μ77 hc77 => ?_)
            obtain ⟨rfl, hm77⟩ := hc77
            rw [hm77]
            first | refine go_bz (tgt := 105) dX2_worth_80 rfl (fun h80 => ?_) (fun h80 => ?_) | refine go_if_eq (tgt := 105) dX2_worth_80 rfl (fun h80 => ?_) (fun h80 => ?_)
            ·
              refine go_iload dX2_worth_105 rfl ?_
              refine go_iconst dX2_worth_107 rfl ?_
              refine go_icmp_le (tgt := 145) dX2_worth_108 rfl (fun h108 => ?_) (fun h108 => ?_)
              ·
                refine go_iinc dX2_worth_145 rfl rfl ⟨by omega, by omega⟩ ?_
                refine go_goto (tgt := 14) dX2_worth_148 rfl ?_
                exact go_drop (ih (q + 1) _ _ S (by omega) (by omega) (by rw [show (q + 1).toNat = q.toNat + 1 by omega, evS_succ, ← hS, hq2]; exact (stE_few h80 (by omega) (fun e => List.length_eq_zero_iff.mp (by omega))).symm) htop (by omega) hst hf) rfl
              ·
                exact absurd h108 (by omega)
            ·
              exact absurd h80 (by omega)
          ·
            obtain ⟨x, t2, rfl⟩ := one_of (S := S) (by omega)
            have hl2 : ((x :: t2).length : Int) = t2.length + 1 := by simp
            have hx : μ1 3 (top - 1) = x := by rw [show top - 1 = (t2.length : Nat) by omega]; exact hst.1
            refine go_aload_n dX2_worth_46 rfl ?_
            refine go_getR dX2_worth_47 fl_X2_17 (by first | assumption | exact Nat.le_of_ble_eq_true rfl) (by first | assumption | rfl) rfl (by first | assumption | rfl) ?_
            refine go_iload dX2_worth_50 rfl ?_
            refine go_iconst dX2_worth_52 rfl ?_
            refine go_isub dX2_worth_53 ⟨by omega, by omega⟩ ?_
            refine go_aload_n dX2_worth_54 rfl ?_
            refine go_getR dX2_worth_55 fl_X2_17 (by first | assumption | exact Nat.le_of_ble_eq_true rfl) (by first | assumption | rfl) rfl (by first | assumption | rfl) ?_
            refine go_iload dX2_worth_58 rfl ?_
            refine go_iconst dX2_worth_60 rfl ?_
            refine go_isub dX2_worth_61 ⟨by omega, by omega⟩ ?_
            refine go_iaload dX2_worth_62 (by first | assumption | exact Nat.le_of_ble_eq_true rfl) (by first | assumption | rfl) (by omega) (by omega) ?_
            rw [hx]
            first | refine go_bnz (tgt := 70) dX2_worth_63 rfl (fun h63 => ?_) (fun h63 => ?_) | refine go_if_ne (tgt := 70) dX2_worth_63 rfl (fun h63 => ?_) (fun h63 => ?_)
            ·
              refine go_iconst dX2_worth_70 rfl ?_
              refine go_iastore dX2_worth_71 (by first | assumption | exact Nat.le_of_ble_eq_true rfl) (by first | assumption | rfl) (by omega) (by omega) ?_
              refine go_goto (tgt := 145) dX2_worth_72 rfl ?_
              refine go_iinc dX2_worth_145 rfl rfl ⟨by omega, by omega⟩ ?_
              refine go_goto (tgt := 14) dX2_worth_148 rfl ?_
              refine go_drop (ih (q + 1) _ _ (0 :: t2) (by omega) (by omega) (by rw [show (q + 1).toNat = q.toNat + 1 by omega, evS_succ, ← hS, hq2]; exact (by rw [h38, stE_not, if_neg h63])) (by simp; omega) (by omega) ?_ (fun r hr => (ua_ne hr).trans (hf r hr))) rfl
              rw [ud_s, show top - 1 = (t2.length : Nat) by omega]
              exact ⟨uf_same _ _ _, stk_uf hst.2 (by omega)⟩
            ·
              refine go_iconst dX2_worth_66 rfl ?_
              refine go_goto (tgt := 71) dX2_worth_67 rfl ?_
              refine go_iastore dX2_worth_71 (by first | assumption | exact Nat.le_of_ble_eq_true rfl) (by first | assumption | rfl) (by omega) (by omega) ?_
              refine go_goto (tgt := 145) dX2_worth_72 rfl ?_
              refine go_iinc dX2_worth_145 rfl rfl ⟨by omega, by omega⟩ ?_
              refine go_goto (tgt := 14) dX2_worth_148 rfl ?_
              refine go_drop (ih (q + 1) _ _ (1 :: t2) (by omega) (by omega) (by rw [show (q + 1).toNat = q.toNat + 1 by omega, evS_succ, ← hS, hq2]; exact (by rw [h38, stE_not, if_pos h63])) (by simp; omega) (by omega) ?_ (fun r hr => (ua_ne hr).trans (hf r hr))) rfl
              rw [ud_s, show top - 1 = (t2.length : Nat) by omega]
              exact ⟨uf_same _ _ _, stk_uf hst.2 (by omega)⟩
  refine go_aload_n dX2_worth_0 rfl ?_
  refine go_getR dX2_worth_1 fl_X2_11 (by first | assumption | exact Nat.le_of_ble_eq_true rfl) (by first | assumption | rfl) rfl (by first | assumption | rfl) ?_
  refine go_iload_n dX2_worth_4 rfl ?_
  refine go_rows dX2_worth_5 (by omega) (by omega) (fun hj5_0 hj5_1 hj5_2 hj5_3 hj5_4 => ?_)
  refine go_astore dX2_worth_6 rfl ?_
  refine go_iconst dX2_worth_8 rfl ?_
  refine go_istore dX2_worth_9 rfl ?_
  refine go_iconst dX2_worth_11 rfl ?_
  refine go_istore dX2_worth_12 rfl ?_
  exact go_drop (loop (μ (4 + 2 * i.toNat) 2).toNat 0 0 μ [] (by omega) (by omega) rfl rfl (by omega) trivial (fun _ _ => rfl)) rfl

