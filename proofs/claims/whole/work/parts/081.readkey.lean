/-! THE CLASS: keys, the fault of the tape, text -/
def wdP (w : Nat) (B : Int → Int) (b e : Int) : Prop := e - b = 4 ∧ B (b + 0) = wB w 0 ∧ B (b + 1) = wB w 1 ∧ B (b + 2) = wB w 2 ∧ B (b + 3) = wB w 3
def wdP_d (w : Nat) (B : Int → Int) (b e : Int) : Decidable (wdP w B b e) := by unfold wdP; exact inferInstance

theorem wd_at {w : Nat} {B : Int → Int} {b e i : Int} (h : wdP w B b e) (h0 : 0 ≤ i) (h1 : i < 4) : B (b + i) = wB w i.toNat := by
  obtain ⟨_, a0, a1, a2, a3⟩ := h
  rcases (by omega : i = 0 ∨ i = 1 ∨ i = 2 ∨ i = 3) with q | q | q | q <;> subst q
  · exact a0
  · exact a1
  · exact a2
  · exact a3

set_option maxRecDepth 100000 in
set_option maxHeartbeats 4000000 in
theorem ct_X4_isWord {l : Launch} {D : va_G} {cA : Nat → ClassId} {μ : Mem} (w : Nat) (hw : w < 3) (hN0 : 0 ≤ μ 56 1) (hN1 : μ 56 1 ≤ 96) (ha0 : 0 ≤ μ 58 2) (hk : μ 58 4 ≤ μ 56 1) (hk0 : 0 ≤ μ 58 4) (hak : μ 58 2 ≤ μ 58 4) : CtN l D cA yX4_isWord cX4_isWord 3 (some .boolean) 4 [vr 58, vr (1001 + w)] μ (Pi (fun x μ' => x = tv (wdP w (μ 57) (μ 58 2) (μ 58 4)) (wdP_d _ _ _ _) ∧ μ' = μ)) := by
  refine Ct.of (own := RX4) (by decide +kernel) rfl (fun σ => Nat.le_of_ble_eq_true rfl) (fun hM hP ha => ?_)
  have w58_0 : ρ0 58 (0 : Nat) = some 56 := by decide +kernel
  have w58_1 : ρ0 58 (1 : Nat) = some 59 := by decide +kernel
  have w56_0 : ρ0 56 (0 : Nat) = some 57 := by decide +kernel
  have loop : ∀ (m : Nat) (i : Int), 4 - i = (m : Nat) → 0 ≤ i → (μ 58 4 - μ 58 2 = 4) → (∀ q : Int, 0 ≤ q → q < i → μ 57 (μ 58 2 + q) = wB w q.toNat) → Go l D cA none RX4 cX4_isWord 3 (some .boolean) (4, 0, 0) (QN (Pi (fun x μ' => x = tv (wdP w (μ 57) (μ 58 2) (μ 58 4)) (wdP_d _ _ _ _) ∧ μ' = μ))) 113 ρ0 0 0 20 [(0, vr 58), (1, vr (1001 + w)), (2, vi i)] [] μ := by
    intro m
    induction m with
    | zero =>
      intro i  hm hv hke hj
      refine go_iload_n dX4_isWord_20 rfl ?_
      refine go_aload_n dX4_isWord_21 rfl ?_
      refine go_wI dX4_isWord_22 (cw_length w hw) mlW_length mcW_length mvW_length rfl hw ⟨rfl, rfl⟩ ⟨Nat.le_refl _, Nat.le_refl _⟩ rfl rfl rfl (fun x22 μ22 hc22 => ?_)
      obtain ⟨rfl, hm22⟩ := hc22
      rw [hm22]
      refine go_icmp_ge (tgt := 57) dX4_isWord_25 rfl (fun h25 => ?_) (fun h25 => ?_)
      ·
        refine go_iconst dX4_isWord_57 rfl ?_
        exact go_ri dX4_isWord_58 (tyZ (by first | exact Or.inl rfl | exact Or.inr rfl | exact tv_01 | assumption)) ⟨Nat.le_refl _, Nat.le_refl _⟩ (⟨(tv_1 ⟨hke, hj 0 (by omega) (by omega), hj 1 (by omega) (by omega), hj 2 (by omega) (by omega), hj 3 (by omega) (by omega)⟩).symm, rfl⟩)
      ·
        exact absurd h25 (by omega)
    | succ m ih =>
      intro i  hm hv hke hj
      refine go_iload_n dX4_isWord_20 rfl ?_
      refine go_aload_n dX4_isWord_21 rfl ?_
      refine go_wI dX4_isWord_22 (cw_length w hw) mlW_length mcW_length mvW_length rfl hw ⟨rfl, rfl⟩ ⟨Nat.le_refl _, Nat.le_refl _⟩ rfl rfl rfl (fun x22 μ22 hc22 => ?_)
      obtain ⟨rfl, hm22⟩ := hc22
      rw [hm22]
      refine go_icmp_ge (tgt := 57) dX4_isWord_25 rfl (fun h25 => ?_) (fun h25 => ?_)
      ·
        exact absurd h25 (by omega)
      ·
        refine go_aload_n dX4_isWord_28 rfl ?_
        refine go_getR dX4_isWord_29 fl_X4_18 (by first | assumption | exact Nat.le_of_ble_eq_true rfl) (by first | assumption | rfl) rfl (by first | assumption | rfl) ?_
        refine go_aload_n dX4_isWord_32 rfl ?_
        refine go_getI 2 dX4_isWord_33 fl_X4_25 (by first | assumption | exact Nat.le_of_ble_eq_true rfl) (by first | assumption | rfl) rfl rfl ?_
        refine go_iload_n dX4_isWord_36 rfl ?_
        refine go_iadd dX4_isWord_37 ⟨by omega, by omega⟩ ?_
        refine go_vI (ci := 6) dX4_isWord_38 (ct_X7_byteAt hN0 hN1 _ (by omega)) ml_X4_53 mc_X7_byteAt mv_X7_byteAt rfl (by first | assumption | exact Nat.le_of_ble_eq_true rfl) (by first | assumption | rfl) rfl ⟨rfl, rfl⟩ ⟨Nat.le_refl _, Nat.le_refl _⟩ rfl rfl rfl (fun x38 μ38 hc38 => ?_)
        have hba : bA (μ 57) (μ 56 1) (μ 58 2 + i) = μ 57 (μ 58 2 + i) := if_pos (by omega)
        rw [hba] at hc38
        obtain ⟨rfl, hm38⟩ := hc38
        rw [hm38]
        refine go_aload_n dX4_isWord_41 rfl ?_
        refine go_iload_n dX4_isWord_42 rfl ?_
        refine go_wI dX4_isWord_43 (cw_charAt w hw _ hv (by omega)) mlW_charAt mcW_charAt mvW_charAt rfl hw ⟨rfl, rfl⟩ ⟨Nat.le_refl _, Nat.le_refl _⟩ rfl rfl rfl (fun x43 μ43 hc43 => ?_)
        obtain ⟨rfl, hm43⟩ := hc43
        rw [hm43]
        refine go_icmp_eq (tgt := 51) dX4_isWord_46 rfl (fun h46 => ?_) (fun h46 => ?_)
        ·
          refine go_iinc dX4_isWord_51 rfl rfl ⟨by omega, by omega⟩ ?_
          refine go_goto (tgt := 20) dX4_isWord_54 rfl ?_
          refine go_drop (ih _ (by omega) (by omega) hke ?_) rfl
          intro q q0 q1
          by_cases e : q = i
          · rw [e]; exact h46
          · exact hj q q0 (by omega)
        ·
          refine go_iconst dX4_isWord_49 rfl ?_
          exact go_ri dX4_isWord_50 (tyZ (by first | exact Or.inl rfl | exact Or.inr rfl | exact tv_01 | assumption)) ⟨Nat.le_refl _, Nat.le_refl _⟩ (⟨(tv_n (fun h => h46 (wd_at h hv (by omega)))).symm, rfl⟩)
  refine go_aload_n dX4_isWord_0 rfl ?_
  refine go_getI 4 dX4_isWord_1 fl_X4_60 (by first | assumption | exact Nat.le_of_ble_eq_true rfl) (by first | assumption | rfl) rfl rfl ?_
  refine go_aload_n dX4_isWord_4 rfl ?_
  refine go_getI 2 dX4_isWord_5 fl_X4_25 (by first | assumption | exact Nat.le_of_ble_eq_true rfl) (by first | assumption | rfl) rfl rfl ?_
  refine go_isub dX4_isWord_8 ⟨by omega, by omega⟩ ?_
  refine go_aload_n dX4_isWord_9 rfl ?_
  refine go_wI dX4_isWord_10 (cw_length w hw) mlW_length mcW_length mvW_length rfl hw ⟨rfl, rfl⟩ ⟨Nat.le_refl _, Nat.le_refl _⟩ rfl rfl rfl (fun x10 μ10 hc10 => ?_)
  obtain ⟨rfl, hm10⟩ := hc10
  rw [hm10]
  refine go_icmp_eq (tgt := 18) dX4_isWord_13 rfl (fun h13 => ?_) (fun h13 => ?_)
  ·
    refine go_iconst dX4_isWord_18 rfl ?_
    refine go_istore_n dX4_isWord_19 rfl ?_
    exact go_drop (loop 4 0 (by omega) (by omega) h13 (fun q q0 q1 => absurd q1 (by omega))) rfl
  ·
    refine go_iconst dX4_isWord_16 rfl ?_
    exact go_ri dX4_isWord_17 (tyZ (by first | exact Or.inl rfl | exact Or.inr rfl | exact tv_01 | assumption)) ⟨Nat.le_refl _, Nat.le_refl _⟩ (⟨(tv_n (fun h => h13 h.1)).symm, rfl⟩)

def kyC (B : Int → Int) (b e : Int) : Int := @ite _ (wdP 0 B b e) (wdP_d _ _ _ _) 0 (@ite _ (wdP 1 B b e) (wdP_d _ _ _ _) 1 (@ite _ (wdP 2 B b e) (wdP_d _ _ _ _) 2 (-1)))
theorem kyC_r {B : Int → Int} {b e : Int} : kyC B b e = -1 ∨ kyC B b e = 0 ∨ kyC B b e = 1 ∨ kyC B b e = 2 := by
  unfold kyC
  cases wdP_d 0 B b e with
  | isTrue h => exact Or.inr (Or.inl rfl)
  | isFalse h =>
    cases wdP_d 1 B b e with
    | isTrue h => exact Or.inr (Or.inr (Or.inl rfl))
    | isFalse h =>
      cases wdP_d 2 B b e with
      | isTrue h => exact Or.inr (Or.inr (Or.inr rfl))
      | isFalse h => exact Or.inl rfl

set_option maxRecDepth 100000 in
set_option maxHeartbeats 4000000 in
theorem ct_X4_readKey {l : Launch} {D : va_G} {cA : Nat → ClassId} {μ : Mem} (hN0 : 0 ≤ μ 56 1) (hN1 : μ 56 1 ≤ 96) (ha0 : 0 ≤ μ 58 2) (ha1 : μ 58 2 ≤ μ 56 1) : CtN l D cA yX4_readKey cX4_readKey 1 none 5 [vr 58] μ (Pv (fun μ' => ((kyC (μ 57) (skp (μ 57) (μ 56 1) (μ 58 2)) (wEd (μ 57) (μ 56 1) (skp (μ 57) (μ 56 1) (μ 58 2)))) = -1 → μ' = ud (ud (ud μ 58 2 (skp (μ 57) (μ 56 1) (μ 58 2))) 58 4 (wEd (μ 57) (μ 56 1) (skp (μ 57) (μ 56 1) (μ 58 2)))) 58 3 (skp (μ 57) (μ 56 1) (μ 58 2))) ∧ ((kyC (μ 57) (skp (μ 57) (μ 56 1) (μ 58 2)) (wEd (μ 57) (μ 56 1) (skp (μ 57) (μ 56 1) (μ 58 2)))) ≠ -1 → μ' = ud (ud (ud (ud μ 58 2 (skp (μ 57) (μ 56 1) (μ 58 2))) 58 4 (wEd (μ 57) (μ 56 1) (skp (μ 57) (μ 56 1) (μ 58 2)))) 59 0 (kyC (μ 57) (skp (μ 57) (μ 56 1) (μ 58 2)) (wEd (μ 57) (μ 56 1) (skp (μ 57) (μ 56 1) (μ 58 2))))) 58 2 (wEd (μ 57) (μ 56 1) (skp (μ 57) (μ 56 1) (μ 58 2)))))) := by
  refine Ct.of (own := RX4) (by decide +kernel) rfl (fun σ => Nat.le_of_ble_eq_true rfl) (fun hM hP ha => ?_)
  have w58_0 : ρ0 58 (0 : Nat) = some 56 := by decide +kernel
  have w58_1 : ρ0 58 (1 : Nat) = some 59 := by decide +kernel
  have w56_0 : ρ0 56 (0 : Nat) = some 57 := by decide +kernel
  refine go_aload_n dX4_readKey_0 rfl ?_
  refine go_vI (ci := 3) dX4_readKey_1 (ct_X4_nextByte hN0 hN1 ha0 ha1) ml_X4_40 mc_X4_nextByte mv_X4_nextByte rfl (by first | assumption | exact Nat.le_of_ble_eq_true rfl) (by first | assumption | rfl) rfl ⟨rfl, rfl⟩ ⟨Nat.le_refl _, Nat.le_refl _⟩ rfl rfl rfl (fun x1 μ1 hc1 => ?_)
  obtain ⟨rfl, hm1⟩ := hc1
  subst hm1
  have hsk := skp_r (B := μ 57) ha1
  have hwe := wEd_r (B := μ 57) hsk.2
  refine go_pop dX4_readKey_4 rfl ?_
  refine go_aload_n dX4_readKey_5 rfl ?_
  refine go_aload_n dX4_readKey_6 rfl ?_
  refine go_getR dX4_readKey_7 fl_X4_18 (by first | assumption | exact Nat.le_of_ble_eq_true rfl) (by first | assumption | rfl) rfl (by first | assumption | rfl) ?_
  refine go_aload_n dX4_readKey_10 rfl ?_
  refine go_getI 2 dX4_readKey_11 fl_X4_25 (by first | assumption | exact Nat.le_of_ble_eq_true rfl) (by first | assumption | rfl) rfl rfl ?_
  try simp (disch := omega) only [ua_same, ua_ne, uf_same, uf_ne]
  refine go_vI (ci := 6) dX4_readKey_14 (ct_X7_wordEnd (μ := ud μ 58 2 (skp (μ 57) (μ 56 1) (μ 58 2))) hN0 hN1 (skp (μ 57) (μ 56 1) (μ 58 2)) (by omega) hsk.2) ml_X4_57 mc_X7_wordEnd mv_X7_wordEnd rfl (by first | assumption | exact Nat.le_of_ble_eq_true rfl) (by first | assumption | rfl) rfl ⟨rfl, rfl⟩ ⟨Nat.le_refl _, Nat.le_refl _⟩ rfl rfl rfl (fun x14 μ14 hc14 => ?_)
  rw [ud_n (by decide), ud_n (by decide)] at hc14
  obtain ⟨rfl, hm14⟩ := hc14
  rw [hm14]
  refine go_putI 4 dX4_readKey_17 pl_X4_60 (by first | assumption | exact Nat.le_of_ble_eq_true rfl) (by first | assumption | rfl) rfl rfl ?_
  have hA0 : 0 ≤ (ud (ud μ 58 2 (skp (μ 57) (μ 56 1) (μ 58 2))) 58 4 (wEd (μ 57) (μ 56 1) (skp (μ 57) (μ 56 1) (μ 58 2)))) 56 1 := hN0
  have hA1 : (ud (ud μ 58 2 (skp (μ 57) (μ 56 1) (μ 58 2))) 58 4 (wEd (μ 57) (μ 56 1) (skp (μ 57) (μ 56 1) (μ 58 2)))) 56 1 ≤ 96 := hN1
  have hA5 : (ud (ud μ 58 2 (skp (μ 57) (μ 56 1) (μ 58 2))) 58 4 (wEd (μ 57) (μ 56 1) (skp (μ 57) (μ 56 1) (μ 58 2)))) 57 = μ 57 := rfl
  have hA6 : (ud (ud μ 58 2 (skp (μ 57) (μ 56 1) (μ 58 2))) 58 4 (wEd (μ 57) (μ 56 1) (skp (μ 57) (μ 56 1) (μ 58 2)))) 58 2 = (skp (μ 57) (μ 56 1) (μ 58 2)) := by simp (disch := omega) only [ud, ua_same, ua_ne, uf_same, uf_ne]
  have hA7 : (ud (ud μ 58 2 (skp (μ 57) (μ 56 1) (μ 58 2))) 58 4 (wEd (μ 57) (μ 56 1) (skp (μ 57) (μ 56 1) (μ 58 2)))) 58 4 = (wEd (μ 57) (μ 56 1) (skp (μ 57) (μ 56 1) (μ 58 2))) := by simp (disch := omega) only [ud, ua_same, ua_ne, uf_same, uf_ne]
  have hA2 : 0 ≤ (ud (ud μ 58 2 (skp (μ 57) (μ 56 1) (μ 58 2))) 58 4 (wEd (μ 57) (μ 56 1) (skp (μ 57) (μ 56 1) (μ 58 2)))) 58 2 := by rw [hA6]; omega
  have hA3 : (ud (ud μ 58 2 (skp (μ 57) (μ 56 1) (μ 58 2))) 58 4 (wEd (μ 57) (μ 56 1) (skp (μ 57) (μ 56 1) (μ 58 2)))) 58 4 ≤ (ud (ud μ 58 2 (skp (μ 57) (μ 56 1) (μ 58 2))) 58 4 (wEd (μ 57) (μ 56 1) (skp (μ 57) (μ 56 1) (μ 58 2)))) 56 1 := by rw [hA7]; exact hwe.2
  have hA4 : 0 ≤ (ud (ud μ 58 2 (skp (μ 57) (μ 56 1) (μ 58 2))) 58 4 (wEd (μ 57) (μ 56 1) (skp (μ 57) (μ 56 1) (μ 58 2)))) 58 4 := by rw [hA7]; omega
  have hA8 : (ud (ud μ 58 2 (skp (μ 57) (μ 56 1) (μ 58 2))) 58 4 (wEd (μ 57) (μ 56 1) (skp (μ 57) (μ 56 1) (μ 58 2)))) 58 2 ≤ (ud (ud μ 58 2 (skp (μ 57) (μ 56 1) (μ 58 2))) 58 4 (wEd (μ 57) (μ 56 1) (skp (μ 57) (μ 56 1) (μ 58 2)))) 58 4 := by rw [hA6, hA7]; exact hwe.1
  refine go_aload_n dX4_readKey_20 rfl ?_
  refine go_ldcW dX4_readKey_21 (i := 0) (by decide) rfl rfl ?_
  refine go_vI (ci := 3) dX4_readKey_23 (ct_X4_isWord (μ := (ud (ud μ 58 2 (skp (μ 57) (μ 56 1) (μ 58 2))) 58 4 (wEd (μ 57) (μ 56 1) (skp (μ 57) (μ 56 1) (μ 58 2))))) 0 (by decide) hA0 hA1 hA2 hA3 hA4 hA8) ml_X4_65 mc_X4_isWord mv_X4_isWord rfl (by decide) (by first | assumption | rfl) rfl ⟨rfl, rfl⟩ ⟨Nat.le_refl _, Nat.le_refl _⟩ rfl rfl rfl (fun x23 μ23 hc23 => ?_)
  rw [hA5, hA6, hA7] at hc23
  obtain ⟨rfl, hm23⟩ := hc23
  rw [hm23]
  first | refine go_bz (tgt := 40) dX4_readKey_26 rfl (fun h26 => ?_) (fun h26 => ?_) | refine go_if_eq (tgt := 40) dX4_readKey_26 rfl (fun h26 => ?_) (fun h26 => ?_)
  ·
    refine go_aload_n dX4_readKey_40 rfl ?_
    refine go_ldcW dX4_readKey_41 (i := 1) (by decide) rfl rfl ?_
    refine go_vI (ci := 3) dX4_readKey_43 (ct_X4_isWord (μ := (ud (ud μ 58 2 (skp (μ 57) (μ 56 1) (μ 58 2))) 58 4 (wEd (μ 57) (μ 56 1) (skp (μ 57) (μ 56 1) (μ 58 2))))) 1 (by decide) hA0 hA1 hA2 hA3 hA4 hA8) ml_X4_65 mc_X4_isWord mv_X4_isWord rfl (by decide) (by first | assumption | rfl) rfl ⟨rfl, rfl⟩ ⟨Nat.le_refl _, Nat.le_refl _⟩ rfl rfl rfl (fun x43 μ43 hc43 => ?_)
    rw [hA5, hA6, hA7] at hc43
    obtain ⟨rfl, hm43⟩ := hc43
    rw [hm43]
    first | refine go_bz (tgt := 60) dX4_readKey_46 rfl (fun h46 => ?_) (fun h46 => ?_) | refine go_if_eq (tgt := 60) dX4_readKey_46 rfl (fun h46 => ?_) (fun h46 => ?_)
    ·
      refine go_aload_n dX4_readKey_60 rfl ?_
      refine go_ldcW dX4_readKey_61 (i := 2) (by decide) rfl rfl ?_
      refine go_vI (ci := 3) dX4_readKey_63 (ct_X4_isWord (μ := (ud (ud μ 58 2 (skp (μ 57) (μ 56 1) (μ 58 2))) 58 4 (wEd (μ 57) (μ 56 1) (skp (μ 57) (μ 56 1) (μ 58 2))))) 2 (by decide) hA0 hA1 hA2 hA3 hA4 hA8) ml_X4_65 mc_X4_isWord mv_X4_isWord rfl (by decide) (by first | assumption | rfl) rfl ⟨rfl, rfl⟩ ⟨Nat.le_refl _, Nat.le_refl _⟩ rfl rfl rfl (fun x63 μ63 hc63 => ?_)
      rw [hA5, hA6, hA7] at hc63
      obtain ⟨rfl, hm63⟩ := hc63
      rw [hm63]
      first | refine go_bz (tgt := 80) dX4_readKey_66 rfl (fun h66 => ?_) (fun h66 => ?_) | refine go_if_eq (tgt := 80) dX4_readKey_66 rfl (fun h66 => ?_) (fun h66 => ?_)
      ·
        refine go_aload_n dX4_readKey_80 rfl ?_
        refine go_aload_n dX4_readKey_81 rfl ?_
        refine go_getI 2 dX4_readKey_82 fl_X4_25 (by first | assumption | exact Nat.le_of_ble_eq_true rfl) (by first | assumption | rfl) rfl rfl ?_
        try simp (disch := omega) only [ua_same, ua_ne, uf_same, uf_ne]
        refine go_putI 3 dX4_readKey_85 pl_X4_30 (by first | assumption | exact Nat.le_of_ble_eq_true rfl) (by first | assumption | rfl) rfl rfl ?_
        exact go_rv dX4_readKey_88 rfl ⟨Nat.le_refl _, Nat.le_refl _⟩ (⟨fun _ => by simp (disch := omega) only [ud, ua_same, ua_ne, uf_same, uf_ne], fun h => absurd (show (kyC (μ 57) (skp (μ 57) (μ 56 1) (μ 58 2)) (wEd (μ 57) (μ 56 1) (skp (μ 57) (μ 56 1) (μ 58 2)))) = -1 from (if_neg h26).trans ((if_neg h46).trans (if_neg h66))) h⟩)
      ·
        refine go_aload_n dX4_readKey_69 rfl ?_
        refine go_getR dX4_readKey_70 fl_X4_12 (by first | assumption | exact Nat.le_of_ble_eq_true rfl) (by first | assumption | rfl) rfl (by first | assumption | rfl) ?_
        refine go_iconst dX4_readKey_73 rfl ?_
        refine go_putI 0 dX4_readKey_74 pl_X4_69 (by first | assumption | exact Nat.le_of_ble_eq_true rfl) (by first | assumption | rfl) rfl rfl ?_
        refine go_goto (tgt := 89) dX4_readKey_77 rfl ?_
        refine go_aload_n dX4_readKey_89 rfl ?_
        refine go_aload_n dX4_readKey_90 rfl ?_
        refine go_getI 4 dX4_readKey_91 fl_X4_60 (by first | assumption | exact Nat.le_of_ble_eq_true rfl) (by first | assumption | rfl) rfl rfl ?_
        try simp (disch := omega) only [ua_same, ua_ne, uf_same, uf_ne]
        refine go_putI 2 dX4_readKey_94 pl_X4_25 (by first | assumption | exact Nat.le_of_ble_eq_true rfl) (by first | assumption | rfl) rfl rfl ?_
        exact go_rv dX4_readKey_97 rfl ⟨Nat.le_refl _, Nat.le_refl _⟩ (by rw [show (kyC (μ 57) (skp (μ 57) (μ 56 1) (μ 58 2)) (wEd (μ 57) (μ 56 1) (skp (μ 57) (μ 56 1) (μ 58 2)))) = 2 from (if_neg h26).trans ((if_neg h46).trans (if_pos h66))]; exact ⟨fun h => absurd h (by decide), fun _ => by simp (disch := omega) only [ud, ua_same, ua_ne, uf_same, uf_ne]⟩)
    ·
      refine go_aload_n dX4_readKey_49 rfl ?_
      refine go_getR dX4_readKey_50 fl_X4_12 (by first | assumption | exact Nat.le_of_ble_eq_true rfl) (by first | assumption | rfl) rfl (by first | assumption | rfl) ?_
      refine go_iconst dX4_readKey_53 rfl ?_
      refine go_putI 0 dX4_readKey_54 pl_X4_69 (by first | assumption | exact Nat.le_of_ble_eq_true rfl) (by first | assumption | rfl) rfl rfl ?_
      refine go_goto (tgt := 89) dX4_readKey_57 rfl ?_
      refine go_aload_n dX4_readKey_89 rfl ?_
      refine go_aload_n dX4_readKey_90 rfl ?_
      refine go_getI 4 dX4_readKey_91 fl_X4_60 (by first | assumption | exact Nat.le_of_ble_eq_true rfl) (by first | assumption | rfl) rfl rfl ?_
      try simp (disch := omega) only [ua_same, ua_ne, uf_same, uf_ne]
      refine go_putI 2 dX4_readKey_94 pl_X4_25 (by first | assumption | exact Nat.le_of_ble_eq_true rfl) (by first | assumption | rfl) rfl rfl ?_
      exact go_rv dX4_readKey_97 rfl ⟨Nat.le_refl _, Nat.le_refl _⟩ (by rw [show (kyC (μ 57) (skp (μ 57) (μ 56 1) (μ 58 2)) (wEd (μ 57) (μ 56 1) (skp (μ 57) (μ 56 1) (μ 58 2)))) = 1 from (if_neg h26).trans (if_pos h46)]; exact ⟨fun h => absurd h (by decide), fun _ => by simp (disch := omega) only [ud, ua_same, ua_ne, uf_same, uf_ne]⟩)
  ·
    refine go_aload_n dX4_readKey_29 rfl ?_
    refine go_getR dX4_readKey_30 fl_X4_12 (by first | assumption | exact Nat.le_of_ble_eq_true rfl) (by first | assumption | rfl) rfl (by first | assumption | rfl) ?_
    refine go_iconst dX4_readKey_33 rfl ?_
    refine go_putI 0 dX4_readKey_34 pl_X4_69 (by first | assumption | exact Nat.le_of_ble_eq_true rfl) (by first | assumption | rfl) rfl rfl ?_
    refine go_goto (tgt := 89) dX4_readKey_37 rfl ?_
    refine go_aload_n dX4_readKey_89 rfl ?_
    refine go_aload_n dX4_readKey_90 rfl ?_
    refine go_getI 4 dX4_readKey_91 fl_X4_60 (by first | assumption | exact Nat.le_of_ble_eq_true rfl) (by first | assumption | rfl) rfl rfl ?_
    try simp (disch := omega) only [ua_same, ua_ne, uf_same, uf_ne]
    refine go_putI 2 dX4_readKey_94 pl_X4_25 (by first | assumption | exact Nat.le_of_ble_eq_true rfl) (by first | assumption | rfl) rfl rfl ?_
    exact go_rv dX4_readKey_97 rfl ⟨Nat.le_refl _, Nat.le_refl _⟩ (by rw [show (kyC (μ 57) (skp (μ 57) (μ 56 1) (μ 58 2)) (wEd (μ 57) (μ 56 1) (skp (μ 57) (μ 56 1) (μ 58 2)))) = 0 from if_pos h26]; exact ⟨fun h => absurd h (by decide), fun _ => by simp (disch := omega) only [ud, ua_same, ua_ne, uf_same, uf_ne]⟩)

