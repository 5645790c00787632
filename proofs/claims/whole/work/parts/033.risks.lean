/-! THE CLASS: the mountain: steps, risks of all, draws, holds -/
theorem mtI_fr {μ μ' : Mem} {M : Nat} (hM : 32 ≤ M) (hf : ∀ q, q ≠ 3 → q ≠ M + 5 → q ≠ M + 6 → μ' q = μ q) (h : mtI μ M) : mtI μ' M := by
  obtain ⟨iK, iS, iL, iT, iTn, iD, iH, iF, iX, iW⟩ := h
  unfold mtI
  rw [hf M (by omega) (by omega) (by omega), hf (M + 1) (by omega) (by omega) (by omega), hf (M + 2) (by omega) (by omega) (by omega), hf (M + 3) (by omega) (by omega) (by omega), hf (M + 4) (by omega) (by omega) (by omega)]
  exact ⟨iK, iS, iL, iT, iTn, iD, iH, iF, iX, lwI_fr (fun q h1 h2 => hf q (by omega) (by omega) (by omega)) iW⟩
theorem LM_fr {μ μ' : Mem} {M : Nat} (hM : 32 ≤ M) (hI : mtI μ M) (hf : ∀ q, q ≠ 3 → q ≠ M + 5 → q ≠ M + 6 → μ' q = μ q) : LM μ' M = LM μ M := by
  unfold LM
  rw [hf M (by omega) (by omega) (by omega)]
  exact LLc_fr hI.2.2.2.2.2.2.2.2.2.1 (fun q h1 h2 => hf q (by omega) (by omega) (by omega))
theorem prC_fr {μ μ' : Mem} {M : Nat} (hM : 32 ≤ M) (hI : mtI μ M) (hf : ∀ q, q ≠ 3 → q ≠ M + 5 → q ≠ M + 6 → μ' q = μ q) : prC μ' M = prC μ M := by
  funext c
  unfold prC
  rw [LM_fr hM hI hf, hf M (by omega) (by omega) (by omega), hf (M + 2) (by omega) (by omega) (by omega), hf (M + 3) (by omega) (by omega) (by omega)]
theorem rkC_fr {μ μ' : Mem} {M : Nat} (hM : 32 ≤ M) (hI : mtI μ M) (hf : ∀ q, q ≠ 3 → q ≠ M + 5 → q ≠ M + 6 → μ' q = μ q) : rkC μ' M = rkC μ M := by
  funext c
  unfold rkC
  rw [LM_fr hM hI hf, hf M (by omega) (by omega) (by omega), hf (M + 1) (by omega) (by omega) (by omega), hf (M + 2) (by omega) (by omega) (by omega), hf (M + 3) (by omega) (by omega) (by omega)]
theorem fr3 {μ μ' : Mem} {M : Nat} (h : ∀ q, q ≠ 3 → μ' q = μ q) : ∀ q, q ≠ 3 → q ≠ M + 5 → q ≠ M + 6 → μ' q = μ q := fun q h1 _ _ => h q h1
theorem prC_b {μ : Mem} {M : Nat} (hI : mtI μ M) (c : Int) (h0 : 0 ≤ c) (h1 : c < 30) : 0 ≤ prC μ M c ∧ prC μ M c ≤ 999 := by
  obtain ⟨iK, iS, iL, iT, iTn, iD, iH, iF, iX, iW⟩ := hI
  exact pr_b iD.1 iD.2 (iS c h0 h1).2 (iL c h0 h1).1 (iL c h0 h1).2
theorem abvN_fuel {pr : Int → Int} : ∀ (n : Nat) (c : Int), 30 ≤ c + 6 + 6 * (n : Nat) → abvN pr (n + 1) c = abvN pr n c
  | 0, c, h => by unfold abvN; rw [if_neg (by omega)]
  | n + 1, c, h => by
    show (if c + 6 < 30 then max (pr (c + 6)) (abvN pr (n + 1) (c + 6)) else 0) = (if c + 6 < 30 then max (pr (c + 6)) (abvN pr n (c + 6)) else 0)
    rw [abvN_fuel n (c + 6) (by omega)]
theorem abvN_s {pr : Int → Int} {n : Nat} {c : Int} : abvN pr (n + 1) c = if c + 6 < 30 then max (pr (c + 6)) (abvN pr n (c + 6)) else 0 := rfl
theorem abv_dn {pr : Int → Int} {c : Int} (h0 : 0 ≤ c) (h1 : c < 30) : abv pr (c - 6) = max (pr c) (abv pr c) := by
  unfold abv
  show (if c - 6 + 6 < 30 then max (pr (c - 6 + 6)) (abvN pr 4 (c - 6 + 6)) else 0) = _
  rw [show c - 6 + 6 = c by omega, if_pos h1, abvN_fuel 4 c (by omega)]
theorem abv_top {pr : Int → Int} {c : Int} (h : 24 ≤ c) : abv pr c = 0 := by
  unfold abv
  show (if c + 6 < 30 then _ else 0) = _
  rw [if_neg (by omega)]
def dz (z : Int) : Int := wr (wr (z * 1103515245) + 12345)
def dv (z : Int) : Int := ushrI z 8
def zN (z : Int) : Nat → Int
  | 0 => z
  | n + 1 => dz (zN z n)
theorem dv_b (z : Int) : 0 ≤ dv z ∧ dv z ≤ 16777215 := by
  unfold dv ushrI
  have e : (Int32.ofInt 8).toUInt32 &&& Int32.toUInt32 31 = 8 := by decide
  rw [e]
  have h : ((Int32.ofInt z).toUInt32 >>> 8).toNat < 16777216 := by
    rw [UInt32.toNat_shiftRight]
    have := (Int32.ofInt z).toUInt32.toNat_lt
    show _ >>> (8 % 32) < _
    rw [Nat.shiftRight_eq_div_pow, show (2 : Nat) ^ (8 % 32) = 256 by decide]
    omega
  generalize (Int32.ofInt z).toUInt32 >>> 8 = u at h
  have h2 : u.toInt32.toInt = (u.toNat : Int) := by
    show u.toBitVec.toInt = _
    rw [BitVec.toInt_eq_toNat_of_lt]
    · rfl
    · show 2 * u.toNat < 2 ^ 32; omega
  rw [h2]
  omega

set_option maxRecDepth 100000 in
set_option maxHeartbeats 4000000 in
theorem ct_X3_riskAbove {l : Launch} {D : va_G} {cA : Nat → ClassId} {μ : Mem} {M : Nat} (hMt : isMt M) (hI : mtI μ M) (c : Int) (hc0 : 0 ≤ c) (hc1 : c < 30) : CtN l D cA yX3_riskAbove cX3_riskAbove 4 (some .int) 5 [vr M, vi c] μ (Pi (fun x μ' => x = abv (prC μ M) c ∧ ∀ q, q ≠ 3 → μ' q = μ q)) := by
  refine Ct.of (own := RX3) (by decide +kernel) rfl (fun σ => Nat.le_of_ble_eq_true rfl) (fun hM hP ha => ?_)
  obtain ⟨hM32, hM53, hA0, hA1, hA2, hA3, hA4, hA5, hA6, hs0, hs1, hs2, hs3, hs4, hs5, hs6, hr0, hr1, hr2, hr3, hr4, hr5, hr6⟩ := mt_f hMt
  obtain ⟨iK, iS, iL, iT, iTn, iD, iH, iF, iX, iW⟩ := id hI
  have loop : ∀ (n : Nat) (h acc : Int) (μ1 : Mem), 30 ≤ h + 6 * (n : Nat) → 6 ≤ h → 0 ≤ acc → abv (prC μ M) c = max acc (abvN (prC μ M) n (h - 6)) → (∀ q, q ≠ 3 → μ1 q = μ q) → Go l D cA none RX3 cX3_riskAbove 4 (some .int) (5, 0, 0) (QN (Pi (fun x μ' => x = abv (prC μ M) c ∧ ∀ q, q ≠ 3 → μ' q = μ q))) 113 ρ0 0 0 7 [(0, vr M), (1, vi c), (2, vi acc), (3, vi h)] [] μ1 := by
    intro n
    induction n with
    | zero =>
      intro h acc μ1 hn h6 ha0 hres hf
      refine go_iload_n dX3_riskAbove_7 rfl ?_
      refine go_bipush dX3_riskAbove_8 rfl (by decide) ?_
      refine go_icmp_ge (tgt := 29) dX3_riskAbove_10 rfl (fun h10 => ?_) (fun h10 => ?_)
      ·
        refine go_iload_n dX3_riskAbove_29 rfl ?_
        exact go_ri dX3_riskAbove_30 tyI ⟨Nat.le_refl _, Nat.le_refl _⟩ (⟨by rw [hres]; unfold abvN; omega, hf⟩)
      ·
        exact absurd h10 (by omega)
    | succ n ih =>
      intro h acc μ1 hn h6 ha0 hres hf
      refine go_iload_n dX3_riskAbove_7 rfl ?_
      refine go_bipush dX3_riskAbove_8 rfl (by decide) ?_
      refine go_icmp_ge (tgt := 29) dX3_riskAbove_10 rfl (fun h10 => ?_) (fun h10 => ?_)
      ·
        refine go_iload_n dX3_riskAbove_29 rfl ?_
        exact go_ri dX3_riskAbove_30 tyI ⟨Nat.le_refl _, Nat.le_refl _⟩ (⟨by rw [hres, abvN_s, if_neg (by omega)]; omega, hf⟩)
      ·
        refine go_iload_n dX3_riskAbove_13 rfl ?_
        refine go_aload_n dX3_riskAbove_14 rfl ?_
        refine go_iload_n dX3_riskAbove_15 rfl ?_
        refine go_vI (ci := 2) dX3_riskAbove_16 (ct_X3_plainRisk hMt (mtI_fr hM32 (fr3 hf) hI) _ (by omega) (by omega)) ml_X3_82 mc_X3_plainRisk mv_X3_plainRisk rfl (by first | assumption | exact Nat.le_of_ble_eq_true rfl) (by first | assumption | rfl) rfl ⟨rfl, rfl⟩ ⟨Nat.le_refl _, Nat.le_refl _⟩ rfl rfl rfl (fun x16 μ16 hc16 => ?_)
        obtain ⟨rfl, hf16⟩ := hc16
        rw [prC_fr hM32 hI (fr3 hf)]
        refine go_max dX3_riskAbove_19 mw_X3_62 rfl rfl ⟨Nat.le_refl _, Nat.le_refl _⟩ ?_
        refine go_istore_n dX3_riskAbove_22 rfl ?_
        refine go_iinc dX3_riskAbove_23 rfl rfl ⟨by omega, by omega⟩ ?_
        refine go_goto (tgt := 7) dX3_riskAbove_26 rfl ?_
        refine go_drop (ih _ _ μ16 (by omega) (by omega) (by omega) ?_ (fun q hq => (hf16 q hq).trans (hf q hq))) rfl
        rw [hres, abvN_s, if_pos (by omega), show h - 6 + 6 = h by omega, show h + 6 - 6 = h by omega]
        omega
  refine go_iconst dX3_riskAbove_0 rfl ?_
  refine go_istore_n dX3_riskAbove_1 rfl ?_
  refine go_iload_n dX3_riskAbove_2 rfl ?_
  refine go_bipush dX3_riskAbove_3 rfl (by decide) ?_
  refine go_iadd dX3_riskAbove_5 ⟨by omega, by omega⟩ ?_
  refine go_istore_n dX3_riskAbove_6 rfl ?_
  refine go_drop (loop 5 _ 0 μ (by omega) (by omega) (by omega) ?_ (fun _ _ => rfl)) rfl
  rw [show c + 6 - 6 = c by omega]
  show _ = max 0 (abv (prC μ M) c)
  have := abvN_b (prC_b hI) 5 c hc0
  unfold abv
  omega

set_option maxRecDepth 100000 in
set_option maxHeartbeats 4000000 in
theorem ct_X3_risk {l : Launch} {D : va_G} {cA : Nat → ClassId} {μ : Mem} {M : Nat} (hMt : isMt M) (hI : mtI μ M) (c : Int) (hc0 : 0 ≤ c) (hc1 : c < 30) : CtN l D cA yX3_risk cX3_risk 2 (some .int) 6 [vr M, vi c] μ (Pi (fun x μ' => x = rkC μ M c ∧ ∀ q, q ≠ 3 → μ' q = μ q)) := by
  refine Ct.of (own := RX3) (by decide +kernel) rfl (fun σ => Nat.le_of_ble_eq_true rfl) (fun hM hP ha => ?_)
  obtain ⟨hM32, hM53, hA0, hA1, hA2, hA3, hA4, hA5, hA6, hs0, hs1, hs2, hs3, hs4, hs5, hs6, hr0, hr1, hr2, hr3, hr4, hr5, hr6⟩ := mt_f hMt
  obtain ⟨iK, iS, iL, iT, iTn, iD, iH, iF, iX, iW⟩ := id hI
  have b1 := prC_b hI c hc0 hc1
  have b2 := abvN_b (prC_b hI) 5 c hc0
  refine go_aload_n dX3_risk_0 rfl ?_
  refine go_getR dX3_risk_1 fl_X3_9 (by first | assumption | exact Nat.le_of_ble_eq_true rfl) (by first | assumption | rfl) rfl (by first | assumption | rfl) ?_
  refine go_iload_n dX3_risk_4 rfl ?_
  refine go_iaload dX3_risk_5 (by first | assumption | exact Nat.le_of_ble_eq_true rfl) (by first | assumption | rfl) (by omega) (by omega) ?_
  refine go_aload_n dX3_risk_6 rfl ?_
  refine go_iload_n dX3_risk_7 rfl ?_
  refine go_vI (ci := 2) dX3_risk_8 (ct_X3_plainRisk hMt hI _ hc0 hc1) ml_X3_82 mc_X3_plainRisk mv_X3_plainRisk rfl (by first | assumption | exact Nat.le_of_ble_eq_true rfl) (by first | assumption | rfl) rfl ⟨rfl, rfl⟩ ⟨Nat.le_refl _, Nat.le_refl _⟩ rfl rfl rfl (fun x8 μ8 hc8 => ?_)
  obtain ⟨rfl, hf8⟩ := hc8
  refine go_aload_n dX3_risk_11 rfl ?_
  refine go_iload_n dX3_risk_12 rfl ?_
  refine go_vI (ci := 2) dX3_risk_13 (ct_X3_riskAbove hMt (mtI_fr hM32 (fr3 hf8) hI) _ hc0 hc1) ml_X3_86 mc_X3_riskAbove mv_X3_riskAbove rfl (by first | assumption | exact Nat.le_of_ble_eq_true rfl) (by first | assumption | rfl) rfl ⟨rfl, rfl⟩ ⟨Nat.le_refl _, Nat.le_refl _⟩ rfl rfl rfl (fun x13 μ13 hc13 => ?_)
  obtain ⟨rfl, hf13⟩ := hc13
  rw [prC_fr hM32 hI (fr3 hf8)]
  have hf : ∀ q, q ≠ 3 → μ13 q = μ q := fun q hq => (hf13 q hq).trans (hf8 q hq)
  refine go_aload_n dX3_risk_16 rfl ?_
  refine go_vI (ci := 2) dX3_risk_17 (ct_X3_sun hMt (mtI_fr hM32 (fr3 hf) hI)) ml_X3_89 mc_X3_sun mv_X3_sun rfl (by first | assumption | exact Nat.le_of_ble_eq_true rfl) (by first | assumption | rfl) rfl ⟨rfl, rfl⟩ ⟨Nat.le_refl _, Nat.le_refl _⟩ rfl rfl rfl (fun x17 μ17 hc17 => ?_)
  obtain ⟨rfl, hm17⟩ := hc17
  rw [hm17, hf M (by omega)]
  refine go_sI dX3_risk_20 (ct_X0_risk _ _ _ _ b1.1 b1.2 b2.1 b2.2 (by unfold sunV; omega) (by unfold sunV; omega)) ml_X3_93 mc_X0_risk ms_X0_risk ⟨rfl, rfl⟩ ⟨Nat.le_refl _, Nat.le_refl _⟩ rfl rfl rfl (fun x20 μ20 hc20 => ?_)
  obtain ⟨rfl, hm20⟩ := hc20
  rw [hm20]
  exact go_ri dX3_risk_23 tyI ⟨Nat.le_refl _, Nat.le_refl _⟩ (⟨rfl, hf⟩)

set_option maxRecDepth 100000 in
set_option maxHeartbeats 4000000 in
theorem ct_X3_weighRisks {l : Launch} {D : va_G} {cA : Nat → ClassId} {μ : Mem} {M : Nat} (hMt : isMt M) (hI : mtI μ M) : CtN l D cA yX3_weighRisks cX3_weighRisks 7 none 5 [vr M] μ (Pv (fun μ' => (∀ c, 0 ≤ c → c < 30 → μ' (M + 5) c = rkC μ M c) ∧ ∀ q, q ≠ 3 → q ≠ M + 5 → μ' q = μ q)) := by
  refine Ct.of (own := RX3) (by decide +kernel) rfl (fun σ => Nat.le_of_ble_eq_true rfl) (fun hM hP ha => ?_)
  obtain ⟨hM32, hM53, hA0, hA1, hA2, hA3, hA4, hA5, hA6, hs0, hs1, hs2, hs3, hs4, hs5, hs6, hr0, hr1, hr2, hr3, hr4, hr5, hr6⟩ := mt_f hMt
  obtain ⟨iK, iS, iL, iT, iTn, iD, iH, iF, iX, iW⟩ := id hI
  have loop : ∀ (m : Nat) (col : Int) (μ1 : Mem), 6 - col = (m : Nat) → 0 ≤ col → (∀ c, 0 ≤ c → c < 30 → c % 6 < col → μ1 (M + 5) c = rkC μ M c) → (∀ q, q ≠ 3 → q ≠ M + 5 → μ1 q = μ q) → Go l D cA none RX3 cX3_weighRisks 7 none (5, 0, 0) (QN (Pv (fun μ' => (∀ c, 0 ≤ c → c < 30 → μ' (M + 5) c = rkC μ M c) ∧ ∀ q, q ≠ 3 → q ≠ M + 5 → μ' q = μ q))) 113 ρ0 0 0 7 [(0, vr M), (1, vi (sunV (μ M 9))), (2, vi col)] [] μ1 := by
    intro m
    induction m with
    | zero =>
      intro col μ1 hm hv hdn hf
      refine go_iload_n dX3_weighRisks_7 rfl ?_
      refine go_bipush dX3_weighRisks_8 rfl (by decide) ?_
      refine go_icmp_ge (tgt := 80) dX3_weighRisks_10 rfl (fun h10 => ?_) (fun h10 => ?_)
      ·
        exact go_rv dX3_weighRisks_80 rfl ⟨Nat.le_refl _, Nat.le_refl _⟩ (⟨fun c c0 c1 => hdn c c0 c1 (by omega), hf⟩)
      ·
        exact absurd h10 (by omega)
    | succ m ih =>
      intro col μ1 hm hv hdn hf
      have inn : ∀ (m2 : Nat) (row ab : Int) (μ1 : Mem), row + 1 = (m2 : Nat) → row < 5 → ab = abv (prC μ M) (row * 6 + col) → (∀ c, 0 ≤ c → c < 30 → (c % 6 < col ∨ (c % 6 = col ∧ row * 6 + col < c)) → μ1 (M + 5) c = rkC μ M c) → (∀ q, q ≠ 3 → q ≠ M + 5 → μ1 q = μ q) → Go l D cA none RX3 cX3_weighRisks 7 none (5, 0, 0) (QN (Pv (fun μ' => (∀ c, 0 ≤ c → c < 30 → μ' (M + 5) c = rkC μ M c) ∧ ∀ q, q ≠ 3 → q ≠ M + 5 → μ' q = μ q))) 113 ρ0 0 0 18 [(0, vr M), (1, vi (sunV (μ M 9))), (2, vi col), (3, vi ab), (4, vi row)] [] μ1 := by
        intro m2
        induction m2 with
        | zero =>
          intro row ab μ1 hm2 hr5 hab hdn hf
          refine go_iload dX3_weighRisks_18 rfl ?_
          refine go_if_lt (tgt := 74) dX3_weighRisks_20 rfl (fun h20 => ?_) (fun h20 => ?_)
          ·
            refine go_iinc dX3_weighRisks_74 rfl rfl ⟨by omega, by omega⟩ ?_
            refine go_goto (tgt := 7) dX3_weighRisks_77 rfl ?_
            exact go_drop (ih _ μ1 (by omega) (by omega) (fun c c0 c1 hd => hdn c c0 c1 (by omega)) hf) rfl
          ·
            exact absurd h20 (by omega)
        | succ m2 ih2 =>
          intro row ab μ1 hm2 hr5 hab hdn hf
          refine go_iload dX3_weighRisks_18 rfl ?_
          refine go_if_lt (tgt := 74) dX3_weighRisks_20 rfl (fun h20 => ?_) (fun h20 => ?_)
          ·
            exact absurd h20 (by omega)
          ·
            refine go_iload dX3_weighRisks_23 rfl ?_
            refine go_bipush dX3_weighRisks_25 rfl (by decide) ?_
            refine go_imul dX3_weighRisks_27 ⟨by omega, by omega⟩ ?_
            refine go_iload_n dX3_weighRisks_28 rfl ?_
            refine go_iadd dX3_weighRisks_29 ⟨by omega, by omega⟩ ?_
            have hcr : 0 ≤ row * 6 + col ∧ row * 6 + col < 30 := by omega
            have b1 := prC_b hI _ hcr.1 hcr.2
            have b2 := abvN_b (prC_b hI) 5 _ hcr.1
            refine go_istore dX3_weighRisks_30 rfl ?_
            refine go_aload_n dX3_weighRisks_32 rfl ?_
            refine go_iload dX3_weighRisks_33 rfl ?_
            refine go_vI (ci := 2) dX3_weighRisks_35 (ct_X3_plainRisk hMt (mtI_fr hM32 (fun q h1 h2 _ => hf q h1 h2) hI) _ hcr.1 hcr.2) ml_X3_82 mc_X3_plainRisk mv_X3_plainRisk rfl (by first | assumption | exact Nat.le_of_ble_eq_true rfl) (by first | assumption | rfl) rfl ⟨rfl, rfl⟩ ⟨Nat.le_refl _, Nat.le_refl _⟩ rfl rfl rfl (fun x35 μ35 hc35 => ?_)
            obtain ⟨rfl, hf35⟩ := hc35
            rw [prC_fr hM32 hI (fun q h1 h2 _ => hf q h1 h2)]
            have hfb : ∀ q, q ≠ 3 → q ≠ M + 5 → μ35 q = μ q := fun q h1 h2 => (hf35 q h1).trans (hf q h1 h2)
            refine go_istore dX3_weighRisks_38 rfl ?_
            refine go_aload_n dX3_weighRisks_40 rfl ?_
            refine go_getR dX3_weighRisks_41 fl_X3_24 (by first | assumption | exact Nat.le_of_ble_eq_true rfl) (by first | assumption | rfl) rfl (by first | assumption | rfl) ?_
            refine go_iload dX3_weighRisks_44 rfl ?_
            refine go_aload_n dX3_weighRisks_46 rfl ?_
            refine go_getR dX3_weighRisks_47 fl_X3_9 (by first | assumption | exact Nat.le_of_ble_eq_true rfl) (by first | assumption | rfl) rfl (by first | assumption | rfl) ?_
            refine go_iload dX3_weighRisks_50 rfl ?_
            refine go_iaload dX3_weighRisks_52 (by first | assumption | exact Nat.le_of_ble_eq_true rfl) (by first | assumption | rfl) (by omega) (by omega) ?_
            try simp (disch := omega) only [ud, ua_same, ua_ne, uf_same, uf_ne]
            refine go_iload dX3_weighRisks_53 rfl ?_
            refine go_iload_n dX3_weighRisks_55 rfl ?_
            refine go_iload_n dX3_weighRisks_56 rfl ?_
            refine go_sI dX3_weighRisks_57 (ct_X0_risk _ _ _ _ b1.1 b1.2 (by rw [hab]; exact b2.1) (by rw [hab]; exact b2.2) (by unfold sunV; omega) (by unfold sunV; omega)) ml_X3_93 mc_X0_risk ms_X0_risk ⟨rfl, rfl⟩ ⟨Nat.le_refl _, Nat.le_refl _⟩ rfl rfl rfl (fun x57 μ57 hc57 => ?_)
            obtain ⟨rfl, hm57⟩ := hc57
            rw [hm57, hfb (M + 1) (by omega) (by omega)]
            refine go_iastore dX3_weighRisks_60 (by first | assumption | exact Nat.le_of_ble_eq_true rfl) (by first | assumption | rfl) (by omega) (by omega) ?_
            refine go_iload_n dX3_weighRisks_61 rfl ?_
            refine go_iload dX3_weighRisks_62 rfl ?_
            refine go_max dX3_weighRisks_64 mw_X3_62 rfl rfl ⟨Nat.le_refl _, Nat.le_refl _⟩ ?_
            refine go_istore_n dX3_weighRisks_67 rfl ?_
            refine go_iinc dX3_weighRisks_68 rfl rfl ⟨by omega, by omega⟩ ?_
            refine go_goto (tgt := 18) dX3_weighRisks_71 rfl ?_
            refine go_drop (ih2 _ _ _ (by omega) (by omega) (by rw [hab, show (row + -1) * 6 + col = row * 6 + col - 6 by omega, abv_dn hcr.1 hcr.2, Int.max_comm]) ?_ ?_) rfl
            · intro c c0 c1 hd
              rw [ud_s]
              by_cases e : c = row * 6 + col
              · rw [e, uf_same]
                unfold rkC riskV
                rw [hab]
                rfl
              · rw [uf_ne e, hf35 _ (by omega)]
                exact hdn c c0 c1 (by omega)
            · intro q h1 h2
              rw [ud_n h2]
              exact hfb q h1 h2
      refine go_iload_n dX3_weighRisks_7 rfl ?_
      refine go_bipush dX3_weighRisks_8 rfl (by decide) ?_
      refine go_icmp_ge (tgt := 80) dX3_weighRisks_10 rfl (fun h10 => ?_) (fun h10 => ?_)
      ·
        exact absurd h10 (by omega)
      ·
        refine go_iconst dX3_weighRisks_13 rfl ?_
        refine go_istore_n dX3_weighRisks_14 rfl ?_
        refine go_iconst dX3_weighRisks_15 rfl ?_
        refine go_istore dX3_weighRisks_16 rfl ?_
        refine go_drop (inn 5 _ _ μ1 (by omega) (by omega) (abv_top (by omega)).symm (fun c c0 c1 hd => hdn c c0 c1 (by omega)) hf) rfl
  refine go_aload_n dX3_weighRisks_0 rfl ?_
  refine go_vI (ci := 2) dX3_weighRisks_1 (ct_X3_sun hMt hI) ml_X3_89 mc_X3_sun mv_X3_sun rfl (by first | assumption | exact Nat.le_of_ble_eq_true rfl) (by first | assumption | rfl) rfl ⟨rfl, rfl⟩ ⟨Nat.le_refl _, Nat.le_refl _⟩ rfl rfl rfl (fun x1 μ1 hc1 => ?_)
  obtain ⟨rfl, hm1⟩ := hc1
  rw [hm1]
  refine go_istore_n dX3_weighRisks_4 rfl ?_
  refine go_iconst dX3_weighRisks_5 rfl ?_
  refine go_istore_n dX3_weighRisks_6 rfl ?_
  exact go_drop (loop 6 0 μ (by omega) (by omega) (fun c c0 c1 hd => absurd hd (by omega)) (fun _ _ _ => rfl)) rfl

set_option maxRecDepth 100000 in
set_option maxHeartbeats 4000000 in
theorem ct_X3_draw {l : Launch} {D : va_G} {cA : Nat → ClassId} {μ : Mem} {M : Nat} (hMt : isMt M) : CtN l D cA yX3_draw cX3_draw 1 (some .int) 1 [vr M] μ (Pi (fun x μ' => x = dv (dz (μ M 11)) ∧ μ' = ud μ M 11 (dz (μ M 11)))) := by
  refine Ct.of (own := RX3) (by decide +kernel) rfl (fun σ => Nat.le_of_ble_eq_true rfl) (fun hM hP ha => ?_)
  obtain ⟨hM32, hM53, hA0, hA1, hA2, hA3, hA4, hA5, hA6, hs0, hs1, hs2, hs3, hs4, hs5, hs6, hr0, hr1, hr2, hr3, hr4, hr5, hr6⟩ := mt_f hMt
  refine go_aload_n dX3_draw_0 rfl ?_
  refine go_aload_n dX3_draw_1 rfl ?_
  refine go_getI 11 dX3_draw_2 fl_X3_40 (by first | assumption | exact Nat.le_of_ble_eq_true rfl) (by first | assumption | rfl) rfl rfl ?_
  refine go_ldc dX3_draw_5 kc_X3_98 rfl ?_
  refine go_imulw dX3_draw_7 ?_
  refine go_sipush dX3_draw_8 rfl (by decide) ?_
  refine go_iaddw dX3_draw_11 ?_
  refine go_putI 11 dX3_draw_12 pl_X3_40 (by first | assumption | exact Nat.le_of_ble_eq_true rfl) (by first | assumption | rfl) rfl rfl ?_
  refine go_aload_n dX3_draw_15 rfl ?_
  refine go_getI 11 dX3_draw_16 fl_X3_40 (by first | assumption | exact Nat.le_of_ble_eq_true rfl) (by first | assumption | rfl) rfl rfl ?_
  try simp (disch := omega) only [ud, ua_same, ua_ne, uf_same, uf_ne]
  refine go_bipush dX3_draw_19 rfl (by decide) ?_
  refine go_iushr dX3_draw_21 ?_
  exact go_ri dX3_draw_22 tyI ⟨Nat.le_refl _, Nat.le_refl _⟩ (⟨rfl, rfl⟩)

set_option maxRecDepth 100000 in
set_option maxHeartbeats 4000000 in
theorem ct_X3_stepInto {l : Launch} {D : va_G} {cA : Nat → ClassId} {μ : Mem} {M : Nat} (hMt : isMt M) (hI : mtI μ M) (a b : Int) (ha0 : 0 ≤ a) (ha1 : a < 30) (hb0 : 0 ≤ b) (hb1 : b < 30) : CtN l D cA yX3_stepInto cX3_stepInto 6 (some .int) 4 [vr M, vi a, vi b] μ (Pi (fun x μ' => x = stepV (LM μ M) (μ (M + 2) b) (upV a b) ∧ ∀ q, q ≠ 3 → μ' q = μ q)) := by
  refine Ct.of (own := RX3) (by decide +kernel) rfl (fun σ => Nat.le_of_ble_eq_true rfl) (fun hM hP ha => ?_)
  obtain ⟨hM32, hM53, hA0, hA1, hA2, hA3, hA4, hA5, hA6, hs0, hs1, hs2, hs3, hs4, hs5, hs6, hr0, hr1, hr2, hr3, hr4, hr5, hr6⟩ := mt_f hMt
  obtain ⟨iK, iS, iL, iT, iTn, iD, iH, iF, iX, iW⟩ := id hI
  by_cases hup : a / 6 < b / 6
  · cases hlk : lastK (fun i => μ (4 + 2 * i) 0) 2 (μ M 13).toNat with
    | none =>
      have hb2 := iS b hb0 hb1
      refine go_iload_n dX3_stepInto_0 rfl ?_
      refine go_bipush dX3_stepInto_1 rfl (by decide) ?_
      refine go_idiv dX3_stepInto_3 (by omega) (by omega) ?_
      refine go_iload_n dX3_stepInto_4 rfl ?_
      refine go_bipush dX3_stepInto_5 rfl (by decide) ?_
      refine go_idiv dX3_stepInto_7 (by omega) (by omega) ?_
      refine go_icmp_le (tgt := 15) dX3_stepInto_8 rfl (fun h8 => ?_) (fun h8 => ?_)
      ·
        exact absurd h8 (by omega)
      ·
        refine go_iconst dX3_stepInto_11 rfl ?_
        refine go_goto (tgt := 16) dX3_stepInto_12 rfl ?_
        refine go_istore_n dX3_stepInto_16 rfl ?_
        refine go_aload_n dX3_stepInto_17 rfl ?_
        refine go_getR dX3_stepInto_18 fl_X3_43 (by first | assumption | exact Nat.le_of_ble_eq_true rfl) (by first | assumption | rfl) rfl (by first | assumption | rfl) ?_
        refine go_iconst dX3_stepInto_21 rfl ?_
        refine go_aload_n dX3_stepInto_22 rfl ?_
        refine go_getI 13 dX3_stepInto_23 fl_X3_59 (by first | assumption | exact Nat.le_of_ble_eq_true rfl) (by first | assumption | rfl) rfl rfl ?_
        refine go_vI (ci := 1) dX3_stepInto_26 (ct_X2_lastOf 2 _ iX.1 iX.2) ml_X3_68 mc_X2_lastOf mv_X2_lastOf rfl (by first | assumption | exact Nat.le_of_ble_eq_true rfl) (by first | assumption | rfl) rfl ⟨rfl, rfl⟩ ⟨Nat.le_refl _, Nat.le_refl _⟩ rfl rfl rfl (fun x26 μ26 hc26 => ?_)
        obtain ⟨rfl, hm26⟩ := hc26
        rw [hm26, hlk]
        simp only [onI]
        refine go_istore dX3_stepInto_29 rfl ?_
        refine go_iload dX3_stepInto_31 rfl ?_
        refine go_ldc dX3_stepInto_33 kc_X3_73 rfl ?_
        refine go_icmp_ne (tgt := 56) dX3_stepInto_35 rfl (fun h35 => ?_) (fun h35 => ?_)
        ·
          first | exact absurd rfl h35 | exact absurd h35 (by omega)
        ·
          refine go_iconst dX3_stepInto_38 rfl ?_
          refine go_aload_n dX3_stepInto_39 rfl ?_
          refine go_getR dX3_stepInto_40 fl_X3_15 (by first | assumption | exact Nat.le_of_ble_eq_true rfl) (by first | assumption | rfl) rfl (by first | assumption | rfl) ?_
          refine go_iload_n dX3_stepInto_43 rfl ?_
          refine go_iaload dX3_stepInto_44 (by first | assumption | exact Nat.le_of_ble_eq_true rfl) (by first | assumption | rfl) (by omega) (by omega) ?_
          try simp (disch := omega) only [ud, ua_same, ua_ne, uf_same, uf_ne]
          refine go_bipush dX3_stepInto_45 rfl (by decide) ?_
          refine go_idiv dX3_stepInto_47 (by omega) (by omega) ?_
          refine go_iadd dX3_stepInto_48 ⟨by omega, by omega⟩ ?_
          refine go_iconst dX3_stepInto_49 rfl ?_
          refine go_iload_n dX3_stepInto_50 rfl ?_
          refine go_imul dX3_stepInto_51 ⟨by omega, by omega⟩ ?_
          refine go_iadd dX3_stepInto_52 ⟨by omega, by omega⟩ ?_
          refine go_goto (tgt := 73) dX3_stepInto_53 rfl ?_
          refine go_istore dX3_stepInto_73 rfl ?_
          refine go_iload dX3_stepInto_75 rfl ?_
          refine go_iconst dX3_stepInto_77 rfl ?_
          refine go_bipush dX3_stepInto_78 rfl (by decide) ?_
          refine go_sI dX3_stepInto_80 (ct_X9_heldWithin _ _ _) ml_X3_78 mc_X9_heldWithin ms_X9_heldWithin ⟨rfl, rfl⟩ ⟨Nat.le_refl _, Nat.le_refl _⟩ rfl rfl rfl (fun x80 μ80 hc80 => ?_)
          obtain ⟨rfl, hm80⟩ := hc80
          rw [hm80]
          exact go_ri dX3_stepInto_83 tyI ⟨Nat.le_refl _, Nat.le_refl _⟩ (⟨by unfold stepV upV; rw [lawOf_c, hlk, if_pos hup]; simp only [Option.map]; omega, fun _ _ => rfl⟩)
    | some i =>
      have hin := (lastK_lt hlk).1
      have hi14 := iW.1
      have hb2 := iS b hb0 hb1
      refine go_iload_n dX3_stepInto_0 rfl ?_
      refine go_bipush dX3_stepInto_1 rfl (by decide) ?_
      refine go_idiv dX3_stepInto_3 (by omega) (by omega) ?_
      refine go_iload_n dX3_stepInto_4 rfl ?_
      refine go_bipush dX3_stepInto_5 rfl (by decide) ?_
      refine go_idiv dX3_stepInto_7 (by omega) (by omega) ?_
      refine go_icmp_le (tgt := 15) dX3_stepInto_8 rfl (fun h8 => ?_) (fun h8 => ?_)
      ·
        exact absurd h8 (by omega)
      ·
        refine go_iconst dX3_stepInto_11 rfl ?_
        refine go_goto (tgt := 16) dX3_stepInto_12 rfl ?_
        refine go_istore_n dX3_stepInto_16 rfl ?_
        refine go_aload_n dX3_stepInto_17 rfl ?_
        refine go_getR dX3_stepInto_18 fl_X3_43 (by first | assumption | exact Nat.le_of_ble_eq_true rfl) (by first | assumption | rfl) rfl (by first | assumption | rfl) ?_
        refine go_iconst dX3_stepInto_21 rfl ?_
        refine go_aload_n dX3_stepInto_22 rfl ?_
        refine go_getI 13 dX3_stepInto_23 fl_X3_59 (by first | assumption | exact Nat.le_of_ble_eq_true rfl) (by first | assumption | rfl) rfl rfl ?_
        refine go_vI (ci := 1) dX3_stepInto_26 (ct_X2_lastOf 2 _ iX.1 iX.2) ml_X3_68 mc_X2_lastOf mv_X2_lastOf rfl (by first | assumption | exact Nat.le_of_ble_eq_true rfl) (by first | assumption | rfl) rfl ⟨rfl, rfl⟩ ⟨Nat.le_refl _, Nat.le_refl _⟩ rfl rfl rfl (fun x26 μ26 hc26 => ?_)
        obtain ⟨rfl, hm26⟩ := hc26
        rw [hm26, hlk]
        simp only [onI]
        refine go_istore dX3_stepInto_29 rfl ?_
        refine go_iload dX3_stepInto_31 rfl ?_
        refine go_ldc dX3_stepInto_33 kc_X3_73 rfl ?_
        refine go_icmp_ne (tgt := 56) dX3_stepInto_35 rfl (fun h35 => ?_) (fun h35 => ?_)
        ·
          refine go_aload_n dX3_stepInto_56 rfl ?_
          refine go_getR dX3_stepInto_57 fl_X3_43 (by first | assumption | exact Nat.le_of_ble_eq_true rfl) (by first | assumption | rfl) rfl (by first | assumption | rfl) ?_
          refine go_iload dX3_stepInto_60 rfl ?_
          refine go_aload_n dX3_stepInto_62 rfl ?_
          refine go_getR dX3_stepInto_63 fl_X3_15 (by first | assumption | exact Nat.le_of_ble_eq_true rfl) (by first | assumption | rfl) rfl (by first | assumption | rfl) ?_
          refine go_iload_n dX3_stepInto_66 rfl ?_
          refine go_iaload dX3_stepInto_67 (by first | assumption | exact Nat.le_of_ble_eq_true rfl) (by first | assumption | rfl) (by omega) (by omega) ?_
          try simp (disch := omega) only [ud, ua_same, ua_ne, uf_same, uf_ne]
          refine go_iload_n dX3_stepInto_68 rfl ?_
          refine go_iconst dX3_stepInto_69 rfl ?_
          refine go_vI (ci := 1) dX3_stepInto_70 (ct_X2_worth (i : Nat) _ _ _ (by omega) (by omega) (by simpa using (iW.2.1 i hin).1) (by simpa using (iW.2.1 i hin).2) (by simpa using (wo_f (pvW (μ (M + 2) b) 1 0) iW hin).1) (by simpa using (wo_f (pvW (μ (M + 2) b) 1 0) iW hin).2)) ml_X3_74 mc_X2_worth mv_X2_worth rfl (by first | assumption | exact Nat.le_of_ble_eq_true rfl) (by first | assumption | rfl) rfl ⟨rfl, rfl⟩ ⟨Nat.le_refl _, Nat.le_refl _⟩ rfl rfl rfl (fun x70 μ70 hc70 => ?_)
          simp only [Int.toNat_natCast] at hc70
          obtain ⟨rfl, hf70⟩ := hc70
          refine go_istore dX3_stepInto_73 rfl ?_
          refine go_iload dX3_stepInto_75 rfl ?_
          refine go_iconst dX3_stepInto_77 rfl ?_
          refine go_bipush dX3_stepInto_78 rfl (by decide) ?_
          refine go_sI dX3_stepInto_80 (ct_X9_heldWithin _ _ _) ml_X3_78 mc_X9_heldWithin ms_X9_heldWithin ⟨rfl, rfl⟩ ⟨Nat.le_refl _, Nat.le_refl _⟩ rfl rfl rfl (fun x80 μ80 hc80 => ?_)
          obtain ⟨rfl, hm80⟩ := hc80
          rw [hm80]
          exact go_ri dX3_stepInto_83 tyI ⟨Nat.le_refl _, Nat.le_refl _⟩ (⟨by unfold stepV upV; rw [lawOf_c, hlk, if_pos hup]; rfl, hf70⟩)
        ·
          first | exact absurd h35 (by omega) | exact absurd rfl h35
  · cases hlk : lastK (fun i => μ (4 + 2 * i) 0) 2 (μ M 13).toNat with
    | none =>
      have hb2 := iS b hb0 hb1
      refine go_iload_n dX3_stepInto_0 rfl ?_
      refine go_bipush dX3_stepInto_1 rfl (by decide) ?_
      refine go_idiv dX3_stepInto_3 (by omega) (by omega) ?_
      refine go_iload_n dX3_stepInto_4 rfl ?_
      refine go_bipush dX3_stepInto_5 rfl (by decide) ?_
      refine go_idiv dX3_stepInto_7 (by omega) (by omega) ?_
      refine go_icmp_le (tgt := 15) dX3_stepInto_8 rfl (fun h8 => ?_) (fun h8 => ?_)
      ·
        refine go_iconst dX3_stepInto_15 rfl ?_
        refine go_istore_n dX3_stepInto_16 rfl ?_
        refine go_aload_n dX3_stepInto_17 rfl ?_
        refine go_getR dX3_stepInto_18 fl_X3_43 (by first | assumption | exact Nat.le_of_ble_eq_true rfl) (by first | assumption | rfl) rfl (by first | assumption | rfl) ?_
        refine go_iconst dX3_stepInto_21 rfl ?_
        refine go_aload_n dX3_stepInto_22 rfl ?_
        refine go_getI 13 dX3_stepInto_23 fl_X3_59 (by first | assumption | exact Nat.le_of_ble_eq_true rfl) (by first | assumption | rfl) rfl rfl ?_
        refine go_vI (ci := 1) dX3_stepInto_26 (ct_X2_lastOf 2 _ iX.1 iX.2) ml_X3_68 mc_X2_lastOf mv_X2_lastOf rfl (by first | assumption | exact Nat.le_of_ble_eq_true rfl) (by first | assumption | rfl) rfl ⟨rfl, rfl⟩ ⟨Nat.le_refl _, Nat.le_refl _⟩ rfl rfl rfl (fun x26 μ26 hc26 => ?_)
        obtain ⟨rfl, hm26⟩ := hc26
        rw [hm26, hlk]
        simp only [onI]
        refine go_istore dX3_stepInto_29 rfl ?_
        refine go_iload dX3_stepInto_31 rfl ?_
        refine go_ldc dX3_stepInto_33 kc_X3_73 rfl ?_
        refine go_icmp_ne (tgt := 56) dX3_stepInto_35 rfl (fun h35 => ?_) (fun h35 => ?_)
        ·
          first | exact absurd rfl h35 | exact absurd h35 (by omega)
        ·
          refine go_iconst dX3_stepInto_38 rfl ?_
          refine go_aload_n dX3_stepInto_39 rfl ?_
          refine go_getR dX3_stepInto_40 fl_X3_15 (by first | assumption | exact Nat.le_of_ble_eq_true rfl) (by first | assumption | rfl) rfl (by first | assumption | rfl) ?_
          refine go_iload_n dX3_stepInto_43 rfl ?_
          refine go_iaload dX3_stepInto_44 (by first | assumption | exact Nat.le_of_ble_eq_true rfl) (by first | assumption | rfl) (by omega) (by omega) ?_
          try simp (disch := omega) only [ud, ua_same, ua_ne, uf_same, uf_ne]
          refine go_bipush dX3_stepInto_45 rfl (by decide) ?_
          refine go_idiv dX3_stepInto_47 (by omega) (by omega) ?_
          refine go_iadd dX3_stepInto_48 ⟨by omega, by omega⟩ ?_
          refine go_iconst dX3_stepInto_49 rfl ?_
          refine go_iload_n dX3_stepInto_50 rfl ?_
          refine go_imul dX3_stepInto_51 ⟨by omega, by omega⟩ ?_
          refine go_iadd dX3_stepInto_52 ⟨by omega, by omega⟩ ?_
          refine go_goto (tgt := 73) dX3_stepInto_53 rfl ?_
          refine go_istore dX3_stepInto_73 rfl ?_
          refine go_iload dX3_stepInto_75 rfl ?_
          refine go_iconst dX3_stepInto_77 rfl ?_
          refine go_bipush dX3_stepInto_78 rfl (by decide) ?_
          refine go_sI dX3_stepInto_80 (ct_X9_heldWithin _ _ _) ml_X3_78 mc_X9_heldWithin ms_X9_heldWithin ⟨rfl, rfl⟩ ⟨Nat.le_refl _, Nat.le_refl _⟩ rfl rfl rfl (fun x80 μ80 hc80 => ?_)
          obtain ⟨rfl, hm80⟩ := hc80
          rw [hm80]
          exact go_ri dX3_stepInto_83 tyI ⟨Nat.le_refl _, Nat.le_refl _⟩ (⟨by unfold stepV upV; rw [lawOf_c, hlk, if_neg hup]; simp only [Option.map]; omega, fun _ _ => rfl⟩)
      ·
        exact absurd h8 (by omega)
    | some i =>
      have hin := (lastK_lt hlk).1
      have hi14 := iW.1
      have hb2 := iS b hb0 hb1
      refine go_iload_n dX3_stepInto_0 rfl ?_
      refine go_bipush dX3_stepInto_1 rfl (by decide) ?_
      refine go_idiv dX3_stepInto_3 (by omega) (by omega) ?_
      refine go_iload_n dX3_stepInto_4 rfl ?_
      refine go_bipush dX3_stepInto_5 rfl (by decide) ?_
      refine go_idiv dX3_stepInto_7 (by omega) (by omega) ?_
      refine go_icmp_le (tgt := 15) dX3_stepInto_8 rfl (fun h8 => ?_) (fun h8 => ?_)
      ·
        refine go_iconst dX3_stepInto_15 rfl ?_
        refine go_istore_n dX3_stepInto_16 rfl ?_
        refine go_aload_n dX3_stepInto_17 rfl ?_
        refine go_getR dX3_stepInto_18 fl_X3_43 (by first | assumption | exact Nat.le_of_ble_eq_true rfl) (by first | assumption | rfl) rfl (by first | assumption | rfl) ?_
        refine go_iconst dX3_stepInto_21 rfl ?_
        refine go_aload_n dX3_stepInto_22 rfl ?_
        refine go_getI 13 dX3_stepInto_23 fl_X3_59 (by first | assumption | exact Nat.le_of_ble_eq_true rfl) (by first | assumption | rfl) rfl rfl ?_
        refine go_vI (ci := 1) dX3_stepInto_26 (ct_X2_lastOf 2 _ iX.1 iX.2) ml_X3_68 mc_X2_lastOf mv_X2_lastOf rfl (by first | assumption | exact Nat.le_of_ble_eq_true rfl) (by first | assumption | rfl) rfl ⟨rfl, rfl⟩ ⟨Nat.le_refl _, Nat.le_refl _⟩ rfl rfl rfl (fun x26 μ26 hc26 => ?_)
        obtain ⟨rfl, hm26⟩ := hc26
        rw [hm26, hlk]
        simp only [onI]
        refine go_istore dX3_stepInto_29 rfl ?_
        refine go_iload dX3_stepInto_31 rfl ?_
        refine go_ldc dX3_stepInto_33 kc_X3_73 rfl ?_
        refine go_icmp_ne (tgt := 56) dX3_stepInto_35 rfl (fun h35 => ?_) (fun h35 => ?_)
        ·
          refine go_aload_n dX3_stepInto_56 rfl ?_
          refine go_getR dX3_stepInto_57 fl_X3_43 (by first | assumption | exact Nat.le_of_ble_eq_true rfl) (by first | assumption | rfl) rfl (by first | assumption | rfl) ?_
          refine go_iload dX3_stepInto_60 rfl ?_
          refine go_aload_n dX3_stepInto_62 rfl ?_
          refine go_getR dX3_stepInto_63 fl_X3_15 (by first | assumption | exact Nat.le_of_ble_eq_true rfl) (by first | assumption | rfl) rfl (by first | assumption | rfl) ?_
          refine go_iload_n dX3_stepInto_66 rfl ?_
          refine go_iaload dX3_stepInto_67 (by first | assumption | exact Nat.le_of_ble_eq_true rfl) (by first | assumption | rfl) (by omega) (by omega) ?_
          try simp (disch := omega) only [ud, ua_same, ua_ne, uf_same, uf_ne]
          refine go_iload_n dX3_stepInto_68 rfl ?_
          refine go_iconst dX3_stepInto_69 rfl ?_
          refine go_vI (ci := 1) dX3_stepInto_70 (ct_X2_worth (i : Nat) _ _ _ (by omega) (by omega) (by simpa using (iW.2.1 i hin).1) (by simpa using (iW.2.1 i hin).2) (by simpa using (wo_f (pvW (μ (M + 2) b) 0 0) iW hin).1) (by simpa using (wo_f (pvW (μ (M + 2) b) 0 0) iW hin).2)) ml_X3_74 mc_X2_worth mv_X2_worth rfl (by first | assumption | exact Nat.le_of_ble_eq_true rfl) (by first | assumption | rfl) rfl ⟨rfl, rfl⟩ ⟨Nat.le_refl _, Nat.le_refl _⟩ rfl rfl rfl (fun x70 μ70 hc70 => ?_)
          simp only [Int.toNat_natCast] at hc70
          obtain ⟨rfl, hf70⟩ := hc70
          refine go_istore dX3_stepInto_73 rfl ?_
          refine go_iload dX3_stepInto_75 rfl ?_
          refine go_iconst dX3_stepInto_77 rfl ?_
          refine go_bipush dX3_stepInto_78 rfl (by decide) ?_
          refine go_sI dX3_stepInto_80 (ct_X9_heldWithin _ _ _) ml_X3_78 mc_X9_heldWithin ms_X9_heldWithin ⟨rfl, rfl⟩ ⟨Nat.le_refl _, Nat.le_refl _⟩ rfl rfl rfl (fun x80 μ80 hc80 => ?_)
          obtain ⟨rfl, hm80⟩ := hc80
          rw [hm80]
          exact go_ri dX3_stepInto_83 tyI ⟨Nat.le_refl _, Nat.le_refl _⟩ (⟨by unfold stepV upV; rw [lawOf_c, hlk, if_neg hup]; rfl, hf70⟩)
        ·
          first | exact absurd h35 (by omega) | exact absurd rfl h35
      ·
        exact absurd h8 (by omega)


set_option maxRecDepth 100000 in
set_option maxHeartbeats 4000000 in
theorem ct_X3_addLoad {l : Launch} {D : va_G} {cA : Nat → ClassId} {μ : Mem} {M : Nat} (hMt : isMt M) (c m : Int) (hc0 : 0 ≤ c) (hc1 : c < 30) (h0 : -99999 ≤ μ (M + 3) c ∧ μ (M + 3) c ≤ 99999) (h1 : -99999 ≤ m ∧ m ≤ 99999) : CtN l D cA yX3_addLoad cX3_addLoad 3 none 1 [vr M, vi c, vi m] μ (Pv (fun μ' => μ' = ud μ (M + 3) c (min (μ (M + 3) c + m) 999))) := by
  refine Ct.of (own := RX3) (by decide +kernel) rfl (fun σ => Nat.le_of_ble_eq_true rfl) (fun hM hP ha => ?_)
  obtain ⟨hM32, hM53, hA0, hA1, hA2, hA3, hA4, hA5, hA6, hs0, hs1, hs2, hs3, hs4, hs5, hs6, hr0, hr1, hr2, hr3, hr4, hr5, hr6⟩ := mt_f hMt
  refine go_aload_n dX3_addLoad_0 rfl ?_
  refine go_getR dX3_addLoad_1 fl_X3_18 (by first | assumption | exact Nat.le_of_ble_eq_true rfl) (by first | assumption | rfl) rfl (by first | assumption | rfl) ?_
  refine go_iload_n dX3_addLoad_4 rfl ?_
  refine go_aload_n dX3_addLoad_5 rfl ?_
  refine go_getR dX3_addLoad_6 fl_X3_18 (by first | assumption | exact Nat.le_of_ble_eq_true rfl) (by first | assumption | rfl) rfl (by first | assumption | rfl) ?_
  refine go_iload_n dX3_addLoad_9 rfl ?_
  refine go_iaload dX3_addLoad_10 (by first | assumption | exact Nat.le_of_ble_eq_true rfl) (by first | assumption | rfl) (by omega) (by omega) ?_
  refine go_iload_n dX3_addLoad_11 rfl ?_
  refine go_iadd dX3_addLoad_12 ⟨by omega, by omega⟩ ?_
  refine go_sipush dX3_addLoad_13 rfl (by decide) ?_
  refine go_min dX3_addLoad_16 mw_X3_124 rfl rfl ⟨Nat.le_refl _, Nat.le_refl _⟩ ?_
  refine go_iastore dX3_addLoad_19 (by first | assumption | exact Nat.le_of_ble_eq_true rfl) (by first | assumption | rfl) (by omega) (by omega) ?_
  exact go_rv dX3_addLoad_20 rfl ⟨Nat.le_refl _, Nat.le_refl _⟩ (rfl)

set_option maxRecDepth 100000 in
set_option maxHeartbeats 4000000 in
theorem ct_X3_brace {l : Launch} {D : va_G} {cA : Nat → ClassId} {μ : Mem} {M : Nat} (hMt : isMt M) (hI : mtI μ M) : CtN l D cA yX3_brace cX3_brace 2 none 5 [vr M] μ (Pv (fun μ' => (∀ c, 0 ≤ c → c < 30 → μ' (M + 6) c = plainH (LM μ M) (μ (M + 2) c) (c / 6)) ∧ ∀ q, q ≠ 3 → q ≠ M + 6 → μ' q = μ q)) := by
  refine Ct.of (own := RX3) (by decide +kernel) rfl (fun σ => Nat.le_of_ble_eq_true rfl) (fun hM hP ha => ?_)
  obtain ⟨hM32, hM53, hA0, hA1, hA2, hA3, hA4, hA5, hA6, hs0, hs1, hs2, hs3, hs4, hs5, hs6, hr0, hr1, hr2, hr3, hr4, hr5, hr6⟩ := mt_f hMt
  obtain ⟨iK, iS, iL, iT, iTn, iD, iH, iF, iX, iW⟩ := id hI
  have loop : ∀ (m : Nat) (i : Int) (μ1 : Mem), 30 - i = (m : Nat) → 0 ≤ i → (∀ c, 0 ≤ c → c < i → μ1 (M + 6) c = plainH (LM μ M) (μ (M + 2) c) (c / 6)) → (∀ q, q ≠ 3 → q ≠ M + 6 → μ1 q = μ q) → Go l D cA none RX3 cX3_brace 2 none (5, 0, 0) (QN (Pv (fun μ' => (∀ c, 0 ≤ c → c < 30 → μ' (M + 6) c = plainH (LM μ M) (μ (M + 2) c) (c / 6)) ∧ ∀ q, q ≠ 3 → q ≠ M + 6 → μ' q = μ q))) 113 ρ0 0 0 2 [(0, vr M), (1, vi i)] [] μ1 := by
    intro m
    induction m with
    | zero =>
      intro i μ1 hm hv hdn hf
      refine go_iload_n dX3_brace_2 rfl ?_
      refine go_bipush dX3_brace_3 rfl (by decide) ?_
      refine go_icmp_ge (tgt := 25) dX3_brace_5 rfl (fun h5 => ?_) (fun h5 => ?_)
      ·
        exact go_rv dX3_brace_25 rfl ⟨Nat.le_refl _, Nat.le_refl _⟩ (⟨fun c c0 c1 => hdn c c0 (by omega), hf⟩)
      ·
        exact absurd h5 (by omega)
    | succ m ih =>
      intro i μ1 hm hv hdn hf
      refine go_iload_n dX3_brace_2 rfl ?_
      refine go_bipush dX3_brace_3 rfl (by decide) ?_
      refine go_icmp_ge (tgt := 25) dX3_brace_5 rfl (fun h5 => ?_) (fun h5 => ?_)
      ·
        exact absurd h5 (by omega)
      ·
        refine go_aload_n dX3_brace_8 rfl ?_
        refine go_getR dX3_brace_9 fl_X3_27 (by first | assumption | exact Nat.le_of_ble_eq_true rfl) (by first | assumption | rfl) rfl (by first | assumption | rfl) ?_
        refine go_iload_n dX3_brace_12 rfl ?_
        refine go_aload_n dX3_brace_13 rfl ?_
        refine go_iload_n dX3_brace_14 rfl ?_
        refine go_vI (ci := 2) dX3_brace_15 (ct_X3_plainHold hMt (mtI_fr hM32 (fun q h1 _ h2 => hf q h1 h2) hI) _ (by omega) (by omega)) ml_X3_108 mc_X3_plainHold mv_X3_plainHold rfl (by first | assumption | exact Nat.le_of_ble_eq_true rfl) (by first | assumption | rfl) rfl ⟨rfl, rfl⟩ ⟨Nat.le_refl _, Nat.le_refl _⟩ rfl rfl rfl (fun x15 μ15 hc15 => ?_)
        obtain ⟨rfl, hf15⟩ := hc15
        rw [LM_fr hM32 hI (fun q h1 _ h2 => hf q h1 h2), hf (M + 2) (by omega) (by omega)]
        refine go_iastore dX3_brace_18 (by first | assumption | exact Nat.le_of_ble_eq_true rfl) (by first | assumption | rfl) (by omega) (by omega) ?_
        refine go_iinc dX3_brace_19 rfl rfl ⟨by omega, by omega⟩ ?_
        refine go_goto (tgt := 2) dX3_brace_22 rfl ?_
        refine go_drop (ih _ _ (by omega) (by omega) ?_ ?_) rfl
        · intro c c0 c1
          rw [ud_s]
          by_cases e : c = i
          · rw [e, uf_same]
          · rw [uf_ne e, hf15 _ (by omega)]
            exact hdn c c0 (by omega)
        · intro q h1 h2
          rw [ud_n h2, hf15 q h1]
          exact hf q h1 h2
  refine go_iconst dX3_brace_0 rfl ?_
  refine go_istore_n dX3_brace_1 rfl ?_
  exact go_drop (loop 30 0 μ (by omega) (by omega) (fun c c0 c1 => absurd c1 (by omega)) (fun _ _ _ => rfl)) rfl

set_option maxRecDepth 100000 in
set_option maxHeartbeats 4000000 in
theorem ct_X3_drawByLot {l : Launch} {D : va_G} {cA : Nat → ClassId} {μ : Mem} {M : Nat} (hMt : isMt M) : CtN l D cA yX3_drawByLot cX3_drawByLot 2 none 2 [vr M] μ (Pv (fun μ' => (∀ c, 0 ≤ c → c < 30 → μ' (M + 1) c = dv (zN (μ M 11) (3 * c.toNat + 1)) % 6 ∧ μ' (M + 2) c = dv (zN (μ M 11) (3 * c.toNat + 2)) % 50 ∧ μ' (M + 3) c = dv (zN (μ M 11) (3 * c.toNat + 3)) % 40) ∧ μ' M = uf (μ M) 11 (zN (μ M 11) 90) ∧ ∀ q, q ≠ M → q ≠ M + 1 → q ≠ M + 2 → q ≠ M + 3 → μ' q = μ q)) := by
  refine Ct.of (own := RX3) (by decide +kernel) rfl (fun σ => Nat.le_of_ble_eq_true rfl) (fun hM hP ha => ?_)
  obtain ⟨hM32, hM53, hA0, hA1, hA2, hA3, hA4, hA5, hA6, hs0, hs1, hs2, hs3, hs4, hs5, hs6, hr0, hr1, hr2, hr3, hr4, hr5, hr6⟩ := mt_f hMt
  have loop : ∀ (m : Nat) (i : Int) (μ1 : Mem), 30 - i = (m : Nat) → 0 ≤ i → (∀ c, 0 ≤ c → c < i → μ1 (M + 1) c = dv (zN (μ M 11) (3 * c.toNat + 1)) % 6 ∧ μ1 (M + 2) c = dv (zN (μ M 11) (3 * c.toNat + 2)) % 50 ∧ μ1 (M + 3) c = dv (zN (μ M 11) (3 * c.toNat + 3)) % 40) → (μ1 M = uf (μ M) 11 (zN (μ M 11) (3 * i.toNat))) → (∀ q, q ≠ M → q ≠ M + 1 → q ≠ M + 2 → q ≠ M + 3 → μ1 q = μ q) → Go l D cA none RX3 cX3_drawByLot 2 none (2, 0, 0) (QN (Pv (fun μ' => (∀ c, 0 ≤ c → c < 30 → μ' (M + 1) c = dv (zN (μ M 11) (3 * c.toNat + 1)) % 6 ∧ μ' (M + 2) c = dv (zN (μ M 11) (3 * c.toNat + 2)) % 50 ∧ μ' (M + 3) c = dv (zN (μ M 11) (3 * c.toNat + 3)) % 40) ∧ μ' M = uf (μ M) 11 (zN (μ M 11) 90) ∧ ∀ q, q ≠ M → q ≠ M + 1 → q ≠ M + 2 → q ≠ M + 3 → μ' q = μ q))) 113 ρ0 0 0 2 [(0, vr M), (1, vi i)] [] μ1 := by
    intro m
    induction m with
    | zero =>
      intro i μ1 hm hv hdn hz hf
      refine go_iload_n dX3_drawByLot_2 rfl ?_
      refine go_bipush dX3_drawByLot_3 rfl (by decide) ?_
      refine go_icmp_ge (tgt := 53) dX3_drawByLot_5 rfl (fun h5 => ?_) (fun h5 => ?_)
      ·
        exact go_rv dX3_drawByLot_53 rfl ⟨Nat.le_refl _, Nat.le_refl _⟩ (⟨fun c c0 c1 => hdn c c0 (by omega), by rw [hz, show 3 * i.toNat = 90 by omega], hf⟩)
      ·
        exact absurd h5 (by omega)
    | succ m ih =>
      intro i μ1 hm hv hdn hz hf
      refine go_iload_n dX3_drawByLot_2 rfl ?_
      refine go_bipush dX3_drawByLot_3 rfl (by decide) ?_
      refine go_icmp_ge (tgt := 53) dX3_drawByLot_5 rfl (fun h5 => ?_) (fun h5 => ?_)
      ·
        exact absurd h5 (by omega)
      ·
        refine go_aload_n dX3_drawByLot_8 rfl ?_
        refine go_getR dX3_drawByLot_9 fl_X3_9 (by first | assumption | exact Nat.le_of_ble_eq_true rfl) (by first | assumption | rfl) rfl (by first | assumption | rfl) ?_
        refine go_iload_n dX3_drawByLot_12 rfl ?_
        refine go_aload_n dX3_drawByLot_13 rfl ?_
        refine go_vI (ci := 2) dX3_drawByLot_14 (ct_X3_draw hMt) ml_X3_99 mc_X3_draw mv_X3_draw rfl (by first | assumption | exact Nat.le_of_ble_eq_true rfl) (by first | assumption | rfl) rfl ⟨rfl, rfl⟩ ⟨Nat.le_refl _, Nat.le_refl _⟩ rfl rfl rfl (fun x14 μ14 hc14 => ?_)
        obtain ⟨rfl, hm14⟩ := hc14
        rw [hz, uf_same, show dz (zN (μ M 11) (3 * i.toNat)) = zN (μ M 11) (3 * i.toNat + 1) from rfl] at hm14 ⊢
        have hb14 := dv_b (zN (μ M 11) (3 * i.toNat + 1))
        refine go_bipush dX3_drawByLot_17 rfl (by decide) ?_
        refine go_irem dX3_drawByLot_19 (by omega) (by omega) ?_
        refine go_iastore dX3_drawByLot_20 (by first | assumption | exact Nat.le_of_ble_eq_true rfl) (by first | assumption | rfl) (by omega) (by omega) ?_
        refine go_aload_n dX3_drawByLot_21 rfl ?_
        refine go_getR dX3_drawByLot_22 fl_X3_15 (by first | assumption | exact Nat.le_of_ble_eq_true rfl) (by first | assumption | rfl) rfl (by first | assumption | rfl) ?_
        refine go_iload_n dX3_drawByLot_25 rfl ?_
        refine go_aload_n dX3_drawByLot_26 rfl ?_
        refine go_vI (ci := 2) dX3_drawByLot_27 (ct_X3_draw hMt) ml_X3_99 mc_X3_draw mv_X3_draw rfl (by first | assumption | exact Nat.le_of_ble_eq_true rfl) (by first | assumption | rfl) rfl ⟨rfl, rfl⟩ ⟨Nat.le_refl _, Nat.le_refl _⟩ rfl rfl rfl (fun x27 μ27 hc27 => ?_)
        obtain ⟨rfl, hm27⟩ := hc27
        have e27 : ud μ14 (M + 1) i (dv (zN (μ M 11) (3 * i.toNat + 1)) % 6) M 11 = zN (μ M 11) (3 * i.toNat + 1) := by rw [ud_n (by omega), hm14, ud_s, uf_same]
        rw [e27, show dz (zN (μ M 11) (3 * i.toNat + 1)) = zN (μ M 11) (3 * i.toNat + 2) from rfl] at hm27 ⊢
        have hb27 := dv_b (zN (μ M 11) (3 * i.toNat + 2))
        refine go_bipush dX3_drawByLot_30 rfl (by decide) ?_
        refine go_irem dX3_drawByLot_32 (by omega) (by omega) ?_
        refine go_iastore dX3_drawByLot_33 (by first | assumption | exact Nat.le_of_ble_eq_true rfl) (by first | assumption | rfl) (by omega) (by omega) ?_
        refine go_aload_n dX3_drawByLot_34 rfl ?_
        refine go_getR dX3_drawByLot_35 fl_X3_18 (by first | assumption | exact Nat.le_of_ble_eq_true rfl) (by first | assumption | rfl) rfl (by first | assumption | rfl) ?_
        refine go_iload_n dX3_drawByLot_38 rfl ?_
        refine go_aload_n dX3_drawByLot_39 rfl ?_
        refine go_vI (ci := 2) dX3_drawByLot_40 (ct_X3_draw hMt) ml_X3_99 mc_X3_draw mv_X3_draw rfl (by first | assumption | exact Nat.le_of_ble_eq_true rfl) (by first | assumption | rfl) rfl ⟨rfl, rfl⟩ ⟨Nat.le_refl _, Nat.le_refl _⟩ rfl rfl rfl (fun x40 μ40 hc40 => ?_)
        obtain ⟨rfl, hm40⟩ := hc40
        have e40 : ud μ27 (M + 2) i (dv (zN (μ M 11) (3 * i.toNat + 2)) % 50) M 11 = zN (μ M 11) (3 * i.toNat + 2) := by rw [ud_n (by omega), hm27, ud_s, uf_same]
        rw [e40, show dz (zN (μ M 11) (3 * i.toNat + 2)) = zN (μ M 11) (3 * i.toNat + 3) from rfl] at hm40 ⊢
        have hb40 := dv_b (zN (μ M 11) (3 * i.toNat + 3))
        refine go_bipush dX3_drawByLot_43 rfl (by decide) ?_
        refine go_irem dX3_drawByLot_45 (by omega) (by omega) ?_
        refine go_iastore dX3_drawByLot_46 (by first | assumption | exact Nat.le_of_ble_eq_true rfl) (by first | assumption | rfl) (by omega) (by omega) ?_
        refine go_iinc dX3_drawByLot_47 rfl rfl ⟨by omega, by omega⟩ ?_
        refine go_goto (tgt := 2) dX3_drawByLot_50 rfl ?_
        subst hm40
        subst hm27
        subst hm14
        refine go_drop (ih _ _ (by omega) (by omega) ?_ ?_ ?_) rfl
        · intro c c0 c1
          by_cases e : c = i
          · subst e
            simp (disch := omega) only [ud, ua_same, ua_ne, uf_same, uf_ne]
            exact ⟨trivial, trivial, trivial⟩
          · have := hdn c c0 (by omega)
            simp (disch := omega) only [ud, ua_same, ua_ne, uf_same, uf_ne, e]
            exact this
        · rw [show 3 * (i + 1).toNat = 3 * i.toNat + 3 by omega]
          simp (disch := omega) only [ud, ua_same, ua_ne]
          rw [hz]
          funext k
          unfold uf
          split <;> rfl
        · intro q h1 h2 h3 h4
          simp (disch := omega) only [ud, ua_ne]
          exact hf q h1 h2 h3 h4
  refine go_iconst dX3_drawByLot_0 rfl ?_
  refine go_istore_n dX3_drawByLot_1 rfl ?_
  refine go_drop (loop 30 0 μ (by omega) (by omega) (fun c c0 c1 => absurd c1 (by omega)) ?_ (fun _ _ _ _ _ => rfl)) rfl
  show μ M = uf (μ M) 11 (μ M 11)
  funext k
  unfold uf
  split
  · subst_vars; rfl
  · rfl

