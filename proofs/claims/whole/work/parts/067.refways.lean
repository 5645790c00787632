/-! THE REFERENCE: ways -/
set_option maxRecDepth 100000 in
set_option maxHeartbeats 4000000 in
theorem ct_X10_knowsRisks {l : Launch} {D : va_G} {cA : Nat → ClassId} {μ : Mem} (hI : mdI (μ 88)) : CtN l D cA yX10_knowsRisks cX10_knowsRisks 2 none 7 [vr 87] μ (Pv (fun μ' => (∀ c, 0 ≤ c → c < 30 → μ' 101 c = (rkC (vm (μ 88)) 32) c) ∧ ∀ q, q ≠ 101 → q ≠ 108 → q ≠ 109 → μ' q = μ q)) := by
  refine Ct.of (own := RX10) (by decide +kernel) rfl (fun σ => Nat.le_of_ble_eq_true rfl) (fun hM hP ha => ?_)
  obtain ⟨m87, r88, s88, r89, s89, r90, s90, r91, s91, r92, s92, r93, s93, r94, s94, r95, s95, r96, s96, r97, s97, r98, s98, r99, s99, r100, s100, r101, s101, r102, s102, r103, s103, r104, s104, r105, s105, r106, s106, r107, s107, r108, s108, r109, s109, r110, s110, r111, s111, r112, s112⟩ := md_f
  have loop : ∀ (m : Nat) (i : Int) (μ1 : Mem), 30 - i = (m : Nat) → 0 ≤ i → (∀ c, 0 ≤ c → c < i → μ1 101 c = (rkC (vm (μ 88)) 32) c) → (∀ q, q ≠ 101 → q ≠ 108 → q ≠ 109 → μ1 q = μ q) → Go l D cA none RX10 cX10_knowsRisks 2 none (7, 0, 0) (QN (Pv (fun μ' => (∀ c, 0 ≤ c → c < 30 → μ' 101 c = (rkC (vm (μ 88)) 32) c) ∧ ∀ q, q ≠ 101 → q ≠ 108 → q ≠ 109 → μ' q = μ q))) 113 ρ0 0 0 2 [(0, vr 87), (1, vi i)] [] μ1 := by
    intro m
    induction m with
    | zero =>
      intro i μ1 hm hv hdn hf
      refine go_iload_n dX10_knowsRisks_2 rfl ?_
      refine go_bipush dX10_knowsRisks_3 rfl (by decide) ?_
      refine go_icmp_ge (tgt := 25) dX10_knowsRisks_5 rfl (fun h5 => ?_) (fun h5 => ?_)
      ·
        exact go_rv dX10_knowsRisks_25 rfl ⟨Nat.le_refl _, Nat.le_refl _⟩ (⟨fun c c0 c1 => hdn c c0 (by omega), hf⟩)
      ·
        exact absurd h5 (by omega)
    | succ m ih =>
      intro i μ1 hm hv hdn hf
      refine go_iload_n dX10_knowsRisks_2 rfl ?_
      refine go_bipush dX10_knowsRisks_3 rfl (by decide) ?_
      refine go_icmp_ge (tgt := 25) dX10_knowsRisks_5 rfl (fun h5 => ?_) (fun h5 => ?_)
      ·
        exact absurd h5 (by omega)
      ·
        have e88 : μ1 88 = μ 88 := hf _ (by decide) (by decide) (by decide)
        refine go_aload_n dX10_knowsRisks_8 rfl ?_
        refine go_getR dX10_knowsRisks_9 fl_X10_49 (by first | assumption | exact Nat.le_of_ble_eq_true rfl) (by first | assumption | rfl) rfl (by first | assumption | rfl) ?_
        refine go_iload_n dX10_knowsRisks_12 rfl ?_
        refine go_aload_n dX10_knowsRisks_13 rfl ?_
        refine go_iload_n dX10_knowsRisks_14 rfl ?_
        refine go_vI (ci := 9) dX10_knowsRisks_15 (ct_X10_risk (by rw [e88]; exact hI) _ (by omega) (by omega)) ml_X10_131 mc_X10_risk mv_X10_risk rfl (by first | assumption | exact Nat.le_of_ble_eq_true rfl) (by first | assumption | rfl) rfl ⟨rfl, rfl⟩ ⟨Nat.le_refl _, Nat.le_refl _⟩ rfl rfl rfl (fun x15 μ15 hc15 => ?_)
        rw [e88] at hc15
        obtain ⟨rfl, hf15⟩ := hc15
        refine go_iastore dX10_knowsRisks_18 (by first | assumption | exact Nat.le_of_ble_eq_true rfl) (by first | assumption | rfl) (by omega) (by omega) ?_
        refine go_iinc dX10_knowsRisks_19 rfl rfl ⟨by omega, by omega⟩ ?_
        refine go_goto (tgt := 2) dX10_knowsRisks_22 rfl ?_
        refine go_drop (ih _ _ (by omega) (by omega) ?_ ?_) rfl
        · intro c c0 c1
          rw [ud_s]
          by_cases e : c = i
          · rw [e, uf_same]
          · rw [uf_ne e, hf15 101 (by decide) (by decide)]; exact hdn c c0 (by omega)
        · intro q a b c; rw [ud_n a, hf15 q b c]; exact hf q a b c
  refine go_iconst dX10_knowsRisks_0 rfl ?_
  refine go_istore_n dX10_knowsRisks_1 rfl ?_
  exact go_drop (loop 30 0 μ (by omega) (by omega) (fun c c0 c1 => absurd c1 (by omega)) (fun _ _ _ _ => rfl)) rfl

def lsM_d (rk le sp : Int → Int) (c b : Int) : Decidable (lsM rk le sp c b) := by unfold lsM; exact inferInstance
theorem lsM_cg {rk rk' le sp : Int → Int} {c b : Int} (h : rk b = rk' b) : lsM rk le sp c b ↔ lsM rk' le sp c b := by unfold lsM; rw [h]

set_option maxRecDepth 100000 in
set_option maxHeartbeats 4000000 in
theorem ct_X10_isLess {l : Launch} {D : va_G} {cA : Nat → ClassId} {μ : Mem} (c b : Int) (c0 : 0 ≤ c) (c1 : c < 30) (b0 : 0 ≤ b) (b1 : b < 30) (h1 : 0 ≤ μ 102 b ∧ μ 102 b ≤ 1000000000) (h2 : 0 ≤ μ 101 b ∧ μ 101 b ≤ 2996) (h3 : 0 ≤ μ 103 b ∧ μ 103 b ≤ 99) : CtN l D cA yX10_isLess cX10_isLess 4 (some .boolean) 0 [vr 87, vi c, vi b] μ (Pi (fun x μ' => x = tv (lsM (μ 101) (μ 102) (μ 103) c b) (lsM_d _ _ _ _ _) ∧ μ' = μ)) := by
  refine Ct.of (own := RX10) (by decide +kernel) rfl (fun σ => Nat.le_of_ble_eq_true rfl) (fun hM hP ha => ?_)
  obtain ⟨m87, r88, s88, r89, s89, r90, s90, r91, s91, r92, s92, r93, s93, r94, s94, r95, s95, r96, s96, r97, s97, r98, s98, r99, s99, r100, s100, r101, s101, r102, s102, r103, s103, r104, s104, r105, s105, r106, s106, r107, s107, r108, s108, r109, s109, r110, s110, r111, s111, r112, s112⟩ := md_f
  refine go_aload_n dX10_isLess_0 rfl ?_
  refine go_getR dX10_isLess_1 fl_X10_52 (by first | assumption | exact Nat.le_of_ble_eq_true rfl) (by first | assumption | rfl) rfl (by first | assumption | rfl) ?_
  refine go_iload_n dX10_isLess_4 rfl ?_
  refine go_iaload dX10_isLess_5 (by first | assumption | exact Nat.le_of_ble_eq_true rfl) (by first | assumption | rfl) (by omega) (by omega) ?_
  refine go_aload_n dX10_isLess_6 rfl ?_
  refine go_getR dX10_isLess_7 fl_X10_49 (by first | assumption | exact Nat.le_of_ble_eq_true rfl) (by first | assumption | rfl) rfl (by first | assumption | rfl) ?_
  refine go_iload_n dX10_isLess_10 rfl ?_
  refine go_iaload dX10_isLess_11 (by first | assumption | exact Nat.le_of_ble_eq_true rfl) (by first | assumption | rfl) (by omega) (by omega) ?_
  refine go_iadd dX10_isLess_12 ⟨by omega, by omega⟩ ?_
  refine go_istore_n dX10_isLess_13 rfl ?_
  refine go_aload_n dX10_isLess_14 rfl ?_
  refine go_getR dX10_isLess_15 fl_X10_52 (by first | assumption | exact Nat.le_of_ble_eq_true rfl) (by first | assumption | rfl) rfl (by first | assumption | rfl) ?_
  refine go_iload_n dX10_isLess_18 rfl ?_
  refine go_iaload dX10_isLess_19 (by first | assumption | exact Nat.le_of_ble_eq_true rfl) (by first | assumption | rfl) (by omega) (by omega) ?_
  refine go_ldc dX10_isLess_20 kc_X10_200 rfl ?_
  refine go_icmp_ge (tgt := 66) dX10_isLess_22 rfl (fun h22 => ?_) (fun h22 => ?_)
  ·
    refine go_iconst dX10_isLess_66 rfl ?_
    exact go_ri dX10_isLess_67 (tyZ (by first | exact Or.inl rfl | exact Or.inr rfl | exact tv_01 | assumption)) ⟨Nat.le_refl _, Nat.le_refl _⟩ (by first | exact ⟨(tv_n (by unfold lsM; omega)).symm, rfl⟩ | exact ⟨(tv_1 (by unfold lsM; omega)).symm, rfl⟩)
  ·
    refine go_iload_n dX10_isLess_25 rfl ?_
    refine go_aload_n dX10_isLess_26 rfl ?_
    refine go_getR dX10_isLess_27 fl_X10_52 (by first | assumption | exact Nat.le_of_ble_eq_true rfl) (by first | assumption | rfl) rfl (by first | assumption | rfl) ?_
    refine go_iload_n dX10_isLess_30 rfl ?_
    refine go_iaload dX10_isLess_31 (by first | assumption | exact Nat.le_of_ble_eq_true rfl) (by first | assumption | rfl) (by omega) (by omega) ?_
    refine go_icmp_lt (tgt := 62) dX10_isLess_32 rfl (fun h32 => ?_) (fun h32 => ?_)
    ·
      refine go_iconst dX10_isLess_62 rfl ?_
      refine go_goto (tgt := 67) dX10_isLess_63 rfl ?_
      exact go_ri dX10_isLess_67 (tyZ (by first | exact Or.inl rfl | exact Or.inr rfl | exact tv_01 | assumption)) ⟨Nat.le_refl _, Nat.le_refl _⟩ (by first | exact ⟨(tv_n (by unfold lsM; omega)).symm, rfl⟩ | exact ⟨(tv_1 (by unfold lsM; omega)).symm, rfl⟩)
    ·
      refine go_iload_n dX10_isLess_35 rfl ?_
      refine go_aload_n dX10_isLess_36 rfl ?_
      refine go_getR dX10_isLess_37 fl_X10_52 (by first | assumption | exact Nat.le_of_ble_eq_true rfl) (by first | assumption | rfl) rfl (by first | assumption | rfl) ?_
      refine go_iload_n dX10_isLess_40 rfl ?_
      refine go_iaload dX10_isLess_41 (by first | assumption | exact Nat.le_of_ble_eq_true rfl) (by first | assumption | rfl) (by omega) (by omega) ?_
      refine go_icmp_ne (tgt := 66) dX10_isLess_42 rfl (fun h42 => ?_) (fun h42 => ?_)
      ·
        refine go_iconst dX10_isLess_66 rfl ?_
        exact go_ri dX10_isLess_67 (tyZ (by first | exact Or.inl rfl | exact Or.inr rfl | exact tv_01 | assumption)) ⟨Nat.le_refl _, Nat.le_refl _⟩ (by first | exact ⟨(tv_n (by unfold lsM; omega)).symm, rfl⟩ | exact ⟨(tv_1 (by unfold lsM; omega)).symm, rfl⟩)
      ·
        refine go_aload_n dX10_isLess_45 rfl ?_
        refine go_getR dX10_isLess_46 fl_X10_55 (by first | assumption | exact Nat.le_of_ble_eq_true rfl) (by first | assumption | rfl) rfl (by first | assumption | rfl) ?_
        refine go_iload_n dX10_isLess_49 rfl ?_
        refine go_iaload dX10_isLess_50 (by first | assumption | exact Nat.le_of_ble_eq_true rfl) (by first | assumption | rfl) (by omega) (by omega) ?_
        refine go_iconst dX10_isLess_51 rfl ?_
        refine go_iadd dX10_isLess_52 ⟨by omega, by omega⟩ ?_
        refine go_aload_n dX10_isLess_53 rfl ?_
        refine go_getR dX10_isLess_54 fl_X10_55 (by first | assumption | exact Nat.le_of_ble_eq_true rfl) (by first | assumption | rfl) rfl (by first | assumption | rfl) ?_
        refine go_iload_n dX10_isLess_57 rfl ?_
        refine go_iaload dX10_isLess_58 (by first | assumption | exact Nat.le_of_ble_eq_true rfl) (by first | assumption | rfl) (by omega) (by omega) ?_
        refine go_icmp_ge (tgt := 66) dX10_isLess_59 rfl (fun h59 => ?_) (fun h59 => ?_)
        ·
          refine go_iconst dX10_isLess_66 rfl ?_
          exact go_ri dX10_isLess_67 (tyZ (by first | exact Or.inl rfl | exact Or.inr rfl | exact tv_01 | assumption)) ⟨Nat.le_refl _, Nat.le_refl _⟩ (by first | exact ⟨(tv_n (by unfold lsM; omega)).symm, rfl⟩ | exact ⟨(tv_1 (by unfold lsM; omega)).symm, rfl⟩)
        ·
          refine go_iconst dX10_isLess_62 rfl ?_
          refine go_goto (tgt := 67) dX10_isLess_63 rfl ?_
          exact go_ri dX10_isLess_67 (tyZ (by first | exact Or.inl rfl | exact Or.inr rfl | exact tv_01 | assumption)) ⟨Nat.le_refl _, Nat.le_refl _⟩ (by first | exact ⟨(tv_n (by unfold lsM; omega)).symm, rfl⟩ | exact ⟨(tv_1 (by unfold lsM; omega)).symm, rfl⟩)

set_option maxRecDepth 100000 in
set_option maxHeartbeats 4000000 in
theorem ct_X10_findWays {l : Launch} {D : va_G} {cA : Nat → ClassId} {μ : Mem} (hI : mdI (μ 88)) (a : Int) (a0 : 0 ≤ a) (a1 : a < 30) : CtN l D cA yX10_findWays cX10_findWays 6 none 8 [vr 87, vi a] μ (Pv (fun μ' => (∀ c, 0 ≤ c → c < 30 → μ' 102 c = wF (rkC (vm (μ 88)) 32) a c / 64 ∧ μ' 103 c = wF (rkC (vm (μ 88)) 32) a c % 64 ∧ μ' 103 c ≤ 29 ∧ 0 ≤ μ' 103 c ∧ wF (rkC (vm (μ 88)) 32) a c = μ' 102 c * 64 + μ' 103 c) ∧ (∀ c, 0 ≤ c → c < 30 → μ' 101 c = (rkC (vm (μ 88)) 32) c) ∧ ∀ q, q ≠ 101 → q ≠ 102 → q ≠ 103 → q ≠ 108 → q ≠ 109 → μ' q = μ q)) := by
  refine Ct.of (own := RX10) (by decide +kernel) rfl (fun σ => Nat.le_of_ble_eq_true rfl) (fun hM hP ha => ?_)
  obtain ⟨m87, r88, s88, r89, s89, r90, s90, r91, s91, r92, s92, r93, s93, r94, s94, r95, s95, r96, s96, r97, s97, r98, s98, r99, s99, r100, s100, r101, s101, r102, s102, r103, s103, r104, s104, r105, s105, r106, s106, r107, s107, r108, s108, r109, s109, r110, s110, r111, s111, r112, s112⟩ := md_f
  have hr : ∀ c, 0 ≤ c → c < 30 → 0 ≤ (rkC (vm (μ 88)) 32) c ∧ (rkC (vm (μ 88)) 32) c ≤ 2996 := fun c c0 c1 => rkC_b hI.1 c c0 c1
  have outer : ∀ (n : Nat) (mo : Int) (μ1 : Mem), WI (rkC (vm (μ 88)) 32) (μ1 102) (μ1 103) a → (∀ c, 0 ≤ c → c < 30 → μ1 101 c = (rkC (vm (μ 88)) 32) c) → (∀ q, q ≠ 101 → q ≠ 102 → q ≠ 103 → q ≠ 108 → q ≠ 109 → μ1 q = μ q) → ((mo = 0 ∧ ∀ c2 d : Int, 0 ≤ c2 → c2 < 30 → 0 ≤ d → d < 4 → c2 ≠ a → nb c2 d ≠ -1000000005 → ¬ lsM (rkC (vm (μ 88)) 32) (μ1 102) (μ1 103) c2 (nb c2 d)) ∨ (mo = 1 ∧ sumN (cC (μ1 102) (μ1 103)) 30 < (n : Nat))) → Go l D cA none RX10 cX10_findWays 6 none (8, 0, 0) (QN (Pv (fun μ' => (∀ c, 0 ≤ c → c < 30 → μ' 102 c = wF (rkC (vm (μ 88)) 32) a c / 64 ∧ μ' 103 c = wF (rkC (vm (μ 88)) 32) a c % 64 ∧ μ' 103 c ≤ 29 ∧ 0 ≤ μ' 103 c ∧ wF (rkC (vm (μ 88)) 32) a c = μ' 102 c * 64 + μ' 103 c) ∧ (∀ c, 0 ≤ c → c < 30 → μ' 101 c = (rkC (vm (μ 88)) 32) c) ∧ ∀ q, q ≠ 101 → q ≠ 102 → q ≠ 103 → q ≠ 108 → q ≠ 109 → μ' q = μ q))) 113 ρ0 0 0 44 [(0, vr 87), (1, vi a), (2, vi mo)] [] μ1 := by
    intro n
    induction n with
    | zero =>
      intro mo μ1 hW h101 hf hi
      refine go_iload_n dX10_findWays_44 rfl ?_
      first | refine go_bz (tgt := 148) dX10_findWays_45 rfl (fun h45 => ?_) (fun h45 => ?_) | refine go_if_eq (tgt := 148) dX10_findWays_45 rfl (fun h45 => ?_) (fun h45 => ?_)
      ·
        exact go_rv dX10_findWays_148 rfl ⟨Nat.le_refl _, Nat.le_refl _⟩ (by
            rcases hi with ⟨e, h⟩ | ⟨e, h⟩
            · exact ⟨WI_end a0 a1 hW hr h, h101, hf⟩
            · exact absurd e (by omega))
      ·
        rcases hi with ⟨e, h⟩ | ⟨e, h⟩
        · exact absurd e h45
        · exact absurd (sum_0 (f := cC (μ1 102) (μ1 103)) 30 (fun q q0 q1 => by have := WI_b hW q q0 q1; omega)) (by omega)
    | succ n ih =>
      have lpC : ∀ (s0 : Int), s0 ≤ (n : Nat) → ∀ (m : Nat) (c mo : Int) (μ1 : Mem), 30 - c = (m : Nat) → 0 ≤ c → WI (rkC (vm (μ 88)) 32) (μ1 102) (μ1 103) a → sumN (cC (μ1 102) (μ1 103)) 30 ≤ s0 → (∀ c, 0 ≤ c → c < 30 → μ1 101 c = (rkC (vm (μ 88)) 32) c) → (∀ q, q ≠ 101 → q ≠ 102 → q ≠ 103 → q ≠ 108 → q ≠ 109 → μ1 q = μ q) → ((mo = 0 ∧ ∀ c2 d : Int, 0 ≤ c2 → c2 < 30 → 0 ≤ d → d < 4 → (c2 < c) → c2 ≠ a → nb c2 d ≠ -1000000005 → ¬ lsM (rkC (vm (μ 88)) 32) (μ1 102) (μ1 103) c2 (nb c2 d)) ∨ (mo = 1 ∧ sumN (cC (μ1 102) (μ1 103)) 30 < s0)) → Go l D cA none RX10 cX10_findWays 6 none (8, 0, 0) (QN (Pv (fun μ' => (∀ c, 0 ≤ c → c < 30 → μ' 102 c = wF (rkC (vm (μ 88)) 32) a c / 64 ∧ μ' 103 c = wF (rkC (vm (μ 88)) 32) a c % 64 ∧ μ' 103 c ≤ 29 ∧ 0 ≤ μ' 103 c ∧ wF (rkC (vm (μ 88)) 32) a c = μ' 102 c * 64 + μ' 103 c) ∧ (∀ c, 0 ≤ c → c < 30 → μ' 101 c = (rkC (vm (μ 88)) 32) c) ∧ ∀ q, q ≠ 101 → q ≠ 102 → q ≠ 103 → q ≠ 108 → q ≠ 109 → μ' q = μ q))) 113 ρ0 0 0 52 [(0, vr 87), (1, vi a), (2, vi mo), (3, vi c)] [] μ1 := by
        intro s0 hs0 m
        induction m with
        | zero =>
          intro c mo μ1 hm hc0 hW hS h101 hf hi
          refine go_iload_n dX10_findWays_52 rfl ?_
          refine go_bipush dX10_findWays_53 rfl (by decide) ?_
          refine go_icmp_ge (tgt := 145) dX10_findWays_55 rfl (fun h55 => ?_) (fun h55 => ?_)
          ·
            refine go_goto (tgt := 44) dX10_findWays_145 rfl ?_
            refine go_drop (ih _ μ1 hW h101 hf ?_) rfl
            rcases hi with ⟨e, h⟩ | ⟨e, h⟩
            · exact Or.inl ⟨e, fun c2 d h0 h1 h2 h3 => h c2 d h0 h1 h2 h3 (by omega)⟩
            · exact Or.inr ⟨e, by omega⟩
          ·
            exact absurd h55 (by omega)
        | succ m ih2 =>
          intro c mo μ1 hm hc0 hW hS h101 hf hi
          have inI : ∀ (m3 : Nat) (i mo : Int) (μ1 : Mem), 4 - i = (m3 : Nat) → 0 ≤ i → WI (rkC (vm (μ 88)) 32) (μ1 102) (μ1 103) a → sumN (cC (μ1 102) (μ1 103)) 30 ≤ s0 → (∀ c, 0 ≤ c → c < 30 → μ1 101 c = (rkC (vm (μ 88)) 32) c) → (∀ q, q ≠ 101 → q ≠ 102 → q ≠ 103 → q ≠ 108 → q ≠ 109 → μ1 q = μ q) → ((mo = 0 ∧ ∀ c2 d : Int, 0 ≤ c2 → c2 < 30 → 0 ≤ d → d < 4 → (c2 < c ∨ (c2 = c ∧ d < i)) → c2 ≠ a → nb c2 d ≠ -1000000005 → ¬ lsM (rkC (vm (μ 88)) 32) (μ1 102) (μ1 103) c2 (nb c2 d)) ∨ (mo = 1 ∧ sumN (cC (μ1 102) (μ1 103)) 30 < s0)) → Go l D cA none RX10 cX10_findWays 6 none (8, 0, 0) (QN (Pv (fun μ' => (∀ c, 0 ≤ c → c < 30 → μ' 102 c = wF (rkC (vm (μ 88)) 32) a c / 64 ∧ μ' 103 c = wF (rkC (vm (μ 88)) 32) a c % 64 ∧ μ' 103 c ≤ 29 ∧ 0 ≤ μ' 103 c ∧ wF (rkC (vm (μ 88)) 32) a c = μ' 102 c * 64 + μ' 103 c) ∧ (∀ c, 0 ≤ c → c < 30 → μ' 101 c = (rkC (vm (μ 88)) 32) c) ∧ ∀ q, q ≠ 101 → q ≠ 102 → q ≠ 103 → q ≠ 108 → q ≠ 109 → μ' q = μ q))) 113 ρ0 0 0 61 [(0, vr 87), (1, vi a), (2, vi mo), (3, vi c), (4, vi i)] [] μ1 := by
            intro m3
            induction m3 with
            | zero =>
              intro i mo μ1 hm3 hv hW hS h101 hf hi
              refine go_iload dX10_findWays_61 rfl ?_
              refine go_iconst dX10_findWays_63 rfl ?_
              refine go_icmp_ge (tgt := 139) dX10_findWays_64 rfl (fun h64 => ?_) (fun h64 => ?_)
              ·
                refine go_iinc dX10_findWays_139 rfl rfl ⟨by omega, by omega⟩ ?_
                refine go_goto (tgt := 52) dX10_findWays_142 rfl ?_
                refine go_drop (ih2 _ _ μ1 (by omega) (by omega) hW hS h101 hf ?_) rfl
                rcases hi with ⟨e, h⟩ | h
                · exact Or.inl ⟨e, fun c2 d h0 h1 h2 h3 hc => h c2 d h0 h1 h2 h3 (by omega)⟩
                · exact Or.inr h
              ·
                exact absurd h64 (by omega)
            | succ m3 ih3 =>
              intro i mo μ1 hm3 hv hW hS h101 hf hi
              refine go_iload dX10_findWays_61 rfl ?_
              refine go_iconst dX10_findWays_63 rfl ?_
              refine go_icmp_ge (tgt := 139) dX10_findWays_64 rfl (fun h64 => ?_) (fun h64 => ?_)
              ·
                exact absurd h64 (by omega)
              ·
                have hnr := nbM_r (d := i) hc0 (show c < 30 by omega)
                refine go_iload_n dX10_findWays_67 rfl ?_
                refine go_iload dX10_findWays_68 rfl ?_
                refine go_sI dX10_findWays_70 (ct_X10_beside _ _ (by omega) (by omega) (by omega) (by omega)) ml_X10_179 mc_X10_beside ms_X10_beside ⟨rfl, rfl⟩ ⟨Nat.le_refl _, Nat.le_refl _⟩ rfl rfl rfl (fun x70 μ70 hc70 => ?_)
                obtain ⟨rfl, hm70⟩ := hc70
                rw [hm70]
                refine go_istore dX10_findWays_73 rfl ?_
                refine go_iload_n dX10_findWays_75 rfl ?_
                refine go_iload_n dX10_findWays_76 rfl ?_
                refine go_icmp_eq (tgt := 133) dX10_findWays_77 rfl (fun h77 => ?_) (fun h77 => ?_)
                ·
                  refine go_iinc dX10_findWays_133 rfl rfl ⟨by omega, by omega⟩ ?_
                  refine go_goto (tgt := 61) dX10_findWays_136 rfl ?_
                  refine go_drop (ih3 _ _ μ1 (by omega) (by omega) hW hS h101 hf ?_) rfl
                  rcases hi with ⟨e, h⟩ | h
                  · refine Or.inl ⟨e, fun c2 d h0 h1 h2 h3 hc e4 e5 => ?_⟩
                    by_cases ed : c2 < c ∨ (c2 = c ∧ d < i)
                    · exact h c2 d h0 h1 h2 h3 ed e4 e5
                    · have e1 : c2 = c := by omega
                      have e2 : d = i := by omega
                      exact absurd (e1.trans h77) e4
                  · exact Or.inr h
                ·
                  refine go_iload dX10_findWays_80 rfl ?_
                  refine go_if_lt (tgt := 133) dX10_findWays_82 rfl (fun h82 => ?_) (fun h82 => ?_)
                  ·
                    refine go_iinc dX10_findWays_133 rfl rfl ⟨by omega, by omega⟩ ?_
                    refine go_goto (tgt := 61) dX10_findWays_136 rfl ?_
                    refine go_drop (ih3 _ _ μ1 (by omega) (by omega) hW hS h101 hf ?_) rfl
                    rcases hi with ⟨e, h⟩ | h
                    · refine Or.inl ⟨e, fun c2 d h0 h1 h2 h3 hc e4 e5 => ?_⟩
                      by_cases ed : c2 < c ∨ (c2 = c ∧ d < i)
                      · exact h c2 d h0 h1 h2 h3 ed e4 e5
                      · have e1 : c2 = c := by omega
                        have e2 : d = i := by omega
                        exact absurd (by rw [e1, e2]; omega : nb c2 d = -1000000005) e5
                    · exact Or.inr h
                  ·
                    have hnm : nbM c i = nb c i := by omega
                    have hb0 : 0 ≤ nb c i ∧ nb c i < 30 := by omega
                    have hWb := WI_b hW _ hb0.1 hb0.2
                    have hRb := hr _ hb0.1 hb0.2
                    have h1b := h101 _ hb0.1 hb0.2
                    refine go_aload_n dX10_findWays_85 rfl ?_
                    refine go_iload_n dX10_findWays_86 rfl ?_
                    refine go_iload dX10_findWays_87 rfl ?_
                    refine go_vI (ci := 9) dX10_findWays_89 (ct_X10_isLess _ _ (by omega) (by omega) (by omega) (by omega) (by rw [hnm]; omega) (by rw [hnm, h1b]; exact hRb) (by rw [hnm]; omega)) ml_X10_204 mc_X10_isLess mv_X10_isLess rfl (by first | assumption | exact Nat.le_of_ble_eq_true rfl) (by first | assumption | rfl) rfl ⟨rfl, rfl⟩ ⟨Nat.le_refl _, Nat.le_refl _⟩ rfl rfl rfl (fun x89 μ89 hc89 => ?_)
                    rw [hnm] at hc89
                    obtain ⟨rfl, hm89⟩ := hc89
                    rw [hm89, hnm]
                    first | refine go_bz (tgt := 133) dX10_findWays_92 rfl (fun h92 => ?_) (fun h92 => ?_) | refine go_if_eq (tgt := 133) dX10_findWays_92 rfl (fun h92 => ?_) (fun h92 => ?_)
                    ·
                      refine go_iinc dX10_findWays_133 rfl rfl ⟨by omega, by omega⟩ ?_
                      refine go_goto (tgt := 61) dX10_findWays_136 rfl ?_
                      refine go_drop (ih3 _ _ μ1 (by omega) (by omega) hW hS h101 hf ?_) rfl
                      rcases hi with ⟨e, h⟩ | h
                      · refine Or.inl ⟨e, fun c2 d h0 h1 h2 h3 hc e4 e5 => ?_⟩
                        by_cases ed : c2 < c ∨ (c2 = c ∧ d < i)
                        · exact h c2 d h0 h1 h2 h3 ed e4 e5
                        · have e1 : c2 = c := by omega
                          have e2 : d = i := by omega
                          rw [e1, e2, ← lsM_cg (h101 _ (by omega) (by omega))]; exact h92
                      · exact Or.inr h
                    ·
                      have hls : lsM (rkC (vm (μ 88)) 32) (μ1 102) (μ1 103) c (nb c i) := (lsM_cg (h101 _ (by omega) (by omega))).mp h92
                      have hUp0 := WI_up a0 a1 hW hr hc0 (by omega) h77 hv (by omega) (by omega) hls
                      refine go_aload_n dX10_findWays_95 rfl ?_
                      refine go_getR dX10_findWays_96 fl_X10_52 (by first | assumption | exact Nat.le_of_ble_eq_true rfl) (by first | assumption | rfl) rfl (by first | assumption | rfl) ?_
                      refine go_iload_n dX10_findWays_99 rfl ?_
                      refine go_aload_n dX10_findWays_100 rfl ?_
                      refine go_getR dX10_findWays_101 fl_X10_52 (by first | assumption | exact Nat.le_of_ble_eq_true rfl) (by first | assumption | rfl) rfl (by first | assumption | rfl) ?_
                      refine go_iload dX10_findWays_104 rfl ?_
                      refine go_iaload dX10_findWays_106 (by first | assumption | exact Nat.le_of_ble_eq_true rfl) (by first | assumption | rfl) (by omega) (by omega) ?_
                      try simp (disch := omega) only [ua_same, ua_ne, uf_same, uf_ne]
                      refine go_aload_n dX10_findWays_107 rfl ?_
                      refine go_getR dX10_findWays_108 fl_X10_49 (by first | assumption | exact Nat.le_of_ble_eq_true rfl) (by first | assumption | rfl) rfl (by first | assumption | rfl) ?_
                      refine go_iload dX10_findWays_111 rfl ?_
                      refine go_iaload dX10_findWays_113 (by first | assumption | exact Nat.le_of_ble_eq_true rfl) (by first | assumption | rfl) (by omega) (by omega) ?_
                      try simp (disch := omega) only [ua_same, ua_ne, uf_same, uf_ne]
                      rw [h1b]
                      refine go_iadd dX10_findWays_114 ⟨by omega, by omega⟩ ?_
                      refine go_iastore dX10_findWays_115 (by first | assumption | exact Nat.le_of_ble_eq_true rfl) (by first | assumption | rfl) (by omega) (by omega) ?_
                      refine go_aload_n dX10_findWays_116 rfl ?_
                      refine go_getR dX10_findWays_117 fl_X10_55 (by first | assumption | exact Nat.le_of_ble_eq_true rfl) (by first | assumption | rfl) rfl (by first | assumption | rfl) ?_
                      refine go_iload_n dX10_findWays_120 rfl ?_
                      refine go_aload_n dX10_findWays_121 rfl ?_
                      refine go_getR dX10_findWays_122 fl_X10_55 (by first | assumption | exact Nat.le_of_ble_eq_true rfl) (by first | assumption | rfl) rfl (by first | assumption | rfl) ?_
                      refine go_iload dX10_findWays_125 rfl ?_
                      refine go_iaload dX10_findWays_127 (by first | assumption | exact Nat.le_of_ble_eq_true rfl) (by first | assumption | rfl) (by omega) (by omega) ?_
                      try simp (disch := omega) only [ua_same, ua_ne, uf_same, uf_ne]
                      refine go_iconst dX10_findWays_128 rfl ?_
                      refine go_iadd dX10_findWays_129 ⟨by omega, by omega⟩ ?_
                      refine go_iastore dX10_findWays_130 (by first | assumption | exact Nat.le_of_ble_eq_true rfl) (by first | assumption | rfl) (by omega) (by omega) ?_
                      refine go_iconst dX10_findWays_131 rfl ?_
                      refine go_istore_n dX10_findWays_132 rfl ?_
                      refine go_iinc dX10_findWays_133 rfl rfl ⟨by omega, by omega⟩ ?_
                      refine go_goto (tgt := 61) dX10_findWays_136 rfl ?_
                      generalize hμ2 : (ud (ud μ1 102 c (μ1 102 (nb c i) + (rkC (vm (μ 88)) 32) (nb c i))) 103 c (μ1 103 (nb c i) + 1)) = μ2
                      have e2m : μ2 102 = (uf (μ1 102) c (μ1 102 (nb c i) + (rkC (vm (μ 88)) 32) (nb c i))) := by rw [← hμ2, ud_n (by decide), ud_s]
                      have e3m : μ2 103 = (uf (μ1 103) c (μ1 103 (nb c i) + 1)) := by rw [← hμ2, ud_s, ud_n (by decide)]
                      have hst := (sum_lt (f := cC (uf (μ1 102) c (μ1 102 (nb c i) + (rkC (vm (μ 88)) 32) (nb c i))) (uf (μ1 103) c (μ1 103 (nb c i) + 1))) (g := cC (μ1 102) (μ1 103)) (j := c) 30 (fun q x y => hUp0.2.1 q x y)).2 hc0 (by omega) hUp0.2.2
                      rw [← e2m, ← e3m] at hUp0 hst
                      refine go_drop (ih3 _ _ μ2 (by omega) (by omega) hUp0.1 (by omega) ?_ ?_ (Or.inr ⟨rfl, by omega⟩)) rfl
                      · intro c2 x0 x1; rw [← hμ2, ud_n (by decide), ud_n (by decide)]; exact h101 c2 x0 x1
                      · intro q x1 x2 x3 x4 x5; rw [← hμ2, ud_n x3, ud_n x2]; exact hf q x1 x2 x3 x4 x5
          refine go_iload_n dX10_findWays_52 rfl ?_
          refine go_bipush dX10_findWays_53 rfl (by decide) ?_
          refine go_icmp_ge (tgt := 145) dX10_findWays_55 rfl (fun h55 => ?_) (fun h55 => ?_)
          ·
            exact absurd h55 (by omega)
          ·
            refine go_iconst dX10_findWays_58 rfl ?_
            refine go_istore dX10_findWays_59 rfl ?_
            refine go_drop (inI 4 0 _ μ1 (by omega) (by omega) hW hS h101 hf ?_) rfl
            rcases hi with ⟨e, h⟩ | h
            · exact Or.inl ⟨e, fun c2 d h0 h1 h2 h3 hc => h c2 d h0 h1 h2 h3 (by omega)⟩
            · exact Or.inr h
      intro mo μ1 hW h101 hf hi
      refine go_iload_n dX10_findWays_44 rfl ?_
      first | refine go_bz (tgt := 148) dX10_findWays_45 rfl (fun h45 => ?_) (fun h45 => ?_) | refine go_if_eq (tgt := 148) dX10_findWays_45 rfl (fun h45 => ?_) (fun h45 => ?_)
      ·
        exact go_rv dX10_findWays_148 rfl ⟨Nat.le_refl _, Nat.le_refl _⟩ (by
            rcases hi with ⟨e, h⟩ | ⟨e, h⟩
            · exact ⟨WI_end a0 a1 hW hr h, h101, hf⟩
            · exact absurd e (by omega))
      ·
        refine go_iconst dX10_findWays_48 rfl ?_
        refine go_istore_n dX10_findWays_49 rfl ?_
        refine go_iconst dX10_findWays_50 rfl ?_
        refine go_istore_n dX10_findWays_51 rfl ?_
        have hsn : sumN (cC (μ1 102) (μ1 103)) 30 ≤ (n : Nat) := by
          rcases hi with ⟨e, h⟩ | ⟨e, h⟩
          · exact absurd e h45
          · omega
        refine go_drop (lpC (sumN (cC (μ1 102) (μ1 103)) 30) hsn 30 0 0 μ1 (by omega) (by omega) hW (Int.le_refl _) h101 hf (Or.inl ⟨rfl, fun c2 d h0 h1 h2 h3 hc => absurd hc (by omega)⟩)) rfl
  have ini : ∀ (m : Nat) (i : Int) (μ1 : Mem), 30 - i = (m : Nat) → 0 ≤ i → (∀ c, 0 ≤ c → c < i → μ1 102 c = if c = a then 0 else 1000000000) → (∀ c, 0 ≤ c → c < i → μ1 103 c = 0) → (∀ c, 0 ≤ c → c < 30 → μ1 101 c = (rkC (vm (μ 88)) 32) c) → (∀ q, q ≠ 101 → q ≠ 102 → q ≠ 103 → q ≠ 108 → q ≠ 109 → μ1 q = μ q) → Go l D cA none RX10 cX10_findWays 6 none (8, 0, 0) (QN (Pv (fun μ' => (∀ c, 0 ≤ c → c < 30 → μ' 102 c = wF (rkC (vm (μ 88)) 32) a c / 64 ∧ μ' 103 c = wF (rkC (vm (μ 88)) 32) a c % 64 ∧ μ' 103 c ≤ 29 ∧ 0 ≤ μ' 103 c ∧ wF (rkC (vm (μ 88)) 32) a c = μ' 102 c * 64 + μ' 103 c) ∧ (∀ c, 0 ≤ c → c < 30 → μ' 101 c = (rkC (vm (μ 88)) 32) c) ∧ ∀ q, q ≠ 101 → q ≠ 102 → q ≠ 103 → q ≠ 108 → q ≠ 109 → μ' q = μ q))) 113 ρ0 0 0 6 [(0, vr 87), (1, vi a), (2, vi i)] [] μ1 := by
    intro m
    induction m with
    | zero =>
      intro i μ1 hm hv hd2 hd3 h101 hf
      refine go_iload_n dX10_findWays_6 rfl ?_
      refine go_bipush dX10_findWays_7 rfl (by decide) ?_
      refine go_icmp_ge (tgt := 42) dX10_findWays_9 rfl (fun h9 => ?_) (fun h9 => ?_)
      ·
        refine go_iconst dX10_findWays_42 rfl ?_
        refine go_istore_n dX10_findWays_43 rfl ?_
        exact go_drop (outer (sumN (cC (μ1 102) (μ1 103)) 30 + 1).toNat 1 μ1 (WI_0 a0 a1 hr (fun c c0 c1 => hd2 c c0 (by omega)) (fun c c0 c1 => hd3 c c0 (by omega))) h101 hf (Or.inr ⟨rfl, by omega⟩)) rfl
      ·
        exact absurd h9 (by omega)
    | succ m ih =>
      intro i μ1 hm hv hd2 hd3 h101 hf
      refine go_iload_n dX10_findWays_6 rfl ?_
      refine go_bipush dX10_findWays_7 rfl (by decide) ?_
      refine go_icmp_ge (tgt := 42) dX10_findWays_9 rfl (fun h9 => ?_) (fun h9 => ?_)
      ·
        exact absurd h9 (by omega)
      ·
        refine go_aload_n dX10_findWays_12 rfl ?_
        refine go_getR dX10_findWays_13 fl_X10_52 (by first | assumption | exact Nat.le_of_ble_eq_true rfl) (by first | assumption | rfl) rfl (by first | assumption | rfl) ?_
        refine go_iload_n dX10_findWays_16 rfl ?_
        refine go_iload_n dX10_findWays_17 rfl ?_
        refine go_iload_n dX10_findWays_18 rfl ?_
        refine go_icmp_ne (tgt := 26) dX10_findWays_19 rfl (fun h19 => ?_) (fun h19 => ?_)
        ·
          refine go_ldc dX10_findWays_26 kc_X10_200 rfl ?_
          refine go_iastore dX10_findWays_28 (by first | assumption | exact Nat.le_of_ble_eq_true rfl) (by first | assumption | rfl) (by omega) (by omega) ?_
          refine go_aload_n dX10_findWays_29 rfl ?_
          refine go_getR dX10_findWays_30 fl_X10_55 (by first | assumption | exact Nat.le_of_ble_eq_true rfl) (by first | assumption | rfl) rfl (by first | assumption | rfl) ?_
          refine go_iload_n dX10_findWays_33 rfl ?_
          refine go_iconst dX10_findWays_34 rfl ?_
          refine go_iastore dX10_findWays_35 (by first | assumption | exact Nat.le_of_ble_eq_true rfl) (by first | assumption | rfl) (by omega) (by omega) ?_
          refine go_iinc dX10_findWays_36 rfl rfl ⟨by omega, by omega⟩ ?_
          refine go_goto (tgt := 6) dX10_findWays_39 rfl ?_
          refine go_drop (ih _ _ (by omega) (by omega) ?_ ?_ ?_ ?_) rfl
          · intro c c0 c1
            rw [ud_n (by decide), ud_s]
            by_cases e : c = i
            · rw [e, uf_same, if_neg h19]
            · rw [uf_ne e]; exact hd2 c c0 (by omega)
          · intro c c0 c1
            rw [ud_s]
            by_cases e : c = i
            · rw [e, uf_same]
            · rw [uf_ne e, ud_n (by decide)]; exact hd3 c c0 (by omega)
          · intro c c0 c1; rw [ud_n (by decide), ud_n (by decide)]; exact h101 c c0 c1
          · intro q x1 x2 x3 x4 x5; rw [ud_n x3, ud_n x2]; exact hf q x1 x2 x3 x4 x5
        ·
          refine go_iconst dX10_findWays_22 rfl ?_
          refine go_goto (tgt := 28) dX10_findWays_23 rfl ?_
          refine go_iastore dX10_findWays_28 (by first | assumption | exact Nat.le_of_ble_eq_true rfl) (by first | assumption | rfl) (by omega) (by omega) ?_
          refine go_aload_n dX10_findWays_29 rfl ?_
          refine go_getR dX10_findWays_30 fl_X10_55 (by first | assumption | exact Nat.le_of_ble_eq_true rfl) (by first | assumption | rfl) rfl (by first | assumption | rfl) ?_
          refine go_iload_n dX10_findWays_33 rfl ?_
          refine go_iconst dX10_findWays_34 rfl ?_
          refine go_iastore dX10_findWays_35 (by first | assumption | exact Nat.le_of_ble_eq_true rfl) (by first | assumption | rfl) (by omega) (by omega) ?_
          refine go_iinc dX10_findWays_36 rfl rfl ⟨by omega, by omega⟩ ?_
          refine go_goto (tgt := 6) dX10_findWays_39 rfl ?_
          refine go_drop (ih _ _ (by omega) (by omega) ?_ ?_ ?_ ?_) rfl
          · intro c c0 c1
            rw [ud_n (by decide), ud_s]
            by_cases e : c = i
            · rw [e, uf_same, if_pos h19]
            · rw [uf_ne e]; exact hd2 c c0 (by omega)
          · intro c c0 c1
            rw [ud_s]
            by_cases e : c = i
            · rw [e, uf_same]
            · rw [uf_ne e, ud_n (by decide)]; exact hd3 c c0 (by omega)
          · intro c c0 c1; rw [ud_n (by decide), ud_n (by decide)]; exact h101 c c0 c1
          · intro q x1 x2 x3 x4 x5; rw [ud_n x3, ud_n x2]; exact hf q x1 x2 x3 x4 x5
  refine go_aload_n dX10_findWays_0 rfl ?_
  refine go_vV (ci := 9) dX10_findWays_1 (ct_X10_knowsRisks hI) ml_X10_201 mc_X10_knowsRisks mv_X10_knowsRisks rfl (by first | assumption | exact Nat.le_of_ble_eq_true rfl) (by first | assumption | rfl) rfl ⟨rfl, rfl⟩ ⟨Nat.le_refl _, Nat.le_refl _⟩ rfl rfl rfl (fun μ1 hc1 => ?_)
  obtain ⟨hk1, hf1⟩ := hc1
  refine go_iconst dX10_findWays_4 rfl ?_
  refine go_istore_n dX10_findWays_5 rfl ?_
  exact go_drop (ini 30 0 μ1 (by omega) (by omega) (fun c c0 c1 => absurd c1 (by omega)) (fun c c0 c1 => absurd c1 (by omega)) hk1 (fun q x1 x2 x3 x4 x5 => hf1 q x1 x4 x5)) rfl

theorem ceN_r {co rk : Int → Int} : ∀ (n : Nat) (c : Int), 0 ≤ c → c < 30 → ceN co rk n c = -1000000005 ∨ (0 ≤ ceN co rk n c ∧ ceN co rk n c < 30)
  | 0, c, h0, h1 => Or.inr ⟨h0, h1⟩
  | n + 1, c, h0, h1 => by
    have e : ceN co rk (n + 1) c = ceN co rk n (nb c (bD co rk c)) := if_neg (by omega)
    rw [e]
    rcases nb_r (d := bD co rk c) h0 h1 with q | q
    · rw [q, ceN_none]; exact Or.inl rfl
    · exact ceN_r n _ q.1 q.2
theorem ceN_l {co rk : Int → Int} : ∀ (n : Nat) (c : Int), 0 ≤ c → c < 30 → 0 ≤ ceN co rk n c → ceN co rk (n + 1) c = nb (ceN co rk n c) (bD co rk (ceN co rk n c))
  | 0, c, h0, h1, _ => if_neg (by omega)
  | n + 1, c, h0, h1, h => by
    have e : ceN co rk (n + 1) c = ceN co rk n (nb c (bD co rk c)) := if_neg (by omega)
    have e2 : ceN co rk (n + 2) c = ceN co rk (n + 1) (nb c (bD co rk c)) := if_neg (by omega)
    rw [e] at h ⊢
    rw [e2]
    rcases nb_r (d := bD co rk c) h0 h1 with q | q
    · rw [q, ceN_none] at h; exact absurd h (by omega)
    · exact ceN_l n _ q.1 q.2 h

theorem wy_0 {rk : Int → Int} {to c : Int} (t0 : 0 ≤ to) (t1 : to < 30) (hr : ∀ c, 0 ≤ c → c < 30 → 0 ≤ rk c ∧ rk c ≤ 2996) (c0 : 0 ≤ c) (c1 : c < 30) (h : c ≠ to) (hs : ∀ q, 0 ≤ q → q < 30 → wF rk to q % 64 ≤ 29) : 1 ≤ wF rk to c % 64 := by
  have h1 := wF_eq t0 t1 hr c0 c1 h
  have h2 := wF_lt t0 t1 hr c0 c1
  rw [mB_at] at h1
  unfold cB at h1
  by_cases e : nb c (bD (wF rk to) rk c) = -1000000005
  · rw [if_pos e] at h1; omega
  · rw [if_neg e] at h1
    have hb := nb_r (d := bD (wF rk to) rk c) c0 c1
    have := hs (nb c (bD (wF rk to) rk c)) (by omega) (by omega)
    have := hs c c0 c1
    omega

set_option maxRecDepth 100000 in
set_option maxHeartbeats 4000000 in
theorem ct_X10_way {l : Launch} {D : va_G} {cA : Nat → ClassId} {μ : Mem} (hI : mdI (μ 88)) (fr to what : Int) (hwh : what ≤ 2147483647) : CtN l D cA yX10_way cX10_way 11 (some .int) 9 [vr 87, vi fr, vi to, vi what] μ (Pi (fun x μ' => x = (if (0 ≤ fr ∧ fr ≤ 29) ∧ (0 ≤ to ∧ to ≤ 29) ∧ 0 ≤ what ∧ ¬ (3 ≤ what ∧ what ≤ 9) then wyV (svC (vm (μ 88)) 32) (rkC (vm (μ 88)) 32) fr to what else -1000000001) ∧ ∀ q, q ≠ 101 → q ≠ 102 → q ≠ 103 → q ≠ 104 → q ≠ 108 → q ≠ 109 → μ' q = μ q)) := by
  refine Ct.of (own := RX10) (by decide +kernel) rfl (fun σ => Nat.le_of_ble_eq_true rfl) (fun hM hP ha => ?_)
  obtain ⟨m87, r88, s88, r89, s89, r90, s90, r91, s91, r92, s92, r93, s93, r94, s94, r95, s95, r96, s96, r97, s97, r98, s98, r99, s99, r100, s100, r101, s101, r102, s102, r103, s103, r104, s104, r105, s105, r106, s106, r107, s107, r108, s108, r109, s109, r110, s110, r111, s111, r112, s112⟩ := md_f
  have hr : ∀ c, 0 ≤ c → c < 30 → 0 ≤ (rkC (vm (μ 88)) 32) c ∧ (rkC (vm (μ 88)) 32) c ≤ 2996 := fun c c0 c1 => rkC_b hI.1 c c0 c1
  have loop : ∀ (m : Nat) (k br : Int) (μ1 : Mem), ((wF (rkC (vm (μ 88)) 32) to) fr % 64) - k = (m : Nat) → 0 ≤ k → ((0 ≤ fr ∧ fr ≤ 29) ∧ (0 ≤ to ∧ to ≤ 29) ∧ 0 ≤ what ∧ ¬ (3 ≤ what ∧ what ≤ 9)) → 2 ≤ what → 0 ≤ (ceN (wF (rkC (vm (μ 88)) 32) to) (rkC (vm (μ 88)) 32) k.toNat fr) → (ceN (wF (rkC (vm (μ 88)) 32) to) (rkC (vm (μ 88)) 32) k.toNat fr) < 30 → (wF (rkC (vm (μ 88)) 32) to) (ceN (wF (rkC (vm (μ 88)) 32) to) (rkC (vm (μ 88)) 32) k.toNat fr) % 64 = ((wF (rkC (vm (μ 88)) 32) to) fr % 64) - k → 0 ≤ br → br ≤ 99 * k → brN (svC (vm (μ 88)) 32) (wF (rkC (vm (μ 88)) 32) to) (rkC (vm (μ 88)) 32) ((wF (rkC (vm (μ 88)) 32) to) fr % 64).toNat fr = br + brN (svC (vm (μ 88)) 32) (wF (rkC (vm (μ 88)) 32) to) (rkC (vm (μ 88)) 32) (((wF (rkC (vm (μ 88)) 32) to) fr % 64) - k).toNat (ceN (wF (rkC (vm (μ 88)) 32) to) (rkC (vm (μ 88)) 32) k.toNat fr) → (∀ j, 0 ≤ j → j ≤ k → μ1 104 j = ceN (wF (rkC (vm (μ 88)) 32) to) (rkC (vm (μ 88)) 32) j.toNat fr) → (∀ c, 0 ≤ c → c < 30 → μ1 102 c = (wF (rkC (vm (μ 88)) 32) to) c / 64 ∧ μ1 103 c = (wF (rkC (vm (μ 88)) 32) to) c % 64 ∧ μ1 103 c ≤ 29 ∧ 0 ≤ μ1 103 c ∧ (wF (rkC (vm (μ 88)) 32) to) c = μ1 102 c * 64 + μ1 103 c) → (∀ c, 0 ≤ c → c < 30 → μ1 101 c = (rkC (vm (μ 88)) 32) c) → (∀ q, q ≠ 101 → q ≠ 102 → q ≠ 103 → q ≠ 104 → q ≠ 108 → q ≠ 109 → μ1 q = μ q) → Go l D cA none RX10 cX10_way 11 (some .int) (9, 0, 0) (QN (Pi (fun x μ' => x = (if (0 ≤ fr ∧ fr ≤ 29) ∧ (0 ≤ to ∧ to ≤ 29) ∧ 0 ≤ what ∧ ¬ (3 ≤ what ∧ what ≤ 9) then wyV (svC (vm (μ 88)) 32) (rkC (vm (μ 88)) 32) fr to what else -1000000001) ∧ ∀ q, q ≠ 101 → q ≠ 102 → q ≠ 103 → q ≠ 104 → q ≠ 108 → q ≠ 109 → μ' q = μ q))) 113 ρ0 0 0 78 [(0, vr 87), (1, vi fr), (2, vi to), (3, vi what), (4, vi (k + 1)), (5, vi br)] [] μ1 := by
    intro m
    induction m with
    | zero =>
      intro k br μ1 hm hk0 hC hw2 hc0 hc1 hsk hb0 hb1 hbrn h104 hF h101 hf
      have hS := hF fr (by omega) (by omega)
      refine go_aload_n dX10_way_78 rfl ?_
      refine go_getR dX10_way_79 fl_X10_58 (by first | assumption | exact Nat.le_of_ble_eq_true rfl) (by first | assumption | rfl) rfl (by first | assumption | rfl) ?_
      refine go_iload dX10_way_82 rfl ?_
      refine go_iconst dX10_way_84 rfl ?_
      refine go_isub dX10_way_85 ⟨by omega, by omega⟩ ?_
      refine go_iaload dX10_way_86 (by first | assumption | exact Nat.le_of_ble_eq_true rfl) (by first | assumption | rfl) (by omega) (by omega) ?_
      rw [show k + 1 - 1 = k by omega, h104 k hk0 (Int.le_refl _)]
      refine go_iload_n dX10_way_87 rfl ?_
      refine go_icmp_eq (tgt := 231) dX10_way_88 rfl (fun h88 => ?_) (fun h88 => ?_)
      ·
        have hWto : (wF (rkC (vm (μ 88)) 32) to) to = 0 := wD_to (fun q q0 q1 => (hr q q0 q1).1) (by omega) (by omega) 29
        rw [h88] at hsk
        have hk : k = ((wF (rkC (vm (μ 88)) 32) to) fr % 64) := by omega
        have hbr2 : br = brN (svC (vm (μ 88)) 32) (wF (rkC (vm (μ 88)) 32) to) (rkC (vm (μ 88)) 32) ((wF (rkC (vm (μ 88)) 32) to) fr % 64).toNat fr := by rw [hbrn, show (((wF (rkC (vm (μ 88)) 32) to) fr % 64) - k).toNat = 0 by omega]; show br = br + 0; omega
        refine go_iload_n dX10_way_231 rfl ?_
        refine go_iconst dX10_way_232 rfl ?_
        refine go_icmp_ne (tgt := 241) dX10_way_233 rfl (fun h233 => ?_) (fun h233 => ?_)
        ·
          refine go_iload_n dX10_way_241 rfl ?_
          refine go_bipush dX10_way_242 rfl (by decide) ?_
          refine go_isub dX10_way_244 ⟨by omega, by omega⟩ ?_
          refine go_iload dX10_way_245 rfl ?_
          refine go_icmp_ge (tgt := 262) dX10_way_247 rfl (fun h247 => ?_) (fun h247 => ?_)
          ·
            refine go_ldc dX10_way_262 kc_X10_86 rfl ?_
            exact go_ri dX10_way_264 tyI ⟨Nat.le_refl _, Nat.le_refl _⟩ (⟨by rw [if_pos hC]; unfold wyV; rw [if_neg (by omega), if_neg (by omega)]; rw [if_neg (by omega), if_pos (by omega)], hf⟩)
          ·
            refine go_aload_n dX10_way_250 rfl ?_
            refine go_getR dX10_way_251 fl_X10_58 (by first | assumption | exact Nat.le_of_ble_eq_true rfl) (by first | assumption | rfl) rfl (by first | assumption | rfl) ?_
            refine go_iload_n dX10_way_254 rfl ?_
            refine go_bipush dX10_way_255 rfl (by decide) ?_
            refine go_isub dX10_way_257 ⟨by omega, by omega⟩ ?_
            refine go_iaload dX10_way_258 (by first | assumption | exact Nat.le_of_ble_eq_true rfl) (by first | assumption | rfl) (by omega) (by omega) ?_
            refine go_goto (tgt := 264) dX10_way_259 rfl ?_
            exact go_ri dX10_way_264 tyI ⟨Nat.le_refl _, Nat.le_refl _⟩ (⟨by rw [if_pos hC]; unfold wyV; rw [if_neg (by omega), if_neg (by omega)]; rw [if_neg (by omega), if_neg (by omega)]; rw [h104 _ (by omega) (by omega)], hf⟩)
        ·
          refine go_iload dX10_way_236 rfl ?_
          refine go_goto (tgt := 264) dX10_way_238 rfl ?_
          exact go_ri dX10_way_264 tyI ⟨Nat.le_refl _, Nat.le_refl _⟩ (⟨by rw [if_pos hC]; unfold wyV; rw [if_neg (by omega), if_neg (by omega)]; rw [if_pos (by omega), hbr2], hf⟩)
      ·
        exact absurd (wy_0 (by omega) (by omega) hr hc0 hc1 h88 (fun q q0 q1 => by have := hF q q0 q1; omega)) (by omega)
    | succ m ih =>
      intro k br μ1 hm hk0 hC hw2 hc0 hc1 hsk hb0 hb1 hbrn h104 hF h101 hf
      have hS := hF fr (by omega) (by omega)
      refine go_aload_n dX10_way_78 rfl ?_
      refine go_getR dX10_way_79 fl_X10_58 (by first | assumption | exact Nat.le_of_ble_eq_true rfl) (by first | assumption | rfl) rfl (by first | assumption | rfl) ?_
      refine go_iload dX10_way_82 rfl ?_
      refine go_iconst dX10_way_84 rfl ?_
      refine go_isub dX10_way_85 ⟨by omega, by omega⟩ ?_
      refine go_iaload dX10_way_86 (by first | assumption | exact Nat.le_of_ble_eq_true rfl) (by first | assumption | rfl) (by omega) (by omega) ?_
      rw [show k + 1 - 1 = k by omega, h104 k hk0 (Int.le_refl _)]
      refine go_iload_n dX10_way_87 rfl ?_
      refine go_icmp_eq (tgt := 231) dX10_way_88 rfl (fun h88 => ?_) (fun h88 => ?_)
      ·
        have hWto : (wF (rkC (vm (μ 88)) 32) to) to = 0 := wD_to (fun q q0 q1 => (hr q q0 q1).1) (by omega) (by omega) 29
        rw [h88] at hsk
        have hk : k = ((wF (rkC (vm (μ 88)) 32) to) fr % 64) := by omega
        have hbr2 : br = brN (svC (vm (μ 88)) 32) (wF (rkC (vm (μ 88)) 32) to) (rkC (vm (μ 88)) 32) ((wF (rkC (vm (μ 88)) 32) to) fr % 64).toNat fr := by rw [hbrn, show (((wF (rkC (vm (μ 88)) 32) to) fr % 64) - k).toNat = 0 by omega]; show br = br + 0; omega
        refine go_iload_n dX10_way_231 rfl ?_
        refine go_iconst dX10_way_232 rfl ?_
        refine go_icmp_ne (tgt := 241) dX10_way_233 rfl (fun h233 => ?_) (fun h233 => ?_)
        ·
          refine go_iload_n dX10_way_241 rfl ?_
          refine go_bipush dX10_way_242 rfl (by decide) ?_
          refine go_isub dX10_way_244 ⟨by omega, by omega⟩ ?_
          refine go_iload dX10_way_245 rfl ?_
          refine go_icmp_ge (tgt := 262) dX10_way_247 rfl (fun h247 => ?_) (fun h247 => ?_)
          ·
            refine go_ldc dX10_way_262 kc_X10_86 rfl ?_
            exact go_ri dX10_way_264 tyI ⟨Nat.le_refl _, Nat.le_refl _⟩ (⟨by rw [if_pos hC]; unfold wyV; rw [if_neg (by omega), if_neg (by omega)]; rw [if_neg (by omega), if_pos (by omega)], hf⟩)
          ·
            refine go_aload_n dX10_way_250 rfl ?_
            refine go_getR dX10_way_251 fl_X10_58 (by first | assumption | exact Nat.le_of_ble_eq_true rfl) (by first | assumption | rfl) rfl (by first | assumption | rfl) ?_
            refine go_iload_n dX10_way_254 rfl ?_
            refine go_bipush dX10_way_255 rfl (by decide) ?_
            refine go_isub dX10_way_257 ⟨by omega, by omega⟩ ?_
            refine go_iaload dX10_way_258 (by first | assumption | exact Nat.le_of_ble_eq_true rfl) (by first | assumption | rfl) (by omega) (by omega) ?_
            refine go_goto (tgt := 264) dX10_way_259 rfl ?_
            exact go_ri dX10_way_264 tyI ⟨Nat.le_refl _, Nat.le_refl _⟩ (⟨by rw [if_pos hC]; unfold wyV; rw [if_neg (by omega), if_neg (by omega)]; rw [if_neg (by omega), if_neg (by omega)]; rw [h104 _ (by omega) (by omega)], hf⟩)
        ·
          refine go_iload dX10_way_236 rfl ?_
          refine go_goto (tgt := 264) dX10_way_238 rfl ?_
          exact go_ri dX10_way_264 tyI ⟨Nat.le_refl _, Nat.le_refl _⟩ (⟨by rw [if_pos hC]; unfold wyV; rw [if_neg (by omega), if_neg (by omega)]; rw [if_pos (by omega), hbr2], hf⟩)
      ·
        refine go_aload_n dX10_way_91 rfl ?_
        refine go_getR dX10_way_92 fl_X10_58 (by first | assumption | exact Nat.le_of_ble_eq_true rfl) (by first | assumption | rfl) rfl (by first | assumption | rfl) ?_
        refine go_iload dX10_way_95 rfl ?_
        refine go_iconst dX10_way_97 rfl ?_
        refine go_isub dX10_way_98 ⟨by omega, by omega⟩ ?_
        refine go_iaload dX10_way_99 (by first | assumption | exact Nat.le_of_ble_eq_true rfl) (by first | assumption | rfl) (by omega) (by omega) ?_
        rw [show k + 1 - 1 = k by omega, h104 k hk0 (Int.le_refl _)]
        refine go_istore dX10_way_100 rfl ?_
        refine go_iconst dX10_way_102 rfl ?_
        refine go_istore dX10_way_103 rfl ?_
        refine go_iconst dX10_way_105 rfl ?_
        refine go_istore dX10_way_106 rfl ?_
        have hmb : mB (wF (rkC (vm (μ 88)) 32) to) (rkC (vm (μ 88)) 32) (ceN (wF (rkC (vm (μ 88)) 32) to) (rkC (vm (μ 88)) 32) k.toNat fr) = (wF (rkC (vm (μ 88)) 32) to) (ceN (wF (rkC (vm (μ 88)) 32) to) (rkC (vm (μ 88)) 32) k.toNat fr) := wF_eq (by omega) (by omega) hr hc0 hc1 h88
        have hbd : mB (wF (rkC (vm (μ 88)) 32) to) (rkC (vm (μ 88)) 32) (ceN (wF (rkC (vm (μ 88)) 32) to) (rkC (vm (μ 88)) 32) k.toNat fr) = (wF (rkC (vm (μ 88)) 32) to) (ceN (wF (rkC (vm (μ 88)) 32) to) (rkC (vm (μ 88)) 32) k.toNat fr) ∧ ∀ d : Int, 0 ≤ d → d ≤ 3 → mB (wF (rkC (vm (μ 88)) 32) to) (rkC (vm (μ 88)) 32) (ceN (wF (rkC (vm (μ 88)) 32) to) (rkC (vm (μ 88)) 32) k.toNat fr) ≤ cB (wF (rkC (vm (μ 88)) 32) to) (rkC (vm (μ 88)) 32) (ceN (wF (rkC (vm (μ 88)) 32) to) (rkC (vm (μ 88)) 32) k.toNat fr) d ∧ (cB (wF (rkC (vm (μ 88)) 32) to) (rkC (vm (μ 88)) 32) (ceN (wF (rkC (vm (μ 88)) 32) to) (rkC (vm (μ 88)) 32) k.toNat fr) d = mB (wF (rkC (vm (μ 88)) 32) to) (rkC (vm (μ 88)) 32) (ceN (wF (rkC (vm (μ 88)) 32) to) (rkC (vm (μ 88)) 32) k.toNat fr) → (bD (wF (rkC (vm (μ 88)) 32) to) (rkC (vm (μ 88)) 32) (ceN (wF (rkC (vm (μ 88)) 32) to) (rkC (vm (μ 88)) 32) k.toNat fr)) ≤ d) := ⟨hmb, fun d d0 d1 => (bdS_p 3).2.2.2 d d0 d1⟩
        have hbr := bD_r (f := (wF (rkC (vm (μ 88)) 32) to)) (rk := (rkC (vm (μ 88)) 32)) (c := (ceN (wF (rkC (vm (μ 88)) 32) to) (rkC (vm (μ 88)) 32) k.toNat fr))
        have hx6 := wF_lt (a := to) (by omega) (by omega) hr hc0 hc1
        have hnn : (nb (ceN (wF (rkC (vm (μ 88)) 32) to) (rkC (vm (μ 88)) 32) k.toNat fr) (bD (wF (rkC (vm (μ 88)) 32) to) (rkC (vm (μ 88)) 32) (ceN (wF (rkC (vm (μ 88)) 32) to) (rkC (vm (μ 88)) 32) k.toNat fr))) ≠ -1000000005 := fun e => by
          have g := hbd.1
          rw [mB_at] at g
          have g2 : cB (wF (rkC (vm (μ 88)) 32) to) (rkC (vm (μ 88)) 32) (ceN (wF (rkC (vm (μ 88)) 32) to) (rkC (vm (μ 88)) 32) k.toNat fr) (bD (wF (rkC (vm (μ 88)) 32) to) (rkC (vm (μ 88)) 32) (ceN (wF (rkC (vm (μ 88)) 32) to) (rkC (vm (μ 88)) 32) k.toNat fr)) = 536870912 := if_pos e
          omega
        have hnr0 := nb_r (d := (bD (wF (rkC (vm (μ 88)) 32) to) (rkC (vm (μ 88)) 32) (ceN (wF (rkC (vm (μ 88)) 32) to) (rkC (vm (μ 88)) 32) k.toNat fr))) hc0 hc1
        have hn0 : 0 ≤ (nb (ceN (wF (rkC (vm (μ 88)) 32) to) (rkC (vm (μ 88)) 32) k.toNat fr) (bD (wF (rkC (vm (μ 88)) 32) to) (rkC (vm (μ 88)) 32) (ceN (wF (rkC (vm (μ 88)) 32) to) (rkC (vm (μ 88)) 32) k.toNat fr))) := by omega
        have hn1 : (nb (ceN (wF (rkC (vm (μ 88)) 32) to) (rkC (vm (μ 88)) 32) k.toNat fr) (bD (wF (rkC (vm (μ 88)) 32) to) (rkC (vm (μ 88)) 32) (ceN (wF (rkC (vm (μ 88)) 32) to) (rkC (vm (μ 88)) 32) k.toNat fr))) < 30 := by omega
        have hcl : ceN (wF (rkC (vm (μ 88)) 32) to) (rkC (vm (μ 88)) 32) (k + 1).toNat fr = (nb (ceN (wF (rkC (vm (μ 88)) 32) to) (rkC (vm (μ 88)) 32) k.toNat fr) (bD (wF (rkC (vm (μ 88)) 32) to) (rkC (vm (μ 88)) 32) (ceN (wF (rkC (vm (μ 88)) 32) to) (rkC (vm (μ 88)) 32) k.toNat fr))) := by rw [show (k + 1).toNat = k.toNat + 1 by omega]; exact ceN_l _ _ (by omega) (by omega) hc0
        have hxa := hF _ hc0 hc1
        have hxb := hF _ hn0 hn1
        have hxc := hr _ hn0 hn1
        have hxd : (wF (rkC (vm (μ 88)) 32) to) (ceN (wF (rkC (vm (μ 88)) 32) to) (rkC (vm (μ 88)) 32) k.toNat fr) = (wF (rkC (vm (μ 88)) 32) to) (nb (ceN (wF (rkC (vm (μ 88)) 32) to) (rkC (vm (μ 88)) 32) k.toNat fr) (bD (wF (rkC (vm (μ 88)) 32) to) (rkC (vm (μ 88)) 32) (ceN (wF (rkC (vm (μ 88)) 32) to) (rkC (vm (μ 88)) 32) k.toNat fr))) + (rkC (vm (μ 88)) 32) (nb (ceN (wF (rkC (vm (μ 88)) 32) to) (rkC (vm (μ 88)) 32) k.toNat fr) (bD (wF (rkC (vm (μ 88)) 32) to) (rkC (vm (μ 88)) 32) (ceN (wF (rkC (vm (μ 88)) 32) to) (rkC (vm (μ 88)) 32) k.toNat fr))) * 64 + 1 := by
          have g := hbd.1
          rw [mB_at] at g
          have g2 : cB (wF (rkC (vm (μ 88)) 32) to) (rkC (vm (μ 88)) 32) (ceN (wF (rkC (vm (μ 88)) 32) to) (rkC (vm (μ 88)) 32) k.toNat fr) (bD (wF (rkC (vm (μ 88)) 32) to) (rkC (vm (μ 88)) 32) (ceN (wF (rkC (vm (μ 88)) 32) to) (rkC (vm (μ 88)) 32) k.toNat fr)) = (wF (rkC (vm (μ 88)) 32) to) (nb (ceN (wF (rkC (vm (μ 88)) 32) to) (rkC (vm (μ 88)) 32) k.toNat fr) (bD (wF (rkC (vm (μ 88)) 32) to) (rkC (vm (μ 88)) 32) (ceN (wF (rkC (vm (μ 88)) 32) to) (rkC (vm (μ 88)) 32) k.toNat fr))) + (rkC (vm (μ 88)) 32) (nb (ceN (wF (rkC (vm (μ 88)) 32) to) (rkC (vm (μ 88)) 32) k.toNat fr) (bD (wF (rkC (vm (μ 88)) 32) to) (rkC (vm (μ 88)) 32) (ceN (wF (rkC (vm (μ 88)) 32) to) (rkC (vm (μ 88)) 32) k.toNat fr))) * 64 + 1 := if_neg hnn
          omega
        have e88 : μ1 88 = μ 88 := hf _ (by decide) (by decide) (by decide) (by decide) (by decide) (by decide)
        have k203 : ∀ (nx : Int), nx = (nb (ceN (wF (rkC (vm (μ 88)) 32) to) (rkC (vm (μ 88)) 32) k.toNat fr) (bD (wF (rkC (vm (μ 88)) 32) to) (rkC (vm (μ 88)) 32) (ceN (wF (rkC (vm (μ 88)) 32) to) (rkC (vm (μ 88)) 32) k.toNat fr))) → Go l D cA none RX10 cX10_way 11 (some .int) (9, 0, 0) (QN (Pi (fun x μ' => x = (if (0 ≤ fr ∧ fr ≤ 29) ∧ (0 ≤ to ∧ to ≤ 29) ∧ 0 ≤ what ∧ ¬ (3 ≤ what ∧ what ≤ 9) then wyV (svC (vm (μ 88)) 32) (rkC (vm (μ 88)) 32) fr to what else -1000000001) ∧ ∀ q, q ≠ 101 → q ≠ 102 → q ≠ 103 → q ≠ 104 → q ≠ 108 → q ≠ 109 → μ' q = μ q))) 113 ρ0 0 0 203 [(0, vr 87), (1, vi fr), (2, vi to), (3, vi what), (4, vi (k + 1)), (5, vi br), (6, vi (ceN (wF (rkC (vm (μ 88)) 32) to) (rkC (vm (μ 88)) 32) k.toNat fr)), (7, vi nx)] [] μ1 := by
          intro nx hnx
          subst hnx
          refine go_iload dX10_way_203 rfl ?_
          refine go_aload_n dX10_way_205 rfl ?_
          refine go_iload dX10_way_206 rfl ?_
          refine go_iload dX10_way_208 rfl ?_
          refine go_vI (ci := 9) dX10_way_210 (ct_X10_stepInto (by rw [e88]; exact hI) _ _ hc0 hc1 hn0 hn1) ml_X10_192 mc_X10_stepInto mv_X10_stepInto rfl (by first | assumption | exact Nat.le_of_ble_eq_true rfl) (by first | assumption | rfl) rfl ⟨rfl, rfl⟩ ⟨Nat.le_refl _, Nat.le_refl _⟩ rfl rfl rfl (fun x210 μ210 hc210 => ?_)
          rw [e88] at hc210
          obtain ⟨e210, hf210⟩ := hc210
          have e210b : x210 = (svC (vm (μ 88)) 32) (ceN (wF (rkC (vm (μ 88)) 32) to) (rkC (vm (μ 88)) 32) k.toNat fr) (nb (ceN (wF (rkC (vm (μ 88)) 32) to) (rkC (vm (μ 88)) 32) k.toNat fr) (bD (wF (rkC (vm (μ 88)) 32) to) (rkC (vm (μ 88)) 32) (ceN (wF (rkC (vm (μ 88)) 32) to) (rkC (vm (μ 88)) 32) k.toNat fr))) := e210
          subst e210b
          have hsb : 0 ≤ (svC (vm (μ 88)) 32) (ceN (wF (rkC (vm (μ 88)) 32) to) (rkC (vm (μ 88)) 32) k.toNat fr) (nb (ceN (wF (rkC (vm (μ 88)) 32) to) (rkC (vm (μ 88)) 32) k.toNat fr) (bD (wF (rkC (vm (μ 88)) 32) to) (rkC (vm (μ 88)) 32) (ceN (wF (rkC (vm (μ 88)) 32) to) (rkC (vm (μ 88)) 32) k.toNat fr))) ∧ (svC (vm (μ 88)) 32) (ceN (wF (rkC (vm (μ 88)) 32) to) (rkC (vm (μ 88)) 32) k.toNat fr) (nb (ceN (wF (rkC (vm (μ 88)) 32) to) (rkC (vm (μ 88)) 32) k.toNat fr) (bD (wF (rkC (vm (μ 88)) 32) to) (rkC (vm (μ 88)) 32) (ceN (wF (rkC (vm (μ 88)) 32) to) (rkC (vm (μ 88)) 32) k.toNat fr))) ≤ 99 := sv_b (hI.1.2.1 _ hn0 hn1).1 (hI.1.2.1 _ hn0 hn1).2 up_b.1 up_b.2
          refine go_iadd dX10_way_213 ⟨by omega, by omega⟩ ?_
          refine go_istore dX10_way_214 rfl ?_
          refine go_aload_n dX10_way_216 rfl ?_
          refine go_getR dX10_way_217 fl_X10_58 (by first | assumption | exact Nat.le_of_ble_eq_true rfl) (by first | assumption | rfl) rfl (by first | assumption | rfl) ?_
          refine go_iload dX10_way_220 rfl ?_
          refine go_iload dX10_way_222 rfl ?_
          refine go_iastore dX10_way_224 (by first | assumption | exact Nat.le_of_ble_eq_true rfl) (by first | assumption | rfl) (by omega) (by omega) ?_
          refine go_iinc dX10_way_225 rfl rfl ⟨by omega, by omega⟩ ?_
          refine go_goto (tgt := 78) dX10_way_228 rfl ?_
          rw [show k + 1 + 1 = k + 1 + 1 from rfl]
          refine go_drop (ih (k + 1) _ (ud μ210 104 (k + 1) (nb (ceN (wF (rkC (vm (μ 88)) 32) to) (rkC (vm (μ 88)) 32) k.toNat fr) (bD (wF (rkC (vm (μ 88)) 32) to) (rkC (vm (μ 88)) 32) (ceN (wF (rkC (vm (μ 88)) 32) to) (rkC (vm (μ 88)) 32) k.toNat fr)))) (by omega) (by omega) hC hw2 (by rw [hcl]; exact hn0) (by rw [hcl]; exact hn1) (by rw [hcl]; omega) (by omega) (by omega) ?_ ?_ ?_ ?_ ?_) rfl
          · rw [hbrn, hcl, show (((wF (rkC (vm (μ 88)) 32) to) fr % 64) - k).toNat = (((wF (rkC (vm (μ 88)) 32) to) fr % 64) - (k + 1)).toNat + 1 by omega, brN_s, if_neg (by omega)]; omega
          · intro j j0 j1
            rw [ud_s]
            by_cases e : j = k + 1
            · rw [e, uf_same, hcl]
            · rw [uf_ne e, hf210 104 (by decide) (by decide)]; exact h104 j j0 (by omega)
          · intro c c0 c1; rw [ud_n (by decide), ud_n (by decide), hf210 102 (by decide) (by decide), hf210 103 (by decide) (by decide)]; exact hF c c0 c1
          · intro c c0 c1; rw [ud_n (by decide), hf210 101 (by decide) (by decide)]; exact h101 c c0 c1
          · intro q x1 x2 x3 x4 x5 x6; rw [ud_n x4, hf210 q x5 x6]; exact hf q x1 x2 x3 x4 x5 x6
        have lpN : ∀ (m : Nat) (i nx : Int), 4 - i = (m : Nat) → 0 ≤ i → ((nx = -1 ∧ i ≤ (bD (wF (rkC (vm (μ 88)) 32) to) (rkC (vm (μ 88)) 32) (ceN (wF (rkC (vm (μ 88)) 32) to) (rkC (vm (μ 88)) 32) k.toNat fr))) ∨ nx = nb (ceN (wF (rkC (vm (μ 88)) 32) to) (rkC (vm (μ 88)) 32) k.toNat fr) (bD (wF (rkC (vm (μ 88)) 32) to) (rkC (vm (μ 88)) 32) (ceN (wF (rkC (vm (μ 88)) 32) to) (rkC (vm (μ 88)) 32) k.toNat fr))) → Go l D cA none RX10 cX10_way 11 (some .int) (9, 0, 0) (QN (Pi (fun x μ' => x = (if (0 ≤ fr ∧ fr ≤ 29) ∧ (0 ≤ to ∧ to ≤ 29) ∧ 0 ≤ what ∧ ¬ (3 ≤ what ∧ what ≤ 9) then wyV (svC (vm (μ 88)) 32) (rkC (vm (μ 88)) 32) fr to what else -1000000001) ∧ ∀ q, q ≠ 101 → q ≠ 102 → q ≠ 103 → q ≠ 104 → q ≠ 108 → q ≠ 109 → μ' q = μ q))) 113 ρ0 0 0 108 [(0, vr 87), (1, vi fr), (2, vi to), (3, vi what), (4, vi (k + 1)), (5, vi br), (6, vi (ceN (wF (rkC (vm (μ 88)) 32) to) (rkC (vm (μ 88)) 32) k.toNat fr)), (7, vi nx), (8, vi i)] [] μ1 := by
          intro m
          induction m with
          | zero =>
            intro i nx hm hv hin
            refine go_iload dX10_way_108 rfl ?_
            refine go_iconst dX10_way_110 rfl ?_
            refine go_icmp_ge (tgt := 203) dX10_way_111 rfl (fun h111 => ?_) (fun h111 => ?_)
            ·
              exact go_drop (k203 _ (by omega)) rfl
            ·
              exact absurd h111 (by omega)
          | succ m ihN =>
            intro i nx hm hv hin
            refine go_iload dX10_way_108 rfl ?_
            refine go_iconst dX10_way_110 rfl ?_
            refine go_icmp_ge (tgt := 203) dX10_way_111 rfl (fun h111 => ?_) (fun h111 => ?_)
            ·
              exact absurd h111 (by omega)
            ·
              refine go_iload dX10_way_114 rfl ?_
              refine go_if_ge (tgt := 203) dX10_way_116 rfl (fun h116 => ?_) (fun h116 => ?_)
              ·
                exact go_drop (k203 _ (by omega)) rfl
              ·
                have hnl : nx = -1 ∧ i ≤ (bD (wF (rkC (vm (μ 88)) 32) to) (rkC (vm (μ 88)) 32) (ceN (wF (rkC (vm (μ 88)) 32) to) (rkC (vm (μ 88)) 32) k.toNat fr)) := by omega
                have hnr := nbM_r (d := i) hc0 hc1
                refine go_iload dX10_way_119 rfl ?_
                refine go_iload dX10_way_121 rfl ?_
                refine go_sI dX10_way_123 (ct_X10_beside _ _ hc0 hc1 (by omega) (by omega)) ml_X10_179 mc_X10_beside ms_X10_beside ⟨rfl, rfl⟩ ⟨Nat.le_refl _, Nat.le_refl _⟩ rfl rfl rfl (fun x123 μ123 hc123 => ?_)
                obtain ⟨rfl, hm123⟩ := hc123
                rw [hm123]
                refine go_istore dX10_way_126 rfl ?_
                refine go_iload dX10_way_128 rfl ?_
                refine go_if_lt (tgt := 181) dX10_way_130 rfl (fun h130 => ?_) (fun h130 => ?_)
                ·
                  have hib : i < (bD (wF (rkC (vm (μ 88)) 32) to) (rkC (vm (μ 88)) 32) (ceN (wF (rkC (vm (μ 88)) 32) to) (rkC (vm (μ 88)) 32) k.toNat fr)) := by
                    rcases (show i = (bD (wF (rkC (vm (μ 88)) 32) to) (rkC (vm (μ 88)) 32) (ceN (wF (rkC (vm (μ 88)) 32) to) (rkC (vm (μ 88)) 32) k.toNat fr)) ∨ i < (bD (wF (rkC (vm (μ 88)) 32) to) (rkC (vm (μ 88)) 32) (ceN (wF (rkC (vm (μ 88)) 32) to) (rkC (vm (μ 88)) 32) k.toNat fr)) by omega) with e | e
                    · exfalso
                      have g := hbd.1
                      rw [mB_at, ← e] at g
                      have g2 : cB (wF (rkC (vm (μ 88)) 32) to) (rkC (vm (μ 88)) 32) (ceN (wF (rkC (vm (μ 88)) 32) to) (rkC (vm (μ 88)) 32) k.toNat fr) i = 536870912 := if_pos (by omega)
                      have hx6 := wF_lt (a := to) (by omega) (by omega) hr hc0 hc1
                      omega
                    · exact e
                  refine go_iconst dX10_way_181 rfl ?_
                  refine go_istore dX10_way_182 rfl ?_
                  refine go_iload dX10_way_184 rfl ?_
                  first | refine go_bz (tgt := 194) dX10_way_186 rfl (fun h186 => ?_) (fun h186 => ?_) | refine go_if_eq (tgt := 194) dX10_way_186 rfl (fun h186 => ?_) (fun h186 => ?_)
                  ·
                    refine go_iconst dX10_way_194 rfl ?_
                    refine go_istore dX10_way_195 rfl ?_
                    refine go_iinc dX10_way_197 rfl rfl ⟨by omega, by omega⟩ ?_
                    refine go_goto (tgt := 108) dX10_way_200 rfl ?_
                    exact go_drop (ihN _ _ (by omega) (by omega) (Or.inl ⟨rfl, by omega⟩)) rfl
                  ·
                    exact absurd h186 (by omega)
                ·
                  have hnm : nbM (ceN (wF (rkC (vm (μ 88)) 32) to) (rkC (vm (μ 88)) 32) k.toNat fr) i = nb (ceN (wF (rkC (vm (μ 88)) 32) to) (rkC (vm (μ 88)) 32) k.toNat fr) i := by omega
                  have hx1 := hF _ (show 0 ≤ nb (ceN (wF (rkC (vm (μ 88)) 32) to) (rkC (vm (μ 88)) 32) k.toNat fr) i by omega) (show nb (ceN (wF (rkC (vm (μ 88)) 32) to) (rkC (vm (μ 88)) 32) k.toNat fr) i < 30 by omega)
                  have hx2 := hF _ hc0 hc1
                  have hx3 := h101 _ (show 0 ≤ nb (ceN (wF (rkC (vm (μ 88)) 32) to) (rkC (vm (μ 88)) 32) k.toNat fr) i by omega) (show nb (ceN (wF (rkC (vm (μ 88)) 32) to) (rkC (vm (μ 88)) 32) k.toNat fr) i < 30 by omega)
                  have hx4 := hr _ (show 0 ≤ nb (ceN (wF (rkC (vm (μ 88)) 32) to) (rkC (vm (μ 88)) 32) k.toNat fr) i by omega) (show nb (ceN (wF (rkC (vm (μ 88)) 32) to) (rkC (vm (μ 88)) 32) k.toNat fr) i < 30 by omega)
                  have hx5 : cB (wF (rkC (vm (μ 88)) 32) to) (rkC (vm (μ 88)) 32) (ceN (wF (rkC (vm (μ 88)) 32) to) (rkC (vm (μ 88)) 32) k.toNat fr) i = (wF (rkC (vm (μ 88)) 32) to) (nb (ceN (wF (rkC (vm (μ 88)) 32) to) (rkC (vm (μ 88)) 32) k.toNat fr) i) + (rkC (vm (μ 88)) 32) (nb (ceN (wF (rkC (vm (μ 88)) 32) to) (rkC (vm (μ 88)) 32) k.toNat fr) i) * 64 + 1 := if_neg (by omega)
                  have hx6 := wF_lt (a := to) (by omega) (by omega) hr hc0 hc1
                  have hx7 := wF_lt (a := to) (by omega) (by omega) hr (show 0 ≤ nb (ceN (wF (rkC (vm (μ 88)) 32) to) (rkC (vm (μ 88)) 32) k.toNat fr) i by omega) (by omega)
                  have hx8 : 0 ≤ (wF (rkC (vm (μ 88)) 32) to) (nb (ceN (wF (rkC (vm (μ 88)) 32) to) (rkC (vm (μ 88)) 32) k.toNat fr) i) := (wD_b (to := to) (fun q q0 q1 => (hr q q0 q1).1) 29 _ (show 0 ≤ nb (ceN (wF (rkC (vm (μ 88)) 32) to) (rkC (vm (μ 88)) 32) k.toNat fr) i by omega) (by omega)).1
                  rw [hnm]
                  refine go_aload_n dX10_way_133 rfl ?_
                  refine go_getR dX10_way_134 fl_X10_52 (by first | assumption | exact Nat.le_of_ble_eq_true rfl) (by first | assumption | rfl) rfl (by first | assumption | rfl) ?_
                  refine go_iload dX10_way_137 rfl ?_
                  refine go_iaload dX10_way_139 (by first | assumption | exact Nat.le_of_ble_eq_true rfl) (by first | assumption | rfl) (by omega) (by omega) ?_
                  try simp (disch := omega) only [ua_same, ua_ne, uf_same, uf_ne]
                  refine go_aload_n dX10_way_140 rfl ?_
                  refine go_getR dX10_way_141 fl_X10_49 (by first | assumption | exact Nat.le_of_ble_eq_true rfl) (by first | assumption | rfl) rfl (by first | assumption | rfl) ?_
                  refine go_iload dX10_way_144 rfl ?_
                  refine go_iaload dX10_way_146 (by first | assumption | exact Nat.le_of_ble_eq_true rfl) (by first | assumption | rfl) (by omega) (by omega) ?_
                  try simp (disch := omega) only [ua_same, ua_ne, uf_same, uf_ne]
                  rw [hx3]
                  refine go_iadd dX10_way_147 ⟨by omega, by omega⟩ ?_
                  refine go_aload_n dX10_way_148 rfl ?_
                  refine go_getR dX10_way_149 fl_X10_52 (by first | assumption | exact Nat.le_of_ble_eq_true rfl) (by first | assumption | rfl) rfl (by first | assumption | rfl) ?_
                  refine go_iload dX10_way_152 rfl ?_
                  refine go_iaload dX10_way_154 (by first | assumption | exact Nat.le_of_ble_eq_true rfl) (by first | assumption | rfl) (by omega) (by omega) ?_
                  try simp (disch := omega) only [ua_same, ua_ne, uf_same, uf_ne]
                  refine go_icmp_ne (tgt := 181) dX10_way_155 rfl (fun h155 => ?_) (fun h155 => ?_)
                  ·
                    have hib : i < (bD (wF (rkC (vm (μ 88)) 32) to) (rkC (vm (μ 88)) 32) (ceN (wF (rkC (vm (μ 88)) 32) to) (rkC (vm (μ 88)) 32) k.toNat fr)) := by
                      rcases (show i = (bD (wF (rkC (vm (μ 88)) 32) to) (rkC (vm (μ 88)) 32) (ceN (wF (rkC (vm (μ 88)) 32) to) (rkC (vm (μ 88)) 32) k.toNat fr)) ∨ i < (bD (wF (rkC (vm (μ 88)) 32) to) (rkC (vm (μ 88)) 32) (ceN (wF (rkC (vm (μ 88)) 32) to) (rkC (vm (μ 88)) 32) k.toNat fr)) by omega) with e | e
                      · exfalso
                        have g := hbd.1
                        rw [mB_at, ← e] at g
                        omega
                      · exact e
                    refine go_iconst dX10_way_181 rfl ?_
                    refine go_istore dX10_way_182 rfl ?_
                    refine go_iload dX10_way_184 rfl ?_
                    first | refine go_bz (tgt := 194) dX10_way_186 rfl (fun h186 => ?_) (fun h186 => ?_) | refine go_if_eq (tgt := 194) dX10_way_186 rfl (fun h186 => ?_) (fun h186 => ?_)
                    ·
                      refine go_iconst dX10_way_194 rfl ?_
                      refine go_istore dX10_way_195 rfl ?_
                      refine go_iinc dX10_way_197 rfl rfl ⟨by omega, by omega⟩ ?_
                      refine go_goto (tgt := 108) dX10_way_200 rfl ?_
                      exact go_drop (ihN _ _ (by omega) (by omega) (Or.inl ⟨rfl, by omega⟩)) rfl
                    ·
                      exact absurd h186 (by omega)
                  ·
                    refine go_aload_n dX10_way_158 rfl ?_
                    refine go_getR dX10_way_159 fl_X10_55 (by first | assumption | exact Nat.le_of_ble_eq_true rfl) (by first | assumption | rfl) rfl (by first | assumption | rfl) ?_
                    refine go_iload dX10_way_162 rfl ?_
                    refine go_iaload dX10_way_164 (by first | assumption | exact Nat.le_of_ble_eq_true rfl) (by first | assumption | rfl) (by omega) (by omega) ?_
                    try simp (disch := omega) only [ua_same, ua_ne, uf_same, uf_ne]
                    refine go_iconst dX10_way_165 rfl ?_
                    refine go_iadd dX10_way_166 ⟨by omega, by omega⟩ ?_
                    refine go_aload_n dX10_way_167 rfl ?_
                    refine go_getR dX10_way_168 fl_X10_55 (by first | assumption | exact Nat.le_of_ble_eq_true rfl) (by first | assumption | rfl) rfl (by first | assumption | rfl) ?_
                    refine go_iload dX10_way_171 rfl ?_
                    refine go_iaload dX10_way_173 (by first | assumption | exact Nat.le_of_ble_eq_true rfl) (by first | assumption | rfl) (by omega) (by omega) ?_
                    try simp (disch := omega) only [ua_same, ua_ne, uf_same, uf_ne]
                    refine go_icmp_ne (tgt := 181) dX10_way_174 rfl (fun h174 => ?_) (fun h174 => ?_)
                    ·
                      have hib : i < (bD (wF (rkC (vm (μ 88)) 32) to) (rkC (vm (μ 88)) 32) (ceN (wF (rkC (vm (μ 88)) 32) to) (rkC (vm (μ 88)) 32) k.toNat fr)) := by
                        rcases (show i = (bD (wF (rkC (vm (μ 88)) 32) to) (rkC (vm (μ 88)) 32) (ceN (wF (rkC (vm (μ 88)) 32) to) (rkC (vm (μ 88)) 32) k.toNat fr)) ∨ i < (bD (wF (rkC (vm (μ 88)) 32) to) (rkC (vm (μ 88)) 32) (ceN (wF (rkC (vm (μ 88)) 32) to) (rkC (vm (μ 88)) 32) k.toNat fr)) by omega) with e | e
                        · exfalso
                          have g := hbd.1
                          rw [mB_at, ← e] at g
                          omega
                        · exact e
                      refine go_iconst dX10_way_181 rfl ?_
                      refine go_istore dX10_way_182 rfl ?_
                      refine go_iload dX10_way_184 rfl ?_
                      first | refine go_bz (tgt := 194) dX10_way_186 rfl (fun h186 => ?_) (fun h186 => ?_) | refine go_if_eq (tgt := 194) dX10_way_186 rfl (fun h186 => ?_) (fun h186 => ?_)
                      ·
                        refine go_iconst dX10_way_194 rfl ?_
                        refine go_istore dX10_way_195 rfl ?_
                        refine go_iinc dX10_way_197 rfl rfl ⟨by omega, by omega⟩ ?_
                        refine go_goto (tgt := 108) dX10_way_200 rfl ?_
                        exact go_drop (ihN _ _ (by omega) (by omega) (Or.inl ⟨rfl, by omega⟩)) rfl
                      ·
                        exact absurd h186 (by omega)
                    ·
                      have hib : (bD (wF (rkC (vm (μ 88)) 32) to) (rkC (vm (μ 88)) 32) (ceN (wF (rkC (vm (μ 88)) 32) to) (rkC (vm (μ 88)) 32) k.toNat fr)) = i := by have := (hbd.2 i hv (by omega)).2 (by rw [hx5, hbd.1]; omega); omega
                      refine go_iconst dX10_way_177 rfl ?_
                      refine go_goto (tgt := 182) dX10_way_178 rfl ?_
                      refine go_istore dX10_way_182 rfl ?_
                      refine go_iload dX10_way_184 rfl ?_
                      first | refine go_bz (tgt := 194) dX10_way_186 rfl (fun h186 => ?_) (fun h186 => ?_) | refine go_if_eq (tgt := 194) dX10_way_186 rfl (fun h186 => ?_) (fun h186 => ?_)
                      ·
                        exact absurd h186 (by omega)
                      ·
                        refine go_iload dX10_way_189 rfl ?_
                        refine go_goto (tgt := 195) dX10_way_191 rfl ?_
                        refine go_istore dX10_way_195 rfl ?_
                        refine go_iinc dX10_way_197 rfl rfl ⟨by omega, by omega⟩ ?_
                        refine go_goto (tgt := 108) dX10_way_200 rfl ?_
                        exact go_drop (ihN _ _ (by omega) (by omega) (Or.inr (by rw [hib]))) rfl
        exact go_drop (lpN 4 0 (-1) (by omega) (by omega) (Or.inl ⟨rfl, by omega⟩)) rfl
  refine go_iload_n dX10_way_0 rfl ?_
  refine go_sI dX10_way_1 (ct_X10_isCell _) ml_X10_116 mc_X10_isCell ms_X10_isCell ⟨rfl, rfl⟩ ⟨Nat.le_refl _, Nat.le_refl _⟩ rfl rfl rfl (fun x1 μ1 hc1 => ?_)
  obtain ⟨rfl, hm1⟩ := hc1
  rw [hm1]
  first | refine go_bz (tgt := 32) dX10_way_4 rfl (fun h4 => ?_) (fun h4 => ?_) | refine go_if_eq (tgt := 32) dX10_way_4 rfl (fun h4 => ?_) (fun h4 => ?_)
  ·
    refine go_ldc dX10_way_32 kc_X10_126 rfl ?_
    exact go_ri dX10_way_34 tyI ⟨Nat.le_refl _, Nat.le_refl _⟩ (⟨by rw [if_neg (by omega)], fun _ _ _ _ _ _ _ => rfl⟩)
  ·
    refine go_iload_n dX10_way_7 rfl ?_
    refine go_sI dX10_way_8 (ct_X10_isCell _) ml_X10_116 mc_X10_isCell ms_X10_isCell ⟨rfl, rfl⟩ ⟨Nat.le_refl _, Nat.le_refl _⟩ rfl rfl rfl (fun x8 μ8 hc8 => ?_)
    obtain ⟨rfl, hm8⟩ := hc8
    rw [hm8]
    first | refine go_bz (tgt := 32) dX10_way_11 rfl (fun h11 => ?_) (fun h11 => ?_) | refine go_if_eq (tgt := 32) dX10_way_11 rfl (fun h11 => ?_) (fun h11 => ?_)
    ·
      refine go_ldc dX10_way_32 kc_X10_126 rfl ?_
      exact go_ri dX10_way_34 tyI ⟨Nat.le_refl _, Nat.le_refl _⟩ (⟨by rw [if_neg (by omega)], fun _ _ _ _ _ _ _ => rfl⟩)
    ·
      refine go_iload_n dX10_way_14 rfl ?_
      refine go_i2l dX10_way_15 ?_
      refine go_lconst dX10_way_16 ?_
      refine go_ldc2 dX10_way_17 kl_X10_148 rfl ?_
      refine go_sI dX10_way_20 (ct_X10_isIn _ _ _) ml_X10_87 mc_X10_isIn ms_X10_isIn ⟨rfl, rfl⟩ ⟨Nat.le_refl _, Nat.le_refl _⟩ rfl rfl rfl (fun x20 μ20 hc20 => ?_)
      obtain ⟨rfl, hm20⟩ := hc20
      rw [hm20]
      first | refine go_bnz (tgt := 35) dX10_way_23 rfl (fun h23 => ?_) (fun h23 => ?_) | refine go_if_ne (tgt := 35) dX10_way_23 rfl (fun h23 => ?_) (fun h23 => ?_)
      ·
        refine go_aload_n dX10_way_35 rfl ?_
        refine go_iload_n dX10_way_36 rfl ?_
        refine go_vV (ci := 9) dX10_way_37 (ct_X10_findWays hI _ (by omega) (by omega)) ml_X10_207 mc_X10_findWays mv_X10_findWays rfl (by first | assumption | exact Nat.le_of_ble_eq_true rfl) (by first | assumption | rfl) rfl ⟨rfl, rfl⟩ ⟨Nat.le_refl _, Nat.le_refl _⟩ rfl rfl rfl (fun μ37 hc37 => ?_)
        obtain ⟨hF, h101, hf⟩ := hc37
        have hS := hF fr (by omega) (by omega)
        refine go_iload_n dX10_way_40 rfl ?_
        refine go_iconst dX10_way_41 rfl ?_
        refine go_icmp_ge (tgt := 65) dX10_way_42 rfl (fun h42 => ?_) (fun h42 => ?_)
        ·
          refine go_iconst dX10_way_65 rfl ?_
          refine go_istore dX10_way_66 rfl ?_
          refine go_aload_n dX10_way_68 rfl ?_
          refine go_getR dX10_way_69 fl_X10_58 (by first | assumption | exact Nat.le_of_ble_eq_true rfl) (by first | assumption | rfl) rfl (by first | assumption | rfl) ?_
          refine go_iconst dX10_way_72 rfl ?_
          refine go_iload_n dX10_way_73 rfl ?_
          refine go_iastore dX10_way_74 (by first | assumption | exact Nat.le_of_ble_eq_true rfl) (by first | assumption | rfl) (by omega) (by omega) ?_
          refine go_iconst dX10_way_75 rfl ?_
          refine go_istore dX10_way_76 rfl ?_
          refine go_drop (loop ((wF (rkC (vm (μ 88)) 32) to) fr % 64).toNat 0 0 _ (by omega) (by omega) (by omega) (by omega) (show 0 ≤ fr by omega) (show fr < 30 by omega) (by show (wF (rkC (vm (μ 88)) 32) to) fr % 64 = _; omega) (by omega) (by omega) ?_ ?_ ?_ ?_ ?_) rfl
          · rw [Int.sub_zero, Int.zero_add]; rfl
          · intro j j0 j1; rw [show j = 0 by omega, ud_s, uf_same]; rfl
          · intro c c0 c1; rw [ud_n (by decide), ud_n (by decide)]; exact hF c c0 c1
          · intro c c0 c1; rw [ud_n (by decide)]; exact h101 c c0 c1
          · intro q x1 x2 x3 x4 x5 x6; rw [ud_n x4]; exact hf q x1 x2 x3 x5 x6
        ·
          refine go_iload_n dX10_way_45 rfl ?_
          first | refine go_bnz (tgt := 58) dX10_way_46 rfl (fun h46 => ?_) (fun h46 => ?_) | refine go_if_ne (tgt := 58) dX10_way_46 rfl (fun h46 => ?_) (fun h46 => ?_)
          ·
            refine go_aload_n dX10_way_58 rfl ?_
            refine go_getR dX10_way_59 fl_X10_55 (by first | assumption | exact Nat.le_of_ble_eq_true rfl) (by first | assumption | rfl) rfl (by first | assumption | rfl) ?_
            refine go_iload_n dX10_way_62 rfl ?_
            refine go_iaload dX10_way_63 (by first | assumption | exact Nat.le_of_ble_eq_true rfl) (by first | assumption | rfl) (by omega) (by omega) ?_
            try simp (disch := omega) only [ua_same, ua_ne, uf_same, uf_ne]
            exact go_ri dX10_way_64 tyI ⟨Nat.le_refl _, Nat.le_refl _⟩ (⟨by rw [if_pos (show (0 ≤ fr ∧ fr ≤ 29) ∧ (0 ≤ to ∧ to ≤ 29) ∧ 0 ≤ what ∧ ¬ (3 ≤ what ∧ what ≤ 9) by omega)]; unfold wyV; rw [if_neg (by omega), if_pos (by omega)]; exact (hF _ (by omega) (by omega)).2.1, fun q x1 x2 x3 x4 x5 x6 => hf q x1 x2 x3 x5 x6⟩)
          ·
            refine go_aload_n dX10_way_49 rfl ?_
            refine go_getR dX10_way_50 fl_X10_52 (by first | assumption | exact Nat.le_of_ble_eq_true rfl) (by first | assumption | rfl) rfl (by first | assumption | rfl) ?_
            refine go_iload_n dX10_way_53 rfl ?_
            refine go_iaload dX10_way_54 (by first | assumption | exact Nat.le_of_ble_eq_true rfl) (by first | assumption | rfl) (by omega) (by omega) ?_
            try simp (disch := omega) only [ua_same, ua_ne, uf_same, uf_ne]
            refine go_goto (tgt := 64) dX10_way_55 rfl ?_
            exact go_ri dX10_way_64 tyI ⟨Nat.le_refl _, Nat.le_refl _⟩ (⟨by rw [if_pos (show (0 ≤ fr ∧ fr ≤ 29) ∧ (0 ≤ to ∧ to ≤ 29) ∧ 0 ≤ what ∧ ¬ (3 ≤ what ∧ what ≤ 9) by omega)]; unfold wyV; rw [if_pos (by omega)]; exact (hF _ (by omega) (by omega)).1, fun q x1 x2 x3 x4 x5 x6 => hf q x1 x2 x3 x5 x6⟩)
      ·
        refine go_iload_n dX10_way_26 rfl ?_
        refine go_bipush dX10_way_27 rfl (by decide) ?_
        refine go_icmp_ge (tgt := 35) dX10_way_29 rfl (fun h29 => ?_) (fun h29 => ?_)
        ·
          refine go_aload_n dX10_way_35 rfl ?_
          refine go_iload_n dX10_way_36 rfl ?_
          refine go_vV (ci := 9) dX10_way_37 (ct_X10_findWays hI _ (by omega) (by omega)) ml_X10_207 mc_X10_findWays mv_X10_findWays rfl (by first | assumption | exact Nat.le_of_ble_eq_true rfl) (by first | assumption | rfl) rfl ⟨rfl, rfl⟩ ⟨Nat.le_refl _, Nat.le_refl _⟩ rfl rfl rfl (fun μ37 hc37 => ?_)
          obtain ⟨hF, h101, hf⟩ := hc37
          have hS := hF fr (by omega) (by omega)
          refine go_iload_n dX10_way_40 rfl ?_
          refine go_iconst dX10_way_41 rfl ?_
          refine go_icmp_ge (tgt := 65) dX10_way_42 rfl (fun h42 => ?_) (fun h42 => ?_)
          ·
            refine go_iconst dX10_way_65 rfl ?_
            refine go_istore dX10_way_66 rfl ?_
            refine go_aload_n dX10_way_68 rfl ?_
            refine go_getR dX10_way_69 fl_X10_58 (by first | assumption | exact Nat.le_of_ble_eq_true rfl) (by first | assumption | rfl) rfl (by first | assumption | rfl) ?_
            refine go_iconst dX10_way_72 rfl ?_
            refine go_iload_n dX10_way_73 rfl ?_
            refine go_iastore dX10_way_74 (by first | assumption | exact Nat.le_of_ble_eq_true rfl) (by first | assumption | rfl) (by omega) (by omega) ?_
            refine go_iconst dX10_way_75 rfl ?_
            refine go_istore dX10_way_76 rfl ?_
            refine go_drop (loop ((wF (rkC (vm (μ 88)) 32) to) fr % 64).toNat 0 0 _ (by omega) (by omega) (by omega) (by omega) (show 0 ≤ fr by omega) (show fr < 30 by omega) (by show (wF (rkC (vm (μ 88)) 32) to) fr % 64 = _; omega) (by omega) (by omega) ?_ ?_ ?_ ?_ ?_) rfl
            · rw [Int.sub_zero, Int.zero_add]; rfl
            · intro j j0 j1; rw [show j = 0 by omega, ud_s, uf_same]; rfl
            · intro c c0 c1; rw [ud_n (by decide), ud_n (by decide)]; exact hF c c0 c1
            · intro c c0 c1; rw [ud_n (by decide)]; exact h101 c c0 c1
            · intro q x1 x2 x3 x4 x5 x6; rw [ud_n x4]; exact hf q x1 x2 x3 x5 x6
          ·
            refine go_iload_n dX10_way_45 rfl ?_
            first | refine go_bnz (tgt := 58) dX10_way_46 rfl (fun h46 => ?_) (fun h46 => ?_) | refine go_if_ne (tgt := 58) dX10_way_46 rfl (fun h46 => ?_) (fun h46 => ?_)
            ·
              refine go_aload_n dX10_way_58 rfl ?_
              refine go_getR dX10_way_59 fl_X10_55 (by first | assumption | exact Nat.le_of_ble_eq_true rfl) (by first | assumption | rfl) rfl (by first | assumption | rfl) ?_
              refine go_iload_n dX10_way_62 rfl ?_
              refine go_iaload dX10_way_63 (by first | assumption | exact Nat.le_of_ble_eq_true rfl) (by first | assumption | rfl) (by omega) (by omega) ?_
              try simp (disch := omega) only [ua_same, ua_ne, uf_same, uf_ne]
              exact go_ri dX10_way_64 tyI ⟨Nat.le_refl _, Nat.le_refl _⟩ (⟨by rw [if_pos (show (0 ≤ fr ∧ fr ≤ 29) ∧ (0 ≤ to ∧ to ≤ 29) ∧ 0 ≤ what ∧ ¬ (3 ≤ what ∧ what ≤ 9) by omega)]; unfold wyV; rw [if_neg (by omega), if_pos (by omega)]; exact (hF _ (by omega) (by omega)).2.1, fun q x1 x2 x3 x4 x5 x6 => hf q x1 x2 x3 x5 x6⟩)
            ·
              refine go_aload_n dX10_way_49 rfl ?_
              refine go_getR dX10_way_50 fl_X10_52 (by first | assumption | exact Nat.le_of_ble_eq_true rfl) (by first | assumption | rfl) rfl (by first | assumption | rfl) ?_
              refine go_iload_n dX10_way_53 rfl ?_
              refine go_iaload dX10_way_54 (by first | assumption | exact Nat.le_of_ble_eq_true rfl) (by first | assumption | rfl) (by omega) (by omega) ?_
              try simp (disch := omega) only [ua_same, ua_ne, uf_same, uf_ne]
              refine go_goto (tgt := 64) dX10_way_55 rfl ?_
              exact go_ri dX10_way_64 tyI ⟨Nat.le_refl _, Nat.le_refl _⟩ (⟨by rw [if_pos (show (0 ≤ fr ∧ fr ≤ 29) ∧ (0 ≤ to ∧ to ≤ 29) ∧ 0 ≤ what ∧ ¬ (3 ≤ what ∧ what ≤ 9) by omega)]; unfold wyV; rw [if_pos (by omega)]; exact (hF _ (by omega) (by omega)).1, fun q x1 x2 x3 x4 x5 x6 => hf q x1 x2 x3 x5 x6⟩)
        ·
          refine go_ldc dX10_way_32 kc_X10_126 rfl ?_
          exact go_ri dX10_way_34 tyI ⟨Nat.le_refl _, Nat.le_refl _⟩ (⟨by rw [if_neg (by omega)], fun _ _ _ _ _ _ _ => rfl⟩)

