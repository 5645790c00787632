/-! THE CLASS: the track -/
def trS (g : Int → Int) : Nat → Int
  | 0 => 0
  | n + 1 => trS g n + (if 1 ≤ n then g (n : Nat) else 0)
def trT (t : Int → Int) : Nat → Int
  | 0 => 0
  | n + 1 => trT t n + (if 2 ≤ n ∧ t (n : Nat) - t ((n : Nat) - 1) ≠ t ((n : Nat) - 1) - t ((n : Nat) - 2) then 1 else 0)
def mxN (g : Int → Int) : Nat → Int
  | 0 => 0
  | n + 1 => max (mxN g n) (g (n : Nat))
theorem trS_b {g : Int → Int} {N : Int} (hN : 0 ≤ N) : ∀ n : Nat, (∀ i : Int, 0 ≤ i → i < (n : Nat) → 0 ≤ g i ∧ g i ≤ N) → 0 ≤ trS g n ∧ trS g n ≤ N * (n : Nat)
  | 0, _ => by unfold trS; simp
  | n + 1, h => by
    have h1 := trS_b hN n (fun i a b => h i a (by omega))
    have h2 := h (n : Nat) (by omega) (by omega)
    have e : N * ((n + 1 : Nat) : Int) = N * (n : Nat) + N := by rw [Int.natCast_add, Int.mul_add]; simp
    unfold trS
    rw [e]
    split <;> omega
theorem trT_b {t : Int → Int} : ∀ n : Nat, 0 ≤ trT t n ∧ trT t n ≤ (n : Nat)
  | 0 => by unfold trT; simp
  | n + 1 => by
    have h1 := trT_b (t := t) n
    unfold trT
    split <;> omega
theorem mxN_b {g : Int → Int} {N : Int} (hN : 0 ≤ N) : ∀ n : Nat, (∀ i : Int, 0 ≤ i → i < (n : Nat) → 0 ≤ g i ∧ g i ≤ N) → 0 ≤ mxN g n ∧ mxN g n ≤ N
  | 0, _ => by unfold mxN; omega
  | n + 1, h => by
    have h1 := mxN_b hN n (fun i a b => h i a (by omega))
    have h2 := h (n : Nat) (by omega) (by omega)
    unfold mxN
    omega
theorem sv_b {LL : LT} {s u : Int} (h0 : 0 ≤ s) (h1 : s ≤ 60) (h2 : 0 ≤ u) (h3 : u ≤ 1) : 0 ≤ stepV LL s u ∧ stepV LL s u ≤ 99 := by
  unfold stepV
  split
  · omega
  · unfold cl; omega
theorem up_b {a b : Int} : 0 ≤ upV a b ∧ upV a b ≤ 1 := by unfold upV; split <;> omega
theorem rk_b {LL : LT} {d h : Int} {k s l : Int → Int} {c : Int} (hp : ∀ q, 0 ≤ q → q < 30 → 0 ≤ plainR LL d (s q) (l q) ∧ plainR LL d (s q) (l q) ≤ 999) (h0 : 0 ≤ c) (h1 : c < 30) (hh : h ≤ 23) : 0 ≤ riskV LL d h k s l c ∧ riskV LL d h k s l c ≤ 2996 := by
  have b1 := hp c h0 h1
  have b2 := abvN_b hp 5 c h0
  have b3 : 0 ≤ sunV h ∧ sunV h ≤ 14 := by unfold sunV; omega
  unfold riskV kRisk abv
  split
  · omega
  · split
    · omega
    · split
      · omega
      · split
        · omega
        · split <;> omega
theorem rkC_b {μ : Mem} {M : Nat} (hI : mtI μ M) (c : Int) (h0 : 0 ≤ c) (h1 : c < 30) : 0 ≤ rkC μ M c ∧ rkC μ M c ≤ 2996 := rk_b (fun q a b => prC_b hI q a b) h0 h1 hI.2.2.2.2.2.2.1.2
theorem trS_1 {g : Int → Int} : trS g 1 = 0 := by unfold trS trS; simp
theorem trT_2 {g : Int → Int} : trT g 2 = 0 := by simp [trT]

set_option maxRecDepth 100000 in
set_option maxHeartbeats 4000000 in
theorem ct_X3_trackRisk {l : Launch} {D : va_G} {cA : Nat → ClassId} {μ : Mem} {M : Nat} (hMt : isMt M) (hI : mtI μ M) (hT : 1 ≤ μ M 7) : CtN l D cA yX3_trackRisk cX3_trackRisk 3 (some .int) 6 [vr M] μ (Pi (fun x μ' => x = trS (fun i => rkC μ M (μ (M + 4) i)) (μ M 7).toNat ∧ ∀ q, q ≠ 3 → q ≠ M + 5 → μ' q = μ q)) := by
  refine Ct.of (own := RX3) (by decide +kernel) rfl (fun σ => Nat.le_of_ble_eq_true rfl) (fun hM hP ha => ?_)
  obtain ⟨hM32, hM53, hA0, hA1, hA2, hA3, hA4, hA5, hA6, hs0, hs1, hs2, hs3, hs4, hs5, hs6, hr0, hr1, hr2, hr3, hr4, hr5, hr6⟩ := mt_f hMt
  obtain ⟨iK, iS, iL, iT, iTn, iD, iH, iF, iX, iW⟩ := id hI
  refine go_aload_n dX3_trackRisk_0 rfl ?_
  refine go_vV (ci := 2) dX3_trackRisk_1 (ct_X3_weighRisks hMt hI) ml_X3_133 mc_X3_weighRisks mv_X3_weighRisks rfl (by first | assumption | exact Nat.le_of_ble_eq_true rfl) (by first | assumption | rfl) rfl ⟨rfl, rfl⟩ ⟨Nat.le_refl _, Nat.le_refl _⟩ rfl rfl rfl (fun μ1 hc1 => ?_)
  obtain ⟨hw1, hf1⟩ := hc1
  have hfM : μ1 M = μ M := hf1 M (by omega) (by omega)
  have hfT : μ1 (M + 4) = μ (M + 4) := hf1 (M + 4) (by omega) (by omega)
  have loop : ∀ (m : Nat) (i : Int) (acc : Int), (μ M 7) - i = (m : Nat) → 1 ≤ i → (acc = trS (fun i => rkC μ M (μ (M + 4) i)) i.toNat) → Go l D cA none RX3 cX3_trackRisk 3 (some .int) (6, 0, 0) (QN (Pi (fun x μ' => x = trS (fun i => rkC μ M (μ (M + 4) i)) (μ M 7).toNat ∧ ∀ q, q ≠ 3 → q ≠ M + 5 → μ' q = μ q))) 113 ρ0 0 0 8 [(0, vr M), (1, vi acc), (2, vi i)] [] μ1 := by
    intro m
    induction m with
    | zero =>
      intro i acc hm hv hacc
      refine go_iload_n dX3_trackRisk_8 rfl ?_
      refine go_aload_n dX3_trackRisk_9 rfl ?_
      refine go_getI 7 dX3_trackRisk_10 fl_X3_53 (by first | assumption | exact Nat.le_of_ble_eq_true rfl) (by first | assumption | rfl) rfl rfl ?_
      try simp (disch := omega) only [ud, ua_same, ua_ne, uf_same, uf_ne, hfM]
      refine go_icmp_ge (tgt := 36) dX3_trackRisk_13 rfl (fun h13 => ?_) (fun h13 => ?_)
      ·
        refine go_iload_n dX3_trackRisk_36 rfl ?_
        exact go_ri dX3_trackRisk_37 tyI ⟨Nat.le_refl _, Nat.le_refl _⟩ (⟨by rw [hacc, show i = μ M 7 by omega], hf1⟩)
      ·
        exact absurd h13 (by omega)
    | succ m ih =>
      intro i acc hm hv hacc
      refine go_iload_n dX3_trackRisk_8 rfl ?_
      refine go_aload_n dX3_trackRisk_9 rfl ?_
      refine go_getI 7 dX3_trackRisk_10 fl_X3_53 (by first | assumption | exact Nat.le_of_ble_eq_true rfl) (by first | assumption | rfl) rfl rfl ?_
      try simp (disch := omega) only [ud, ua_same, ua_ne, uf_same, uf_ne, hfM, hfT]
      refine go_icmp_ge (tgt := 36) dX3_trackRisk_13 rfl (fun h13 => ?_) (fun h13 => ?_)
      ·
        exact absurd h13 (by omega)
      ·
        have ht := iT i (by omega) (by omega)
        have hrb := rkC_b hI _ ht.1 ht.2
        have hab := trS_b (g := fun i => rkC μ M (μ (M + 4) i)) (N := 2996) (by omega) i.toNat (fun j a b => rkC_b hI _ (iT j a (by omega)).1 (iT j a (by omega)).2)
        refine go_iload_n dX3_trackRisk_16 rfl ?_
        refine go_aload_n dX3_trackRisk_17 rfl ?_
        refine go_getR dX3_trackRisk_18 fl_X3_24 (by first | assumption | exact Nat.le_of_ble_eq_true rfl) (by first | assumption | rfl) rfl (by first | assumption | rfl) ?_
        refine go_aload_n dX3_trackRisk_21 rfl ?_
        refine go_getR dX3_trackRisk_22 fl_X3_21 (by first | assumption | exact Nat.le_of_ble_eq_true rfl) (by first | assumption | rfl) rfl (by first | assumption | rfl) ?_
        refine go_iload_n dX3_trackRisk_25 rfl ?_
        refine go_iaload dX3_trackRisk_26 (by first | assumption | exact Nat.le_of_ble_eq_true rfl) (by first | assumption | rfl) (by omega) (by omega) ?_
        try simp (disch := omega) only [ud, ua_same, ua_ne, uf_same, uf_ne, hfM, hfT]
        refine go_iaload dX3_trackRisk_27 (by first | assumption | exact Nat.le_of_ble_eq_true rfl) (by first | assumption | rfl) (by omega) (by omega) ?_
        try simp (disch := omega) only [ud, ua_same, ua_ne, uf_same, uf_ne, hfM, hfT]
        rw [hw1 _ ht.1 ht.2]
        refine go_iadd dX3_trackRisk_28 ⟨by omega, by omega⟩ ?_
        refine go_istore_n dX3_trackRisk_29 rfl ?_
        refine go_iinc dX3_trackRisk_30 rfl rfl ⟨by omega, by omega⟩ ?_
        refine go_goto (tgt := 8) dX3_trackRisk_33 rfl ?_
        exact go_drop (ih _ _ (by omega) (by omega) (by rw [show (i + 1).toNat = i.toNat + 1 by omega]; rw [hacc]; show _ = trS _ i.toNat + (if 1 ≤ i.toNat then rkC μ M (μ (M + 4) ((i.toNat : Nat) : Int)) else 0); rw [if_pos (by omega), show ((i.toNat : Nat) : Int) = i by omega])) rfl
  refine go_iconst dX3_trackRisk_4 rfl ?_
  refine go_istore_n dX3_trackRisk_5 rfl ?_
  refine go_iconst dX3_trackRisk_6 rfl ?_
  refine go_istore_n dX3_trackRisk_7 rfl ?_
  exact go_drop (loop (μ M 7 - 1).toNat 1 0 (by omega) (by omega) trS_1.symm) rfl

set_option maxRecDepth 100000 in
set_option maxHeartbeats 4000000 in
theorem ct_X3_trackRiskiest {l : Launch} {D : va_G} {cA : Nat → ClassId} {μ : Mem} {M : Nat} (hMt : isMt M) (hI : mtI μ M) (hT : 1 ≤ μ M 7) : CtN l D cA yX3_trackRiskiest cX3_trackRiskiest 3 (some .int) 6 [vr M] μ (Pi (fun x μ' => x = mxN (fun i => rkC μ M (μ (M + 4) i)) (μ M 7).toNat ∧ ∀ q, q ≠ 3 → q ≠ M + 5 → μ' q = μ q)) := by
  refine Ct.of (own := RX3) (by decide +kernel) rfl (fun σ => Nat.le_of_ble_eq_true rfl) (fun hM hP ha => ?_)
  obtain ⟨hM32, hM53, hA0, hA1, hA2, hA3, hA4, hA5, hA6, hs0, hs1, hs2, hs3, hs4, hs5, hs6, hr0, hr1, hr2, hr3, hr4, hr5, hr6⟩ := mt_f hMt
  obtain ⟨iK, iS, iL, iT, iTn, iD, iH, iF, iX, iW⟩ := id hI
  refine go_aload_n dX3_trackRiskiest_0 rfl ?_
  refine go_vV (ci := 2) dX3_trackRiskiest_1 (ct_X3_weighRisks hMt hI) ml_X3_133 mc_X3_weighRisks mv_X3_weighRisks rfl (by first | assumption | exact Nat.le_of_ble_eq_true rfl) (by first | assumption | rfl) rfl ⟨rfl, rfl⟩ ⟨Nat.le_refl _, Nat.le_refl _⟩ rfl rfl rfl (fun μ1 hc1 => ?_)
  obtain ⟨hw1, hf1⟩ := hc1
  have hfM : μ1 M = μ M := hf1 M (by omega) (by omega)
  have hfT : μ1 (M + 4) = μ (M + 4) := hf1 (M + 4) (by omega) (by omega)
  have loop : ∀ (m : Nat) (i : Int) (acc : Int), (μ M 7) - i = (m : Nat) → 0 ≤ i → (acc = mxN (fun i => rkC μ M (μ (M + 4) i)) i.toNat) → Go l D cA none RX3 cX3_trackRiskiest 3 (some .int) (6, 0, 0) (QN (Pi (fun x μ' => x = mxN (fun i => rkC μ M (μ (M + 4) i)) (μ M 7).toNat ∧ ∀ q, q ≠ 3 → q ≠ M + 5 → μ' q = μ q))) 113 ρ0 0 0 8 [(0, vr M), (1, vi acc), (2, vi i)] [] μ1 := by
    intro m
    induction m with
    | zero =>
      intro i acc hm hv hacc
      refine go_iload_n dX3_trackRiskiest_8 rfl ?_
      refine go_aload_n dX3_trackRiskiest_9 rfl ?_
      refine go_getI 7 dX3_trackRiskiest_10 fl_X3_53 (by first | assumption | exact Nat.le_of_ble_eq_true rfl) (by first | assumption | rfl) rfl rfl ?_
      try simp (disch := omega) only [ud, ua_same, ua_ne, uf_same, uf_ne, hfM]
      refine go_icmp_ge (tgt := 38) dX3_trackRiskiest_13 rfl (fun h13 => ?_) (fun h13 => ?_)
      ·
        refine go_iload_n dX3_trackRiskiest_38 rfl ?_
        exact go_ri dX3_trackRiskiest_39 tyI ⟨Nat.le_refl _, Nat.le_refl _⟩ (⟨by rw [hacc, show i = μ M 7 by omega], hf1⟩)
      ·
        exact absurd h13 (by omega)
    | succ m ih =>
      intro i acc hm hv hacc
      refine go_iload_n dX3_trackRiskiest_8 rfl ?_
      refine go_aload_n dX3_trackRiskiest_9 rfl ?_
      refine go_getI 7 dX3_trackRiskiest_10 fl_X3_53 (by first | assumption | exact Nat.le_of_ble_eq_true rfl) (by first | assumption | rfl) rfl rfl ?_
      try simp (disch := omega) only [ud, ua_same, ua_ne, uf_same, uf_ne, hfM, hfT]
      refine go_icmp_ge (tgt := 38) dX3_trackRiskiest_13 rfl (fun h13 => ?_) (fun h13 => ?_)
      ·
        exact absurd h13 (by omega)
      ·
        have ht := iT i (by omega) (by omega)
        refine go_iload_n dX3_trackRiskiest_16 rfl ?_
        refine go_aload_n dX3_trackRiskiest_17 rfl ?_
        refine go_getR dX3_trackRiskiest_18 fl_X3_24 (by first | assumption | exact Nat.le_of_ble_eq_true rfl) (by first | assumption | rfl) rfl (by first | assumption | rfl) ?_
        refine go_aload_n dX3_trackRiskiest_21 rfl ?_
        refine go_getR dX3_trackRiskiest_22 fl_X3_21 (by first | assumption | exact Nat.le_of_ble_eq_true rfl) (by first | assumption | rfl) rfl (by first | assumption | rfl) ?_
        refine go_iload_n dX3_trackRiskiest_25 rfl ?_
        refine go_iaload dX3_trackRiskiest_26 (by first | assumption | exact Nat.le_of_ble_eq_true rfl) (by first | assumption | rfl) (by omega) (by omega) ?_
        try simp (disch := omega) only [ud, ua_same, ua_ne, uf_same, uf_ne, hfM, hfT]
        refine go_iaload dX3_trackRiskiest_27 (by first | assumption | exact Nat.le_of_ble_eq_true rfl) (by first | assumption | rfl) (by omega) (by omega) ?_
        try simp (disch := omega) only [ud, ua_same, ua_ne, uf_same, uf_ne, hfM, hfT]
        rw [hw1 _ ht.1 ht.2]
        refine go_max dX3_trackRiskiest_28 mw_X3_62 rfl rfl ⟨Nat.le_refl _, Nat.le_refl _⟩ ?_
        refine go_istore_n dX3_trackRiskiest_31 rfl ?_
        refine go_iinc dX3_trackRiskiest_32 rfl rfl ⟨by omega, by omega⟩ ?_
        refine go_goto (tgt := 8) dX3_trackRiskiest_35 rfl ?_
        exact go_drop (ih _ _ (by omega) (by omega) (by rw [show (i + 1).toNat = i.toNat + 1 by omega]; rw [hacc]; show _ = max (mxN _ i.toNat) (rkC μ M (μ (M + 4) ((i.toNat : Nat) : Int))); rw [show ((i.toNat : Nat) : Int) = i by omega])) rfl
  refine go_iconst dX3_trackRiskiest_4 rfl ?_
  refine go_istore_n dX3_trackRiskiest_5 rfl ?_
  refine go_iconst dX3_trackRiskiest_6 rfl ?_
  refine go_istore_n dX3_trackRiskiest_7 rfl ?_
  exact go_drop (loop (μ M 7).toNat 0 0 (by omega) (by omega) rfl) rfl

set_option maxRecDepth 100000 in
set_option maxHeartbeats 4000000 in
theorem ct_X3_trackSteepest {l : Launch} {D : va_G} {cA : Nat → ClassId} {μ : Mem} {M : Nat} (hMt : isMt M) (hI : mtI μ M) (hT : 1 ≤ μ M 7) : CtN l D cA yX3_trackSteepest cX3_trackSteepest 3 (some .int) 2 [vr M] μ (Pi (fun x μ' => x = mxN (fun i => μ (M + 2) (μ (M + 4) i)) (μ M 7).toNat ∧ μ' = μ)) := by
  refine Ct.of (own := RX3) (by decide +kernel) rfl (fun σ => Nat.le_of_ble_eq_true rfl) (fun hM hP ha => ?_)
  obtain ⟨hM32, hM53, hA0, hA1, hA2, hA3, hA4, hA5, hA6, hs0, hs1, hs2, hs3, hs4, hs5, hs6, hr0, hr1, hr2, hr3, hr4, hr5, hr6⟩ := mt_f hMt
  obtain ⟨iK, iS, iL, iT, iTn, iD, iH, iF, iX, iW⟩ := id hI
  have loop : ∀ (m : Nat) (i : Int) (acc : Int), (μ M 7) - i = (m : Nat) → 0 ≤ i → (acc = mxN (fun i => μ (M + 2) (μ (M + 4) i)) i.toNat) → Go l D cA none RX3 cX3_trackSteepest 3 (some .int) (2, 0, 0) (QN (Pi (fun x μ' => x = mxN (fun i => μ (M + 2) (μ (M + 4) i)) (μ M 7).toNat ∧ μ' = μ))) 113 ρ0 0 0 4 [(0, vr M), (1, vi acc), (2, vi i)] [] μ := by
    intro m
    induction m with
    | zero =>
      intro i acc hm hv hacc
      refine go_iload_n dX3_trackSteepest_4 rfl ?_
      refine go_aload_n dX3_trackSteepest_5 rfl ?_
      refine go_getI 7 dX3_trackSteepest_6 fl_X3_53 (by first | assumption | exact Nat.le_of_ble_eq_true rfl) (by first | assumption | rfl) rfl rfl ?_
      refine go_icmp_ge (tgt := 34) dX3_trackSteepest_9 rfl (fun h9 => ?_) (fun h9 => ?_)
      ·
        refine go_iload_n dX3_trackSteepest_34 rfl ?_
        exact go_ri dX3_trackSteepest_35 tyI ⟨Nat.le_refl _, Nat.le_refl _⟩ (⟨by rw [hacc, show i = μ M 7 by omega], rfl⟩)
      ·
        exact absurd h9 (by omega)
    | succ m ih =>
      intro i acc hm hv hacc
      refine go_iload_n dX3_trackSteepest_4 rfl ?_
      refine go_aload_n dX3_trackSteepest_5 rfl ?_
      refine go_getI 7 dX3_trackSteepest_6 fl_X3_53 (by first | assumption | exact Nat.le_of_ble_eq_true rfl) (by first | assumption | rfl) rfl rfl ?_
      refine go_icmp_ge (tgt := 34) dX3_trackSteepest_9 rfl (fun h9 => ?_) (fun h9 => ?_)
      ·
        exact absurd h9 (by omega)
      ·
        have ht := iT i (by omega) (by omega)
        refine go_iload_n dX3_trackSteepest_12 rfl ?_
        refine go_aload_n dX3_trackSteepest_13 rfl ?_
        refine go_getR dX3_trackSteepest_14 fl_X3_15 (by first | assumption | exact Nat.le_of_ble_eq_true rfl) (by first | assumption | rfl) rfl (by first | assumption | rfl) ?_
        refine go_aload_n dX3_trackSteepest_17 rfl ?_
        refine go_getR dX3_trackSteepest_18 fl_X3_21 (by first | assumption | exact Nat.le_of_ble_eq_true rfl) (by first | assumption | rfl) rfl (by first | assumption | rfl) ?_
        refine go_iload_n dX3_trackSteepest_21 rfl ?_
        refine go_iaload dX3_trackSteepest_22 (by first | assumption | exact Nat.le_of_ble_eq_true rfl) (by first | assumption | rfl) (by omega) (by omega) ?_
        refine go_iaload dX3_trackSteepest_23 (by first | assumption | exact Nat.le_of_ble_eq_true rfl) (by first | assumption | rfl) (by omega) (by omega) ?_
        refine go_max dX3_trackSteepest_24 mw_X3_62 rfl rfl ⟨Nat.le_refl _, Nat.le_refl _⟩ ?_
        refine go_istore_n dX3_trackSteepest_27 rfl ?_
        refine go_iinc dX3_trackSteepest_28 rfl rfl ⟨by omega, by omega⟩ ?_
        refine go_goto (tgt := 4) dX3_trackSteepest_31 rfl ?_
        exact go_drop (ih _ _ (by omega) (by omega) (by rw [show (i + 1).toNat = i.toNat + 1 by omega]; rw [hacc]; show _ = max (mxN _ i.toNat) (μ (M + 2) (μ (M + 4) ((i.toNat : Nat) : Int))); rw [show ((i.toNat : Nat) : Int) = i by omega])) rfl
  refine go_iconst dX3_trackSteepest_0 rfl ?_
  refine go_istore_n dX3_trackSteepest_1 rfl ?_
  refine go_iconst dX3_trackSteepest_2 rfl ?_
  refine go_istore_n dX3_trackSteepest_3 rfl ?_
  exact go_drop (loop (μ M 7).toNat 0 0 (by omega) (by omega) rfl) rfl

set_option maxRecDepth 100000 in
set_option maxHeartbeats 4000000 in
theorem ct_X3_trackTurns {l : Launch} {D : va_G} {cA : Nat → ClassId} {μ : Mem} {M : Nat} (hMt : isMt M) (hI : mtI μ M) (hT : 1 ≤ μ M 7) : CtN l D cA yX3_trackTurns cX3_trackTurns 3 (some .int) 1 [vr M] μ (Pi (fun x μ' => x = trT (μ (M + 4)) (μ M 7).toNat ∧ μ' = μ)) := by
  refine Ct.of (own := RX3) (by decide +kernel) rfl (fun σ => Nat.le_of_ble_eq_true rfl) (fun hM hP ha => ?_)
  obtain ⟨hM32, hM53, hA0, hA1, hA2, hA3, hA4, hA5, hA6, hs0, hs1, hs2, hs3, hs4, hs5, hs6, hr0, hr1, hr2, hr3, hr4, hr5, hr6⟩ := mt_f hMt
  obtain ⟨iK, iS, iL, iT, iTn, iD, iH, iF, iX, iW⟩ := id hI
  have loop : ∀ (m : Nat) (i : Int) (acc : Int), (max 2 (μ M 7)) - i = (m : Nat) → 2 ≤ i → (acc = trT (μ (M + 4)) i.toNat) → Go l D cA none RX3 cX3_trackTurns 3 (some .int) (1, 0, 0) (QN (Pi (fun x μ' => x = trT (μ (M + 4)) (μ M 7).toNat ∧ μ' = μ))) 113 ρ0 0 0 4 [(0, vr M), (1, vi acc), (2, vi i)] [] μ := by
    intro m
    induction m with
    | zero =>
      intro i acc hm hv hacc
      refine go_iload_n dX3_trackTurns_4 rfl ?_
      refine go_aload_n dX3_trackTurns_5 rfl ?_
      refine go_getI 7 dX3_trackTurns_6 fl_X3_53 (by first | assumption | exact Nat.le_of_ble_eq_true rfl) (by first | assumption | rfl) rfl rfl ?_
      refine go_icmp_ge (tgt := 56) dX3_trackTurns_9 rfl (fun h9 => ?_) (fun h9 => ?_)
      ·
        refine go_iload_n dX3_trackTurns_56 rfl ?_
        refine go_ri dX3_trackTurns_57 tyI ⟨Nat.le_refl _, Nat.le_refl _⟩ (?_)
        refine ⟨?_, rfl⟩
        rw [hacc]
        by_cases h2 : 2 ≤ μ M 7
        · rw [show i = μ M 7 by omega]
        · rw [show i.toNat = 2 by omega, trT_2, show (μ M 7).toNat = 1 by omega]; simp [trT]
      ·
        exact absurd h9 (by omega)
    | succ m ih =>
      intro i acc hm hv hacc
      refine go_iload_n dX3_trackTurns_4 rfl ?_
      refine go_aload_n dX3_trackTurns_5 rfl ?_
      refine go_getI 7 dX3_trackTurns_6 fl_X3_53 (by first | assumption | exact Nat.le_of_ble_eq_true rfl) (by first | assumption | rfl) rfl rfl ?_
      refine go_icmp_ge (tgt := 56) dX3_trackTurns_9 rfl (fun h9 => ?_) (fun h9 => ?_)
      ·
        exact absurd h9 (by omega)
      ·
        have ht := iT i (by omega) (by omega)
        have ht1 := iT (i - 1) (by omega) (by omega)
        have ht2 := iT (i - 2) (by omega) (by omega)
        have hab := trT_b (t := μ (M + 4)) i.toNat
        refine go_aload_n dX3_trackTurns_12 rfl ?_
        refine go_getR dX3_trackTurns_13 fl_X3_21 (by first | assumption | exact Nat.le_of_ble_eq_true rfl) (by first | assumption | rfl) rfl (by first | assumption | rfl) ?_
        refine go_iload_n dX3_trackTurns_16 rfl ?_
        refine go_iaload dX3_trackTurns_17 (by first | assumption | exact Nat.le_of_ble_eq_true rfl) (by first | assumption | rfl) (by omega) (by omega) ?_
        refine go_aload_n dX3_trackTurns_18 rfl ?_
        refine go_getR dX3_trackTurns_19 fl_X3_21 (by first | assumption | exact Nat.le_of_ble_eq_true rfl) (by first | assumption | rfl) rfl (by first | assumption | rfl) ?_
        refine go_iload_n dX3_trackTurns_22 rfl ?_
        refine go_iconst dX3_trackTurns_23 rfl ?_
        refine go_isub dX3_trackTurns_24 ⟨by omega, by omega⟩ ?_
        refine go_iaload dX3_trackTurns_25 (by first | assumption | exact Nat.le_of_ble_eq_true rfl) (by first | assumption | rfl) (by omega) (by omega) ?_
        refine go_isub dX3_trackTurns_26 ⟨by omega, by omega⟩ ?_
        refine go_aload_n dX3_trackTurns_27 rfl ?_
        refine go_getR dX3_trackTurns_28 fl_X3_21 (by first | assumption | exact Nat.le_of_ble_eq_true rfl) (by first | assumption | rfl) rfl (by first | assumption | rfl) ?_
        refine go_iload_n dX3_trackTurns_31 rfl ?_
        refine go_iconst dX3_trackTurns_32 rfl ?_
        refine go_isub dX3_trackTurns_33 ⟨by omega, by omega⟩ ?_
        refine go_iaload dX3_trackTurns_34 (by first | assumption | exact Nat.le_of_ble_eq_true rfl) (by first | assumption | rfl) (by omega) (by omega) ?_
        refine go_aload_n dX3_trackTurns_35 rfl ?_
        refine go_getR dX3_trackTurns_36 fl_X3_21 (by first | assumption | exact Nat.le_of_ble_eq_true rfl) (by first | assumption | rfl) rfl (by first | assumption | rfl) ?_
        refine go_iload_n dX3_trackTurns_39 rfl ?_
        refine go_iconst dX3_trackTurns_40 rfl ?_
        refine go_isub dX3_trackTurns_41 ⟨by omega, by omega⟩ ?_
        refine go_iaload dX3_trackTurns_42 (by first | assumption | exact Nat.le_of_ble_eq_true rfl) (by first | assumption | rfl) (by omega) (by omega) ?_
        refine go_isub dX3_trackTurns_43 ⟨by omega, by omega⟩ ?_
        refine go_icmp_eq (tgt := 50) dX3_trackTurns_44 rfl (fun h44 => ?_) (fun h44 => ?_)
        ·
          refine go_iinc dX3_trackTurns_50 rfl rfl ⟨by omega, by omega⟩ ?_
          refine go_goto (tgt := 4) dX3_trackTurns_53 rfl ?_
          exact go_drop (ih _ _ (by omega) (by omega) (by rw [show (i + 1).toNat = i.toNat + 1 by omega]; rw [hacc]; show _ = trT (μ (M + 4)) i.toNat + (if 2 ≤ i.toNat ∧ μ (M + 4) ((i.toNat : Nat) : Int) - μ (M + 4) (((i.toNat : Nat) : Int) - 1) ≠ μ (M + 4) (((i.toNat : Nat) : Int) - 1) - μ (M + 4) (((i.toNat : Nat) : Int) - 2) then 1 else 0); rw [show ((i.toNat : Nat) : Int) = i by omega]; rw [if_neg (by omega)]; omega)) rfl
        ·
          refine go_iinc dX3_trackTurns_47 rfl rfl ⟨by omega, by omega⟩ ?_
          refine go_iinc dX3_trackTurns_50 rfl rfl ⟨by omega, by omega⟩ ?_
          refine go_goto (tgt := 4) dX3_trackTurns_53 rfl ?_
          exact go_drop (ih _ _ (by omega) (by omega) (by rw [show (i + 1).toNat = i.toNat + 1 by omega]; rw [hacc]; show _ = trT (μ (M + 4)) i.toNat + (if 2 ≤ i.toNat ∧ μ (M + 4) ((i.toNat : Nat) : Int) - μ (M + 4) (((i.toNat : Nat) : Int) - 1) ≠ μ (M + 4) (((i.toNat : Nat) : Int) - 1) - μ (M + 4) (((i.toNat : Nat) : Int) - 2) then 1 else 0); rw [show ((i.toNat : Nat) : Int) = i by omega]; rw [if_pos (by omega)])) rfl
  refine go_iconst dX3_trackTurns_0 rfl ?_
  refine go_istore_n dX3_trackTurns_1 rfl ?_
  refine go_iconst dX3_trackTurns_2 rfl ?_
  refine go_istore_n dX3_trackTurns_3 rfl ?_
  exact go_drop (loop (max 2 (μ M 7) - 2).toNat 2 0 (by omega) (by omega) trT_2.symm) rfl

set_option maxRecDepth 100000 in
set_option maxHeartbeats 4000000 in
theorem ct_X3_trackBreath {l : Launch} {D : va_G} {cA : Nat → ClassId} {μ : Mem} {M : Nat} (hMt : isMt M) (hI : mtI μ M) (hT : 1 ≤ μ M 7) : CtN l D cA yX3_trackBreath cX3_trackBreath 3 (some .int) 5 [vr M] μ (Pi (fun x μ' => x = trS (fun i => stepV (LM μ M) (μ (M + 2) (μ (M + 4) i)) (upV (μ (M + 4) (i - 1)) (μ (M + 4) i))) (μ M 7).toNat ∧ ∀ q, q ≠ 3 → μ' q = μ q)) := by
  refine Ct.of (own := RX3) (by decide +kernel) rfl (fun σ => Nat.le_of_ble_eq_true rfl) (fun hM hP ha => ?_)
  obtain ⟨hM32, hM53, hA0, hA1, hA2, hA3, hA4, hA5, hA6, hs0, hs1, hs2, hs3, hs4, hs5, hs6, hr0, hr1, hr2, hr3, hr4, hr5, hr6⟩ := mt_f hMt
  obtain ⟨iK, iS, iL, iT, iTn, iD, iH, iF, iX, iW⟩ := id hI
  have loop : ∀ (m : Nat) (i : Int) (acc : Int) (μ1 : Mem), (μ M 7) - i = (m : Nat) → 1 ≤ i → (acc = trS (fun i => stepV (LM μ M) (μ (M + 2) (μ (M + 4) i)) (upV (μ (M + 4) (i - 1)) (μ (M + 4) i))) i.toNat) → (∀ q, q ≠ 3 → μ1 q = μ q) → Go l D cA none RX3 cX3_trackBreath 3 (some .int) (5, 0, 0) (QN (Pi (fun x μ' => x = trS (fun i => stepV (LM μ M) (μ (M + 2) (μ (M + 4) i)) (upV (μ (M + 4) (i - 1)) (μ (M + 4) i))) (μ M 7).toNat ∧ ∀ q, q ≠ 3 → μ' q = μ q))) 113 ρ0 0 0 4 [(0, vr M), (1, vi acc), (2, vi i)] [] μ1 := by
    intro m
    induction m with
    | zero =>
      intro i acc μ1 hm hv hacc hf
      refine go_iload_n dX3_trackBreath_4 rfl ?_
      refine go_aload_n dX3_trackBreath_5 rfl ?_
      refine go_getI 7 dX3_trackBreath_6 fl_X3_53 (by first | assumption | exact Nat.le_of_ble_eq_true rfl) (by first | assumption | rfl) rfl rfl ?_
      try simp (disch := omega) only [ud, ua_same, ua_ne, uf_same, uf_ne, hf]
      refine go_icmp_ge (tgt := 39) dX3_trackBreath_9 rfl (fun h9 => ?_) (fun h9 => ?_)
      ·
        refine go_iload_n dX3_trackBreath_39 rfl ?_
        exact go_ri dX3_trackBreath_40 tyI ⟨Nat.le_refl _, Nat.le_refl _⟩ (⟨by rw [hacc, show i = μ M 7 by omega], hf⟩)
      ·
        exact absurd h9 (by omega)
    | succ m ih =>
      intro i acc μ1 hm hv hacc hf
      refine go_iload_n dX3_trackBreath_4 rfl ?_
      refine go_aload_n dX3_trackBreath_5 rfl ?_
      refine go_getI 7 dX3_trackBreath_6 fl_X3_53 (by first | assumption | exact Nat.le_of_ble_eq_true rfl) (by first | assumption | rfl) rfl rfl ?_
      try simp (disch := omega) only [ud, ua_same, ua_ne, uf_same, uf_ne, hf]
      refine go_icmp_ge (tgt := 39) dX3_trackBreath_9 rfl (fun h9 => ?_) (fun h9 => ?_)
      ·
        exact absurd h9 (by omega)
      ·
        have ht := iT i (by omega) (by omega)
        have ht1 := iT (i - 1) (by omega) (by omega)
        have hsb := iS _ ht.1 ht.2
        have hvb := sv_b (LL := LM μ M) hsb.1 hsb.2 (up_b (a := μ (M + 4) (i - 1)) (b := μ (M + 4) i)).1 up_b.2
        have hab := trS_b (g := (fun i => stepV (LM μ M) (μ (M + 2) (μ (M + 4) i)) (upV (μ (M + 4) (i - 1)) (μ (M + 4) i)))) (N := 99) (by omega) i.toNat (fun j a b => sv_b (iS _ (iT j a (by omega)).1 (iT j a (by omega)).2).1 (iS _ (iT j a (by omega)).1 (iT j a (by omega)).2).2 up_b.1 up_b.2)
        refine go_iload_n dX3_trackBreath_12 rfl ?_
        refine go_aload_n dX3_trackBreath_13 rfl ?_
        refine go_aload_n dX3_trackBreath_14 rfl ?_
        refine go_getR dX3_trackBreath_15 fl_X3_21 (by first | assumption | exact Nat.le_of_ble_eq_true rfl) (by first | assumption | rfl) rfl (by first | assumption | rfl) ?_
        refine go_iload_n dX3_trackBreath_18 rfl ?_
        refine go_iconst dX3_trackBreath_19 rfl ?_
        refine go_isub dX3_trackBreath_20 ⟨by omega, by omega⟩ ?_
        refine go_iaload dX3_trackBreath_21 (by first | assumption | exact Nat.le_of_ble_eq_true rfl) (by first | assumption | rfl) (by omega) (by omega) ?_
        try simp (disch := omega) only [ud, ua_same, ua_ne, uf_same, uf_ne, hf]
        refine go_aload_n dX3_trackBreath_22 rfl ?_
        refine go_getR dX3_trackBreath_23 fl_X3_21 (by first | assumption | exact Nat.le_of_ble_eq_true rfl) (by first | assumption | rfl) rfl (by first | assumption | rfl) ?_
        refine go_iload_n dX3_trackBreath_26 rfl ?_
        refine go_iaload dX3_trackBreath_27 (by first | assumption | exact Nat.le_of_ble_eq_true rfl) (by first | assumption | rfl) (by omega) (by omega) ?_
        try simp (disch := omega) only [ud, ua_same, ua_ne, uf_same, uf_ne, hf]
        refine go_vI (ci := 2) dX3_trackBreath_28 (ct_X3_stepInto hMt (mtI_fr hM32 (fr3 hf) hI) _ _ ht1.1 ht1.2 ht.1 ht.2) ml_X3_136 mc_X3_stepInto mv_X3_stepInto rfl (by first | assumption | exact Nat.le_of_ble_eq_true rfl) (by first | assumption | rfl) rfl ⟨rfl, rfl⟩ ⟨Nat.le_refl _, Nat.le_refl _⟩ rfl rfl rfl (fun x28 μ28 hc28 => ?_)
        rw [LM_fr hM32 hI (fr3 hf), hf (M + 2) (by omega)] at hc28
        obtain ⟨rfl, hf28⟩ := hc28
        refine go_iadd dX3_trackBreath_31 ⟨by omega, by omega⟩ ?_
        refine go_istore_n dX3_trackBreath_32 rfl ?_
        refine go_iinc dX3_trackBreath_33 rfl rfl ⟨by omega, by omega⟩ ?_
        refine go_goto (tgt := 4) dX3_trackBreath_36 rfl ?_
        exact go_drop (ih _ _ μ28 (by omega) (by omega) (by rw [show (i + 1).toNat = i.toNat + 1 by omega]; rw [hacc]; show _ = trS _ i.toNat + (if 1 ≤ i.toNat then stepV (LM μ M) (μ (M + 2) (μ (M + 4) ((i.toNat : Nat) : Int))) (upV (μ (M + 4) (((i.toNat : Nat) : Int) - 1)) (μ (M + 4) ((i.toNat : Nat) : Int))) else 0); rw [if_pos (by omega), show ((i.toNat : Nat) : Int) = i by omega]) (fun q hq => (hf28 q hq).trans (hf q hq))) rfl
  refine go_iconst dX3_trackBreath_0 rfl ?_
  refine go_istore_n dX3_trackBreath_1 rfl ?_
  refine go_iconst dX3_trackBreath_2 rfl ?_
  refine go_istore_n dX3_trackBreath_3 rfl ?_
  exact go_drop (loop (μ M 7 - 1).toNat 1 0 μ (by omega) (by omega) trS_1.symm (fun _ _ => rfl)) rfl

