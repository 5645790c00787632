/-! THE CLASS: ticks -/
def snwF (f : Int → Int) (m i : Int) : Int → Int := fun c => if 0 ≤ c ∧ c < i then min (f c + m) 999 else f c
def dftD (kinds f : Int → Int) (c : Int) : Int := if kinds c = 5 ∨ f c ≤ 20 then 0 else (f c - 20) / 10
def dftI (kinds f : Int → Int) (c : Int) : Int := if c % 6 = 0 then 0 else dftD kinds f (c - 1)
/-- the loads when all cells behind i have drifted -/
def dftF (kinds f : Int → Int) (i : Int) : Int → Int := fun c => if c ≤ i ∨ 30 ≤ c then f c else if c = i + 1 then f c - dftD kinds f c else min (f c - dftD kinds f c + dftI kinds f c) 999
def dftA (kinds f : Int → Int) : Int → Int := fun c => if 0 ≤ c ∧ c < 30 then min (f c - dftD kinds f c + dftI kinds f c) 999 else f c
def slS (hold steeps : Int → Int) (s : (Int → Int) × Int) (c : Int) : (Int → Int) × Int :=
  if 30 ≤ steeps c ∧ hold c < s.1 c then (uf (if 6 ≤ c then uf s.1 (c - 6) (s.1 (c - 6) + s.1 c) else s.1) c 0, s.2 + 1) else s
def slR (hold steeps : Int → Int) : Nat → (Int → Int) × Int → Int → (Int → Int) × Int
  | 0, s, _ => s
  | n + 1, s, c => slR hold steeps n (slS hold steeps s c) (c + 1)
def slN (hold steeps : Int → Int) : Nat → (Int → Int) × Int → (Int → Int) × Int
  | 0, s => s
  | r + 1, s => slN hold steeps r (slR hold steeps 6 s (6 * (r : Nat)))
def clpF (f : Int → Int) (i : Int) : Int → Int := fun c => if 0 ≤ c ∧ c < i then min (f c) 999 else f c
theorem dftD_b {kinds f : Int → Int} {c : Int} (h0 : 0 ≤ f c) (h1 : f c ≤ 999) : 0 ≤ dftD kinds f c ∧ dftD kinds f c ≤ 97 ∧ (dftD kinds f c = 0 ∨ dftD kinds f c ≤ f c) := by
  unfold dftD
  split <;> omega
theorem snw_up {f : Int → Int} {m i : Int} (h : 0 ≤ i) : uf (snwF f m i) i (min (snwF f m i i + m) 999) = snwF f m (i + 1) := by
  funext c
  unfold uf snwF
  by_cases e : c = i
  · subst e; rw [if_pos rfl, if_neg (by omega), if_pos (by omega)]
  · rw [if_neg e]
    by_cases h2 : 0 ≤ c ∧ c < i
    · rw [if_pos h2, if_pos (by omega)]
    · rw [if_neg h2, if_neg (by omega)]
theorem clp_up {f : Int → Int} {i : Int} (h : 0 ≤ i) : uf (clpF f i) i (min (clpF f i i + 0) 999) = clpF f (i + 1) := by
  funext c
  unfold uf clpF
  by_cases e : c = i
  · subst e; rw [if_pos rfl, if_neg (by omega), if_pos (by omega), Int.add_zero]
  · rw [if_neg e]
    by_cases h2 : 0 ≤ c ∧ c < i
    · rw [if_pos h2, if_pos (by omega)]
    · rw [if_neg h2, if_neg (by omega)]
theorem dft_no {kinds f : Int → Int} {i : Int} (h0 : 0 ≤ i) (hd : dftD kinds f i = 0) (hb : ∀ c, 0 ≤ c → c < 30 → 0 ≤ f c ∧ f c ≤ 999) : dftF kinds f i = dftF kinds f (i - 1) := by
  funext c
  unfold dftF
  by_cases h1 : c ≤ i ∨ 30 ≤ c
  · rw [if_pos h1]
    by_cases h2 : c ≤ i - 1 ∨ 30 ≤ c
    · rw [if_pos h2]
    · have e : c = i := by omega
      subst e
      rw [if_neg h2, if_pos (by omega), hd]
      omega
  · rw [if_neg h1, if_neg (show ¬ (c ≤ i - 1 ∨ 30 ≤ c) by omega)]
    by_cases h3 : c = i + 1
    · subst h3
      rw [if_pos rfl, if_neg (show ¬ (i + 1 = i - 1 + 1) by omega)]
      have hi : dftI kinds f (i + 1) = 0 := by
        unfold dftI
        split
        · rfl
        · rw [show i + 1 - 1 = i by omega]; exact hd
      rw [hi]
      have b1 := hb (i + 1) (by omega) (by omega)
      have b2 := dftD_b (kinds := kinds) b1.1 b1.2
      omega
    · rw [if_neg h3, if_neg (show ¬ (c = i - 1 + 1) by omega)]
theorem dft_yes {kinds f : Int → Int} {i : Int} (h0 : 0 ≤ i) (h1 : i < 30) (hn : nb i 1 = i + 1) : uf (uf (dftF kinds f i) i (f i - dftD kinds f i)) (i + 1) (min (dftF kinds f i (i + 1) + dftD kinds f i) 999) = dftF kinds f (i - 1) := by
  have h5 : i % 6 < 5 := by
    unfold nb nNONE at hn
    rw [if_neg (by omega), if_pos rfl] at hn
    split at hn
    · assumption
    · omega
  funext c
  unfold uf
  by_cases e : c = i + 1
  · subst e
    rw [if_pos rfl]
    unfold dftF
    rw [if_neg (by omega), if_pos rfl, if_neg (by omega), if_neg (by omega)]
    unfold dftI
    rw [if_neg (by omega), show i + 1 - 1 = i by omega]
  · rw [if_neg e]
    unfold dftF
    by_cases e2 : c = i
    · subst e2
      rw [if_pos rfl, if_neg (by omega), if_pos (by omega)]
    · rw [if_neg e2]
      by_cases h2 : c ≤ i ∨ 30 ≤ c
      · rw [if_pos h2, if_pos (by omega)]
      · rw [if_neg h2, if_neg (by omega), if_neg (by omega), if_neg (by omega)]
theorem dft_last {kinds f : Int → Int} {i : Int} (h0 : 0 ≤ i) (h1 : i < 30) (hn : nb i 1 = nNONE) (hb : ∀ c, 0 ≤ c → c < 30 → 0 ≤ f c ∧ f c ≤ 999) : uf (dftF kinds f i) i (f i - dftD kinds f i) = dftF kinds f (i - 1) := by
  have h5 : i % 6 = 5 := by
    unfold nb nNONE at hn
    rw [if_neg (by omega), if_pos rfl] at hn
    split at hn
    · omega
    · omega
  funext c
  unfold uf dftF
  by_cases e2 : c = i
  · subst e2
    rw [if_pos rfl, if_neg (by omega), if_pos (by omega)]
  · rw [if_neg e2]
    by_cases h2 : c ≤ i ∨ 30 ≤ c
    · rw [if_pos h2, if_pos (by omega)]
    · rw [if_neg h2, if_neg (show ¬ (c ≤ i - 1 ∨ 30 ≤ c) by omega)]
      by_cases h3 : c = i + 1
      · subst h3
        rw [if_pos rfl, if_neg (show ¬ (i + 1 = i - 1 + 1) by omega)]
        have hi : dftI kinds f (i + 1) = 0 := by unfold dftI; rw [if_pos (by omega)]
        rw [hi]
        have b1 := hb (i + 1) (by omega) (by omega)
        have b2 := dftD_b (kinds := kinds) b1.1 b1.2
        omega
      · rw [if_neg h3, if_neg (show ¬ (c = i - 1 + 1) by omega)]
theorem dft_all {kinds f : Int → Int} (hb : ∀ c, 0 ≤ c → c < 30 → 0 ≤ f c ∧ f c ≤ 999) : dftF kinds f (-1) = dftA kinds f := by
  funext c
  unfold dftF dftA
  by_cases h : 0 ≤ c ∧ c < 30
  · rw [if_neg (by omega), if_pos h]
    by_cases h2 : c = -1 + 1
    · have e : c = 0 := by omega
      subst e
      rw [if_pos h2]
      have hi : dftI kinds f 0 = 0 := by unfold dftI; rw [if_pos (by omega)]
      rw [hi]
      have b1 := hb 0 (by omega) (by omega)
      have b2 := dftD_b (kinds := kinds) b1.1 b1.2
      omega
    · rw [if_neg h2]
  · rw [if_neg h, if_pos (by omega)]
theorem dft_0 {kinds f : Int → Int} : dftF kinds f 29 = f := by
  funext c
  unfold dftF
  rw [if_pos (by omega)]
theorem ua_ua {μ : Mem} {a : Nat} {f g : Int → Int} : ua (ua μ a f) a g = ua μ a g := by
  funext q
  unfold ua
  split <;> rfl
theorem ua_id {μ : Mem} {a : Nat} : ua μ a (μ a) = μ := by
  funext q
  unfold ua
  split
  · subst_vars; rfl
  · rfl
theorem ud_ua {μ : Mem} {a : Nat} {f : Int → Int} {k x : Int} : ud (ua μ a f) a k x = ua μ a (uf f k x) := by
  unfold ud
  rw [ua_same, ua_ua]

set_option maxRecDepth 100000 in
set_option maxHeartbeats 4000000 in
theorem ct_X3_snow {l : Launch} {D : va_G} {cA : Nat → ClassId} {μ : Mem} {M : Nat} (hMt : isMt M) (hI : mtI μ M) : CtN l D cA yX3_snow cX3_snow 3 none 2 [vr M] μ (Pv (fun μ' => μ' = ua (ud μ M 11 (dz (μ M 11))) (M + 3) (snwF (μ (M + 3)) (μ M 10 + dv (dz (μ M 11)) % 3) 30))) := by
  refine Ct.of (own := RX3) (by decide +kernel) rfl (fun σ => Nat.le_of_ble_eq_true rfl) (fun hM hP ha => ?_)
  obtain ⟨hM32, hM53, hA0, hA1, hA2, hA3, hA4, hA5, hA6, hs0, hs1, hs2, hs3, hs4, hs5, hs6, hr0, hr1, hr2, hr3, hr4, hr5, hr6⟩ := mt_f hMt
  obtain ⟨iK, iS, iL, iT, iTn, iD, iH, iF, iX, iW⟩ := id hI
  obtain ⟨mo, hmo⟩ : ∃ q, q = μ M 10 + dv (dz (μ M 11)) % 3 := ⟨_, rfl⟩
  have hmob : 0 ≤ mo ∧ mo ≤ 11 := by have := dv_b (dz (μ M 11)); omega
  have loop : ∀ (m : Nat) (i : Int) (μ1 : Mem), 30 - i = (m : Nat) → 0 ≤ i → (μ1 = ua (ud μ M 11 (dz (μ M 11))) (M + 3) (snwF (μ (M + 3)) mo i)) → Go l D cA none RX3 cX3_snow 3 none (2, 0, 0) (QN (Pv (fun μ' => μ' = ua (ud μ M 11 (dz (μ M 11))) (M + 3) (snwF (μ (M + 3)) mo 30)))) 113 ρ0 0 0 14 [(0, vr M), (1, vi mo), (2, vi i)] [] μ1 := by
    intro m
    induction m with
    | zero =>
      intro i μ1 hm hv hmu
      refine go_iload_n dX3_snow_14 rfl ?_
      refine go_bipush dX3_snow_15 rfl (by decide) ?_
      refine go_icmp_ge (tgt := 32) dX3_snow_17 rfl (fun h17 => ?_) (fun h17 => ?_)
      ·
        exact go_rv dX3_snow_32 rfl ⟨Nat.le_refl _, Nat.le_refl _⟩ (by rw [hmu, show i = 30 by omega])
      ·
        exact absurd h17 (by omega)
    | succ m ih =>
      intro i μ1 hm hv hmu
      refine go_iload_n dX3_snow_14 rfl ?_
      refine go_bipush dX3_snow_15 rfl (by decide) ?_
      refine go_icmp_ge (tgt := 32) dX3_snow_17 rfl (fun h17 => ?_) (fun h17 => ?_)
      ·
        exact absurd h17 (by omega)
      ·
        have e1 : μ1 (M + 3) = snwF (μ (M + 3)) mo i := by rw [hmu, ua_same]
        have e2 : snwF (μ (M + 3)) mo i i = μ (M + 3) i := by unfold snwF; rw [if_neg (by omega)]
        have e3 := iL i hv (by omega)
        refine go_aload_n dX3_snow_20 rfl ?_
        refine go_iload_n dX3_snow_21 rfl ?_
        refine go_iload_n dX3_snow_22 rfl ?_
        refine go_vV (ci := 2) dX3_snow_23 (ct_X3_addLoad hMt _ _ (by omega) (by omega) (by rw [e1, e2]; omega) (by omega)) ml_X3_120 mc_X3_addLoad mv_X3_addLoad rfl (by first | assumption | exact Nat.le_of_ble_eq_true rfl) (by first | assumption | rfl) rfl ⟨rfl, rfl⟩ ⟨Nat.le_refl _, Nat.le_refl _⟩ rfl rfl rfl (fun μ23 hc23 => ?_)
        subst hc23
        refine go_iinc dX3_snow_26 rfl rfl ⟨by omega, by omega⟩ ?_
        refine go_goto (tgt := 14) dX3_snow_29 rfl ?_
        refine go_drop (ih _ _ (by omega) (by omega) ?_) rfl
        rw [e1, hmu, ud_ua, snw_up hv]
  refine go_aload_n dX3_snow_0 rfl ?_
  refine go_getI 10 dX3_snow_1 fl_X3_37 (by first | assumption | exact Nat.le_of_ble_eq_true rfl) (by first | assumption | rfl) rfl rfl ?_
  refine go_aload_n dX3_snow_4 rfl ?_
  refine go_vI (ci := 2) dX3_snow_5 (ct_X3_draw hMt) ml_X3_99 mc_X3_draw mv_X3_draw rfl (by first | assumption | exact Nat.le_of_ble_eq_true rfl) (by first | assumption | rfl) rfl ⟨rfl, rfl⟩ ⟨Nat.le_refl _, Nat.le_refl _⟩ rfl rfl rfl (fun x5 μ5 hc5 => ?_)
  obtain ⟨rfl, hm5⟩ := hc5
  subst hm5
  have hb5 := dv_b (dz (μ M 11))
  refine go_iconst dX3_snow_8 rfl ?_
  refine go_irem dX3_snow_9 (by omega) (by omega) ?_
  refine go_iadd dX3_snow_10 ⟨by omega, by omega⟩ ?_
  refine go_istore_n dX3_snow_11 rfl ?_
  refine go_iconst dX3_snow_12 rfl ?_
  refine go_istore_n dX3_snow_13 rfl ?_
  rw [← hmo]
  refine go_drop (loop 30 0 _ (by omega) (by omega) ?_) rfl
  have e0 : snwF (μ (M + 3)) mo 0 = ud μ M 11 (dz (μ M 11)) (M + 3) := by
    rw [ud_n (by omega)]
    funext c
    unfold snwF
    rw [if_neg (by omega)]
  rw [e0, ua_id]

set_option maxRecDepth 100000 in
set_option maxHeartbeats 4000000 in
theorem ct_X3_drift {l : Launch} {D : va_G} {cA : Nat → ClassId} {μ : Mem} {M : Nat} (hMt : isMt M) (hI : mtI μ M) : CtN l D cA yX3_drift cX3_drift 4 none 3 [vr M] μ (Pv (fun μ' => μ' = ua μ (M + 3) (dftA (μ (M + 1)) (μ (M + 3))))) := by
  refine Ct.of (own := RX3) (by decide +kernel) rfl (fun σ => Nat.le_of_ble_eq_true rfl) (fun hM hP ha => ?_)
  obtain ⟨hM32, hM53, hA0, hA1, hA2, hA3, hA4, hA5, hA6, hs0, hs1, hs2, hs3, hs4, hs5, hs6, hr0, hr1, hr2, hr3, hr4, hr5, hr6⟩ := mt_f hMt
  obtain ⟨iK, iS, iL, iT, iTn, iD, iH, iF, iX, iW⟩ := id hI
  have loop : ∀ (m : Nat) (i : Int) (μ1 : Mem), i + 1 = (m : Nat) → i < 30 → μ1 = ua μ (M + 3) (dftF (μ (M + 1)) (μ (M + 3)) i) → Go l D cA none RX3 cX3_drift 4 none (3, 0, 0) (QN (Pv (fun μ' => μ' = ua μ (M + 3) (dftA (μ (M + 1)) (μ (M + 3)))))) 113 ρ0 0 0 3 [(0, vr M), (1, vi i)] [] μ1 := by
    intro m
    induction m with
    | zero =>
      intro i μ1 hm hv hmu
      refine go_iload_n dX3_drift_3 rfl ?_
      refine go_if_lt (tgt := 75) dX3_drift_4 rfl (fun h4 => ?_) (fun h4 => ?_)
      ·
        exact go_rv dX3_drift_75 rfl ⟨Nat.le_refl _, Nat.le_refl _⟩ (by rw [hmu, show i = -1 by omega, dft_all iL])
      ·
        exact absurd h4 (by omega)
    | succ m ih =>
      intro i μ1 hm hv hmu
      refine go_iload_n dX3_drift_3 rfl ?_
      refine go_if_lt (tgt := 75) dX3_drift_4 rfl (fun h4 => ?_) (fun h4 => ?_)
      ·
        exact absurd h4 (by omega)
      ·
        have e1 : μ1 (M + 3) = dftF (μ (M + 1)) (μ (M + 3)) i := by rw [hmu, ua_same]
        have e2 : dftF (μ (M + 1)) (μ (M + 3)) i i = μ (M + 3) i := by unfold dftF; rw [if_pos (by omega)]
        have e3 := iL i (by omega) (by omega)
        have e4 : μ1 (M + 1) = μ (M + 1) := by rw [hmu, ua_ne (by omega)]
        have e5 := dftD_b (kinds := μ (M + 1)) e3.1 e3.2
        refine go_aload_n dX3_drift_7 rfl ?_
        refine go_getR dX3_drift_8 fl_X3_9 (by first | assumption | exact Nat.le_of_ble_eq_true rfl) (by first | assumption | rfl) rfl (by first | assumption | rfl) ?_
        refine go_iload_n dX3_drift_11 rfl ?_
        refine go_iaload dX3_drift_12 (by first | assumption | exact Nat.le_of_ble_eq_true rfl) (by first | assumption | rfl) (by omega) (by omega) ?_
        rw [e4]
        refine go_iconst dX3_drift_13 rfl ?_
        refine go_icmp_eq (tgt := 69) dX3_drift_14 rfl (fun h14 => ?_) (fun h14 => ?_)
        ·
          refine go_iinc dX3_drift_69 rfl rfl ⟨by omega, by omega⟩ ?_
          refine go_goto (tgt := 3) dX3_drift_72 rfl ?_
          refine go_drop (ih _ μ1 (by omega) (by omega) ?_) rfl
          rw [hmu]
          rw [dft_no (by omega) (by unfold dftD; rw [if_pos (by omega)]) iL]
          rfl
        ·
          refine go_aload_n dX3_drift_17 rfl ?_
          refine go_getR dX3_drift_18 fl_X3_18 (by first | assumption | exact Nat.le_of_ble_eq_true rfl) (by first | assumption | rfl) rfl (by first | assumption | rfl) ?_
          refine go_iload_n dX3_drift_21 rfl ?_
          refine go_iaload dX3_drift_22 (by first | assumption | exact Nat.le_of_ble_eq_true rfl) (by first | assumption | rfl) (by omega) (by omega) ?_
          rw [e1, e2]
          refine go_bipush dX3_drift_23 rfl (by decide) ?_
          refine go_icmp_le (tgt := 69) dX3_drift_25 rfl (fun h25 => ?_) (fun h25 => ?_)
          ·
            refine go_iinc dX3_drift_69 rfl rfl ⟨by omega, by omega⟩ ?_
            refine go_goto (tgt := 3) dX3_drift_72 rfl ?_
            refine go_drop (ih _ μ1 (by omega) (by omega) ?_) rfl
            rw [hmu]
            rw [dft_no (by omega) (by unfold dftD; rw [if_pos (by omega)]) iL]
            rfl
          ·
            refine go_aload_n dX3_drift_28 rfl ?_
            refine go_getR dX3_drift_29 fl_X3_18 (by first | assumption | exact Nat.le_of_ble_eq_true rfl) (by first | assumption | rfl) rfl (by first | assumption | rfl) ?_
            refine go_iload_n dX3_drift_32 rfl ?_
            refine go_iaload dX3_drift_33 (by first | assumption | exact Nat.le_of_ble_eq_true rfl) (by first | assumption | rfl) (by omega) (by omega) ?_
            rw [e1, e2]
            refine go_bipush dX3_drift_34 rfl (by decide) ?_
            refine go_isub dX3_drift_36 ⟨by omega, by omega⟩ ?_
            refine go_bipush dX3_drift_37 rfl (by decide) ?_
            refine go_idiv dX3_drift_39 (by omega) (by omega) ?_
            have e6 : (μ (M + 3) i - 20) / 10 = dftD (μ (M + 1)) (μ (M + 3)) i := by unfold dftD; rw [if_neg (by omega)]
            rw [e6]
            refine go_istore_n dX3_drift_40 rfl ?_
            refine go_aload_n dX3_drift_41 rfl ?_
            refine go_getR dX3_drift_42 fl_X3_18 (by first | assumption | exact Nat.le_of_ble_eq_true rfl) (by first | assumption | rfl) rfl (by first | assumption | rfl) ?_
            refine go_iload_n dX3_drift_45 rfl ?_
            refine go_dup2 dX3_drift_46 rfl rfl ?_
            refine go_iaload dX3_drift_47 (by first | assumption | exact Nat.le_of_ble_eq_true rfl) (by first | assumption | rfl) (by omega) (by omega) ?_
            rw [e1, e2]
            refine go_iload_n dX3_drift_48 rfl ?_
            refine go_isub dX3_drift_49 ⟨by omega, by omega⟩ ?_
            refine go_iastore dX3_drift_50 (by first | assumption | exact Nat.le_of_ble_eq_true rfl) (by first | assumption | rfl) (by omega) (by omega) ?_
            refine go_iload_n dX3_drift_51 rfl ?_
            refine go_iconst dX3_drift_52 rfl ?_
            refine go_sI dX3_drift_53 (ct_X9_neighbour _ _ (by omega) (by omega)) ml_X3_127 mc_X9_neighbour ms_X9_neighbour ⟨rfl, rfl⟩ ⟨Nat.le_refl _, Nat.le_refl _⟩ rfl rfl rfl (fun x53 μ53 hc53 => ?_)
            obtain ⟨rfl, hm53⟩ := hc53
            rw [hm53]
            refine go_istore_n dX3_drift_56 rfl ?_
            refine go_iload_n dX3_drift_57 rfl ?_
            refine go_ldc dX3_drift_58 kc_X3_73 rfl ?_
            refine go_icmp_eq (tgt := 69) dX3_drift_60 rfl (fun h60 => ?_) (fun h60 => ?_)
            ·
              refine go_iinc dX3_drift_69 rfl rfl ⟨by omega, by omega⟩ ?_
              refine go_goto (tgt := 3) dX3_drift_72 rfl ?_
              refine go_drop (ih _ _ (by omega) (by omega) ?_) rfl
              rw [hmu, ud_ua, dft_last (by omega) (by omega) h60 iL]
              rfl
            ·
              have hnb : nb i 1 = i + 1 := by unfold nb nNONE at h60 ⊢; rw [if_neg (by omega), if_pos rfl] at h60 ⊢; split at h60 <;> omega
              rw [hnb]
              have hx66 : -99999 ≤ ud μ1 (M + 3) i (μ (M + 3) i - dftD (μ (M + 1)) (μ (M + 3)) i) (M + 3) (i + 1) ∧ ud μ1 (M + 3) i (μ (M + 3) i - dftD (μ (M + 1)) (μ (M + 3)) i) (M + 3) (i + 1) ≤ 99999 := by
                rw [ud_s, uf_ne (by omega), e1]
                unfold dftF
                have b1 := iL (i + 1) (by omega) (by unfold nb nNONE at hnb; rw [if_neg (by omega), if_pos rfl] at hnb; split at hnb <;> omega)
                have b2 := dftD_b (kinds := μ (M + 1)) b1.1 b1.2
                split
                · omega
                · rw [if_pos rfl]; omega
              refine go_aload_n dX3_drift_63 rfl ?_
              refine go_iload_n dX3_drift_64 rfl ?_
              refine go_iload_n dX3_drift_65 rfl ?_
              refine go_vV (ci := 2) dX3_drift_66 (ct_X3_addLoad hMt _ _ (by omega) (by unfold nb nNONE at hnb; rw [if_neg (by omega), if_pos rfl] at hnb; split at hnb <;> omega) hx66 (by omega)) ml_X3_120 mc_X3_addLoad mv_X3_addLoad rfl (by first | assumption | exact Nat.le_of_ble_eq_true rfl) (by first | assumption | rfl) rfl ⟨rfl, rfl⟩ ⟨Nat.le_refl _, Nat.le_refl _⟩ rfl rfl rfl (fun μ66 hc66 => ?_)
              subst hc66
              refine go_iinc dX3_drift_69 rfl rfl ⟨by omega, by omega⟩ ?_
              refine go_goto (tgt := 3) dX3_drift_72 rfl ?_
              refine go_drop (ih _ _ (by omega) (by omega) ?_) rfl
              rw [hmu]
              simp (disch := omega) only [ud, ua_same, ua_ua, uf_ne]
              rw [dft_yes (by omega) (by omega) hnb]
              rfl
  refine go_bipush dX3_drift_0 rfl (by decide) ?_
  refine go_istore_n dX3_drift_2 rfl ?_
  exact go_drop (loop 30 29 μ (by omega) (by omega) (by rw [dft_0, ua_id])) rfl

theorem slR_s {h st : Int → Int} {n : Nat} {s : (Int → Int) × Int} {c : Int} : slR h st (n + 1) s c = slR h st n (slS h st s c) (c + 1) := rfl
theorem slS_no {h st : Int → Int} {s : (Int → Int) × Int} {c : Int} (hn : ¬ (30 ≤ st c ∧ h c < s.1 c)) : slS h st s c = s := by unfold slS; rw [if_neg hn]
theorem slS_up {h st : Int → Int} {s : (Int → Int) × Int} {c : Int} (hy : 30 ≤ st c ∧ h c < s.1 c) (h6 : 6 ≤ c) : slS h st s c = (uf (uf s.1 (c - 6) (s.1 (c - 6) + s.1 c)) c 0, s.2 + 1) := by unfold slS; rw [if_pos hy, if_pos h6]
theorem slS_lo {h st : Int → Int} {s : (Int → Int) × Int} {c : Int} (hy : 30 ≤ st c ∧ h c < s.1 c) (h6 : ¬ 6 ≤ c) : slS h st s c = (uf s.1 c 0, s.2 + 1) := by unfold slS; rw [if_pos hy, if_neg h6]
def slB (g : Int → Int) (row col : Int) : Prop := ∀ q, 0 ≤ q → q < 30 → 0 ≤ g q ∧ g q ≤ 999 * (5 - q / 6) ∧ ((q / 6 + 1 < row ∨ (q / 6 + 1 = row ∧ col ≤ q % 6)) → g q ≤ 999)
theorem slB_no {g : Int → Int} {row col : Int} (h : slB g row col) : slB g row (col + 1) := fun q h0 h1 => ⟨(h q h0 h1).1, (h q h0 h1).2.1, fun e => (h q h0 h1).2.2 (by omega)⟩
theorem slB_lo {g : Int → Int} {row col c : Int} (h : slB g row col) : slB (uf g c 0) row (col + 1) := by
  intro q h0 h1
  have := h q h0 h1
  unfold uf
  split
  · omega
  · exact slB_no h q h0 h1
theorem slB_up {g : Int → Int} {row col : Int} (h : slB g row col) (hr0 : 0 < row) (hr4 : row ≤ 4) (hc0 : 0 ≤ col) (hc5 : col < 6) : slB (uf (uf g (row * 6 + col - 6) (g (row * 6 + col - 6) + g (row * 6 + col))) (row * 6 + col) 0) row (col + 1) := by
  intro q h0 h1
  have h2 := h q h0 h1
  have h3 := h (row * 6 + col) (by omega) (by omega)
  have h4 := h (row * 6 + col - 6) (by omega) (by omega)
  unfold uf
  by_cases e1 : q = row * 6 + col
  · rw [if_pos e1]; omega
  · rw [if_neg e1]
    by_cases e2 : q = row * 6 + col - 6
    · rw [if_pos e2]; omega
    · rw [if_neg e2]
      exact slB_no h q h0 h1
theorem slB_row {g : Int → Int} {row : Int} (h : slB g row 6) : slB g (row - 1) 0 := fun q h0 h1 => ⟨(h q h0 h1).1, (h q h0 h1).2.1, fun e => (h q h0 h1).2.2 (by omega)⟩

set_option maxRecDepth 100000 in
set_option maxHeartbeats 4000000 in
theorem ct_X3_slide {l : Launch} {D : va_G} {cA : Nat → ClassId} {μ : Mem} {M : Nat} (hMt : isMt M) (hI : mtI μ M) (hph : ∀ c, 0 ≤ c → c < 30 → 0 ≤ μ (M + 6) c ∧ μ (M + 6) c ≤ 99) : CtN l D cA yX3_slide cX3_slide 6 (some .int) 4 [vr M] μ (Pi (fun x μ' => x = (slN (fun c => kHold (μ (M + 1) c) (μ (M + 6) c) (sunV (μ M 9))) (μ (M + 2)) 5 (μ (M + 3), 0)).2 ∧ μ' = ua μ (M + 3) (clpF (slN (fun c => kHold (μ (M + 1) c) (μ (M + 6) c) (sunV (μ M 9))) (μ (M + 2)) 5 (μ (M + 3), 0)).1 30))) := by
  refine Ct.of (own := RX3) (by decide +kernel) rfl (fun σ => Nat.le_of_ble_eq_true rfl) (fun hM hP ha => ?_)
  obtain ⟨hM32, hM53, hA0, hA1, hA2, hA3, hA4, hA5, hA6, hs0, hs1, hs2, hs3, hs4, hs5, hs6, hr0, hr1, hr2, hr3, hr4, hr5, hr6⟩ := mt_f hMt
  obtain ⟨iK, iS, iL, iT, iTn, iD, iH, iF, iX, iW⟩ := id hI
  obtain ⟨S0, hS0⟩ : ∃ q, q = (slN (fun c => kHold (μ (M + 1) c) (μ (M + 6) c) (sunV (μ M 9))) (μ (M + 2)) 5 (μ (M + 3), 0)) := ⟨_, rfl⟩
  rw [← hS0]
  have lastl : ∀ (m : Nat) (i : Int) (μ1 : Mem) (n : Int), 30 - i = (m : Nat) → 0 ≤ i → (n = S0.2) → (μ1 = ua μ (M + 3) (clpF S0.1 i)) → (∀ q, 0 ≤ q → q < 30 → 0 ≤ S0.1 q ∧ S0.1 q ≤ 4995) → Go l D cA none RX3 cX3_slide 6 (some .int) (4, 0, 0) (QN (Pi (fun x μ' => x = S0.2 ∧ μ' = ua μ (M + 3) (clpF S0.1 30)))) 113 ρ0 0 0 121 [(0, vr M), (1, vi n), (2, vi (sunV (μ M 9))), (3, vi i)] [] μ1 := by
    intro m
    induction m with
    | zero =>
      intro i μ1 n hm hv hn hmu hsb
      refine go_iload_n dX3_slide_121 rfl ?_
      refine go_bipush dX3_slide_122 rfl (by decide) ?_
      refine go_icmp_ge (tgt := 139) dX3_slide_124 rfl (fun h124 => ?_) (fun h124 => ?_)
      ·
        refine go_iload_n dX3_slide_139 rfl ?_
        exact go_ri dX3_slide_140 tyI ⟨Nat.le_refl _, Nat.le_refl _⟩ (⟨hn, by rw [hmu, show i = 30 by omega]⟩)
      ·
        exact absurd h124 (by omega)
    | succ m ih =>
      intro i μ1 n hm hv hn hmu hsb
      refine go_iload_n dX3_slide_121 rfl ?_
      refine go_bipush dX3_slide_122 rfl (by decide) ?_
      refine go_icmp_ge (tgt := 139) dX3_slide_124 rfl (fun h124 => ?_) (fun h124 => ?_)
      ·
        exact absurd h124 (by omega)
      ·
        have e1 : μ1 (M + 3) = clpF S0.1 i := by rw [hmu, ua_same]
        have e2 : clpF S0.1 i i = S0.1 i := by unfold clpF; rw [if_neg (by omega)]
        have e3 := hsb i hv (by omega)
        refine go_aload_n dX3_slide_127 rfl ?_
        refine go_iload_n dX3_slide_128 rfl ?_
        refine go_iconst dX3_slide_129 rfl ?_
        refine go_vV (ci := 2) dX3_slide_130 (ct_X3_addLoad hMt _ _ (by omega) (by omega) (by rw [e1, e2]; omega) (by omega)) ml_X3_120 mc_X3_addLoad mv_X3_addLoad rfl (by first | assumption | exact Nat.le_of_ble_eq_true rfl) (by first | assumption | rfl) rfl ⟨rfl, rfl⟩ ⟨Nat.le_refl _, Nat.le_refl _⟩ rfl rfl rfl (fun μ130 hc130 => ?_)
        subst hc130
        refine go_iinc dX3_slide_133 rfl rfl ⟨by omega, by omega⟩ ?_
        refine go_goto (tgt := 121) dX3_slide_136 rfl ?_
        refine go_drop (ih _ _ _ (by omega) (by omega) hn ?_ hsb) rfl
        rw [e1, hmu, ud_ua, clp_up hv]
  have loop : ∀ (m : Nat) (row n : Int) (g : Int → Int) (μ1 : Mem), row + 1 = (m : Nat) → row ≤ 4 → 0 ≤ n → n ≤ 6 * (4 - row) → μ1 = ua μ (M + 3) g → slB g row 0 → slN (fun c => kHold (μ (M + 1) c) (μ (M + 6) c) (sunV (μ M 9))) (μ (M + 2)) (row + 1).toNat (g, n) = S0 → Go l D cA none RX3 cX3_slide 6 (some .int) (4, 0, 0) (QN (Pi (fun x μ' => x = S0.2 ∧ μ' = ua μ (M + 3) (clpF S0.1 30)))) 113 ρ0 0 0 9 [(0, vr M), (1, vi n), (2, vi (sunV (μ M 9))), (3, vi row)] [] μ1 := by
    intro m
    induction m with
    | zero =>
      intro row n g μ1 hm hv hn hn2 hmu hsb hres
      refine go_iload_n dX3_slide_9 rfl ?_
      refine go_if_lt (tgt := 119) dX3_slide_10 rfl (fun h10 => ?_) (fun h10 => ?_)
      ·
        refine go_iconst dX3_slide_119 rfl ?_
        refine go_istore_n dX3_slide_120 rfl ?_
        refine go_drop (lastl 30 0 μ1 n (by omega) (by omega) ?_ ?_ ?_) rfl
        · rw [← hres, show (row + 1).toNat = 0 by omega]; rfl
        · rw [hmu, ← hres, show (row + 1).toNat = 0 by omega]
          congr 1
          funext c
          unfold clpF
          rw [if_neg (by omega)]
          rfl
        · rw [← hres, show (row + 1).toNat = 0 by omega]
          intro q h0 h1
          have := hsb q h0 h1
          exact ⟨this.1, by show g q ≤ 4995; omega⟩
      ·
        exact absurd h10 (by omega)
    | succ m ih =>
      intro row n g μ1 hm hv hn hn2 hmu hsb hres
      have inn : ∀ (m2 : Nat) (col n : Int) (g : Int → Int) (μ1 : Mem), 6 - col = (m2 : Nat) → 0 ≤ col → 0 ≤ n → n ≤ 6 * (4 - row) + col → μ1 = ua μ (M + 3) g → slB g row col → slN (fun c => kHold (μ (M + 1) c) (μ (M + 6) c) (sunV (μ M 9))) (μ (M + 2)) row.toNat (slR (fun c => kHold (μ (M + 1) c) (μ (M + 6) c) (sunV (μ M 9))) (μ (M + 2)) (6 - col.toNat) (g, n) (row * 6 + col)) = S0 → Go l D cA none RX3 cX3_slide 6 (some .int) (4, 0, 0) (QN (Pi (fun x μ' => x = S0.2 ∧ μ' = ua μ (M + 3) (clpF S0.1 30)))) 113 ρ0 0 0 16 [(0, vr M), (1, vi n), (2, vi (sunV (μ M 9))), (3, vi row), (4, vi col)] [] μ1 := by
        intro m2
        induction m2 with
        | zero =>
          intro col n g μ1 hm2 hv2 hn hn2 hmu hsb hres
          refine go_iload dX3_slide_16 rfl ?_
          refine go_bipush dX3_slide_18 rfl (by decide) ?_
          refine go_icmp_ge (tgt := 113) dX3_slide_20 rfl (fun h20 => ?_) (fun h20 => ?_)
          ·
            refine go_iinc dX3_slide_113 rfl rfl ⟨by omega, by omega⟩ ?_
            refine go_goto (tgt := 9) dX3_slide_116 rfl ?_
            refine go_drop (ih _ n g μ1 (by omega) (by omega) hn (by omega) hmu ?_ ?_) rfl
            · have := slB_row (show slB g row 6 by rw [show (6 : Int) = col by omega]; exact hsb)
              exact this
            · rw [← hres, show 6 - col.toNat = 0 by omega, show (row + -1 + 1).toNat = row.toNat by omega]
              rfl
          ·
            exact absurd h20 (by omega)
        | succ m2 ih2 =>
          intro col n g μ1 hm2 hv2 hn hn2 hmu hsb hres
          refine go_iload dX3_slide_16 rfl ?_
          refine go_bipush dX3_slide_18 rfl (by decide) ?_
          refine go_icmp_ge (tgt := 113) dX3_slide_20 rfl (fun h20 => ?_) (fun h20 => ?_)
          ·
            exact absurd h20 (by omega)
          ·
            refine go_iload_n dX3_slide_23 rfl ?_
            refine go_bipush dX3_slide_24 rfl (by decide) ?_
            refine go_imul dX3_slide_26 ⟨by omega, by omega⟩ ?_
            refine go_iload dX3_slide_27 rfl ?_
            refine go_iadd dX3_slide_29 ⟨by omega, by omega⟩ ?_
            refine go_istore dX3_slide_30 rfl ?_
            have hc0 : 0 ≤ row * 6 + col ∧ row * 6 + col < 30 := by omega
            have e1 : μ1 (M + 3) = g := by rw [hmu, ua_same]
            have e2 : μ1 (M + 2) = μ (M + 2) := by rw [hmu, ua_ne (by omega)]
            have e3 : μ1 (M + 1) = μ (M + 1) := by rw [hmu, ua_ne (by omega)]
            have e4 : μ1 (M + 6) = μ (M + 6) := by rw [hmu, ua_ne (by omega)]
            have e5 := hsb _ hc0.1 hc0.2
            have e6 := hph _ hc0.1 hc0.2
            refine go_aload_n dX3_slide_32 rfl ?_
            refine go_getR dX3_slide_33 fl_X3_15 (by first | assumption | exact Nat.le_of_ble_eq_true rfl) (by first | assumption | rfl) rfl (by first | assumption | rfl) ?_
            refine go_iload dX3_slide_36 rfl ?_
            refine go_iaload dX3_slide_38 (by first | assumption | exact Nat.le_of_ble_eq_true rfl) (by first | assumption | rfl) (by omega) (by omega) ?_
            rw [e2]
            refine go_bipush dX3_slide_39 rfl (by decide) ?_
            refine go_icmp_lt (tgt := 107) dX3_slide_41 rfl (fun h41 => ?_) (fun h41 => ?_)
            ·
              refine go_iinc dX3_slide_107 rfl rfl ⟨by omega, by omega⟩ ?_
              refine go_goto (tgt := 16) dX3_slide_110 rfl ?_
              exact go_drop (ih2 _ n g μ1 (by omega) (by omega) hn (by omega) hmu (slB_no hsb) (by rw [← hres, show 6 - col.toNat = (6 - (col + 1).toNat) + 1 by omega, slR_s, slS_no (by intro e; omega), show row * 6 + (col + 1) = row * 6 + col + 1 by omega])) rfl
            ·
              refine go_aload_n dX3_slide_44 rfl ?_
              refine go_getR dX3_slide_45 fl_X3_18 (by first | assumption | exact Nat.le_of_ble_eq_true rfl) (by first | assumption | rfl) rfl (by first | assumption | rfl) ?_
              refine go_iload dX3_slide_48 rfl ?_
              refine go_iaload dX3_slide_50 (by first | assumption | exact Nat.le_of_ble_eq_true rfl) (by first | assumption | rfl) (by omega) (by omega) ?_
              rw [e1]
              refine go_aload_n dX3_slide_51 rfl ?_
              refine go_getR dX3_slide_52 fl_X3_9 (by first | assumption | exact Nat.le_of_ble_eq_true rfl) (by first | assumption | rfl) rfl (by first | assumption | rfl) ?_
              refine go_iload dX3_slide_55 rfl ?_
              refine go_iaload dX3_slide_57 (by first | assumption | exact Nat.le_of_ble_eq_true rfl) (by first | assumption | rfl) (by omega) (by omega) ?_
              rw [e3]
              refine go_aload_n dX3_slide_58 rfl ?_
              refine go_getR dX3_slide_59 fl_X3_27 (by first | assumption | exact Nat.le_of_ble_eq_true rfl) (by first | assumption | rfl) rfl (by first | assumption | rfl) ?_
              refine go_iload dX3_slide_62 rfl ?_
              refine go_iaload dX3_slide_64 (by first | assumption | exact Nat.le_of_ble_eq_true rfl) (by first | assumption | rfl) (by omega) (by omega) ?_
              rw [e4]
              refine go_iload_n dX3_slide_65 rfl ?_
              refine go_sI dX3_slide_66 (ct_X0_hold _ _ _ (by omega) (by omega) (by unfold sunV; omega) (by unfold sunV; omega)) ml_X3_130 mc_X0_hold ms_X0_hold ⟨rfl, rfl⟩ ⟨Nat.le_refl _, Nat.le_refl _⟩ rfl rfl rfl (fun x66 μ66 hc66 => ?_)
              obtain ⟨rfl, hm66⟩ := hc66
              rw [hm66]
              refine go_icmp_le (tgt := 107) dX3_slide_69 rfl (fun h69 => ?_) (fun h69 => ?_)
              ·
                refine go_iinc dX3_slide_107 rfl rfl ⟨by omega, by omega⟩ ?_
                refine go_goto (tgt := 16) dX3_slide_110 rfl ?_
                exact go_drop (ih2 _ n g μ1 (by omega) (by omega) hn (by omega) hmu (slB_no hsb) (by rw [← hres, show 6 - col.toNat = (6 - (col + 1).toNat) + 1 by omega, slR_s, slS_no (by intro e; exact absurd e.2 (by show ¬ (kHold _ _ _ < g _); omega)), show row * 6 + (col + 1) = row * 6 + col + 1 by omega])) rfl
              ·
                refine go_iinc dX3_slide_72 rfl rfl ⟨by omega, by omega⟩ ?_
                refine go_iload_n dX3_slide_75 rfl ?_
                refine go_if_le (tgt := 99) dX3_slide_76 rfl (fun h76 => ?_) (fun h76 => ?_)
                ·
                  refine go_aload_n dX3_slide_99 rfl ?_
                  refine go_getR dX3_slide_100 fl_X3_18 (by first | assumption | exact Nat.le_of_ble_eq_true rfl) (by first | assumption | rfl) rfl (by first | assumption | rfl) ?_
                  refine go_iload dX3_slide_103 rfl ?_
                  refine go_iconst dX3_slide_105 rfl ?_
                  refine go_iastore dX3_slide_106 (by first | assumption | exact Nat.le_of_ble_eq_true rfl) (by first | assumption | rfl) (by omega) (by omega) ?_
                  refine go_iinc dX3_slide_107 rfl rfl ⟨by omega, by omega⟩ ?_
                  refine go_goto (tgt := 16) dX3_slide_110 rfl ?_
                  refine go_drop (ih2 _ _ (uf g (row * 6 + col) 0) _ (by omega) (by omega) (by omega) (by omega) ?_ (slB_lo hsb) (by rw [← hres, show 6 - col.toNat = (6 - (col + 1).toNat) + 1 by omega, slR_s, slS_lo (by exact ⟨by omega, by show kHold _ _ _ < g _; omega⟩) (by omega), show row * 6 + (col + 1) = row * 6 + col + 1 by omega])) rfl
                  rw [hmu, ud_ua]
                ·
                  refine go_aload_n dX3_slide_79 rfl ?_
                  refine go_getR dX3_slide_80 fl_X3_18 (by first | assumption | exact Nat.le_of_ble_eq_true rfl) (by first | assumption | rfl) rfl (by first | assumption | rfl) ?_
                  refine go_iload dX3_slide_83 rfl ?_
                  refine go_bipush dX3_slide_85 rfl (by decide) ?_
                  refine go_isub dX3_slide_87 ⟨by omega, by omega⟩ ?_
                  refine go_dup2 dX3_slide_88 rfl rfl ?_
                  refine go_iaload dX3_slide_89 (by first | assumption | exact Nat.le_of_ble_eq_true rfl) (by first | assumption | rfl) (by omega) (by omega) ?_
                  try simp (disch := omega) only [ud, ua_same, ua_ne, uf_same, uf_ne]
                  have e7 := hsb (row * 6 + col - 6) (by omega) (by omega)
                  rw [e1]
                  refine go_aload_n dX3_slide_90 rfl ?_
                  refine go_getR dX3_slide_91 fl_X3_18 (by first | assumption | exact Nat.le_of_ble_eq_true rfl) (by first | assumption | rfl) rfl (by first | assumption | rfl) ?_
                  refine go_iload dX3_slide_94 rfl ?_
                  refine go_iaload dX3_slide_96 (by first | assumption | exact Nat.le_of_ble_eq_true rfl) (by first | assumption | rfl) (by omega) (by omega) ?_
                  try simp (disch := omega) only [ud, ua_same, ua_ne, uf_same, uf_ne]
                  rw [e1]
                  refine go_iadd dX3_slide_97 ⟨by omega, by omega⟩ ?_
                  refine go_iastore dX3_slide_98 (by first | assumption | exact Nat.le_of_ble_eq_true rfl) (by first | assumption | rfl) (by omega) (by omega) ?_
                  refine go_aload_n dX3_slide_99 rfl ?_
                  refine go_getR dX3_slide_100 fl_X3_18 (by first | assumption | exact Nat.le_of_ble_eq_true rfl) (by first | assumption | rfl) rfl (by first | assumption | rfl) ?_
                  refine go_iload dX3_slide_103 rfl ?_
                  refine go_iconst dX3_slide_105 rfl ?_
                  refine go_iastore dX3_slide_106 (by first | assumption | exact Nat.le_of_ble_eq_true rfl) (by first | assumption | rfl) (by omega) (by omega) ?_
                  refine go_iinc dX3_slide_107 rfl rfl ⟨by omega, by omega⟩ ?_
                  refine go_goto (tgt := 16) dX3_slide_110 rfl ?_
                  refine go_drop (ih2 _ _ (uf (uf g (row * 6 + col - 6) (g (row * 6 + col - 6) + g (row * 6 + col))) (row * 6 + col) 0) _ (by omega) (by omega) (by omega) (by omega) ?_ (slB_up hsb (by omega) (by omega) (by omega) (by omega)) (by rw [← hres, show 6 - col.toNat = (6 - (col + 1).toNat) + 1 by omega, slR_s, slS_up (by exact ⟨by omega, by show kHold _ _ _ < g _; omega⟩) (by omega), show row * 6 + (col + 1) = row * 6 + col + 1 by omega])) rfl
                  rw [hmu]
                  simp only [ud, ua_same, ua_ua]
      refine go_iload_n dX3_slide_9 rfl ?_
      refine go_if_lt (tgt := 119) dX3_slide_10 rfl (fun h10 => ?_) (fun h10 => ?_)
      ·
        exact absurd h10 (by omega)
      ·
        refine go_iconst dX3_slide_13 rfl ?_
        refine go_istore dX3_slide_14 rfl ?_
        refine go_drop (inn 6 0 n g μ1 (by omega) (by omega) hn (by omega) hmu hsb ?_) rfl
        rw [← hres, show (row + 1).toNat = row.toNat + 1 by omega]
        show _ = slN _ _ row.toNat (slR _ _ 6 (g, n) (6 * ((row.toNat : Nat) : Int)))
        rw [show 6 * ((row.toNat : Nat) : Int) = row * 6 + 0 by omega]
        rfl
  refine go_iconst dX3_slide_0 rfl ?_
  refine go_istore_n dX3_slide_1 rfl ?_
  refine go_aload_n dX3_slide_2 rfl ?_
  refine go_vI (ci := 2) dX3_slide_3 (ct_X3_sun hMt hI) ml_X3_89 mc_X3_sun mv_X3_sun rfl (by first | assumption | exact Nat.le_of_ble_eq_true rfl) (by first | assumption | rfl) rfl ⟨rfl, rfl⟩ ⟨Nat.le_refl _, Nat.le_refl _⟩ rfl rfl rfl (fun x3 μ3 hc3 => ?_)
  obtain ⟨rfl, hm3⟩ := hc3
  rw [hm3]
  refine go_istore_n dX3_slide_6 rfl ?_
  refine go_iconst dX3_slide_7 rfl ?_
  refine go_istore_n dX3_slide_8 rfl ?_
  refine go_drop (loop 5 4 0 (μ (M + 3)) μ (by omega) (by omega) (by omega) (by omega) ua_id.symm ?_ hS0.symm) rfl
  intro q h0 h1
  have := iL q h0 h1
  omega

