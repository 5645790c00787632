/-! THE CLASS: ways -/
theorem bdS_i {co rk : Int → Int} {c i : Int} (h : 1 ≤ i) : bdS co rk c (i + 1 - 1).toNat = if cB co rk c i < (bdS co rk c (i - 1).toNat).2 then (i, cB co rk c i) else bdS co rk c (i - 1).toNat := by
  rw [show (i + 1 - 1).toNat = (i - 1).toNat + 1 by omega]
  show (if cB co rk c (((i - 1).toNat : Nat) + 1) < _ then ((((i - 1).toNat : Nat) : Int) + 1, cB co rk c (((i - 1).toNat : Nat) + 1)) else _) = _
  rw [show (((i - 1).toNat : Nat) : Int) + 1 = i by omega]
def wyB (μ : Mem) (M : Nat) : Prop := ∀ q : Int, 0 ≤ q → q < 30 → (0 ≤ μ 54 q ∧ μ 54 q ≤ 536870912) ∧ 0 ≤ μ (M + 5) q ∧ μ (M + 5) q ≤ 2996
theorem cB_cg {f g rk rk' : Int → Int} {c d : Int} (h0 : 0 ≤ c) (h1 : c < 30) (h : ∀ q, 0 ≤ q → q < 30 → f q = g q) (hr : ∀ q, 0 ≤ q → q < 30 → rk q = rk' q) : cB f rk c d = cB g rk' c d := by
  unfold cB
  rcases nb_r (d := d) h0 h1 with e | e
  · rw [if_pos e, if_pos e]
  · rw [if_neg (by omega), if_neg (by omega), h _ e.1 e.2, hr _ e.1 e.2]
theorem bdS_cg {f g rk rk' : Int → Int} {c : Int} (h0 : 0 ≤ c) (h1 : c < 30) (h : ∀ q, 0 ≤ q → q < 30 → f q = g q) (hr : ∀ q, 0 ≤ q → q < 30 → rk q = rk' q) : ∀ n : Nat, bdS f rk c n = bdS g rk' c n
  | 0 => by unfold bdS; rw [cB_cg h0 h1 h hr]
  | n + 1 => by unfold bdS; rw [bdS_cg h0 h1 h hr n, cB_cg h0 h1 h hr]
theorem mB_cg {f rk rk' : Int → Int} {c : Int} (h0 : 0 ≤ c) (h1 : c < 30) (hr : ∀ q, 0 ≤ q → q < 30 → rk q = rk' q) : mB f rk c = mB f rk' c := by
  unfold mB; rw [bdS_cg h0 h1 (fun _ _ _ => rfl) hr]
theorem wD_s {rk : Int → Int} {to r c : Int} (h : 0 ≤ r) : wD rk to (r + 1).toNat c = min (wD rk to r.toNat c) (mB (wD rk to r.toNat) rk c) := by
  rw [show (r + 1).toNat = r.toNat + 1 by omega]; rfl
theorem wD_0 {rk : Int → Int} {to : Int} : ∀ (k : Nat) (c : Int), wD rk to k c ≤ wD rk to 0 c
  | 0, c => Int.le_refl _
  | k + 1, c => Int.le_trans (wD_m k c) (wD_0 k c)
theorem sub_le {C rk : Int → Int} {to : Int} (h0 : ∀ c, 0 ≤ c → c < 30 → C c ≤ wD rk to 0 c) (h : ∀ c, 0 ≤ c → c < 30 → C c ≤ mB C rk c) : ∀ (k : Nat) (c : Int), 0 ≤ c → c < 30 → C c ≤ wD rk to k c
  | 0, c, c0, c1 => h0 c c0 c1
  | k + 1, c, c0, c1 => by
    have h2 := sub_le h0 h k c c0 c1
    have h3 := h c c0 c1
    have h4 := mB_mono (rk := rk) c0 c1 (sub_le h0 h k)
    show _ ≤ min (wD rk to k c) (mB (wD rk to k) rk c)
    omega

set_option maxRecDepth 100000 in
set_option maxHeartbeats 4000000 in
theorem ct_X8_startAt {l : Launch} {D : va_G} {cA : Nat → ClassId} {μ : Mem} (a v : Int) (ha0 : 0 ≤ a) (ha1 : a < 30) : CtN l D cA yX8_startAt cX8_startAt 4 none 0 [vr 53, vi a, vi v] μ (Pv (fun μ' => (∀ c, 0 ≤ c → c < 30 → μ' 54 c = if c = a then v else 536870912) ∧ ∀ q, q ≠ 54 → μ' q = μ q)) := by
  refine Ct.of (own := RX8) (by decide +kernel) rfl (fun σ => Nat.le_of_ble_eq_true rfl) (fun hM hP ha => ?_)
  have loop : ∀ (m : Nat) (i : Int) (μ1 : Mem), 30 - i = (m : Nat) → 0 ≤ i → (∀ c : Int, 0 ≤ c → c < i → μ1 54 c = 536870912) → (∀ q, q ≠ 54 → μ1 q = μ q) → Go l D cA none RX8 cX8_startAt 4 none (0, 0, 0) (QN (Pv (fun μ' => (∀ c, 0 ≤ c → c < 30 → μ' 54 c = if c = a then v else 536870912) ∧ ∀ q, q ≠ 54 → μ' q = μ q))) 113 ρ0 0 0 2 [(0, vr 53), (1, vi a), (2, vi v), (3, vi i)] [] μ1 := by
    intro m
    induction m with
    | zero =>
      intro i μ1 hm hv hdn hf
      refine go_iload_n dX8_startAt_2 rfl ?_
      refine go_bipush dX8_startAt_3 rfl (by decide) ?_
      refine go_icmp_ge (tgt := 22) dX8_startAt_5 rfl (fun h5 => ?_) (fun h5 => ?_)
      ·
        refine go_aload_n dX8_startAt_22 rfl ?_
        refine go_getR dX8_startAt_23 fl_X8_9 (by first | assumption | exact Nat.le_of_ble_eq_true rfl) (by first | assumption | rfl) rfl (by first | assumption | rfl) ?_
        refine go_iload_n dX8_startAt_26 rfl ?_
        refine go_iload_n dX8_startAt_27 rfl ?_
        refine go_iastore dX8_startAt_28 (by first | assumption | exact Nat.le_of_ble_eq_true rfl) (by first | assumption | rfl) (by omega) (by omega) ?_
        refine go_rv dX8_startAt_29 rfl ⟨Nat.le_refl _, Nat.le_refl _⟩ (?_)
        refine ⟨fun c c0 c1 => ?_, fun q hq => by rw [ud_n hq]; exact hf q hq⟩
        rw [ud_s]
        by_cases e : c = a
        · rw [e, uf_same, if_pos rfl]
        · rw [uf_ne e, if_neg e]; exact hdn c c0 (by omega)
      ·
        exact absurd h5 (by omega)
    | succ m ih =>
      intro i μ1 hm hv hdn hf
      refine go_iload_n dX8_startAt_2 rfl ?_
      refine go_bipush dX8_startAt_3 rfl (by decide) ?_
      refine go_icmp_ge (tgt := 22) dX8_startAt_5 rfl (fun h5 => ?_) (fun h5 => ?_)
      ·
        exact absurd h5 (by omega)
      ·
        refine go_aload_n dX8_startAt_8 rfl ?_
        refine go_getR dX8_startAt_9 fl_X8_9 (by first | assumption | exact Nat.le_of_ble_eq_true rfl) (by first | assumption | rfl) rfl (by first | assumption | rfl) ?_
        refine go_iload_n dX8_startAt_12 rfl ?_
        refine go_ldc dX8_startAt_13 kc_X8_18 rfl ?_
        refine go_iastore dX8_startAt_15 (by first | assumption | exact Nat.le_of_ble_eq_true rfl) (by first | assumption | rfl) (by omega) (by omega) ?_
        refine go_iinc dX8_startAt_16 rfl rfl ⟨by omega, by omega⟩ ?_
        refine go_goto (tgt := 2) dX8_startAt_19 rfl ?_
        refine go_drop (ih _ _ (by omega) (by omega) ?_ (fun q hq => by rw [ud_n hq]; exact hf q hq)) rfl
        intro c c0 c1
        rw [ud_s]
        by_cases e : c = i
        · rw [e, uf_same]
        · rw [uf_ne e]; exact hdn c c0 (by omega)
  refine go_iconst dX8_startAt_0 rfl ?_
  refine go_istore_n dX8_startAt_1 rfl ?_
  exact go_drop (loop 30 0 μ (by omega) (by omega) (fun c c0 c1 => absurd c1 (by omega)) (fun _ _ => rfl)) rfl

set_option maxRecDepth 100000 in
set_option maxHeartbeats 4000000 in
theorem ct_X8_costBy {l : Launch} {D : va_G} {cA : Nat → ClassId} {μ : Mem} {M : Nat} (hMt : isMt M) (hB : wyB μ M) (c d : Int) (hc0 : 0 ≤ c) (hc1 : c < 30) : CtN l D cA yX8_costBy cX8_costBy 5 (some .int) 2 [vr 53, vr M, vi c, vi d] μ (Pi (fun x μ' => x = cB (μ 54) (μ (M + 5)) c d ∧ μ' = μ)) := by
  refine Ct.of (own := RX8) (by decide +kernel) rfl (fun σ => Nat.le_of_ble_eq_true rfl) (fun hM hP ha => ?_)
  obtain ⟨hM32, hM53, hA0, hA1, hA2, hA3, hA4, hA5, hA6, hs0, hs1, hs2, hs3, hs4, hs5, hs6, hr0, hr1, hr2, hr3, hr4, hr5, hr6⟩ := mt_f hMt
  refine go_iload_n dX8_costBy_0 rfl ?_
  refine go_iload_n dX8_costBy_1 rfl ?_
  refine go_sI dX8_costBy_2 (ct_X9_neighbour _ _ hc0 hc1) ml_X8_36 mc_X9_neighbour ms_X9_neighbour ⟨rfl, rfl⟩ ⟨Nat.le_refl _, Nat.le_refl _⟩ rfl rfl rfl (fun x2 μ2 hc2 => ?_)
  obtain ⟨rfl, hm2⟩ := hc2
  rw [hm2]
  refine go_istore dX8_costBy_5 rfl ?_
  refine go_iload dX8_costBy_7 rfl ?_
  refine go_ldc dX8_costBy_9 kc_X8_40 rfl ?_
  refine go_icmp_ne (tgt := 19) dX8_costBy_11 rfl (fun h11 => ?_) (fun h11 => ?_)
  ·
    have hn := nb_r (d := d) hc0 hc1
    have hb := hB (nb c d) (by omega) (by omega)
    refine go_aload_n dX8_costBy_19 rfl ?_
    refine go_getR dX8_costBy_20 fl_X8_9 (by first | assumption | exact Nat.le_of_ble_eq_true rfl) (by first | assumption | rfl) rfl (by first | assumption | rfl) ?_
    refine go_iload dX8_costBy_23 rfl ?_
    refine go_iaload dX8_costBy_25 (by first | assumption | exact Nat.le_of_ble_eq_true rfl) (by first | assumption | rfl) (by omega) (by omega) ?_
    try simp (disch := omega) only [ud, ua_same, ua_ne, uf_same, uf_ne]
    refine go_aload_n dX8_costBy_26 rfl ?_
    refine go_getR dX8_costBy_27 fl_X8_41 (by first | assumption | exact Nat.le_of_ble_eq_true rfl) (by first | assumption | rfl) rfl (by first | assumption | rfl) ?_
    refine go_iload dX8_costBy_30 rfl ?_
    refine go_iaload dX8_costBy_32 (by first | assumption | exact Nat.le_of_ble_eq_true rfl) (by first | assumption | rfl) (by omega) (by omega) ?_
    try simp (disch := omega) only [ud, ua_same, ua_ne, uf_same, uf_ne]
    refine go_bipush dX8_costBy_33 rfl (by decide) ?_
    refine go_imul dX8_costBy_35 ⟨by omega, by omega⟩ ?_
    refine go_iadd dX8_costBy_36 ⟨by omega, by omega⟩ ?_
    refine go_iconst dX8_costBy_37 rfl ?_
    refine go_iadd dX8_costBy_38 ⟨by omega, by omega⟩ ?_
    exact go_ri dX8_costBy_39 tyI ⟨Nat.le_refl _, Nat.le_refl _⟩ (⟨by unfold cB; rw [if_neg (by omega)], rfl⟩)
  ·
    refine go_ldc dX8_costBy_14 kc_X8_18 rfl ?_
    refine go_goto (tgt := 39) dX8_costBy_16 rfl ?_
    exact go_ri dX8_costBy_39 tyI ⟨Nat.le_refl _, Nat.le_refl _⟩ (⟨by unfold cB; rw [if_pos (by omega)], rfl⟩)

set_option maxRecDepth 100000 in
set_option maxHeartbeats 4000000 in
theorem ct_X8_bestDirection {l : Launch} {D : va_G} {cA : Nat → ClassId} {μ : Mem} {M : Nat} (hMt : isMt M) (hB : wyB μ M) (c : Int) (hc0 : 0 ≤ c) (hc1 : c < 30) : CtN l D cA yX8_bestDirection cX8_bestDirection 7 (some .int) 3 [vr 53, vr M, vi c] μ (Pi (fun x μ' => x = bD (μ 54) (μ (M + 5)) c ∧ μ' = μ)) := by
  refine Ct.of (own := RX8) (by decide +kernel) rfl (fun σ => Nat.le_of_ble_eq_true rfl) (fun hM hP ha => ?_)
  obtain ⟨hM32, hM53, hA0, hA1, hA2, hA3, hA4, hA5, hA6, hs0, hs1, hs2, hs3, hs4, hs5, hs6, hr0, hr1, hr2, hr3, hr4, hr5, hr6⟩ := mt_f hMt
  have loop : ∀ (m : Nat) (i : Int) (best : Int) (least : Int), 4 - i = (m : Nat) → 1 ≤ i → (best = (bdS (μ 54) (μ (M + 5)) c (i - 1).toNat).1) → (least = (bdS (μ 54) (μ (M + 5)) c (i - 1).toNat).2) → Go l D cA none RX8 cX8_bestDirection 7 (some .int) (3, 0, 0) (QN (Pi (fun x μ' => x = bD (μ 54) (μ (M + 5)) c ∧ μ' = μ))) 113 ρ0 0 0 14 [(0, vr 53), (1, vr M), (2, vi c), (3, vi best), (4, vi least), (5, vi i)] [] μ := by
    intro m
    induction m with
    | zero =>
      intro i best least hm hv hb hl
      refine go_iload dX8_bestDirection_14 rfl ?_
      refine go_iconst dX8_bestDirection_16 rfl ?_
      refine go_icmp_ge (tgt := 50) dX8_bestDirection_17 rfl (fun h17 => ?_) (fun h17 => ?_)
      ·
        refine go_iload_n dX8_bestDirection_50 rfl ?_
        exact go_ri dX8_bestDirection_51 tyI ⟨Nat.le_refl _, Nat.le_refl _⟩ (⟨by rw [hb, show (i - 1).toNat = 3 by omega]; rfl, rfl⟩)
      ·
        exact absurd h17 (by omega)
    | succ m ih =>
      intro i best least hm hv hb hl
      refine go_iload dX8_bestDirection_14 rfl ?_
      refine go_iconst dX8_bestDirection_16 rfl ?_
      refine go_icmp_ge (tgt := 50) dX8_bestDirection_17 rfl (fun h17 => ?_) (fun h17 => ?_)
      ·
        exact absurd h17 (by omega)
      ·
        refine go_aload_n dX8_bestDirection_20 rfl ?_
        refine go_aload_n dX8_bestDirection_21 rfl ?_
        refine go_iload_n dX8_bestDirection_22 rfl ?_
        refine go_iload dX8_bestDirection_23 rfl ?_
        refine go_vI (ci := 7) dX8_bestDirection_25 (ct_X8_costBy hMt hB _ _ hc0 hc1) ml_X8_32 mc_X8_costBy mv_X8_costBy rfl (by first | assumption | exact Nat.le_of_ble_eq_true rfl) (by first | assumption | rfl) rfl ⟨rfl, rfl⟩ ⟨Nat.le_refl _, Nat.le_refl _⟩ rfl rfl rfl (fun x25 μ25 hc25 => ?_)
        obtain ⟨rfl, hm25⟩ := hc25
        rw [hm25]
        refine go_istore dX8_bestDirection_28 rfl ?_
        refine go_iload dX8_bestDirection_30 rfl ?_
        refine go_iload dX8_bestDirection_32 rfl ?_
        refine go_icmp_ge (tgt := 44) dX8_bestDirection_34 rfl (fun h34 => ?_) (fun h34 => ?_)
        ·
          refine go_iinc dX8_bestDirection_44 rfl rfl ⟨by omega, by omega⟩ ?_
          refine go_goto (tgt := 14) dX8_bestDirection_47 rfl ?_
          exact go_drop (ih _ _ _ (by omega) (by omega) (by rw [bdS_i hv, if_neg (by omega)]; exact hb) (by rw [bdS_i hv, if_neg (by omega)]; exact hl)) rfl
        ·
          refine go_iload dX8_bestDirection_37 rfl ?_
          refine go_istore dX8_bestDirection_39 rfl ?_
          refine go_iload dX8_bestDirection_41 rfl ?_
          refine go_istore_n dX8_bestDirection_43 rfl ?_
          refine go_iinc dX8_bestDirection_44 rfl rfl ⟨by omega, by omega⟩ ?_
          refine go_goto (tgt := 14) dX8_bestDirection_47 rfl ?_
          exact go_drop (ih _ _ _ (by omega) (by omega) (by rw [bdS_i hv, if_pos (by omega)]) (by rw [bdS_i hv, if_pos (by omega)])) rfl
  refine go_iconst dX8_bestDirection_0 rfl ?_
  refine go_istore_n dX8_bestDirection_1 rfl ?_
  refine go_aload_n dX8_bestDirection_2 rfl ?_
  refine go_aload_n dX8_bestDirection_3 rfl ?_
  refine go_iload_n dX8_bestDirection_4 rfl ?_
  refine go_iconst dX8_bestDirection_5 rfl ?_
  refine go_vI (ci := 7) dX8_bestDirection_6 (ct_X8_costBy hMt hB _ _ hc0 hc1) ml_X8_32 mc_X8_costBy mv_X8_costBy rfl (by first | assumption | exact Nat.le_of_ble_eq_true rfl) (by first | assumption | rfl) rfl ⟨rfl, rfl⟩ ⟨Nat.le_refl _, Nat.le_refl _⟩ rfl rfl rfl (fun x6 μ6 hc6 => ?_)
  obtain ⟨rfl, hm6⟩ := hc6
  rw [hm6]
  refine go_istore dX8_bestDirection_9 rfl ?_
  refine go_iconst dX8_bestDirection_11 rfl ?_
  refine go_istore dX8_bestDirection_12 rfl ?_
  exact go_drop (loop 3 1 _ _ (by omega) (by omega) rfl rfl) rfl

set_option maxRecDepth 100000 in
set_option maxHeartbeats 4000000 in
theorem ct_X8_risksFrom {l : Launch} {D : va_G} {cA : Nat → ClassId} {μ : Mem} (c : Int) (hc0 : 0 ≤ c) (hc1 : c < 30) (hv0 : 0 ≤ μ 54 c) : CtN l D cA yX8_risksFrom cX8_risksFrom 2 (some .int) 0 [vr 53, vi c] μ (Pi (fun x μ' => x = μ 54 c / 64 ∧ μ' = μ)) := by
  refine Ct.of (own := RX8) (by decide +kernel) rfl (fun σ => Nat.le_of_ble_eq_true rfl) (fun hM hP ha => ?_)
  refine go_aload_n dX8_risksFrom_0 rfl ?_
  refine go_getR dX8_risksFrom_1 fl_X8_9 (by first | assumption | exact Nat.le_of_ble_eq_true rfl) (by first | assumption | rfl) rfl (by first | assumption | rfl) ?_
  refine go_iload_n dX8_risksFrom_4 rfl ?_
  refine go_iaload dX8_risksFrom_5 (by first | assumption | exact Nat.le_of_ble_eq_true rfl) (by first | assumption | rfl) (by omega) (by omega) ?_
  refine go_bipush dX8_risksFrom_6 rfl (by decide) ?_
  refine go_idiv dX8_risksFrom_8 (by omega) (by omega) ?_
  exact go_ri dX8_risksFrom_9 tyI ⟨Nat.le_refl _, Nat.le_refl _⟩ (⟨rfl, rfl⟩)

set_option maxRecDepth 100000 in
set_option maxHeartbeats 4000000 in
theorem ct_X8_stepsFrom {l : Launch} {D : va_G} {cA : Nat → ClassId} {μ : Mem} (c : Int) (hc0 : 0 ≤ c) (hc1 : c < 30) (hv0 : 0 ≤ μ 54 c) : CtN l D cA yX8_stepsFrom cX8_stepsFrom 2 (some .int) 0 [vr 53, vi c] μ (Pi (fun x μ' => x = μ 54 c % 64 ∧ μ' = μ)) := by
  refine Ct.of (own := RX8) (by decide +kernel) rfl (fun σ => Nat.le_of_ble_eq_true rfl) (fun hM hP ha => ?_)
  refine go_aload_n dX8_stepsFrom_0 rfl ?_
  refine go_getR dX8_stepsFrom_1 fl_X8_9 (by first | assumption | exact Nat.le_of_ble_eq_true rfl) (by first | assumption | rfl) rfl (by first | assumption | rfl) ?_
  refine go_iload_n dX8_stepsFrom_4 rfl ?_
  refine go_iaload dX8_stepsFrom_5 (by first | assumption | exact Nat.le_of_ble_eq_true rfl) (by first | assumption | rfl) (by omega) (by omega) ?_
  refine go_bipush dX8_stepsFrom_6 rfl (by decide) ?_
  refine go_irem dX8_stepsFrom_8 (by omega) (by omega) ?_
  exact go_ri dX8_stepsFrom_9 tyI ⟨Nat.le_refl _, Nat.le_refl _⟩ (⟨rfl, rfl⟩)

set_option maxRecDepth 100000 in
set_option maxHeartbeats 4000000 in
theorem ct_X8_findTo {l : Launch} {D : va_G} {cA : Nat → ClassId} {μ : Mem} {M : Nat} (hMt : isMt M) (hI : mtI μ M) (a : Int) (ha0 : 0 ≤ a) (ha1 : a < 30) : CtN l D cA yX8_findTo cX8_findTo 7 none 6 [vr 53, vr M, vi a] μ (Pv (fun μ' => (∀ c, 0 ≤ c → c < 30 → μ' 54 c = wF (rkC μ M) a c) ∧ (∀ c, 0 ≤ c → c < 30 → μ' (M + 5) c = rkC μ M c) ∧ ∀ q, q ≠ 3 → q ≠ M + 5 → q ≠ 54 → μ' q = μ q)) := by
  refine Ct.of (own := RX8) (by decide +kernel) rfl (fun σ => Nat.le_of_ble_eq_true rfl) (fun hM hP ha => ?_)
  obtain ⟨hM32, hM53, hA0, hA1, hA2, hA3, hA4, hA5, hA6, hs0, hs1, hs2, hs3, hs4, hs5, hs6, hr0, hr1, hr2, hr3, hr4, hr5, hr6⟩ := mt_f hMt
  obtain ⟨iK, iS, iL, iT, iTn, iD, iH, iF, iX, iW⟩ := id hI
  have hr : ∀ q : Int, 0 ≤ q → q < 30 → 0 ≤ rkC μ M q := fun q q0 q1 => (rkC_b hI q q0 q1).1
  have loop : ∀ (m : Nat) (r b : Int) (μ1 : Mem), 30 - r = (m : Nat) → 0 ≤ r → (∀ c, 0 ≤ c → c < 30 → μ1 (M + 5) c = rkC μ M c) → (∀ c, 0 ≤ c → c < 30 → μ1 54 c ≤ wD (rkC μ M) a r.toNat c) → (∀ c, 0 ≤ c → c < 30 → wF (rkC μ M) a c ≤ μ1 54 c) → (b = 0 → ∀ c, 0 ≤ c → c < 30 → μ1 54 c ≤ mB (μ1 54) (rkC μ M) c) → (∀ q, q ≠ 3 → q ≠ M + 5 → q ≠ 54 → μ1 q = μ q) → Go l D cA none RX8 cX8_findTo 7 none (6, 0, 0) (QN (Pv (fun μ' => (∀ c, 0 ≤ c → c < 30 → μ' 54 c = wF (rkC μ M) a c) ∧ (∀ c, 0 ≤ c → c < 30 → μ' (M + 5) c = rkC μ M c) ∧ ∀ q, q ≠ 3 → q ≠ M + 5 → q ≠ 54 → μ' q = μ q))) 113 ρ0 0 0 15 [(0, vr 53), (1, vr M), (2, vi a), (3, vi b), (4, vi r)] [] μ1 := by
    intro m
    induction m with
    | zero =>
      intro r b μ1 hm hv hrk hup hlo hbb hfr
      refine go_iload dX8_findTo_15 rfl ?_
      refine go_bipush dX8_findTo_17 rfl (by decide) ?_
      refine go_icmp_ge (tgt := 89) dX8_findTo_19 rfl (fun h19 => ?_) (fun h19 => ?_)
      ·
        refine go_rv dX8_findTo_89 rfl ⟨Nat.le_refl _, Nat.le_refl _⟩ (?_)
        refine ⟨fun c c0 c1 => ?_, hrk, hfr⟩
        have e1 := hup c c0 c1
        have e2 := hlo c c0 c1
        have e3 := wD_fix (rk := (rkC μ M)) hr ha0 ha1 c c0 c1
        rw [show r.toNat = 30 by omega] at e1
        omega
      ·
        exact absurd h19 (by omega)
    | succ m ih =>
      intro r b μ1 hm hv hrk hup hlo hbb hfr
      have hr0 : 0 ≤ r := hv
      have inn : ∀ (m2 : Nat) (i b2 : Int) (μ1 : Mem), 30 - i = (m2 : Nat) → 0 ≤ i → (∀ c, 0 ≤ c → c < 30 → μ1 (M + 5) c = rkC μ M c) → (∀ c, 0 ≤ c → c < 30 → μ1 54 c ≤ wD (rkC μ M) a r.toNat c) → (∀ c, 0 ≤ c → c < i → μ1 54 c ≤ wD (rkC μ M) a (r + 1).toNat c) → (∀ c, 0 ≤ c → c < 30 → wF (rkC μ M) a c ≤ μ1 54 c) → (b2 = 0 → ∀ c, 0 ≤ c → c < i → μ1 54 c ≤ mB (μ1 54) (rkC μ M) c) → (∀ q, q ≠ 3 → q ≠ M + 5 → q ≠ 54 → μ1 q = μ q) → Go l D cA none RX8 cX8_findTo 7 none (6, 0, 0) (QN (Pv (fun μ' => (∀ c, 0 ≤ c → c < 30 → μ' 54 c = wF (rkC μ M) a c) ∧ (∀ c, 0 ≤ c → c < 30 → μ' (M + 5) c = rkC μ M c) ∧ ∀ q, q ≠ 3 → q ≠ M + 5 → q ≠ 54 → μ' q = μ q))) 113 ρ0 0 0 31 [(0, vr 53), (1, vr M), (2, vi a), (3, vi b2), (4, vi r), (5, vi i)] [] μ1 := by
        intro m2
        induction m2 with
        | zero =>
          intro i b2 μ1 hm2 hv2 hrk hup hup2 hlo hbb2 hfr
          refine go_iload dX8_findTo_31 rfl ?_
          refine go_bipush dX8_findTo_33 rfl (by decide) ?_
          refine go_icmp_ge (tgt := 83) dX8_findTo_35 rfl (fun h35 => ?_) (fun h35 => ?_)
          ·
            refine go_iinc dX8_findTo_83 rfl rfl ⟨by omega, by omega⟩ ?_
            refine go_goto (tgt := 15) dX8_findTo_86 rfl ?_
            exact go_drop (ih _ _ μ1 (by omega) (by omega) hrk (fun c c0 c1 => hup2 c c0 (by omega)) hlo (fun hb c c0 c1 => hbb2 hb c c0 (by omega)) hfr) rfl
          ·
            exact absurd h35 (by omega)
        | succ m2 ih2 =>
          intro i b2 μ1 hm2 hv2 hrk hup hup2 hlo hbb2 hfr
          refine go_iload dX8_findTo_31 rfl ?_
          refine go_bipush dX8_findTo_33 rfl (by decide) ?_
          refine go_icmp_ge (tgt := 83) dX8_findTo_35 rfl (fun h35 => ?_) (fun h35 => ?_)
          ·
            exact absurd h35 (by omega)
          ·
            have hB : wyB μ1 M := fun q q0 q1 => ⟨⟨Int.le_trans (wD_b hr 29 q q0 q1).1 (hlo q q0 q1), Int.le_trans (hup q q0 q1) (wD_b hr _ q q0 q1).2⟩, by rw [hrk q q0 q1]; exact rkC_b hI q q0 q1⟩
            have hmo := mB_mono (f := μ1 54) (g := wD (rkC μ M) a r.toNat) (rk := (rkC μ M)) hv2 (by omega) hup
            have hmo2 := mB_mono (f := wF (rkC μ M) a) (g := μ1 54) (rk := (rkC μ M)) hv2 (by omega) hlo
            have hfx := wF_fix (rk := (rkC μ M)) hr ha0 ha1 i hv2 (by omega)
            have hsi := wD_s (rk := (rkC μ M)) (to := a) (c := i) hr0
            have hui := hup i hv2 (by omega)
            refine go_aload_n dX8_findTo_38 rfl ?_
            refine go_aload_n dX8_findTo_39 rfl ?_
            refine go_iload dX8_findTo_40 rfl ?_
            refine go_aload_n dX8_findTo_42 rfl ?_
            refine go_aload_n dX8_findTo_43 rfl ?_
            refine go_iload dX8_findTo_44 rfl ?_
            refine go_vI (ci := 7) dX8_findTo_46 (ct_X8_bestDirection hMt hB _ hv2 (by omega)) ml_X8_28 mc_X8_bestDirection mv_X8_bestDirection rfl (by first | assumption | exact Nat.le_of_ble_eq_true rfl) (by first | assumption | rfl) rfl ⟨rfl, rfl⟩ ⟨Nat.le_refl _, Nat.le_refl _⟩ rfl rfl rfl (fun x46 μ46 hc46 => ?_)
            obtain ⟨rfl, hm46⟩ := hc46
            rw [hm46]
            refine go_vI (ci := 7) dX8_findTo_49 (ct_X8_costBy hMt hB _ _ hv2 (by omega)) ml_X8_32 mc_X8_costBy mv_X8_costBy rfl (by first | assumption | exact Nat.le_of_ble_eq_true rfl) (by first | assumption | rfl) rfl ⟨rfl, rfl⟩ ⟨Nat.le_refl _, Nat.le_refl _⟩ rfl rfl rfl (fun x49 μ49 hc49 => ?_)
            obtain ⟨rfl, hm49⟩ := hc49
            rw [hm49, ← mB_at, mB_cg hv2 (by omega) hrk]
            refine go_istore dX8_findTo_52 rfl ?_
            refine go_iload dX8_findTo_54 rfl ?_
            refine go_aload_n dX8_findTo_56 rfl ?_
            refine go_getR dX8_findTo_57 fl_X8_9 (by first | assumption | exact Nat.le_of_ble_eq_true rfl) (by first | assumption | rfl) rfl (by first | assumption | rfl) ?_
            refine go_iload dX8_findTo_60 rfl ?_
            refine go_iaload dX8_findTo_62 (by first | assumption | exact Nat.le_of_ble_eq_true rfl) (by first | assumption | rfl) (by omega) (by omega) ?_
            try simp (disch := omega) only [ud, ua_same, ua_ne, uf_same, uf_ne]
            refine go_icmp_ge (tgt := 77) dX8_findTo_63 rfl (fun h63 => ?_) (fun h63 => ?_)
            ·
              refine go_iinc dX8_findTo_77 rfl rfl ⟨by omega, by omega⟩ ?_
              refine go_goto (tgt := 31) dX8_findTo_80 rfl ?_
              refine go_drop (ih2 _ _ μ1 (by omega) (by omega) hrk hup ?_ hlo ?_ hfr) rfl
              · intro c c0 c1
                by_cases e : c = i
                · subst e; omega
                · exact hup2 c c0 (by omega)
              · intro hb c c0 c1
                by_cases e : c = i
                · subst e; omega
                · exact hbb2 hb c c0 (by omega)
            ·
              refine go_aload_n dX8_findTo_66 rfl ?_
              refine go_getR dX8_findTo_67 fl_X8_9 (by first | assumption | exact Nat.le_of_ble_eq_true rfl) (by first | assumption | rfl) rfl (by first | assumption | rfl) ?_
              refine go_iload dX8_findTo_70 rfl ?_
              refine go_iload dX8_findTo_72 rfl ?_
              refine go_iastore dX8_findTo_74 (by first | assumption | exact Nat.le_of_ble_eq_true rfl) (by first | assumption | rfl) (by omega) (by omega) ?_
              refine go_iconst dX8_findTo_75 rfl ?_
              refine go_istore_n dX8_findTo_76 rfl ?_
              refine go_iinc dX8_findTo_77 rfl rfl ⟨by omega, by omega⟩ ?_
              refine go_goto (tgt := 31) dX8_findTo_80 rfl ?_
              refine go_drop (ih2 _ _ _ (by omega) (by omega) (fun c c0 c1 => by rw [ud_n (by omega)]; exact hrk c c0 c1) ?_ ?_ ?_ (fun hb => absurd hb (by decide)) (fun q h1 h2 h3 => by rw [ud_n h3]; exact hfr q h1 h2 h3)) rfl
              · intro c c0 c1
                rw [ud_s]
                by_cases e : c = i
                · subst e; rw [uf_same]; omega
                · rw [uf_ne e]; exact hup c c0 c1
              · intro c c0 c1
                rw [ud_s]
                by_cases e : c = i
                · subst e; rw [uf_same]; omega
                · rw [uf_ne e]; exact hup2 c c0 (by omega)
              · intro c c0 c1
                rw [ud_s]
                by_cases e : c = i
                · subst e; rw [uf_same]; omega
                · rw [uf_ne e]; exact hlo c c0 c1
      refine go_iload dX8_findTo_15 rfl ?_
      refine go_bipush dX8_findTo_17 rfl (by decide) ?_
      refine go_icmp_ge (tgt := 89) dX8_findTo_19 rfl (fun h19 => ?_) (fun h19 => ?_)
      ·
        exact absurd h19 (by omega)
      ·
        refine go_iload_n dX8_findTo_22 rfl ?_
        first | refine go_bz (tgt := 89) dX8_findTo_23 rfl (fun h23 => ?_) (fun h23 => ?_) | refine go_if_eq (tgt := 89) dX8_findTo_23 rfl (fun h23 => ?_) (fun h23 => ?_)
        ·
          exact go_rv dX8_findTo_89 rfl ⟨Nat.le_refl _, Nat.le_refl _⟩ (⟨fun c c0 c1 => Int.le_antisymm (sub_le (fun c c0 c1 => Int.le_trans (hup c c0 c1) (wD_0 _ c)) (hbb h23) 29 c c0 c1) (hlo c c0 c1), hrk, hfr⟩)
        ·
          refine go_iconst dX8_findTo_26 rfl ?_
          refine go_istore_n dX8_findTo_27 rfl ?_
          refine go_iconst dX8_findTo_28 rfl ?_
          refine go_istore dX8_findTo_29 rfl ?_
          exact go_drop (inn 30 0 0 μ1 (by omega) (by omega) hrk hup (fun c c0 c1 => absurd c1 (by omega)) hlo (fun _ c c0 c1 => absurd c1 (by omega)) hfr) rfl
  refine go_aload_n dX8_findTo_0 rfl ?_
  refine go_vV (ci := 2) dX8_findTo_1 (ct_X3_weighRisks hMt hI) ml_X8_19 mc_X3_weighRisks mv_X3_weighRisks rfl (by first | assumption | exact Nat.le_of_ble_eq_true rfl) (by first | assumption | rfl) rfl ⟨rfl, rfl⟩ ⟨Nat.le_refl _, Nat.le_refl _⟩ rfl rfl rfl (fun μ1 hc1 => ?_)
  obtain ⟨hk1, hf1⟩ := hc1
  refine go_aload_n dX8_findTo_4 rfl ?_
  refine go_iload_n dX8_findTo_5 rfl ?_
  refine go_iconst dX8_findTo_6 rfl ?_
  refine go_vV (ci := 7) dX8_findTo_7 (ct_X8_startAt _ _ ha0 ha1) ml_X8_24 mc_X8_startAt mv_X8_startAt rfl (by first | assumption | exact Nat.le_of_ble_eq_true rfl) (by first | assumption | rfl) rfl ⟨rfl, rfl⟩ ⟨Nat.le_refl _, Nat.le_refl _⟩ rfl rfl rfl (fun μ7 hc7 => ?_)
  obtain ⟨hk7, hf7⟩ := hc7
  refine go_iconst dX8_findTo_10 rfl ?_
  refine go_istore_n dX8_findTo_11 rfl ?_
  refine go_iconst dX8_findTo_12 rfl ?_
  refine go_istore dX8_findTo_13 rfl ?_
  refine go_drop (loop 30 0 1 μ7 (by omega) (by omega) (fun c c0 c1 => by rw [hf7 _ (by omega)]; exact hk1 c c0 c1) (fun c c0 c1 => by rw [hk7 c c0 c1]; exact Int.le_refl _) (fun c c0 c1 => by rw [hk7 c c0 c1]; exact wD_0 29 c) (fun h => absurd h (by decide)) (fun q h1 h2 h3 => (hf7 q h3).trans (hf1 q h1 h2))) rfl

