/-! THE CLASS: the mountain, what it tells -/
def LLc (μ : Mem) (n : Nat) : LT := (List.range n).map (fun i => (μ (4 + 2 * i) 0, μ (4 + 2 * i) 1, (List.range (μ (4 + 2 * i) 2).toNat).map (fun k : Nat => μ (4 + 2 * i + 1) k)))
def lwI (μ : Mem) (n : Nat) : Prop := n ≤ 14 ∧ (∀ i, i < n → 0 ≤ μ (4 + 2 * i) 2 ∧ μ (4 + 2 * i) 2 ≤ 96) ∧ wfLL (LLc μ n)
theorem LLc_at {μ : Mem} {n i : Nat} (h : i < n) : (LLc μ n).getD i (0, 0, []) = (μ (4 + 2 * i) 0, μ (4 + 2 * i) 1, (List.range (μ (4 + 2 * i) 2).toNat).map (fun k : Nat => μ (4 + 2 * i + 1) k)) := by
  unfold LLc
  simp [List.getD, h]
theorem LLc_len {μ : Mem} {n : Nat} : (LLc μ n).length = n := by unfold LLc; simp
theorem lastK_congr {f g : Nat → Int} {key : Int} : ∀ {n : Nat}, (∀ i, i < n → f i = g i) → lastK f key n = lastK g key n
  | 0, _ => rfl
  | n + 1, h => by
    unfold lastK
    rw [h n (Nat.lt_succ_self n), lastK_congr (fun i hi => h i (by omega))]
theorem lawOf_c {μ : Mem} {n : Nat} {key : Int} : lawOf (LLc μ n) key = (lastK (fun i => μ (4 + 2 * i) 0) key n).map (fun i => (List.range (μ (4 + 2 * i) 2).toNat).map (fun k : Nat => μ (4 + 2 * i + 1) k)) := by
  unfold lawOf
  rw [LLc_len, lastK_congr (g := fun i => μ (4 + 2 * i) 0) (fun i hi => by rw [LLc_at hi])]
  cases hk : lastK (fun i => μ (4 + 2 * i) 0) key n with
  | none => rfl
  | some i =>
    have hi := (lastK_lt hk).1
    show some ((LLc μ n).getD i (0, 0, [])).2.2 = some _
    rw [LLc_at hi]
theorem LLc_fr {μ μ' : Mem} {n : Nat} (hn : n ≤ 14) (hf : ∀ q, 4 ≤ q → q < 32 → μ' q = μ q) : LLc μ' n = LLc μ n := by
  unfold LLc
  apply List.map_congr_left
  intro i hi
  have hi2 := List.mem_range.mp hi
  rw [hf (4 + 2 * i) (by omega) (by omega), hf (4 + 2 * i + 1) (by omega) (by omega)]
theorem lwI_fr {μ μ' : Mem} {n : Nat} (hf : ∀ q, 4 ≤ q → q < 32 → μ' q = μ q) (h : lwI μ n) : lwI μ' n := by
  obtain ⟨h1, h2, h3⟩ := h
  refine ⟨h1, fun i hi => ?_, ?_⟩
  · rw [hf (4 + 2 * i) (by omega) (by omega)]; exact h2 i hi
  · rw [LLc_fr h1 hf]; exact h3
theorem cd_b {key c : Int} (h : cdOK key c) : -200 ≤ c ∧ c ≤ 9999 := by unfold cdOK at h; omega
theorem wo_f {μ : Mem} {n i : Nat} (pv : Int → Int) (h : lwI μ n) (hi : i < n) : (∀ q, 0 ≤ q → q < μ (4 + 2 * i) 2 → -200 ≤ μ (4 + 2 * i + 1) q ∧ μ (4 + 2 * i + 1) q ≤ 9999) ∧ evS pv ((List.range (μ (4 + 2 * i) 2).toNat).map (fun k : Nat => μ (4 + 2 * i + 1) k)) ≠ [] := by
  obtain ⟨h1, h2, h3, h4⟩ := h
  have hm : (μ (4 + 2 * i) 0, μ (4 + 2 * i) 1, (List.range (μ (4 + 2 * i) 2).toNat).map (fun k : Nat => μ (4 + 2 * i + 1) k)) ∈ LLc μ n := List.mem_map.mpr ⟨i, List.mem_range.mpr hi, rfl⟩
  obtain ⟨-, -, -, w4, w5, -⟩ := h4 _ hm
  refine ⟨fun q q0 q1 => ?_, wf_ne w4⟩
  refine cd_b (w5 _ (List.mem_map.mpr ⟨q.toNat, List.mem_range.mpr (by omega), ?_⟩))
  show μ (4 + 2 * i + 1) ((q.toNat : Nat) : Int) = μ (4 + 2 * i + 1) q
  rw [show ((q.toNat : Nat) : Int) = q by omega]
/-- a mountain's numbers are as the document has them -/
def mtI (μ : Mem) (M : Nat) : Prop :=
  (∀ c, 0 ≤ c → c < 30 → 0 ≤ μ (M + 1) c ∧ μ (M + 1) c ≤ 5) ∧ (∀ c, 0 ≤ c → c < 30 → 0 ≤ μ (M + 2) c ∧ μ (M + 2) c ≤ 60) ∧ (∀ c, 0 ≤ c → c < 30 → 0 ≤ μ (M + 3) c ∧ μ (M + 3) c ≤ 999) ∧ (∀ i, 0 ≤ i → i < 24 → 0 ≤ μ (M + 4) i ∧ μ (M + 4) i < 30) ∧
  (0 ≤ μ M 7 ∧ μ M 7 ≤ 24) ∧ (0 ≤ μ M 8 ∧ μ M 8 ≤ 5) ∧ (0 ≤ μ M 9 ∧ μ M 9 ≤ 23) ∧ (0 ≤ μ M 10 ∧ μ M 10 ≤ 9) ∧ (0 ≤ μ M 13 ∧ μ M 13 ≤ 14) ∧ lwI μ (μ M 13).toNat
abbrev LM (μ : Mem) (M : Nat) : LT := LLc μ (μ M 13).toNat
def prC (μ : Mem) (M : Nat) (c : Int) : Int := plainR (LM μ M) (μ M 8) (μ (M + 2) c) (μ (M + 3) c)
def rkC (μ : Mem) (M : Nat) (c : Int) : Int := riskV (LM μ M) (μ M 8) (μ M 9) (μ (M + 1)) (μ (M + 2)) (μ (M + 3)) c
def sumN (f : Int → Int) : Nat → Int
  | 0 => 0
  | n + 1 => sumN f n + f (n : Nat)
theorem sumN_b {f : Int → Int} (h : ∀ c, 0 ≤ c → c < 30 → 0 ≤ f c ∧ f c ≤ 999) : ∀ n : Nat, n ≤ 30 → 0 ≤ sumN f n ∧ sumN f n ≤ 999 * (n : Nat)
  | 0, _ => by unfold sumN; omega
  | n + 1, hn => by
    have h1 := sumN_b h n (by omega)
    have h2 := h (n : Nat) (by omega) (by omega)
    unfold sumN
    omega
def mstN (f : Int → Int) : Nat → Int
  | 0 => 0
  | n + 1 => if f (mstN f n) < f (n : Nat) then (n : Nat) else mstN f n
theorem mstN_b {f : Int → Int} : ∀ n : Nat, 0 ≤ mstN f n ∧ (mstN f n < (n : Nat) ∨ n = 0 ∧ mstN f n = 0)
  | 0 => by unfold mstN; omega
  | n + 1 => by
    have h := mstN_b (f := f) n
    unfold mstN
    split <;> omega
theorem pr_b {LL : LT} {danger steep load : Int} (h1 : 0 ≤ danger) (h2 : danger ≤ 5) (h4 : steep ≤ 60) (h5 : 0 ≤ load) (h6 : load ≤ 999) : 0 ≤ plainR LL danger steep load ∧ plainR LL danger steep load ≤ 999 := by
  unfold plainR
  split
  · split
    · omega
    · have h7 : 0 ≤ (steep - 29) * danger := Int.mul_nonneg (by omega) h1
      have h8 : (steep - 29) * danger ≤ 31 * 5 := Int.mul_le_mul (by omega) h2 h1 (by omega)
      omega
  · unfold cl; omega
theorem ph_b {LL : LT} {steep row : Int} (h3 : 0 ≤ steep) (h4 : steep ≤ 60) : 0 ≤ plainH LL steep row ∧ plainH LL steep row ≤ 99 := by
  unfold plainH
  split
  · omega
  · unfold cl; omega
theorem abvN_b {pr : Int → Int} (h : ∀ c, 0 ≤ c → c < 30 → 0 ≤ pr c ∧ pr c ≤ 999) : ∀ (n : Nat) (c : Int), 0 ≤ c → 0 ≤ abvN pr n c ∧ abvN pr n c ≤ 999
  | 0, c, _ => by unfold abvN; omega
  | n + 1, c, hc => by
    unfold abvN
    split
    · have h1 := h (c + 6) (by omega) (by omega)
      have h2 := abvN_b h n (c + 6) (by omega)
      omega
    · omega

set_option maxRecDepth 100000 in
set_option maxHeartbeats 4000000 in
theorem ct_X3_sun {l : Launch} {D : va_G} {cA : Nat → ClassId} {μ : Mem} {M : Nat} (hMt : isMt M) (hI : mtI μ M) : CtN l D cA yX3_sun cX3_sun 1 (some .int) 2 [vr M] μ (Pi (fun x μ' => x = sunV (μ M 9) ∧ μ' = μ)) := by
  refine Ct.of (own := RX3) (by decide +kernel) rfl (fun σ => Nat.le_of_ble_eq_true rfl) (fun hM hP ha => ?_)
  obtain ⟨hM32, hM53, hA0, hA1, hA2, hA3, hA4, hA5, hA6, hs0, hs1, hs2, hs3, hs4, hs5, hs6, hr0, hr1, hr2, hr3, hr4, hr5, hr6⟩ := mt_f hMt
  obtain ⟨iK, iS, iL, iT, iTn, iD, iH, iF, iX, iW⟩ := id hI
  refine go_iconst dX3_sun_0 rfl ?_
  refine go_aload_n dX3_sun_1 rfl ?_
  refine go_getI 9 dX3_sun_2 fl_X3_34 (by first | assumption | exact Nat.le_of_ble_eq_true rfl) (by first | assumption | rfl) rfl rfl ?_
  refine go_bipush dX3_sun_5 rfl (by decide) ?_
  refine go_isub dX3_sun_7 ⟨by omega, by omega⟩ ?_
  refine go_max dX3_sun_8 mw_X3_62 rfl rfl ⟨Nat.le_refl _, Nat.le_refl _⟩ ?_
  exact go_ri dX3_sun_11 tyI ⟨Nat.le_refl _, Nat.le_refl _⟩ (⟨rfl, rfl⟩)

set_option maxRecDepth 100000 in
set_option maxHeartbeats 4000000 in
theorem ct_X3_allLoad {l : Launch} {D : va_G} {cA : Nat → ClassId} {μ : Mem} {M : Nat} (hMt : isMt M) (hI : mtI μ M) : CtN l D cA yX3_allLoad cX3_allLoad 3 (some .int) 1 [vr M] μ (Pi (fun x μ' => x = sumN (μ (M + 3)) 30 ∧ μ' = μ)) := by
  refine Ct.of (own := RX3) (by decide +kernel) rfl (fun σ => Nat.le_of_ble_eq_true rfl) (fun hM hP ha => ?_)
  obtain ⟨hM32, hM53, hA0, hA1, hA2, hA3, hA4, hA5, hA6, hs0, hs1, hs2, hs3, hs4, hs5, hs6, hr0, hr1, hr2, hr3, hr4, hr5, hr6⟩ := mt_f hMt
  obtain ⟨iK, iS, iL, iT, iTn, iD, iH, iF, iX, iW⟩ := id hI
  have loop : ∀ (m : Nat) (i : Int) (acc : Int), 30 - i = (m : Nat) → 0 ≤ i → (acc = sumN (μ (M + 3)) i.toNat) → Go l D cA none RX3 cX3_allLoad 3 (some .int) (1, 0, 0) (QN (Pi (fun x μ' => x = sumN (μ (M + 3)) 30 ∧ μ' = μ))) 113 ρ0 0 0 4 [(0, vr M), (1, vi acc), (2, vi i)] [] μ := by
    intro m
    induction m with
    | zero =>
      intro i acc hm hv hacc
      refine go_iload_n dX3_allLoad_4 rfl ?_
      refine go_bipush dX3_allLoad_5 rfl (by decide) ?_
      refine go_icmp_ge (tgt := 25) dX3_allLoad_7 rfl (fun h7 => ?_) (fun h7 => ?_)
      ·
        refine go_iload_n dX3_allLoad_25 rfl ?_
        exact go_ri dX3_allLoad_26 tyI ⟨Nat.le_refl _, Nat.le_refl _⟩ (⟨by rw [hacc, show i.toNat = 30 by omega], rfl⟩)
      ·
        exact absurd h7 (by omega)
    | succ m ih =>
      intro i acc hm hv hacc
      refine go_iload_n dX3_allLoad_4 rfl ?_
      refine go_bipush dX3_allLoad_5 rfl (by decide) ?_
      refine go_icmp_ge (tgt := 25) dX3_allLoad_7 rfl (fun h7 => ?_) (fun h7 => ?_)
      ·
        exact absurd h7 (by omega)
      ·
        have hb1 := iL i hv (by omega)
        have hb2 := sumN_b iL i.toNat (by omega)
        refine go_iload_n dX3_allLoad_10 rfl ?_
        refine go_aload_n dX3_allLoad_11 rfl ?_
        refine go_getR dX3_allLoad_12 fl_X3_18 (by first | assumption | exact Nat.le_of_ble_eq_true rfl) (by first | assumption | rfl) rfl (by first | assumption | rfl) ?_
        refine go_iload_n dX3_allLoad_15 rfl ?_
        refine go_iaload dX3_allLoad_16 (by first | assumption | exact Nat.le_of_ble_eq_true rfl) (by first | assumption | rfl) (by omega) (by omega) ?_
        refine go_iadd dX3_allLoad_17 ⟨by omega, by omega⟩ ?_
        refine go_istore_n dX3_allLoad_18 rfl ?_
        refine go_iinc dX3_allLoad_19 rfl rfl ⟨by omega, by omega⟩ ?_
        refine go_goto (tgt := 4) dX3_allLoad_22 rfl ?_
        exact go_drop (ih _ _ (by omega) (by omega) (by rw [show (i + 1).toNat = i.toNat + 1 by omega, hacc]; show _ = sumN (μ (M + 3)) i.toNat + μ (M + 3) ((i.toNat : Nat) : Int); rw [show ((i.toNat : Nat) : Int) = i by omega])) rfl
  refine go_iconst dX3_allLoad_0 rfl ?_
  refine go_istore_n dX3_allLoad_1 rfl ?_
  refine go_iconst dX3_allLoad_2 rfl ?_
  refine go_istore_n dX3_allLoad_3 rfl ?_
  exact go_drop (loop 30 0 0 (by omega) (by omega) rfl) rfl

set_option maxRecDepth 100000 in
set_option maxHeartbeats 4000000 in
theorem ct_X3_mostLoaded {l : Launch} {D : va_G} {cA : Nat → ClassId} {μ : Mem} {M : Nat} (hMt : isMt M) (hI : mtI μ M) : CtN l D cA yX3_mostLoaded cX3_mostLoaded 3 (some .int) 1 [vr M] μ (Pi (fun x μ' => x = mstN (μ (M + 3)) 30 ∧ μ' = μ)) := by
  refine Ct.of (own := RX3) (by decide +kernel) rfl (fun σ => Nat.le_of_ble_eq_true rfl) (fun hM hP ha => ?_)
  obtain ⟨hM32, hM53, hA0, hA1, hA2, hA3, hA4, hA5, hA6, hs0, hs1, hs2, hs3, hs4, hs5, hs6, hr0, hr1, hr2, hr3, hr4, hr5, hr6⟩ := mt_f hMt
  obtain ⟨iK, iS, iL, iT, iTn, iD, iH, iF, iX, iW⟩ := id hI
  have loop : ∀ (m : Nat) (i : Int) (mo : Int), 30 - i = (m : Nat) → 1 ≤ i → (mo = mstN (μ (M + 3)) i.toNat) → Go l D cA none RX3 cX3_mostLoaded 3 (some .int) (1, 0, 0) (QN (Pi (fun x μ' => x = mstN (μ (M + 3)) 30 ∧ μ' = μ))) 113 ρ0 0 0 4 [(0, vr M), (1, vi mo), (2, vi i)] [] μ := by
    intro m
    induction m with
    | zero =>
      intro i mo hm hv hmo
      refine go_iload_n dX3_mostLoaded_4 rfl ?_
      refine go_bipush dX3_mostLoaded_5 rfl (by decide) ?_
      refine go_icmp_ge (tgt := 33) dX3_mostLoaded_7 rfl (fun h7 => ?_) (fun h7 => ?_)
      ·
        refine go_iload_n dX3_mostLoaded_33 rfl ?_
        exact go_ri dX3_mostLoaded_34 tyI ⟨Nat.le_refl _, Nat.le_refl _⟩ (⟨by rw [hmo, show i.toNat = 30 by omega], rfl⟩)
      ·
        exact absurd h7 (by omega)
    | succ m ih =>
      intro i mo hm hv hmo
      refine go_iload_n dX3_mostLoaded_4 rfl ?_
      refine go_bipush dX3_mostLoaded_5 rfl (by decide) ?_
      refine go_icmp_ge (tgt := 33) dX3_mostLoaded_7 rfl (fun h7 => ?_) (fun h7 => ?_)
      ·
        exact absurd h7 (by omega)
      ·
        have hb2 := mstN_b (f := μ (M + 3)) i.toNat
        refine go_aload_n dX3_mostLoaded_10 rfl ?_
        refine go_getR dX3_mostLoaded_11 fl_X3_18 (by first | assumption | exact Nat.le_of_ble_eq_true rfl) (by first | assumption | rfl) rfl (by first | assumption | rfl) ?_
        refine go_iload_n dX3_mostLoaded_14 rfl ?_
        refine go_iaload dX3_mostLoaded_15 (by first | assumption | exact Nat.le_of_ble_eq_true rfl) (by first | assumption | rfl) (by omega) (by omega) ?_
        refine go_aload_n dX3_mostLoaded_16 rfl ?_
        refine go_getR dX3_mostLoaded_17 fl_X3_18 (by first | assumption | exact Nat.le_of_ble_eq_true rfl) (by first | assumption | rfl) rfl (by first | assumption | rfl) ?_
        refine go_iload_n dX3_mostLoaded_20 rfl ?_
        refine go_iaload dX3_mostLoaded_21 (by first | assumption | exact Nat.le_of_ble_eq_true rfl) (by first | assumption | rfl) (by omega) (by omega) ?_
        refine go_icmp_le (tgt := 27) dX3_mostLoaded_22 rfl (fun h22 => ?_) (fun h22 => ?_)
        ·
          refine go_iinc dX3_mostLoaded_27 rfl rfl ⟨by omega, by omega⟩ ?_
          refine go_goto (tgt := 4) dX3_mostLoaded_30 rfl ?_
          exact go_drop (ih _ _ (by omega) (by omega) (by rw [show (i + 1).toNat = i.toNat + 1 by omega]; show _ = if μ (M + 3) (mstN (μ (M + 3)) i.toNat) < μ (M + 3) ((i.toNat : Nat) : Int) then _ else _; rw [show ((i.toNat : Nat) : Int) = i by omega, ← hmo]; rw [if_neg (by omega)])) rfl
        ·
          refine go_iload_n dX3_mostLoaded_25 rfl ?_
          refine go_istore_n dX3_mostLoaded_26 rfl ?_
          refine go_iinc dX3_mostLoaded_27 rfl rfl ⟨by omega, by omega⟩ ?_
          refine go_goto (tgt := 4) dX3_mostLoaded_30 rfl ?_
          exact go_drop (ih _ _ (by omega) (by omega) (by rw [show (i + 1).toNat = i.toNat + 1 by omega]; show _ = if μ (M + 3) (mstN (μ (M + 3)) i.toNat) < μ (M + 3) ((i.toNat : Nat) : Int) then _ else _; rw [show ((i.toNat : Nat) : Int) = i by omega, ← hmo]; rw [if_pos (by omega)])) rfl
  refine go_iconst dX3_mostLoaded_0 rfl ?_
  refine go_istore_n dX3_mostLoaded_1 rfl ?_
  refine go_iconst dX3_mostLoaded_2 rfl ?_
  refine go_istore_n dX3_mostLoaded_3 rfl ?_
  exact go_drop (loop 29 1 0 (by omega) (by omega) (by show _ = if _ then _ else _; rw [if_neg (by show ¬ (μ (M + 3) 0 < μ (M + 3) 0); omega)]; rfl)) rfl

set_option maxRecDepth 100000 in
set_option maxHeartbeats 4000000 in
theorem ct_X3_plainRisk {l : Launch} {D : va_G} {cA : Nat → ClassId} {μ : Mem} {M : Nat} (hMt : isMt M) (hI : mtI μ M) (c : Int) (hc0 : 0 ≤ c) (hc1 : c < 30) : CtN l D cA yX3_plainRisk cX3_plainRisk 3 (some .int) 4 [vr M, vi c] μ (Pi (fun x μ' => x = prC μ M c ∧ ∀ q, q ≠ 3 → μ' q = μ q)) := by
  refine Ct.of (own := RX3) (by decide +kernel) rfl (fun σ => Nat.le_of_ble_eq_true rfl) (fun hM hP ha => ?_)
  obtain ⟨hM32, hM53, hA0, hA1, hA2, hA3, hA4, hA5, hA6, hs0, hs1, hs2, hs3, hs4, hs5, hs6, hr0, hr1, hr2, hr3, hr4, hr5, hr6⟩ := mt_f hMt
  obtain ⟨iK, iS, iL, iT, iTn, iD, iH, iF, iX, iW⟩ := id hI
  cases hlk : lastK (fun i => μ (4 + 2 * i) 0) 0 (μ M 13).toNat with
  | none =>
    have hb2 := iS c hc0 hc1
    have hb3 := iL c hc0 hc1
    refine go_aload_n dX3_plainRisk_0 rfl ?_
    refine go_getR dX3_plainRisk_1 fl_X3_43 (by first | assumption | exact Nat.le_of_ble_eq_true rfl) (by first | assumption | rfl) rfl (by first | assumption | rfl) ?_
    refine go_iconst dX3_plainRisk_4 rfl ?_
    refine go_aload_n dX3_plainRisk_5 rfl ?_
    refine go_getI 13 dX3_plainRisk_6 fl_X3_59 (by first | assumption | exact Nat.le_of_ble_eq_true rfl) (by first | assumption | rfl) rfl rfl ?_
    refine go_vI (ci := 1) dX3_plainRisk_9 (ct_X2_lastOf 0 _ iX.1 iX.2) ml_X3_68 mc_X2_lastOf mv_X2_lastOf rfl (by first | assumption | exact Nat.le_of_ble_eq_true rfl) (by first | assumption | rfl) rfl ⟨rfl, rfl⟩ ⟨Nat.le_refl _, Nat.le_refl _⟩ rfl rfl rfl (fun x9 μ9 hc9 => ?_)
    obtain ⟨rfl, hm9⟩ := hc9
    rw [hm9, hlk]
    simp only [onI]
    refine go_istore_n dX3_plainRisk_12 rfl ?_
    refine go_iload_n dX3_plainRisk_13 rfl ?_
    refine go_ldc dX3_plainRisk_14 kc_X3_73 rfl ?_
    refine go_icmp_eq (tgt := 51) dX3_plainRisk_16 rfl (fun h16 => ?_) (fun h16 => ?_)
    ·
      refine go_aload_n dX3_plainRisk_51 rfl ?_
      refine go_getR dX3_plainRisk_52 fl_X3_15 (by first | assumption | exact Nat.le_of_ble_eq_true rfl) (by first | assumption | rfl) rfl (by first | assumption | rfl) ?_
      refine go_iload_n dX3_plainRisk_55 rfl ?_
      refine go_iaload dX3_plainRisk_56 (by first | assumption | exact Nat.le_of_ble_eq_true rfl) (by first | assumption | rfl) (by omega) (by omega) ?_
      try simp (disch := omega) only [ud, ua_same, ua_ne, uf_same, uf_ne]
      refine go_bipush dX3_plainRisk_57 rfl (by decide) ?_
      refine go_icmp_ge (tgt := 66) dX3_plainRisk_59 rfl (fun h59 => ?_) (fun h59 => ?_)
      ·
        refine go_aload_n dX3_plainRisk_66 rfl ?_
        refine go_getR dX3_plainRisk_67 fl_X3_15 (by first | assumption | exact Nat.le_of_ble_eq_true rfl) (by first | assumption | rfl) rfl (by first | assumption | rfl) ?_
        refine go_iload_n dX3_plainRisk_70 rfl ?_
        refine go_iaload dX3_plainRisk_71 (by first | assumption | exact Nat.le_of_ble_eq_true rfl) (by first | assumption | rfl) (by omega) (by omega) ?_
        try simp (disch := omega) only [ud, ua_same, ua_ne, uf_same, uf_ne]
        refine go_bipush dX3_plainRisk_72 rfl (by decide) ?_
        refine go_isub dX3_plainRisk_74 ⟨by omega, by omega⟩ ?_
        have h7 : 0 ≤ (μ (M + 2) c - 29) * μ M 8 := Int.mul_nonneg (by omega) iD.1
        have h8 : (μ (M + 2) c - 29) * μ M 8 ≤ 31 * 5 := Int.mul_le_mul (by omega) iD.2 iD.1 (by omega)
        refine go_aload_n dX3_plainRisk_75 rfl ?_
        refine go_getI 8 dX3_plainRisk_76 fl_X3_30 (by first | assumption | exact Nat.le_of_ble_eq_true rfl) (by first | assumption | rfl) rfl rfl ?_
        try simp (disch := omega) only [ud, ua_same, ua_ne, uf_same, uf_ne]
        refine go_imul dX3_plainRisk_79 ⟨by omega, by omega⟩ ?_
        refine go_aload_n dX3_plainRisk_80 rfl ?_
        refine go_getR dX3_plainRisk_81 fl_X3_18 (by first | assumption | exact Nat.le_of_ble_eq_true rfl) (by first | assumption | rfl) rfl (by first | assumption | rfl) ?_
        refine go_iload_n dX3_plainRisk_84 rfl ?_
        refine go_iaload dX3_plainRisk_85 (by first | assumption | exact Nat.le_of_ble_eq_true rfl) (by first | assumption | rfl) (by omega) (by omega) ?_
        try simp (disch := omega) only [ud, ua_same, ua_ne, uf_same, uf_ne]
        refine go_bipush dX3_plainRisk_86 rfl (by decide) ?_
        refine go_idiv dX3_plainRisk_88 (by omega) (by omega) ?_
        refine go_iadd dX3_plainRisk_89 ⟨by omega, by omega⟩ ?_
        exact go_ri dX3_plainRisk_90 tyI ⟨Nat.le_refl _, Nat.le_refl _⟩ (⟨by unfold prC plainR; rw [lawOf_c, hlk]; simp only [Option.map]; rw [if_neg (by omega)], fun _ _ => rfl⟩)
      ·
        refine go_iconst dX3_plainRisk_62 rfl ?_
        refine go_goto (tgt := 90) dX3_plainRisk_63 rfl ?_
        exact go_ri dX3_plainRisk_90 tyI ⟨Nat.le_refl _, Nat.le_refl _⟩ (⟨by unfold prC plainR; rw [lawOf_c, hlk]; simp only [Option.map]; rw [if_pos (by omega)], fun _ _ => rfl⟩)
    ·
      first | exact absurd rfl h16 | exact absurd h16 (by omega)
  | some i =>
    have hin := (lastK_lt hlk).1
    have hi14 := iW.1
    have hb2 := iS c hc0 hc1
    have hb3 := iL c hc0 hc1
    refine go_aload_n dX3_plainRisk_0 rfl ?_
    refine go_getR dX3_plainRisk_1 fl_X3_43 (by first | assumption | exact Nat.le_of_ble_eq_true rfl) (by first | assumption | rfl) rfl (by first | assumption | rfl) ?_
    refine go_iconst dX3_plainRisk_4 rfl ?_
    refine go_aload_n dX3_plainRisk_5 rfl ?_
    refine go_getI 13 dX3_plainRisk_6 fl_X3_59 (by first | assumption | exact Nat.le_of_ble_eq_true rfl) (by first | assumption | rfl) rfl rfl ?_
    refine go_vI (ci := 1) dX3_plainRisk_9 (ct_X2_lastOf 0 _ iX.1 iX.2) ml_X3_68 mc_X2_lastOf mv_X2_lastOf rfl (by first | assumption | exact Nat.le_of_ble_eq_true rfl) (by first | assumption | rfl) rfl ⟨rfl, rfl⟩ ⟨Nat.le_refl _, Nat.le_refl _⟩ rfl rfl rfl (fun x9 μ9 hc9 => ?_)
    obtain ⟨rfl, hm9⟩ := hc9
    rw [hm9, hlk]
    simp only [onI]
    refine go_istore_n dX3_plainRisk_12 rfl ?_
    refine go_iload_n dX3_plainRisk_13 rfl ?_
    refine go_ldc dX3_plainRisk_14 kc_X3_73 rfl ?_
    refine go_icmp_eq (tgt := 51) dX3_plainRisk_16 rfl (fun h16 => ?_) (fun h16 => ?_)
    ·
      first | exact absurd h16 (by omega) | exact absurd rfl h16
    ·
      refine go_aload_n dX3_plainRisk_19 rfl ?_
      refine go_getR dX3_plainRisk_20 fl_X3_43 (by first | assumption | exact Nat.le_of_ble_eq_true rfl) (by first | assumption | rfl) rfl (by first | assumption | rfl) ?_
      refine go_iload_n dX3_plainRisk_23 rfl ?_
      refine go_aload_n dX3_plainRisk_24 rfl ?_
      refine go_getR dX3_plainRisk_25 fl_X3_15 (by first | assumption | exact Nat.le_of_ble_eq_true rfl) (by first | assumption | rfl) rfl (by first | assumption | rfl) ?_
      refine go_iload_n dX3_plainRisk_28 rfl ?_
      refine go_iaload dX3_plainRisk_29 (by first | assumption | exact Nat.le_of_ble_eq_true rfl) (by first | assumption | rfl) (by omega) (by omega) ?_
      try simp (disch := omega) only [ud, ua_same, ua_ne, uf_same, uf_ne]
      refine go_aload_n dX3_plainRisk_30 rfl ?_
      refine go_getR dX3_plainRisk_31 fl_X3_18 (by first | assumption | exact Nat.le_of_ble_eq_true rfl) (by first | assumption | rfl) rfl (by first | assumption | rfl) ?_
      refine go_iload_n dX3_plainRisk_34 rfl ?_
      refine go_iaload dX3_plainRisk_35 (by first | assumption | exact Nat.le_of_ble_eq_true rfl) (by first | assumption | rfl) (by omega) (by omega) ?_
      try simp (disch := omega) only [ud, ua_same, ua_ne, uf_same, uf_ne]
      refine go_aload_n dX3_plainRisk_36 rfl ?_
      refine go_getI 8 dX3_plainRisk_37 fl_X3_30 (by first | assumption | exact Nat.le_of_ble_eq_true rfl) (by first | assumption | rfl) rfl rfl ?_
      try simp (disch := omega) only [ud, ua_same, ua_ne, uf_same, uf_ne]
      refine go_vI (ci := 1) dX3_plainRisk_40 (ct_X2_worth (i : Nat) _ _ _ (by omega) (by omega) (by simpa using (iW.2.1 i hin).1) (by simpa using (iW.2.1 i hin).2) (by simpa using (wo_f (pvW (μ (M + 2) c) (μ (M + 3) c) (μ M 8)) iW hin).1) (by simpa using (wo_f (pvW (μ (M + 2) c) (μ (M + 3) c) (μ M 8)) iW hin).2)) ml_X3_74 mc_X2_worth mv_X2_worth rfl (by first | assumption | exact Nat.le_of_ble_eq_true rfl) (by first | assumption | rfl) rfl ⟨rfl, rfl⟩ ⟨Nat.le_refl _, Nat.le_refl _⟩ rfl rfl rfl (fun x40 μ40 hc40 => ?_)
      simp only [Int.toNat_natCast] at hc40
      obtain ⟨rfl, hf40⟩ := hc40
      refine go_iconst dX3_plainRisk_43 rfl ?_
      refine go_sipush dX3_plainRisk_44 rfl (by decide) ?_
      refine go_sI dX3_plainRisk_47 (ct_X9_heldWithin _ _ _) ml_X3_78 mc_X9_heldWithin ms_X9_heldWithin ⟨rfl, rfl⟩ ⟨Nat.le_refl _, Nat.le_refl _⟩ rfl rfl rfl (fun x47 μ47 hc47 => ?_)
      obtain ⟨rfl, hm47⟩ := hc47
      rw [hm47]
      exact go_ri dX3_plainRisk_50 tyI ⟨Nat.le_refl _, Nat.le_refl _⟩ (⟨by unfold prC plainR; rw [lawOf_c, hlk]; rfl, hf40⟩)


set_option maxRecDepth 100000 in
set_option maxHeartbeats 4000000 in
theorem ct_X3_plainHold {l : Launch} {D : va_G} {cA : Nat → ClassId} {μ : Mem} {M : Nat} (hMt : isMt M) (hI : mtI μ M) (c : Int) (hc0 : 0 ≤ c) (hc1 : c < 30) : CtN l D cA yX3_plainHold cX3_plainHold 4 (some .int) 4 [vr M, vi c] μ (Pi (fun x μ' => x = plainH (LM μ M) (μ (M + 2) c) (c / 6) ∧ ∀ q, q ≠ 3 → μ' q = μ q)) := by
  refine Ct.of (own := RX3) (by decide +kernel) rfl (fun σ => Nat.le_of_ble_eq_true rfl) (fun hM hP ha => ?_)
  obtain ⟨hM32, hM53, hA0, hA1, hA2, hA3, hA4, hA5, hA6, hs0, hs1, hs2, hs3, hs4, hs5, hs6, hr0, hr1, hr2, hr3, hr4, hr5, hr6⟩ := mt_f hMt
  obtain ⟨iK, iS, iL, iT, iTn, iD, iH, iF, iX, iW⟩ := id hI
  cases hlk : lastK (fun i => μ (4 + 2 * i) 0) 1 (μ M 13).toNat with
  | none =>
    have hb2 := iS c hc0 hc1
    have hb3 := iL c hc0 hc1
    refine go_aload_n dX3_plainHold_0 rfl ?_
    refine go_getR dX3_plainHold_1 fl_X3_43 (by first | assumption | exact Nat.le_of_ble_eq_true rfl) (by first | assumption | rfl) rfl (by first | assumption | rfl) ?_
    refine go_iconst dX3_plainHold_4 rfl ?_
    refine go_aload_n dX3_plainHold_5 rfl ?_
    refine go_getI 13 dX3_plainHold_6 fl_X3_59 (by first | assumption | exact Nat.le_of_ble_eq_true rfl) (by first | assumption | rfl) rfl rfl ?_
    refine go_vI (ci := 1) dX3_plainHold_9 (ct_X2_lastOf 1 _ iX.1 iX.2) ml_X3_68 mc_X2_lastOf mv_X2_lastOf rfl (by first | assumption | exact Nat.le_of_ble_eq_true rfl) (by first | assumption | rfl) rfl ⟨rfl, rfl⟩ ⟨Nat.le_refl _, Nat.le_refl _⟩ rfl rfl rfl (fun x9 μ9 hc9 => ?_)
    obtain ⟨rfl, hm9⟩ := hc9
    rw [hm9, hlk]
    simp only [onI]
    refine go_istore_n dX3_plainHold_12 rfl ?_
    refine go_iload_n dX3_plainHold_13 rfl ?_
    refine go_ldc dX3_plainHold_14 kc_X3_73 rfl ?_
    refine go_icmp_ne (tgt := 31) dX3_plainHold_16 rfl (fun h16 => ?_) (fun h16 => ?_)
    ·
      first | exact absurd rfl h16 | exact absurd h16 (by omega)
    ·
      refine go_bipush dX3_plainHold_19 rfl (by decide) ?_
      refine go_aload_n dX3_plainHold_21 rfl ?_
      refine go_getR dX3_plainHold_22 fl_X3_15 (by first | assumption | exact Nat.le_of_ble_eq_true rfl) (by first | assumption | rfl) rfl (by first | assumption | rfl) ?_
      refine go_iload_n dX3_plainHold_25 rfl ?_
      refine go_iaload dX3_plainHold_26 (by first | assumption | exact Nat.le_of_ble_eq_true rfl) (by first | assumption | rfl) (by omega) (by omega) ?_
      try simp (disch := omega) only [ud, ua_same, ua_ne, uf_same, uf_ne]
      refine go_isub dX3_plainHold_27 ⟨by omega, by omega⟩ ?_
      refine go_goto (tgt := 50) dX3_plainHold_28 rfl ?_
      refine go_istore_n dX3_plainHold_50 rfl ?_
      refine go_iload_n dX3_plainHold_51 rfl ?_
      refine go_iconst dX3_plainHold_52 rfl ?_
      refine go_bipush dX3_plainHold_53 rfl (by decide) ?_
      refine go_sI dX3_plainHold_55 (ct_X9_heldWithin _ _ _) ml_X3_78 mc_X9_heldWithin ms_X9_heldWithin ⟨rfl, rfl⟩ ⟨Nat.le_refl _, Nat.le_refl _⟩ rfl rfl rfl (fun x55 μ55 hc55 => ?_)
      obtain ⟨rfl, hm55⟩ := hc55
      rw [hm55]
      exact go_ri dX3_plainHold_58 tyI ⟨Nat.le_refl _, Nat.le_refl _⟩ (⟨by unfold plainH; rw [lawOf_c, hlk]; simp only [Option.map]; omega, fun _ _ => rfl⟩)
  | some i =>
    have hin := (lastK_lt hlk).1
    have hi14 := iW.1
    have hb2 := iS c hc0 hc1
    have hb3 := iL c hc0 hc1
    refine go_aload_n dX3_plainHold_0 rfl ?_
    refine go_getR dX3_plainHold_1 fl_X3_43 (by first | assumption | exact Nat.le_of_ble_eq_true rfl) (by first | assumption | rfl) rfl (by first | assumption | rfl) ?_
    refine go_iconst dX3_plainHold_4 rfl ?_
    refine go_aload_n dX3_plainHold_5 rfl ?_
    refine go_getI 13 dX3_plainHold_6 fl_X3_59 (by first | assumption | exact Nat.le_of_ble_eq_true rfl) (by first | assumption | rfl) rfl rfl ?_
    refine go_vI (ci := 1) dX3_plainHold_9 (ct_X2_lastOf 1 _ iX.1 iX.2) ml_X3_68 mc_X2_lastOf mv_X2_lastOf rfl (by first | assumption | exact Nat.le_of_ble_eq_true rfl) (by first | assumption | rfl) rfl ⟨rfl, rfl⟩ ⟨Nat.le_refl _, Nat.le_refl _⟩ rfl rfl rfl (fun x9 μ9 hc9 => ?_)
    obtain ⟨rfl, hm9⟩ := hc9
    rw [hm9, hlk]
    simp only [onI]
    refine go_istore_n dX3_plainHold_12 rfl ?_
    refine go_iload_n dX3_plainHold_13 rfl ?_
    refine go_ldc dX3_plainHold_14 kc_X3_73 rfl ?_
    refine go_icmp_ne (tgt := 31) dX3_plainHold_16 rfl (fun h16 => ?_) (fun h16 => ?_)
    ·
      refine go_aload_n dX3_plainHold_31 rfl ?_
      refine go_getR dX3_plainHold_32 fl_X3_43 (by first | assumption | exact Nat.le_of_ble_eq_true rfl) (by first | assumption | rfl) rfl (by first | assumption | rfl) ?_
      refine go_iload_n dX3_plainHold_35 rfl ?_
      refine go_aload_n dX3_plainHold_36 rfl ?_
      refine go_getR dX3_plainHold_37 fl_X3_15 (by first | assumption | exact Nat.le_of_ble_eq_true rfl) (by first | assumption | rfl) rfl (by first | assumption | rfl) ?_
      refine go_iload_n dX3_plainHold_40 rfl ?_
      refine go_iaload dX3_plainHold_41 (by first | assumption | exact Nat.le_of_ble_eq_true rfl) (by first | assumption | rfl) (by omega) (by omega) ?_
      try simp (disch := omega) only [ud, ua_same, ua_ne, uf_same, uf_ne]
      refine go_iload_n dX3_plainHold_42 rfl ?_
      refine go_bipush dX3_plainHold_43 rfl (by decide) ?_
      refine go_idiv dX3_plainHold_45 (by omega) (by omega) ?_
      refine go_iconst dX3_plainHold_46 rfl ?_
      refine go_vI (ci := 1) dX3_plainHold_47 (ct_X2_worth (i : Nat) _ _ _ (by omega) (by omega) (by simpa using (iW.2.1 i hin).1) (by simpa using (iW.2.1 i hin).2) (by simpa using (wo_f (pvW (μ (M + 2) c) (c / 6) 0) iW hin).1) (by simpa using (wo_f (pvW (μ (M + 2) c) (c / 6) 0) iW hin).2)) ml_X3_74 mc_X2_worth mv_X2_worth rfl (by first | assumption | exact Nat.le_of_ble_eq_true rfl) (by first | assumption | rfl) rfl ⟨rfl, rfl⟩ ⟨Nat.le_refl _, Nat.le_refl _⟩ rfl rfl rfl (fun x47 μ47 hc47 => ?_)
      simp only [Int.toNat_natCast] at hc47
      obtain ⟨rfl, hf47⟩ := hc47
      refine go_istore_n dX3_plainHold_50 rfl ?_
      refine go_iload_n dX3_plainHold_51 rfl ?_
      refine go_iconst dX3_plainHold_52 rfl ?_
      refine go_bipush dX3_plainHold_53 rfl (by decide) ?_
      refine go_sI dX3_plainHold_55 (ct_X9_heldWithin _ _ _) ml_X3_78 mc_X9_heldWithin ms_X9_heldWithin ⟨rfl, rfl⟩ ⟨Nat.le_refl _, Nat.le_refl _⟩ rfl rfl rfl (fun x55 μ55 hc55 => ?_)
      obtain ⟨rfl, hm55⟩ := hc55
      rw [hm55]
      exact go_ri dX3_plainHold_58 tyI ⟨Nat.le_refl _, Nat.le_refl _⟩ (⟨by unfold plainH; rw [lawOf_c, hlk]; rfl, hf47⟩)
    ·
      first | exact absurd h16 (by omega) | exact absurd rfl h16


