/-! THE CLASS: ways: walks, bounds, walls, reaches -/
def brN (sv : Int → Int → Int) (co rk : Int → Int) : Nat → Int → Int
  | 0, _ => 0
  | n + 1, c => if nb c (bD co rk c) = -1000000005 then 0 else sv c (nb c (bD co rk c)) + brN sv co rk n (nb c (bD co rk c))
theorem brN_s {sv : Int → Int → Int} {co rk : Int → Int} {n : Nat} {c : Int} : brN sv co rk (n + 1) c = if nb c (bD co rk c) = -1000000005 then 0 else sv c (nb c (bD co rk c)) + brN sv co rk n (nb c (bD co rk c)) := rfl
def ceN (co rk : Int → Int) : Nat → Int → Int
  | 0, c => c
  | n + 1, c => if c = -1000000005 then -1000000005 else ceN co rk n (nb c (bD co rk c))
theorem ceN_none {co rk : Int → Int} : ∀ n : Nat, ceN co rk n (-1000000005) = -1000000005
  | 0 => rfl
  | n + 1 => by unfold ceN; rw [if_pos rfl]
def lbS (f : Int → Int) (c : Int) : Nat → Int
  | 0 => 536870912
  | n + 1 => if nb c (n : Nat) = -1000000005 then lbS f c n else min (lbS f c n) (f (nb c (n : Nat)))
def lb (f : Int → Int) (c : Int) : Int := lbS f c 4
theorem lbS_i {f : Int → Int} {c i : Int} (h : 0 ≤ i) : lbS f c (i + 1).toNat = if nb c i = -1000000005 then lbS f c i.toNat else min (lbS f c i.toNat) (f (nb c i)) := by
  rw [show (i + 1).toNat = i.toNat + 1 by omega]
  show (if nb c (i.toNat : Nat) = -1000000005 then _ else min _ (f (nb c (i.toNat : Nat)))) = _
  rw [show ((i.toNat : Nat) : Int) = i by omega]
theorem lbS_cg {f g : Int → Int} {c : Int} (h0 : 0 ≤ c) (h1 : c < 30) (h : ∀ q, 0 ≤ q → q < 30 → f q = g q) : ∀ n : Nat, lbS f c n = lbS g c n
  | 0 => rfl
  | n + 1 => by
    unfold lbS
    rw [lbS_cg h0 h1 h n]
    rcases nb_r (d := (n : Nat)) h0 h1 with e | e
    · rw [if_pos e, if_pos e]
    · rw [h _ e.1 e.2]
theorem lb_cg {f g : Int → Int} {c : Int} (h0 : 0 ≤ c) (h1 : c < 30) (h : ∀ q, 0 ≤ q → q < 30 → f q = g q) : lb f c = lb g c := lbS_cg h0 h1 h 4
theorem lbS_b {f : Int → Int} {c : Int} (h0 : 0 ≤ c) (h1 : c < 30) (h : ∀ q, 0 ≤ q → q < 30 → 0 ≤ f q) : ∀ n : Nat, 0 ≤ lbS f c n ∧ lbS f c n ≤ 536870912
  | 0 => by unfold lbS; omega
  | n + 1 => by
    have h2 := lbS_b h0 h1 h n
    unfold lbS
    rcases nb_r (d := (n : Nat)) h0 h1 with e | e
    · rw [if_pos e]; exact h2
    · rw [if_neg (by omega)]
      have := h _ e.1 e.2
      omega
theorem lb_b {f : Int → Int} {c : Int} (h0 : 0 ≤ c) (h1 : c < 30) (h : ∀ q, 0 ≤ q → q < 30 → 0 ≤ f q) : 0 ≤ lb f c ∧ lb f c ≤ 536870912 := lbS_b h0 h1 h 4
/-- rounds in which all go on from what the round ahead left -/
def gE (g : Int → Int → Int) (s : Int → Int) : Nat → Int → Int
  | 0 => s
  | k + 1 => fun c => min (gE g s k c) (g (lb (gE g s k) c) c)
theorem gE_st {g : Int → Int → Int} {s : Int → Int} {k : Nat} (h : ∀ c, 0 ≤ c → c < 30 → gE g s (k + 1) c = gE g s k c) : ∀ (j : Nat) (c : Int), 0 ≤ c → c < 30 → gE g s (k + j) c = gE g s k c
  | 0, _, _, _ => rfl
  | j + 1, c, c0, c1 => by
    have h2 := gE_st h j
    show min (gE g s (k + j) c) (g (lb (gE g s (k + j)) c) c) = _
    rw [h2 c c0 c1, lb_cg c0 c1 h2]
    exact h c c0 c1
theorem gE_b {g : Int → Int → Int} {s : Int → Int} (hg : ∀ v c, 0 ≤ v → 0 ≤ c → c < 30 → 0 ≤ g v c) (hs : ∀ c, 0 ≤ c → c < 30 → 0 ≤ s c ∧ s c ≤ 536870912) : ∀ (k : Nat) (c : Int), 0 ≤ c → c < 30 → 0 ≤ gE g s k c ∧ gE g s k c ≤ 536870912
  | 0, c, c0, c1 => hs c c0 c1
  | k + 1, c, c0, c1 => by
    have h2 := gE_b hg hs k
    have h3 := lb_b c0 c1 (fun q a b => (h2 q a b).1)
    have h4 := hg _ c h3.1 c0 c1
    have h5 := h2 c c0 c1
    show 0 ≤ min (gE g s k c) (g (lb (gE g s k) c) c) ∧ min (gE g s k c) (g (lb (gE g s k) c) c) ≤ _
    omega
def bE (rk : Int → Int) (a : Int) : Nat → Int → Int := gE (fun v c => v + rk c) (fun c => if c = a then 0 else 536870912)
def sE (st : Int → Int) (a : Int) : Nat → Int → Int := gE (fun v c => max v (st c)) (fun c => if c = a then st a else 536870912)
def cE (rk : Int → Int) (w a : Int) : Nat → Int → Int := gE (fun v c => if rk c ≤ w ∧ v < 536870912 then 0 else 536870912) (fun c => if c = a then 0 else 536870912)
theorem bE_s {rk : Int → Int} {a r c : Int} (h : 0 ≤ r) : bE rk a (r + 1).toNat c = min (bE rk a r.toNat c) (lb (bE rk a r.toNat) c + rk c) := by rw [show (r + 1).toNat = r.toNat + 1 by omega]; rfl
theorem sE_s {st : Int → Int} {a r c : Int} (h : 0 ≤ r) : sE st a (r + 1).toNat c = min (sE st a r.toNat c) (max (lb (sE st a r.toNat) c) (st c)) := by rw [show (r + 1).toNat = r.toNat + 1 by omega]; rfl
theorem cE_s {rk : Int → Int} {w a r c : Int} (h : 0 ≤ r) : cE rk w a (r + 1).toNat c = min (cE rk w a r.toNat c) (if rk c ≤ w ∧ lb (cE rk w a r.toNat) c < 536870912 then 0 else 536870912) := by rw [show (r + 1).toNat = r.toNat + 1 by omega]; rfl
theorem bE_b {rk : Int → Int} {a : Int} (hr : ∀ q, 0 ≤ q → q < 30 → 0 ≤ rk q) (k : Nat) (c : Int) (c0 : 0 ≤ c) (c1 : c < 30) : 0 ≤ bE rk a k c ∧ bE rk a k c ≤ 536870912 := by
  refine gE_b (fun v c h0 a b => ?_) (fun c _ _ => ?_) k c c0 c1
  · have := hr c a b
    show 0 ≤ v + rk c
    omega
  · show 0 ≤ (if c = a then 0 else (536870912 : Int)) ∧ (if c = a then 0 else (536870912 : Int)) ≤ _
    split <;> omega
theorem sE_b {st : Int → Int} {a : Int} (h0 : 0 ≤ st a) (h1 : st a ≤ 60) (k : Nat) (c : Int) (c0 : 0 ≤ c) (c1 : c < 30) : 0 ≤ sE st a k c ∧ sE st a k c ≤ 536870912 := by
  refine gE_b (fun v c h0 a b => ?_) (fun c _ _ => ?_) k c c0 c1
  · show 0 ≤ max v (st c)
    omega
  · show 0 ≤ (if c = a then st a else (536870912 : Int)) ∧ (if c = a then st a else (536870912 : Int)) ≤ _
    split <;> omega
theorem cE_01 {rk : Int → Int} {w a : Int} : ∀ (k : Nat) (c : Int), cE rk w a k c = 0 ∨ cE rk w a k c = 536870912
  | 0, c => by
    show (if c = a then 0 else (536870912 : Int)) = 0 ∨ (if c = a then 0 else (536870912 : Int)) = _
    split <;> omega
  | k + 1, c => by
    have h := cE_01 (rk := rk) (w := w) (a := a) k c
    show min (cE rk w a k c) (if rk c ≤ w ∧ lb (cE rk w a k) c < 536870912 then 0 else 536870912) = 0 ∨ min (cE rk w a k c) (if rk c ≤ w ∧ lb (cE rk w a k) c < 536870912 then 0 else 536870912) = _
    split <;> omega
theorem cnt_cg {p q : Int → Bool} {n : Nat} (h : ∀ i : Int, 0 ≤ i → i < (n : Nat) → p i = q i) : cnt p n = cnt q n := by
  have h1 := cnt_mono (p := p) (q := q) n (fun i a b e => by rw [← h i a b]; exact e)
  have h2 := cnt_mono (p := q) (q := p) n (fun i a b e => by rw [h i a b]; exact e)
  omega
theorem cnt_up {p q : Int → Bool} {j : Int} : ∀ n : Nat, 0 ≤ j → j < (n : Nat) → ¬ p j = true → q j = true → (∀ i : Int, 0 ≤ i → i < (n : Nat) → i ≠ j → p i = q i) → cnt q n = cnt p n + 1
  | 0, h0, h1, _, _, _ => absurd h1 (by omega)
  | n + 1, h0, h1, h2, h3, h => by
    by_cases e : j = (n : Nat)
    · subst e
      have h4 := cnt_cg (p := p) (q := q) (n := n) (fun i a b => h i a (by omega) (by omega))
      unfold cnt
      rw [if_pos h3, if_neg h2]
      omega
    · have h4 := cnt_up (p := p) (q := q) n h0 (by omega) h2 h3 (fun i a b c => h i a (by omega) c)
      have h5 := h (n : Nat) (by omega) (by omega) (by omega)
      unfold cnt
      rw [h5, h4]
      omega
theorem cnt_1 {a : Int} (h0 : 0 ≤ a) (h1 : a < 30) {f : Int → Int} (hf : ∀ c, 0 ≤ c → c < 30 → f c = if c = a then 0 else 536870912) : cnt (fun c => decide (f c < 536870912)) 30 = 1 := by
  have h2 : ∀ n : Nat, cnt (fun _ => false) n = 0 := by
    intro n
    induction n with
    | zero => rfl
    | succ n ih => unfold cnt; rw [ih]; rfl
  rw [cnt_up (p := fun _ => false) (j := a) 30 h0 h1 (by decide) (by rw [hf a h0 h1, if_pos rfl]; rfl) (fun i a0 a1 ne => by rw [hf i a0 a1, if_neg ne]; rfl), h2]

set_option maxRecDepth 100000 in
set_option maxHeartbeats 4000000 in
theorem ct_X8_breathFrom {l : Launch} {D : va_G} {cA : Nat → ClassId} {μ : Mem} {M : Nat} (hMt : isMt M) (hB : wyB μ M) (hI : mtI μ M) (c : Int) (hc0 : 0 ≤ c) (hc1 : c < 30) : CtN l D cA yX8_breathFrom cX8_breathFrom 8 (some .int) 5 [vr 53, vr M, vi c] μ (Pi (fun x μ' => x = brN (fun a b => stepV (LM μ M) (μ (M + 2) b) (upV a b)) (μ 54) (μ (M + 5)) (μ 54 c % 64).toNat c ∧ ∀ q, q ≠ 3 → μ' q = μ q)) := by
  refine Ct.of (own := RX8) (by decide +kernel) rfl (fun σ => Nat.le_of_ble_eq_true rfl) (fun hM hP ha => ?_)
  obtain ⟨hM32, hM53, hA0, hA1, hA2, hA3, hA4, hA5, hA6, hs0, hs1, hs2, hs3, hs4, hs5, hs6, hr0, hr1, hr2, hr3, hr4, hr5, hr6⟩ := mt_f hMt
  obtain ⟨iK, iS, iL, iT, iTn, iD, iH, iF, iX, iW⟩ := id hI
  have loop : ∀ (m : Nat) (i : Int) (acc : Int) (e : Int) (μ1 : Mem), (μ 54 c % 64) - i = (m : Nat) → 0 ≤ i → (0 ≤ e) → (e < 30) → (0 ≤ acc) → (acc ≤ 99 * i) → (brN (fun a b => stepV (LM μ M) (μ (M + 2) b) (upV a b)) (μ 54) (μ (M + 5)) (μ 54 c % 64).toNat c = acc + brN (fun a b => stepV (LM μ M) (μ (M + 2) b) (upV a b)) (μ 54) (μ (M + 5)) (μ 54 c % 64 - i).toNat e) → (∀ q, q ≠ 3 → μ1 q = μ q) → Go l D cA none RX8 cX8_breathFrom 8 (some .int) (5, 0, 0) (QN (Pi (fun x μ' => x = brN (fun a b => stepV (LM μ M) (μ (M + 2) b) (upV a b)) (μ 54) (μ (M + 5)) (μ 54 c % 64).toNat c ∧ ∀ q, q ≠ 3 → μ' q = μ q))) 113 ρ0 0 0 15 [(0, vr 53), (1, vr M), (2, vi c), (3, vi (μ 54 c % 64)), (4, vi acc), (5, vi e), (6, vi i)] [] μ1 := by
    intro m
    induction m with
    | zero =>
      intro i acc e μ1 hm hv he0 he1 ha0 ha1 hx hf
      refine go_iload dX8_breathFrom_15 rfl ?_
      refine go_iload_n dX8_breathFrom_17 rfl ?_
      refine go_icmp_ge (tgt := 68) dX8_breathFrom_18 rfl (fun h18 => ?_) (fun h18 => ?_)
      ·
        refine go_iload dX8_breathFrom_68 rfl ?_
        exact go_ri dX8_breathFrom_70 tyI ⟨Nat.le_refl _, Nat.le_refl _⟩ (⟨by rw [hx, show (μ 54 c % 64 - i).toNat = 0 by omega]; unfold brN; omega, hf⟩)
      ·
        exact absurd h18 (by omega)
    | succ m ih =>
      intro i acc e μ1 hm hv he0 he1 ha0 ha1 hx hf
      refine go_iload dX8_breathFrom_15 rfl ?_
      refine go_iload_n dX8_breathFrom_17 rfl ?_
      refine go_icmp_ge (tgt := 68) dX8_breathFrom_18 rfl (fun h18 => ?_) (fun h18 => ?_)
      ·
        exact absurd h18 (by omega)
      ·
        have hB1 : wyB μ1 M := fun q q0 q1 => by rw [hf 54 (by omega), hf (M + 5) (by omega)]; exact hB q q0 q1
        rw [show (μ 54 c % 64 - i).toNat = (μ 54 c % 64 - (i + 1)).toNat + 1 by omega] at hx
        rw [brN_s] at hx
        refine go_iload dX8_breathFrom_21 rfl ?_
        refine go_aload_n dX8_breathFrom_23 rfl ?_
        refine go_aload_n dX8_breathFrom_24 rfl ?_
        refine go_iload dX8_breathFrom_25 rfl ?_
        refine go_vI (ci := 7) dX8_breathFrom_27 (ct_X8_bestDirection hMt hB1 _ he0 he1) ml_X8_28 mc_X8_bestDirection mv_X8_bestDirection rfl (by first | assumption | exact Nat.le_of_ble_eq_true rfl) (by first | assumption | rfl) rfl ⟨rfl, rfl⟩ ⟨Nat.le_refl _, Nat.le_refl _⟩ rfl rfl rfl (fun x27 μ27 hc27 => ?_)
        obtain ⟨rfl, hm27⟩ := hc27
        rw [hm27, hf 54 (by omega), hf (M + 5) (by omega)]
        refine go_sI dX8_breathFrom_30 (ct_X9_neighbour _ _ he0 he1) ml_X8_36 mc_X9_neighbour ms_X9_neighbour ⟨rfl, rfl⟩ ⟨Nat.le_refl _, Nat.le_refl _⟩ rfl rfl rfl (fun x30 μ30 hc30 => ?_)
        obtain ⟨rfl, hm30⟩ := hc30
        rw [hm30]
        refine go_istore dX8_breathFrom_33 rfl ?_
        refine go_iload dX8_breathFrom_35 rfl ?_
        refine go_ldc dX8_breathFrom_37 kc_X8_40 rfl ?_
        refine go_icmp_ne (tgt := 45) dX8_breathFrom_39 rfl (fun h39 => ?_) (fun h39 => ?_)
        ·
          have hn := nb_r (d := bD (μ 54) (μ (M + 5)) e) he0 he1
          rw [if_neg (by omega)] at hx
          have hsb := iS (nb e (bD (μ 54) (μ (M + 5)) e)) (by omega) (by omega)
          have hvb := sv_b (LL := LM μ M) hsb.1 hsb.2 (up_b (a := e) (b := nb e (bD (μ 54) (μ (M + 5)) e))).1 up_b.2
          refine go_iload dX8_breathFrom_45 rfl ?_
          refine go_aload_n dX8_breathFrom_47 rfl ?_
          refine go_iload dX8_breathFrom_48 rfl ?_
          refine go_iload dX8_breathFrom_50 rfl ?_
          refine go_vI (ci := 2) dX8_breathFrom_52 (ct_X3_stepInto hMt (mtI_fr hM32 (fr3 hf) hI) _ _ he0 he1 (by omega) (by omega)) ml_X8_48 mc_X3_stepInto mv_X3_stepInto rfl (by first | assumption | exact Nat.le_of_ble_eq_true rfl) (by first | assumption | rfl) rfl ⟨rfl, rfl⟩ ⟨Nat.le_refl _, Nat.le_refl _⟩ rfl rfl rfl (fun x52 μ52 hc52 => ?_)
          rw [LM_fr hM32 hI (fr3 hf), hf (M + 2) (by omega)] at hc52
          obtain ⟨rfl, hf52⟩ := hc52
          refine go_iadd dX8_breathFrom_55 ⟨by omega, by omega⟩ ?_
          refine go_istore dX8_breathFrom_56 rfl ?_
          refine go_iload dX8_breathFrom_58 rfl ?_
          refine go_istore dX8_breathFrom_60 rfl ?_
          refine go_iinc dX8_breathFrom_62 rfl rfl ⟨by omega, by omega⟩ ?_
          refine go_goto (tgt := 15) dX8_breathFrom_65 rfl ?_
          exact go_drop (ih _ _ _ μ52 (by omega) (by omega) (by omega) (by omega) (by omega) (by omega) (by rw [hx]; exact (Int.add_assoc _ _ _).symm) (fun q hq => (hf52 q hq).trans (hf q hq))) rfl
        ·
          refine go_iload dX8_breathFrom_42 rfl ?_
          exact go_ri dX8_breathFrom_44 tyI ⟨Nat.le_refl _, Nat.le_refl _⟩ (⟨by rw [hx, if_pos (by omega)]; omega, hf⟩)
  refine go_aload_n dX8_breathFrom_0 rfl ?_
  refine go_iload_n dX8_breathFrom_1 rfl ?_
  refine go_vI (ci := 7) dX8_breathFrom_2 (ct_X8_stepsFrom _ hc0 hc1 (hB c hc0 hc1).1.1) ml_X8_44 mc_X8_stepsFrom mv_X8_stepsFrom rfl (by first | assumption | exact Nat.le_of_ble_eq_true rfl) (by first | assumption | rfl) rfl ⟨rfl, rfl⟩ ⟨Nat.le_refl _, Nat.le_refl _⟩ rfl rfl rfl (fun x2 μ2 hc2 => ?_)
  obtain ⟨rfl, hm2⟩ := hc2
  rw [hm2]
  refine go_istore_n dX8_breathFrom_5 rfl ?_
  refine go_iconst dX8_breathFrom_6 rfl ?_
  refine go_istore dX8_breathFrom_7 rfl ?_
  refine go_iload_n dX8_breathFrom_9 rfl ?_
  refine go_istore dX8_breathFrom_10 rfl ?_
  refine go_iconst dX8_breathFrom_12 rfl ?_
  refine go_istore dX8_breathFrom_13 rfl ?_
  exact go_drop (loop (μ 54 c % 64).toNat 0 0 _ μ (by omega) (by omega) hc0 hc1 (by omega) (by omega) (by rw [Int.sub_zero, Int.zero_add]) (fun _ _ => rfl)) rfl

set_option maxRecDepth 100000 in
set_option maxHeartbeats 4000000 in
theorem ct_X8_cellFrom {l : Launch} {D : va_G} {cA : Nat → ClassId} {μ : Mem} {M : Nat} (hMt : isMt M) (hB : wyB μ M) (c pl : Int) (hc0 : 0 ≤ c) (hc1 : c < 30) (hp : 0 ≤ pl) : CtN l D cA yX8_cellFrom cX8_cellFrom 6 (some .int) 4 [vr 53, vr M, vi c, vi pl] μ (Pi (fun x μ' => x = (if μ 54 c % 64 < pl then -1000000005 else ceN (μ 54) (μ (M + 5)) pl.toNat c) ∧ μ' = μ)) := by
  refine Ct.of (own := RX8) (by decide +kernel) rfl (fun σ => Nat.le_of_ble_eq_true rfl) (fun hM hP ha => ?_)
  obtain ⟨hM32, hM53, hA0, hA1, hA2, hA3, hA4, hA5, hA6, hs0, hs1, hs2, hs3, hs4, hs5, hs6, hr0, hr1, hr2, hr3, hr4, hr5, hr6⟩ := mt_f hMt
  have loop : ∀ (m : Nat) (i : Int) (e : Int), pl - i = (m : Nat) → 0 ≤ i → (¬ μ 54 c % 64 < pl) → (e = -1000000005 ∨ (0 ≤ e ∧ e < 30)) → (ceN (μ 54) (μ (M + 5)) pl.toNat c = ceN (μ 54) (μ (M + 5)) (pl - i).toNat e) → Go l D cA none RX8 cX8_cellFrom 6 (some .int) (4, 0, 0) (QN (Pi (fun x μ' => x = (if μ 54 c % 64 < pl then -1000000005 else ceN (μ 54) (μ (M + 5)) pl.toNat c) ∧ μ' = μ))) 113 ρ0 0 0 18 [(0, vr 53), (1, vr M), (2, vi c), (3, vi pl), (4, vi e), (5, vi i)] [] μ := by
    intro m
    induction m with
    | zero =>
      intro i e hm hv hst he hx
      refine go_iload dX8_cellFrom_18 rfl ?_
      refine go_iload_n dX8_cellFrom_20 rfl ?_
      refine go_icmp_ge (tgt := 51) dX8_cellFrom_21 rfl (fun h21 => ?_) (fun h21 => ?_)
      ·
        refine go_iload dX8_cellFrom_51 rfl ?_
        exact go_ri dX8_cellFrom_53 tyI ⟨Nat.le_refl _, Nat.le_refl _⟩ (⟨by rw [if_neg hst, hx, show (pl - i).toNat = 0 by omega]; rfl, rfl⟩)
      ·
        exact absurd h21 (by omega)
    | succ m ih =>
      intro i e hm hv hst he hx
      refine go_iload dX8_cellFrom_18 rfl ?_
      refine go_iload_n dX8_cellFrom_20 rfl ?_
      refine go_icmp_ge (tgt := 51) dX8_cellFrom_21 rfl (fun h21 => ?_) (fun h21 => ?_)
      ·
        exact absurd h21 (by omega)
      ·
        refine go_iload dX8_cellFrom_24 rfl ?_
        refine go_ldc dX8_cellFrom_26 kc_X8_40 rfl ?_
        refine go_icmp_eq (tgt := 51) dX8_cellFrom_28 rfl (fun h28 => ?_) (fun h28 => ?_)
        ·
          refine go_iload dX8_cellFrom_51 rfl ?_
          exact go_ri dX8_cellFrom_53 tyI ⟨Nat.le_refl _, Nat.le_refl _⟩ (⟨by rw [if_neg hst, hx, show e = -1000000005 by omega, ceN_none], rfl⟩)
        ·
          refine go_iload dX8_cellFrom_31 rfl ?_
          refine go_aload_n dX8_cellFrom_33 rfl ?_
          refine go_aload_n dX8_cellFrom_34 rfl ?_
          refine go_iload dX8_cellFrom_35 rfl ?_
          refine go_vI (ci := 7) dX8_cellFrom_37 (ct_X8_bestDirection hMt hB _ (by omega) (by omega)) ml_X8_28 mc_X8_bestDirection mv_X8_bestDirection rfl (by first | assumption | exact Nat.le_of_ble_eq_true rfl) (by first | assumption | rfl) rfl ⟨rfl, rfl⟩ ⟨Nat.le_refl _, Nat.le_refl _⟩ rfl rfl rfl (fun x37 μ37 hc37 => ?_)
          obtain ⟨rfl, hm37⟩ := hc37
          rw [hm37]
          refine go_sI dX8_cellFrom_40 (ct_X9_neighbour _ _ (by omega) (by omega)) ml_X8_36 mc_X9_neighbour ms_X9_neighbour ⟨rfl, rfl⟩ ⟨Nat.le_refl _, Nat.le_refl _⟩ rfl rfl rfl (fun x40 μ40 hc40 => ?_)
          obtain ⟨rfl, hm40⟩ := hc40
          rw [hm40]
          refine go_istore dX8_cellFrom_43 rfl ?_
          refine go_iinc dX8_cellFrom_45 rfl rfl ⟨by omega, by omega⟩ ?_
          refine go_goto (tgt := 18) dX8_cellFrom_48 rfl ?_
          refine go_drop (ih _ _ (by omega) (by omega) hst (nb_r (by omega) (by omega)) ?_) rfl
          rw [hx, show (pl - i).toNat = (pl - (i + 1)).toNat + 1 by omega]
          show (if e = -1000000005 then _ else _) = _
          rw [if_neg (by omega)]
  refine go_iload_n dX8_cellFrom_0 rfl ?_
  refine go_aload_n dX8_cellFrom_1 rfl ?_
  refine go_iload_n dX8_cellFrom_2 rfl ?_
  refine go_vI (ci := 7) dX8_cellFrom_3 (ct_X8_stepsFrom _ hc0 hc1 (hB c hc0 hc1).1.1) ml_X8_44 mc_X8_stepsFrom mv_X8_stepsFrom rfl (by first | assumption | exact Nat.le_of_ble_eq_true rfl) (by first | assumption | rfl) rfl ⟨rfl, rfl⟩ ⟨Nat.le_refl _, Nat.le_refl _⟩ rfl rfl rfl (fun x3 μ3 hc3 => ?_)
  obtain ⟨rfl, hm3⟩ := hc3
  rw [hm3]
  refine go_icmp_le (tgt := 12) dX8_cellFrom_6 rfl (fun h6 => ?_) (fun h6 => ?_)
  ·
    refine go_iload_n dX8_cellFrom_12 rfl ?_
    refine go_istore dX8_cellFrom_13 rfl ?_
    refine go_iconst dX8_cellFrom_15 rfl ?_
    refine go_istore dX8_cellFrom_16 rfl ?_
    exact go_drop (loop pl.toNat 0 _ (by omega) (by omega) (by omega) (Or.inr ⟨hc0, hc1⟩) (by rw [Int.sub_zero])) rfl
  ·
    refine go_ldc dX8_cellFrom_9 kc_X8_40 rfl ?_
    exact go_ri dX8_cellFrom_11 tyI ⟨Nat.le_refl _, Nat.le_refl _⟩ (⟨by rw [if_pos (by omega)], rfl⟩)

set_option maxRecDepth 100000 in
set_option maxHeartbeats 4000000 in
theorem ct_X8_leastBeside {l : Launch} {D : va_G} {cA : Nat → ClassId} {μ : Mem} (c : Int) (hc0 : 0 ≤ c) (hc1 : c < 30) : CtN l D cA yX8_leastBeside cX8_leastBeside 5 (some .int) 2 [vr 53, vi c] μ (Pi (fun x μ' => x = lb (μ 55) c ∧ μ' = μ)) := by
  refine Ct.of (own := RX8) (by decide +kernel) rfl (fun σ => Nat.le_of_ble_eq_true rfl) (fun hM hP ha => ?_)
  have loop : ∀ (m : Nat) (i : Int) (e : Int), 4 - i = (m : Nat) → 0 ≤ i → (e = lbS (μ 55) c i.toNat) → Go l D cA none RX8 cX8_leastBeside 5 (some .int) (2, 0, 0) (QN (Pi (fun x μ' => x = lb (μ 55) c ∧ μ' = μ))) 113 ρ0 0 0 5 [(0, vr 53), (1, vi c), (2, vi e), (3, vi i)] [] μ := by
    intro m
    induction m with
    | zero =>
      intro i e hm hv he
      refine go_iload_n dX8_leastBeside_5 rfl ?_
      refine go_iconst dX8_leastBeside_6 rfl ?_
      refine go_icmp_ge (tgt := 42) dX8_leastBeside_7 rfl (fun h7 => ?_) (fun h7 => ?_)
      ·
        refine go_iload_n dX8_leastBeside_42 rfl ?_
        exact go_ri dX8_leastBeside_43 tyI ⟨Nat.le_refl _, Nat.le_refl _⟩ (⟨by rw [he, show i.toNat = 4 by omega]; rfl, rfl⟩)
      ·
        exact absurd h7 (by omega)
    | succ m ih =>
      intro i e hm hv he
      refine go_iload_n dX8_leastBeside_5 rfl ?_
      refine go_iconst dX8_leastBeside_6 rfl ?_
      refine go_icmp_ge (tgt := 42) dX8_leastBeside_7 rfl (fun h7 => ?_) (fun h7 => ?_)
      ·
        exact absurd h7 (by omega)
      ·
        refine go_iload_n dX8_leastBeside_10 rfl ?_
        refine go_iload_n dX8_leastBeside_11 rfl ?_
        refine go_sI dX8_leastBeside_12 (ct_X9_neighbour _ _ hc0 hc1) ml_X8_36 mc_X9_neighbour ms_X9_neighbour ⟨rfl, rfl⟩ ⟨Nat.le_refl _, Nat.le_refl _⟩ rfl rfl rfl (fun x12 μ12 hc12 => ?_)
        obtain ⟨rfl, hm12⟩ := hc12
        rw [hm12]
        refine go_istore dX8_leastBeside_15 rfl ?_
        refine go_iload dX8_leastBeside_17 rfl ?_
        refine go_ldc dX8_leastBeside_19 kc_X8_40 rfl ?_
        refine go_icmp_eq (tgt := 36) dX8_leastBeside_21 rfl (fun h21 => ?_) (fun h21 => ?_)
        ·
          refine go_iinc dX8_leastBeside_36 rfl rfl ⟨by omega, by omega⟩ ?_
          refine go_goto (tgt := 5) dX8_leastBeside_39 rfl ?_
          exact go_drop (ih _ _ (by omega) (by omega) (by rw [lbS_i hv, if_pos (by omega)]; exact he)) rfl
        ·
          have hn := nb_r (d := i) hc0 hc1
          refine go_iload_n dX8_leastBeside_24 rfl ?_
          refine go_aload_n dX8_leastBeside_25 rfl ?_
          refine go_getR dX8_leastBeside_26 fl_X8_15 (by first | assumption | exact Nat.le_of_ble_eq_true rfl) (by first | assumption | rfl) rfl (by first | assumption | rfl) ?_
          refine go_iload dX8_leastBeside_29 rfl ?_
          refine go_iaload dX8_leastBeside_31 (by first | assumption | exact Nat.le_of_ble_eq_true rfl) (by first | assumption | rfl) (by omega) (by omega) ?_
          try simp (disch := omega) only [ud, ua_same, ua_ne, uf_same, uf_ne]
          refine go_min dX8_leastBeside_32 mw_X8_60 rfl rfl ⟨Nat.le_refl _, Nat.le_refl _⟩ ?_
          refine go_istore_n dX8_leastBeside_35 rfl ?_
          refine go_iinc dX8_leastBeside_36 rfl rfl ⟨by omega, by omega⟩ ?_
          refine go_goto (tgt := 5) dX8_leastBeside_39 rfl ?_
          exact go_drop (ih _ _ (by omega) (by omega) (by rw [lbS_i hv, if_neg (by omega), he])) rfl
  refine go_ldc dX8_leastBeside_0 kc_X8_18 rfl ?_
  refine go_istore_n dX8_leastBeside_2 rfl ?_
  refine go_iconst dX8_leastBeside_3 rfl ?_
  refine go_istore_n dX8_leastBeside_4 rfl ?_
  exact go_drop (loop 4 0 _ (by omega) (by omega) rfl) rfl

set_option maxRecDepth 100000 in
set_option maxHeartbeats 4000000 in
theorem ct_X8_leastWithin {l : Launch} {D : va_G} {cA : Nat → ClassId} {μ : Mem} {M : Nat} (hMt : isMt M) (hI : mtI μ M) (a t n : Int) (ha0 : 0 ≤ a) (ha1 : a < 30) (ht0 : 0 ≤ t) (ht1 : t < 30) (hn : 0 ≤ n) (hn40 : n ≤ 40) : CtN l D cA yX8_leastWithin cX8_leastWithin 9 (some .int) 6 [vr 53, vr M, vi a, vi t, vi n] μ (Pi (fun x μ' => x = (if bE (rkC μ M) a n.toNat t < 536870912 then bE (rkC μ M) a n.toNat t else -1000000005) ∧ ∀ q, q ≠ 3 → q ≠ M + 5 → q ≠ 54 → q ≠ 55 → μ' q = μ q)) := by
  refine Ct.of (own := RX8) (by decide +kernel) rfl (fun σ => Nat.le_of_ble_eq_true rfl) (fun hM hP ha => ?_)
  obtain ⟨hM32, hM53, hA0, hA1, hA2, hA3, hA4, hA5, hA6, hs0, hs1, hs2, hs3, hs4, hs5, hs6, hr0, hr1, hr2, hr3, hr4, hr5, hr6⟩ := mt_f hMt
  obtain ⟨iK, iS, iL, iT, iTn, iD, iH, iF, iX, iW⟩ := id hI
  have hr : ∀ q : Int, 0 ≤ q → q < 30 → 0 ≤ rkC μ M q ∧ rkC μ M q ≤ 2996 := fun q q0 q1 => rkC_b hI q q0 q1
  have loop : ∀ (m : Nat) (r b : Int) (μ1 : Mem), n - r = (m : Nat) → 0 ≤ r → (∀ c, 0 ≤ c → c < 30 → μ1 (M + 5) c = rkC μ M c) → (∀ c, 0 ≤ c → c < 30 → μ1 54 c = bE (rkC μ M) a r.toNat c) → (b = 0 → ∀ c, 0 ≤ c → c < 30 → bE (rkC μ M) a (r.toNat + 1) c = bE (rkC μ M) a r.toNat c) → (∀ q, q ≠ 3 → q ≠ M + 5 → q ≠ 54 → q ≠ 55 → μ1 q = μ q) → Go l D cA none RX8 cX8_leastWithin 9 (some .int) (6, 0, 0) (QN (Pi (fun x μ' => x = (if bE (rkC μ M) a n.toNat t < 536870912 then bE (rkC μ M) a n.toNat t else -1000000005) ∧ ∀ q, q ≠ 3 → q ≠ M + 5 → q ≠ 54 → q ≠ 55 → μ' q = μ q))) 113 ρ0 0 0 16 [(0, vr 53), (1, vr M), (2, vi a), (3, vi t), (4, vi n), (5, vi b), (6, vi r)] [] μ1 := by
    intro m
    induction m with
    | zero =>
      intro r b μ1 hm hv hrk heq hbb hfr
      refine go_iload dX8_leastWithin_16 rfl ?_
      refine go_iload dX8_leastWithin_18 rfl ?_
      refine go_icmp_ge (tgt := 108) dX8_leastWithin_20 rfl (fun h20 => ?_) (fun h20 => ?_)
      ·
        have hE : ∀ c, 0 ≤ c → c < 30 → μ1 54 c = bE (rkC μ M) a n.toNat c := fun c c0 c1 => by
          rw [heq c c0 c1, show r.toNat = n.toNat by omega]
        refine go_aload_n dX8_leastWithin_108 rfl ?_
        refine go_getR dX8_leastWithin_109 fl_X8_9 (by first | assumption | exact Nat.le_of_ble_eq_true rfl) (by first | assumption | rfl) rfl (by first | assumption | rfl) ?_
        refine go_iload_n dX8_leastWithin_112 rfl ?_
        refine go_iaload dX8_leastWithin_113 (by first | assumption | exact Nat.le_of_ble_eq_true rfl) (by first | assumption | rfl) (by omega) (by omega) ?_
        refine go_ldc dX8_leastWithin_114 kc_X8_18 rfl ?_
        refine go_icmp_ge (tgt := 128) dX8_leastWithin_116 rfl (fun h116 => ?_) (fun h116 => ?_)
        ·
          refine go_ldc dX8_leastWithin_128 kc_X8_40 rfl ?_
          exact go_ri dX8_leastWithin_130 tyI ⟨Nat.le_refl _, Nat.le_refl _⟩ (⟨by rw [← hE t ht0 ht1, if_neg (by omega)], hfr⟩)
        ·
          refine go_aload_n dX8_leastWithin_119 rfl ?_
          refine go_getR dX8_leastWithin_120 fl_X8_9 (by first | assumption | exact Nat.le_of_ble_eq_true rfl) (by first | assumption | rfl) rfl (by first | assumption | rfl) ?_
          refine go_iload_n dX8_leastWithin_123 rfl ?_
          refine go_iaload dX8_leastWithin_124 (by first | assumption | exact Nat.le_of_ble_eq_true rfl) (by first | assumption | rfl) (by omega) (by omega) ?_
          refine go_goto (tgt := 130) dX8_leastWithin_125 rfl ?_
          exact go_ri dX8_leastWithin_130 tyI ⟨Nat.le_refl _, Nat.le_refl _⟩ (⟨by rw [← hE t ht0 ht1, if_pos (by omega)], hfr⟩)
      ·
        exact absurd h20 (by omega)
    | succ m ih =>
      intro r b μ1 hm hv hrk heq hbb hfr
      have hr0 : 0 ≤ r := hv
      have inn : ∀ (m2 : Nat) (i b2 : Int) (μ1 : Mem), 30 - i = (m2 : Nat) → 0 ≤ i → (∀ c, 0 ≤ c → c < 30 → μ1 (M + 5) c = rkC μ M c) → (∀ c, 0 ≤ c → c < i → μ1 54 c = bE (rkC μ M) a (r + 1).toNat c) → (∀ c, i ≤ c → c < 30 → μ1 54 c = bE (rkC μ M) a r.toNat c) → (∀ c, 0 ≤ c → c < 30 → μ1 55 c = bE (rkC μ M) a r.toNat c) → (b2 = 0 → ∀ c, 0 ≤ c → c < i → bE (rkC μ M) a (r + 1).toNat c = bE (rkC μ M) a r.toNat c) → (∀ q, q ≠ 3 → q ≠ M + 5 → q ≠ 54 → q ≠ 55 → μ1 q = μ q) → Go l D cA none RX8 cX8_leastWithin 9 (some .int) (6, 0, 0) (QN (Pi (fun x μ' => x = (if bE (rkC μ M) a n.toNat t < 536870912 then bE (rkC μ M) a n.toNat t else -1000000005) ∧ ∀ q, q ≠ 3 → q ≠ M + 5 → q ≠ 54 → q ≠ 55 → μ' q = μ q))) 113 ρ0 0 0 49 [(0, vr 53), (1, vr M), (2, vi a), (3, vi t), (4, vi n), (5, vi b2), (6, vi r), (7, vi i)] [] μ1 := by
        intro m2
        induction m2 with
        | zero =>
          intro i b2 μ1 hm2 hv2 hrk h1_ h0_ h55 hb2 hfr
          refine go_iload dX8_leastWithin_49 rfl ?_
          refine go_bipush dX8_leastWithin_51 rfl (by decide) ?_
          refine go_icmp_ge (tgt := 102) dX8_leastWithin_53 rfl (fun h53 => ?_) (fun h53 => ?_)
          ·
            refine go_iinc dX8_leastWithin_102 rfl rfl ⟨by omega, by omega⟩ ?_
            refine go_goto (tgt := 16) dX8_leastWithin_105 rfl ?_
            have hnx : ∀ c, 0 ≤ c → c < 30 → b2 = 0 → bE (rkC μ M) a ((r + 1).toNat + 1) c = bE (rkC μ M) a (r + 1).toNat c := fun c c0 c1 hb => by
              have hs := gE_st (k := r.toNat) (fun c c0 c1 => (by have := hb2 hb c c0 (by omega); rw [show (r + 1).toNat = r.toNat + 1 by omega] at this; exact this)) 2 c c0 c1
              have hs1 := gE_st (k := r.toNat) (fun c c0 c1 => (by have := hb2 hb c c0 (by omega); rw [show (r + 1).toNat = r.toNat + 1 by omega] at this; exact this)) 1 c c0 c1
              rw [show (r + 1).toNat = r.toNat + 1 by omega]
              exact hs.trans hs1.symm
            exact go_drop (ih _ _ μ1 (by omega) (by omega) hrk (fun c c0 c1 => h1_ c c0 (by omega)) (fun hb c c0 c1 => hnx c c0 c1 hb) hfr) rfl
          ·
            exact absurd h53 (by omega)
        | succ m2 ih2 =>
          intro i b2 μ1 hm2 hv2 hrk h1_ h0_ h55 hb2 hfr
          refine go_iload dX8_leastWithin_49 rfl ?_
          refine go_bipush dX8_leastWithin_51 rfl (by decide) ?_
          refine go_icmp_ge (tgt := 102) dX8_leastWithin_53 rfl (fun h53 => ?_) (fun h53 => ?_)
          ·
            exact absurd h53 (by omega)
          ·
            have hlb := lb_b (f := bE (rkC μ M) a r.toNat) hv2 (by omega) (fun q q0 q1 => (bE_b (fun q a b => (hr q a b).1) r.toNat q q0 q1).1)
            have hri := hr i hv2 (by omega)
            have hki := hrk i hv2 (by omega)
            have hui := h0_ i (by omega) (by omega)
            have hsi := bE_s (rk := rkC μ M) (a := a) (c := i) hr0
            refine go_aload_n dX8_leastWithin_56 rfl ?_
            refine go_iload dX8_leastWithin_57 rfl ?_
            refine go_vI (ci := 7) dX8_leastWithin_59 (ct_X8_leastBeside _ hv2 (by omega)) ml_X8_57 mc_X8_leastBeside mv_X8_leastBeside rfl (by first | assumption | exact Nat.le_of_ble_eq_true rfl) (by first | assumption | rfl) rfl ⟨rfl, rfl⟩ ⟨Nat.le_refl _, Nat.le_refl _⟩ rfl rfl rfl (fun x59 μ59 hc59 => ?_)
            obtain ⟨rfl, hm59⟩ := hc59
            rw [hm59, lb_cg hv2 (by omega) h55]
            refine go_aload_n dX8_leastWithin_62 rfl ?_
            refine go_getR dX8_leastWithin_63 fl_X8_41 (by first | assumption | exact Nat.le_of_ble_eq_true rfl) (by first | assumption | rfl) rfl (by first | assumption | rfl) ?_
            refine go_iload dX8_leastWithin_66 rfl ?_
            refine go_iaload dX8_leastWithin_68 (by first | assumption | exact Nat.le_of_ble_eq_true rfl) (by first | assumption | rfl) (by omega) (by omega) ?_
            try simp (disch := omega) only [ud, ua_same, ua_ne, uf_same, uf_ne]
            refine go_iadd dX8_leastWithin_69 ⟨by omega, by omega⟩ ?_
            refine go_istore dX8_leastWithin_70 rfl ?_
            refine go_iload dX8_leastWithin_72 rfl ?_
            refine go_aload_n dX8_leastWithin_74 rfl ?_
            refine go_getR dX8_leastWithin_75 fl_X8_9 (by first | assumption | exact Nat.le_of_ble_eq_true rfl) (by first | assumption | rfl) rfl (by first | assumption | rfl) ?_
            refine go_iload dX8_leastWithin_78 rfl ?_
            refine go_iaload dX8_leastWithin_80 (by first | assumption | exact Nat.le_of_ble_eq_true rfl) (by first | assumption | rfl) (by omega) (by omega) ?_
            try simp (disch := omega) only [ud, ua_same, ua_ne, uf_same, uf_ne]
            refine go_icmp_ge (tgt := 96) dX8_leastWithin_81 rfl (fun h81 => ?_) (fun h81 => ?_)
            ·
              refine go_iinc dX8_leastWithin_96 rfl rfl ⟨by omega, by omega⟩ ?_
              refine go_goto (tgt := 49) dX8_leastWithin_99 rfl ?_
              refine go_drop (ih2 _ _ μ1 (by omega) (by omega) hrk ?_ (fun c c0 c1 => h0_ c (by omega) c1) h55 ?_ hfr) rfl
              · intro c c0 c1
                by_cases e : c = i
                · subst e; rw [h0_ c (by omega) (by omega), hsi]; omega
                · exact h1_ c c0 (by omega)
              · intro hb c c0 c1
                by_cases e : c = i
                · subst e; rw [hsi]; omega
                · exact hb2 hb c c0 (by omega)
            ·
              refine go_aload_n dX8_leastWithin_84 rfl ?_
              refine go_getR dX8_leastWithin_85 fl_X8_9 (by first | assumption | exact Nat.le_of_ble_eq_true rfl) (by first | assumption | rfl) rfl (by first | assumption | rfl) ?_
              refine go_iload dX8_leastWithin_88 rfl ?_
              refine go_iload dX8_leastWithin_90 rfl ?_
              refine go_iastore dX8_leastWithin_92 (by first | assumption | exact Nat.le_of_ble_eq_true rfl) (by first | assumption | rfl) (by omega) (by omega) ?_
              refine go_iconst dX8_leastWithin_93 rfl ?_
              refine go_istore dX8_leastWithin_94 rfl ?_
              refine go_iinc dX8_leastWithin_96 rfl rfl ⟨by omega, by omega⟩ ?_
              refine go_goto (tgt := 49) dX8_leastWithin_99 rfl ?_
              refine go_drop (ih2 _ _ _ (by omega) (by omega) (fun c c0 c1 => by rw [ud_n (by omega)]; exact hrk c c0 c1) ?_ ?_ ?_ (fun hb => absurd hb (by decide)) ?_) rfl
              · intro c c0 c1
                rw [ud_s]
                by_cases e : c = i
                · subst e; rw [uf_same, hsi]; omega
                · rw [uf_ne e]; exact h1_ c c0 (by omega)
              · intro c c0 c1
                rw [ud_s, uf_ne (by omega)]; exact h0_ c (by omega) c1
              · intro c c0 c1
                rw [ud_n (by decide)]; exact h55 c c0 c1
              · intro q h0_ h1_ h2_ h3_
                rw [ud_n (by assumption)]; exact hfr q h0_ h1_ h2_ h3_
      refine go_iload dX8_leastWithin_16 rfl ?_
      refine go_iload dX8_leastWithin_18 rfl ?_
      refine go_icmp_ge (tgt := 108) dX8_leastWithin_20 rfl (fun h20 => ?_) (fun h20 => ?_)
      ·
        exact absurd h20 (by omega)
      ·
        refine go_iload dX8_leastWithin_23 rfl ?_
        first | refine go_bz (tgt := 108) dX8_leastWithin_25 rfl (fun h25 => ?_) (fun h25 => ?_) | refine go_if_eq (tgt := 108) dX8_leastWithin_25 rfl (fun h25 => ?_) (fun h25 => ?_)
        ·
          have hE : ∀ c, 0 ≤ c → c < 30 → μ1 54 c = bE (rkC μ M) a n.toNat c := fun c c0 c1 => by
            have hs := gE_st (k := r.toNat) (hbb h25) (n.toNat - r.toNat) c c0 c1
            rw [show r.toNat + (n.toNat - r.toNat) = n.toNat by omega] at hs
            rw [heq c c0 c1]
            exact hs.symm
          refine go_aload_n dX8_leastWithin_108 rfl ?_
          refine go_getR dX8_leastWithin_109 fl_X8_9 (by first | assumption | exact Nat.le_of_ble_eq_true rfl) (by first | assumption | rfl) rfl (by first | assumption | rfl) ?_
          refine go_iload_n dX8_leastWithin_112 rfl ?_
          refine go_iaload dX8_leastWithin_113 (by first | assumption | exact Nat.le_of_ble_eq_true rfl) (by first | assumption | rfl) (by omega) (by omega) ?_
          refine go_ldc dX8_leastWithin_114 kc_X8_18 rfl ?_
          refine go_icmp_ge (tgt := 128) dX8_leastWithin_116 rfl (fun h116 => ?_) (fun h116 => ?_)
          ·
            refine go_ldc dX8_leastWithin_128 kc_X8_40 rfl ?_
            exact go_ri dX8_leastWithin_130 tyI ⟨Nat.le_refl _, Nat.le_refl _⟩ (⟨by rw [← hE t ht0 ht1, if_neg (by omega)], hfr⟩)
          ·
            refine go_aload_n dX8_leastWithin_119 rfl ?_
            refine go_getR dX8_leastWithin_120 fl_X8_9 (by first | assumption | exact Nat.le_of_ble_eq_true rfl) (by first | assumption | rfl) rfl (by first | assumption | rfl) ?_
            refine go_iload_n dX8_leastWithin_123 rfl ?_
            refine go_iaload dX8_leastWithin_124 (by first | assumption | exact Nat.le_of_ble_eq_true rfl) (by first | assumption | rfl) (by omega) (by omega) ?_
            refine go_goto (tgt := 130) dX8_leastWithin_125 rfl ?_
            exact go_ri dX8_leastWithin_130 tyI ⟨Nat.le_refl _, Nat.le_refl _⟩ (⟨by rw [← hE t ht0 ht1, if_pos (by omega)], hfr⟩)
        ·
          refine go_aload_n dX8_leastWithin_28 rfl ?_
          refine go_getR dX8_leastWithin_29 fl_X8_9 (by first | assumption | exact Nat.le_of_ble_eq_true rfl) (by first | assumption | rfl) rfl (by first | assumption | rfl) ?_
          refine go_iconst dX8_leastWithin_32 rfl ?_
          refine go_aload_n dX8_leastWithin_33 rfl ?_
          refine go_getR dX8_leastWithin_34 fl_X8_15 (by first | assumption | exact Nat.le_of_ble_eq_true rfl) (by first | assumption | rfl) rfl (by first | assumption | rfl) ?_
          refine go_iconst dX8_leastWithin_37 rfl ?_
          refine go_bipush dX8_leastWithin_38 rfl (by decide) ?_
          refine go_copy dX8_leastWithin_40 aw_X8_51 rfl rfl (by first | assumption | exact Nat.le_of_ble_eq_true rfl) (by first | assumption | exact Nat.le_of_ble_eq_true rfl) (by first | assumption | rfl) (by first | assumption | rfl) (by omega) (by omega) (by omega) (by omega) (by omega) ?_
          refine go_iconst dX8_leastWithin_43 rfl ?_
          refine go_istore dX8_leastWithin_44 rfl ?_
          refine go_iconst dX8_leastWithin_46 rfl ?_
          refine go_istore dX8_leastWithin_47 rfl ?_
          refine go_drop (inn 30 0 0 _ (by omega) (by omega) (fun c c0 c1 => by rw [ua_ne (by omega)]; exact hrk c c0 c1) (fun c c0 c1 => absurd c1 (by omega)) (fun c c0 c1 => by rw [ua_ne (by decide)]; exact heq c c0 c1) ?_ (fun _ c c0 c1 => absurd c1 (by omega)) ?_) rfl
          · intro c c0 c1
            rw [ua_same]
            unfold cpI
            rw [if_pos (by omega), show 0 + (c - 0) = c by omega]
            exact heq c c0 c1
          · intro q h0_ h1_ h2_ h3_
            rw [ua_ne (by assumption)]; exact hfr q h0_ h1_ h2_ h3_
  refine go_aload_n dX8_leastWithin_0 rfl ?_
  refine go_vV (ci := 2) dX8_leastWithin_1 (ct_X3_weighRisks hMt hI) ml_X8_19 mc_X3_weighRisks mv_X3_weighRisks rfl (by first | assumption | exact Nat.le_of_ble_eq_true rfl) (by first | assumption | rfl) rfl ⟨rfl, rfl⟩ ⟨Nat.le_refl _, Nat.le_refl _⟩ rfl rfl rfl (fun μ1 hc1 => ?_)
  obtain ⟨hk1, hf1⟩ := hc1
  refine go_aload_n dX8_leastWithin_4 rfl ?_
  refine go_iload_n dX8_leastWithin_5 rfl ?_
  refine go_iconst dX8_leastWithin_6 rfl ?_
  refine go_vV (ci := 7) dX8_leastWithin_7 (ct_X8_startAt _ _ ha0 ha1) ml_X8_24 mc_X8_startAt mv_X8_startAt rfl (by first | assumption | exact Nat.le_of_ble_eq_true rfl) (by first | assumption | rfl) rfl ⟨rfl, rfl⟩ ⟨Nat.le_refl _, Nat.le_refl _⟩ rfl rfl rfl (fun μ7 hc7 => ?_)
  obtain ⟨hk7, hf7⟩ := hc7
  refine go_iconst dX8_leastWithin_10 rfl ?_
  refine go_istore dX8_leastWithin_11 rfl ?_
  refine go_iconst dX8_leastWithin_13 rfl ?_
  refine go_istore dX8_leastWithin_14 rfl ?_
  exact go_drop (loop n.toNat 0 1 μ7 (by omega) (by omega) (fun c c0 c1 => by rw [hf7 _ (by omega)]; exact hk1 c c0 c1) (fun c c0 c1 => hk7 c c0 c1) (fun h => absurd h (by decide)) (fun q h1 h2 h3 h4 => (hf7 q h3).trans (hf1 q h1 h2))) rfl

set_option maxRecDepth 100000 in
set_option maxHeartbeats 4000000 in
theorem ct_X8_leastSteep {l : Launch} {D : va_G} {cA : Nat → ClassId} {μ : Mem} {M : Nat} (hMt : isMt M) (hI : mtI μ M) (a t : Int) (ha0 : 0 ≤ a) (ha1 : a < 30) (ht0 : 0 ≤ t) (ht1 : t < 30) : CtN l D cA yX8_leastSteep cX8_leastSteep 8 (some .int) 3 [vr 53, vr M, vi a, vi t] μ (Pi (fun x μ' => x = sE (μ (M + 2)) a 30 t ∧ ∀ q, q ≠ 54 → q ≠ 55 → μ' q = μ q)) := by
  refine Ct.of (own := RX8) (by decide +kernel) rfl (fun σ => Nat.le_of_ble_eq_true rfl) (fun hM hP ha => ?_)
  obtain ⟨hM32, hM53, hA0, hA1, hA2, hA3, hA4, hA5, hA6, hs0, hs1, hs2, hs3, hs4, hs5, hs6, hr0, hr1, hr2, hr3, hr4, hr5, hr6⟩ := mt_f hMt
  obtain ⟨iK, iS, iL, iT, iTn, iD, iH, iF, iX, iW⟩ := id hI
  have loop : ∀ (m : Nat) (r b : Int) (μ1 : Mem), 30 - r = (m : Nat) → 0 ≤ r → (μ1 (M + 2) = μ (M + 2)) → (∀ c, 0 ≤ c → c < 30 → μ1 54 c = sE (μ (M + 2)) a r.toNat c) → (b = 0 → ∀ c, 0 ≤ c → c < 30 → sE (μ (M + 2)) a (r.toNat + 1) c = sE (μ (M + 2)) a r.toNat c) → (∀ q, q ≠ 54 → q ≠ 55 → μ1 q = μ q) → Go l D cA none RX8 cX8_leastSteep 8 (some .int) (3, 0, 0) (QN (Pi (fun x μ' => x = sE (μ (M + 2)) a 30 t ∧ ∀ q, q ≠ 54 → q ≠ 55 → μ' q = μ q))) 113 ρ0 0 0 17 [(0, vr 53), (1, vr M), (2, vi a), (3, vi t), (4, vi b), (5, vi r)] [] μ1 := by
    intro m
    induction m with
    | zero =>
      intro r b μ1 hm hv hrk heq hbb hfr
      refine go_iload dX8_leastSteep_17 rfl ?_
      refine go_bipush dX8_leastSteep_19 rfl (by decide) ?_
      refine go_icmp_ge (tgt := 111) dX8_leastSteep_21 rfl (fun h21 => ?_) (fun h21 => ?_)
      ·
        have hE : ∀ c, 0 ≤ c → c < 30 → μ1 54 c = sE (μ (M + 2)) a 30 c := fun c c0 c1 => by
          rw [heq c c0 c1, show r.toNat = 30 by omega]
        refine go_aload_n dX8_leastSteep_111 rfl ?_
        refine go_getR dX8_leastSteep_112 fl_X8_9 (by first | assumption | exact Nat.le_of_ble_eq_true rfl) (by first | assumption | rfl) rfl (by first | assumption | rfl) ?_
        refine go_iload_n dX8_leastSteep_115 rfl ?_
        refine go_iaload dX8_leastSteep_116 (by first | assumption | exact Nat.le_of_ble_eq_true rfl) (by first | assumption | rfl) (by omega) (by omega) ?_
        exact go_ri dX8_leastSteep_117 tyI ⟨Nat.le_refl _, Nat.le_refl _⟩ (⟨hE t ht0 ht1, hfr⟩)
      ·
        exact absurd h21 (by omega)
    | succ m ih =>
      intro r b μ1 hm hv hrk heq hbb hfr
      have hr0 : 0 ≤ r := hv
      have inn : ∀ (m2 : Nat) (i b2 : Int) (μ1 : Mem), 30 - i = (m2 : Nat) → 0 ≤ i → (μ1 (M + 2) = μ (M + 2)) → (∀ c, 0 ≤ c → c < i → μ1 54 c = sE (μ (M + 2)) a (r + 1).toNat c) → (∀ c, i ≤ c → c < 30 → μ1 54 c = sE (μ (M + 2)) a r.toNat c) → (∀ c, 0 ≤ c → c < 30 → μ1 55 c = sE (μ (M + 2)) a r.toNat c) → (b2 = 0 → ∀ c, 0 ≤ c → c < i → sE (μ (M + 2)) a (r + 1).toNat c = sE (μ (M + 2)) a r.toNat c) → (∀ q, q ≠ 54 → q ≠ 55 → μ1 q = μ q) → Go l D cA none RX8 cX8_leastSteep 8 (some .int) (3, 0, 0) (QN (Pi (fun x μ' => x = sE (μ (M + 2)) a 30 t ∧ ∀ q, q ≠ 54 → q ≠ 55 → μ' q = μ q))) 113 ρ0 0 0 50 [(0, vr 53), (1, vr M), (2, vi a), (3, vi t), (4, vi b2), (5, vi r), (6, vi i)] [] μ1 := by
        intro m2
        induction m2 with
        | zero =>
          intro i b2 μ1 hm2 hv2 hrk h1_ h0_ h55 hb2 hfr
          refine go_iload dX8_leastSteep_50 rfl ?_
          refine go_bipush dX8_leastSteep_52 rfl (by decide) ?_
          refine go_icmp_ge (tgt := 105) dX8_leastSteep_54 rfl (fun h54 => ?_) (fun h54 => ?_)
          ·
            refine go_iinc dX8_leastSteep_105 rfl rfl ⟨by omega, by omega⟩ ?_
            refine go_goto (tgt := 17) dX8_leastSteep_108 rfl ?_
            have hnx : ∀ c, 0 ≤ c → c < 30 → b2 = 0 → sE (μ (M + 2)) a ((r + 1).toNat + 1) c = sE (μ (M + 2)) a (r + 1).toNat c := fun c c0 c1 hb => by
              have hs := gE_st (k := r.toNat) (fun c c0 c1 => (by have := hb2 hb c c0 (by omega); rw [show (r + 1).toNat = r.toNat + 1 by omega] at this; exact this)) 2 c c0 c1
              have hs1 := gE_st (k := r.toNat) (fun c c0 c1 => (by have := hb2 hb c c0 (by omega); rw [show (r + 1).toNat = r.toNat + 1 by omega] at this; exact this)) 1 c c0 c1
              rw [show (r + 1).toNat = r.toNat + 1 by omega]
              exact hs.trans hs1.symm
            exact go_drop (ih _ _ μ1 (by omega) (by omega) hrk (fun c c0 c1 => h1_ c c0 (by omega)) (fun hb c c0 c1 => hnx c c0 c1 hb) hfr) rfl
          ·
            exact absurd h54 (by omega)
        | succ m2 ih2 =>
          intro i b2 μ1 hm2 hv2 hrk h1_ h0_ h55 hb2 hfr
          refine go_iload dX8_leastSteep_50 rfl ?_
          refine go_bipush dX8_leastSteep_52 rfl (by decide) ?_
          refine go_icmp_ge (tgt := 105) dX8_leastSteep_54 rfl (fun h54 => ?_) (fun h54 => ?_)
          ·
            exact absurd h54 (by omega)
          ·
            have hui := h0_ i (by omega) (by omega)
            have hsi := sE_s (st := μ (M + 2)) (a := a) (c := i) hr0
            refine go_aload_n dX8_leastSteep_57 rfl ?_
            refine go_iload dX8_leastSteep_58 rfl ?_
            refine go_vI (ci := 7) dX8_leastSteep_60 (ct_X8_leastBeside _ hv2 (by omega)) ml_X8_57 mc_X8_leastBeside mv_X8_leastBeside rfl (by first | assumption | exact Nat.le_of_ble_eq_true rfl) (by first | assumption | rfl) rfl ⟨rfl, rfl⟩ ⟨Nat.le_refl _, Nat.le_refl _⟩ rfl rfl rfl (fun x60 μ60 hc60 => ?_)
            obtain ⟨rfl, hm60⟩ := hc60
            rw [hm60, lb_cg hv2 (by omega) h55]
            refine go_aload_n dX8_leastSteep_63 rfl ?_
            refine go_getR dX8_leastSteep_64 fl_X8_65 (by first | assumption | exact Nat.le_of_ble_eq_true rfl) (by first | assumption | rfl) rfl (by first | assumption | rfl) ?_
            refine go_iload dX8_leastSteep_67 rfl ?_
            refine go_iaload dX8_leastSteep_69 (by first | assumption | exact Nat.le_of_ble_eq_true rfl) (by first | assumption | rfl) (by omega) (by omega) ?_
            try simp (disch := omega) only [ud, ua_same, ua_ne, uf_same, uf_ne]
            rw [hrk]
            refine go_max dX8_leastSteep_70 mw_X8_68 rfl rfl ⟨Nat.le_refl _, Nat.le_refl _⟩ ?_
            refine go_istore dX8_leastSteep_73 rfl ?_
            refine go_iload dX8_leastSteep_75 rfl ?_
            refine go_aload_n dX8_leastSteep_77 rfl ?_
            refine go_getR dX8_leastSteep_78 fl_X8_9 (by first | assumption | exact Nat.le_of_ble_eq_true rfl) (by first | assumption | rfl) rfl (by first | assumption | rfl) ?_
            refine go_iload dX8_leastSteep_81 rfl ?_
            refine go_iaload dX8_leastSteep_83 (by first | assumption | exact Nat.le_of_ble_eq_true rfl) (by first | assumption | rfl) (by omega) (by omega) ?_
            try simp (disch := omega) only [ud, ua_same, ua_ne, uf_same, uf_ne]
            refine go_icmp_ge (tgt := 99) dX8_leastSteep_84 rfl (fun h84 => ?_) (fun h84 => ?_)
            ·
              refine go_iinc dX8_leastSteep_99 rfl rfl ⟨by omega, by omega⟩ ?_
              refine go_goto (tgt := 50) dX8_leastSteep_102 rfl ?_
              refine go_drop (ih2 _ _ μ1 (by omega) (by omega) hrk ?_ (fun c c0 c1 => h0_ c (by omega) c1) h55 ?_ hfr) rfl
              · intro c c0 c1
                by_cases e : c = i
                · subst e; rw [h0_ c (by omega) (by omega), hsi]; omega
                · exact h1_ c c0 (by omega)
              · intro hb c c0 c1
                by_cases e : c = i
                · subst e; rw [hsi]; omega
                · exact hb2 hb c c0 (by omega)
            ·
              refine go_aload_n dX8_leastSteep_87 rfl ?_
              refine go_getR dX8_leastSteep_88 fl_X8_9 (by first | assumption | exact Nat.le_of_ble_eq_true rfl) (by first | assumption | rfl) rfl (by first | assumption | rfl) ?_
              refine go_iload dX8_leastSteep_91 rfl ?_
              refine go_iload dX8_leastSteep_93 rfl ?_
              refine go_iastore dX8_leastSteep_95 (by first | assumption | exact Nat.le_of_ble_eq_true rfl) (by first | assumption | rfl) (by omega) (by omega) ?_
              refine go_iconst dX8_leastSteep_96 rfl ?_
              refine go_istore dX8_leastSteep_97 rfl ?_
              refine go_iinc dX8_leastSteep_99 rfl rfl ⟨by omega, by omega⟩ ?_
              refine go_goto (tgt := 50) dX8_leastSteep_102 rfl ?_
              refine go_drop (ih2 _ _ _ (by omega) (by omega) (by rw [ud_n (by omega)]; exact hrk) ?_ ?_ ?_ (fun hb => absurd hb (by decide)) ?_) rfl
              · intro c c0 c1
                rw [ud_s]
                by_cases e : c = i
                · subst e; rw [uf_same, hsi]; omega
                · rw [uf_ne e]; exact h1_ c c0 (by omega)
              · intro c c0 c1
                rw [ud_s, uf_ne (by omega)]; exact h0_ c (by omega) c1
              · intro c c0 c1
                rw [ud_n (by decide)]; exact h55 c c0 c1
              · intro q h0_ h1_
                rw [ud_n (by assumption)]; exact hfr q h0_ h1_
      refine go_iload dX8_leastSteep_17 rfl ?_
      refine go_bipush dX8_leastSteep_19 rfl (by decide) ?_
      refine go_icmp_ge (tgt := 111) dX8_leastSteep_21 rfl (fun h21 => ?_) (fun h21 => ?_)
      ·
        exact absurd h21 (by omega)
      ·
        refine go_iload dX8_leastSteep_24 rfl ?_
        first | refine go_bz (tgt := 111) dX8_leastSteep_26 rfl (fun h26 => ?_) (fun h26 => ?_) | refine go_if_eq (tgt := 111) dX8_leastSteep_26 rfl (fun h26 => ?_) (fun h26 => ?_)
        ·
          have hE : ∀ c, 0 ≤ c → c < 30 → μ1 54 c = sE (μ (M + 2)) a 30 c := fun c c0 c1 => by
            have hs := gE_st (k := r.toNat) (hbb h26) (30 - r.toNat) c c0 c1
            rw [show r.toNat + (30 - r.toNat) = 30 by omega] at hs
            rw [heq c c0 c1]
            exact hs.symm
          refine go_aload_n dX8_leastSteep_111 rfl ?_
          refine go_getR dX8_leastSteep_112 fl_X8_9 (by first | assumption | exact Nat.le_of_ble_eq_true rfl) (by first | assumption | rfl) rfl (by first | assumption | rfl) ?_
          refine go_iload_n dX8_leastSteep_115 rfl ?_
          refine go_iaload dX8_leastSteep_116 (by first | assumption | exact Nat.le_of_ble_eq_true rfl) (by first | assumption | rfl) (by omega) (by omega) ?_
          exact go_ri dX8_leastSteep_117 tyI ⟨Nat.le_refl _, Nat.le_refl _⟩ (⟨hE t ht0 ht1, hfr⟩)
        ·
          refine go_aload_n dX8_leastSteep_29 rfl ?_
          refine go_getR dX8_leastSteep_30 fl_X8_9 (by first | assumption | exact Nat.le_of_ble_eq_true rfl) (by first | assumption | rfl) rfl (by first | assumption | rfl) ?_
          refine go_iconst dX8_leastSteep_33 rfl ?_
          refine go_aload_n dX8_leastSteep_34 rfl ?_
          refine go_getR dX8_leastSteep_35 fl_X8_15 (by first | assumption | exact Nat.le_of_ble_eq_true rfl) (by first | assumption | rfl) rfl (by first | assumption | rfl) ?_
          refine go_iconst dX8_leastSteep_38 rfl ?_
          refine go_bipush dX8_leastSteep_39 rfl (by decide) ?_
          refine go_copy dX8_leastSteep_41 aw_X8_51 rfl rfl (by first | assumption | exact Nat.le_of_ble_eq_true rfl) (by first | assumption | exact Nat.le_of_ble_eq_true rfl) (by first | assumption | rfl) (by first | assumption | rfl) (by omega) (by omega) (by omega) (by omega) (by omega) ?_
          refine go_iconst dX8_leastSteep_44 rfl ?_
          refine go_istore dX8_leastSteep_45 rfl ?_
          refine go_iconst dX8_leastSteep_47 rfl ?_
          refine go_istore dX8_leastSteep_48 rfl ?_
          refine go_drop (inn 30 0 0 _ (by omega) (by omega) (by rw [ua_ne (by omega)]; exact hrk) (fun c c0 c1 => absurd c1 (by omega)) (fun c c0 c1 => by rw [ua_ne (by decide)]; exact heq c c0 c1) ?_ (fun _ c c0 c1 => absurd c1 (by omega)) ?_) rfl
          · intro c c0 c1
            rw [ua_same]
            unfold cpI
            rw [if_pos (by omega), show 0 + (c - 0) = c by omega]
            exact heq c c0 c1
          · intro q h0_ h1_
            rw [ua_ne (by assumption)]; exact hfr q h0_ h1_
  refine go_aload_n dX8_leastSteep_0 rfl ?_
  refine go_iload_n dX8_leastSteep_1 rfl ?_
  refine go_aload_n dX8_leastSteep_2 rfl ?_
  refine go_getR dX8_leastSteep_3 fl_X8_65 (by first | assumption | exact Nat.le_of_ble_eq_true rfl) (by first | assumption | rfl) rfl (by first | assumption | rfl) ?_
  refine go_iload_n dX8_leastSteep_6 rfl ?_
  refine go_iaload dX8_leastSteep_7 (by first | assumption | exact Nat.le_of_ble_eq_true rfl) (by first | assumption | rfl) (by omega) (by omega) ?_
  refine go_vV (ci := 7) dX8_leastSteep_8 (ct_X8_startAt _ _ ha0 ha1) ml_X8_24 mc_X8_startAt mv_X8_startAt rfl (by first | assumption | exact Nat.le_of_ble_eq_true rfl) (by first | assumption | rfl) rfl ⟨rfl, rfl⟩ ⟨Nat.le_refl _, Nat.le_refl _⟩ rfl rfl rfl (fun μ8 hc8 => ?_)
  obtain ⟨hk7, hf7⟩ := hc8
  refine go_iconst dX8_leastSteep_11 rfl ?_
  refine go_istore dX8_leastSteep_12 rfl ?_
  refine go_iconst dX8_leastSteep_14 rfl ?_
  refine go_istore dX8_leastSteep_15 rfl ?_
  exact go_drop (loop 30 0 1 μ8 (by omega) (by omega) (hf7 _ (by omega)) (fun c c0 c1 => hk7 c c0 c1) (fun h => absurd h (by decide)) (fun q h3 h4 => hf7 q h3)) rfl

set_option maxRecDepth 100000 in
set_option maxHeartbeats 4000000 in
theorem ct_X8_comeTo {l : Launch} {D : va_G} {cA : Nat → ClassId} {μ : Mem} {M : Nat} (hMt : isMt M) (hI : mtI μ M) (a w : Int) (ha0 : 0 ≤ a) (ha1 : a < 30) : CtN l D cA yX8_comeTo cX8_comeTo 8 (some .int) 6 [vr 53, vr M, vi a, vi w] μ (Pi (fun x μ' => x = (cnt (fun c => decide (cE (rkC μ M) w a 30 c < 536870912)) 30 : Nat) ∧ ∀ q, q ≠ 3 → q ≠ M + 5 → q ≠ 54 → q ≠ 55 → μ' q = μ q)) := by
  refine Ct.of (own := RX8) (by decide +kernel) rfl (fun σ => Nat.le_of_ble_eq_true rfl) (fun hM hP ha => ?_)
  obtain ⟨hM32, hM53, hA0, hA1, hA2, hA3, hA4, hA5, hA6, hs0, hs1, hs2, hs3, hs4, hs5, hs6, hr0, hr1, hr2, hr3, hr4, hr5, hr6⟩ := mt_f hMt
  obtain ⟨iK, iS, iL, iT, iTn, iD, iH, iF, iX, iW⟩ := id hI
  have hr : ∀ q : Int, 0 ≤ q → q < 30 → 0 ≤ rkC μ M q ∧ rkC μ M q ≤ 2996 := fun q q0 q1 => rkC_b hI q q0 q1
  have loop : ∀ (m : Nat) (r b : Int) (many : Int) (μ1 : Mem), 30 - r = (m : Nat) → 0 ≤ r → (∀ c, 0 ≤ c → c < 30 → μ1 (M + 5) c = rkC μ M c) → (∀ c, 0 ≤ c → c < 30 → μ1 54 c = cE (rkC μ M) w a r.toNat c) → (b = 0 → ∀ c, 0 ≤ c → c < 30 → cE (rkC μ M) w a (r.toNat + 1) c = cE (rkC μ M) w a r.toNat c) → (∀ q, q ≠ 3 → q ≠ M + 5 → q ≠ 54 → q ≠ 55 → μ1 q = μ q) → (many = (cnt (fun c => decide (μ1 54 c < 536870912)) 30 : Nat)) → Go l D cA none RX8 cX8_comeTo 8 (some .int) (6, 0, 0) (QN (Pi (fun x μ' => x = (cnt (fun c => decide (cE (rkC μ M) w a 30 c < 536870912)) 30 : Nat) ∧ ∀ q, q ≠ 3 → q ≠ M + 5 → q ≠ 54 → q ≠ 55 → μ' q = μ q))) 113 ρ0 0 0 19 [(0, vr 53), (1, vr M), (2, vi a), (3, vi w), (4, vi many), (5, vi b), (6, vi r)] [] μ1 := by
    intro m
    induction m with
    | zero =>
      intro r b many μ1 hm hv hrk heq hbb hfr hmany
      refine go_iload dX8_comeTo_19 rfl ?_
      refine go_bipush dX8_comeTo_21 rfl (by decide) ?_
      refine go_icmp_ge (tgt := 119) dX8_comeTo_23 rfl (fun h23 => ?_) (fun h23 => ?_)
      ·
        have hE : ∀ c, 0 ≤ c → c < 30 → μ1 54 c = cE (rkC μ M) w a 30 c := fun c c0 c1 => by
          rw [heq c c0 c1, show r.toNat = 30 by omega]
        refine go_iload dX8_comeTo_119 rfl ?_
        exact go_ri dX8_comeTo_121 tyI ⟨Nat.le_refl _, Nat.le_refl _⟩ (⟨by rw [hmany]; exact congrArg Nat.cast (cnt_cg (fun c c0 c1 => by rw [hE c c0 c1])), hfr⟩)
      ·
        exact absurd h23 (by omega)
    | succ m ih =>
      intro r b many μ1 hm hv hrk heq hbb hfr hmany
      have hr0 : 0 ≤ r := hv
      have inn : ∀ (m2 : Nat) (i b2 : Int) (many : Int) (μ1 : Mem), 30 - i = (m2 : Nat) → 0 ≤ i → (∀ c, 0 ≤ c → c < 30 → μ1 (M + 5) c = rkC μ M c) → (∀ c, 0 ≤ c → c < i → μ1 54 c = cE (rkC μ M) w a (r + 1).toNat c) → (∀ c, i ≤ c → c < 30 → μ1 54 c = cE (rkC μ M) w a r.toNat c) → (∀ c, 0 ≤ c → c < 30 → μ1 55 c = cE (rkC μ M) w a r.toNat c) → (b2 = 0 → ∀ c, 0 ≤ c → c < i → cE (rkC μ M) w a (r + 1).toNat c = cE (rkC μ M) w a r.toNat c) → (∀ q, q ≠ 3 → q ≠ M + 5 → q ≠ 54 → q ≠ 55 → μ1 q = μ q) → (many = (cnt (fun c => decide (μ1 54 c < 536870912)) 30 : Nat)) → Go l D cA none RX8 cX8_comeTo 8 (some .int) (6, 0, 0) (QN (Pi (fun x μ' => x = (cnt (fun c => decide (cE (rkC μ M) w a 30 c < 536870912)) 30 : Nat) ∧ ∀ q, q ≠ 3 → q ≠ M + 5 → q ≠ 54 → q ≠ 55 → μ' q = μ q))) 113 ρ0 0 0 52 [(0, vr 53), (1, vr M), (2, vi a), (3, vi w), (4, vi many), (5, vi b2), (6, vi r), (7, vi i)] [] μ1 := by
        intro m2
        induction m2 with
        | zero =>
          intro i b2 many μ1 hm2 hv2 hrk h1_ h0_ h55 hb2 hfr hmany
          refine go_iload dX8_comeTo_52 rfl ?_
          refine go_bipush dX8_comeTo_54 rfl (by decide) ?_
          refine go_icmp_ge (tgt := 113) dX8_comeTo_56 rfl (fun h56 => ?_) (fun h56 => ?_)
          ·
            refine go_iinc dX8_comeTo_113 rfl rfl ⟨by omega, by omega⟩ ?_
            refine go_goto (tgt := 19) dX8_comeTo_116 rfl ?_
            have hnx : ∀ c, 0 ≤ c → c < 30 → b2 = 0 → cE (rkC μ M) w a ((r + 1).toNat + 1) c = cE (rkC μ M) w a (r + 1).toNat c := fun c c0 c1 hb => by
              have hs := gE_st (k := r.toNat) (fun c c0 c1 => (by have := hb2 hb c c0 (by omega); rw [show (r + 1).toNat = r.toNat + 1 by omega] at this; exact this)) 2 c c0 c1
              have hs1 := gE_st (k := r.toNat) (fun c c0 c1 => (by have := hb2 hb c c0 (by omega); rw [show (r + 1).toNat = r.toNat + 1 by omega] at this; exact this)) 1 c c0 c1
              rw [show (r + 1).toNat = r.toNat + 1 by omega]
              exact hs.trans hs1.symm
            exact go_drop (ih _ _ _ μ1 (by omega) (by omega) hrk (fun c c0 c1 => h1_ c c0 (by omega)) (fun hb c c0 c1 => hnx c c0 c1 hb) hfr hmany) rfl
          ·
            exact absurd h56 (by omega)
        | succ m2 ih2 =>
          intro i b2 many μ1 hm2 hv2 hrk h1_ h0_ h55 hb2 hfr hmany
          refine go_iload dX8_comeTo_52 rfl ?_
          refine go_bipush dX8_comeTo_54 rfl (by decide) ?_
          refine go_icmp_ge (tgt := 113) dX8_comeTo_56 rfl (fun h56 => ?_) (fun h56 => ?_)
          ·
            exact absurd h56 (by omega)
          ·
            have hki := hrk i hv2 (by omega)
            have hui := h0_ i (by omega) (by omega)
            have hsi := cE_s (rk := rkC μ M) (w := w) (a := a) (c := i) hr0
            refine go_aload_n dX8_comeTo_59 rfl ?_
            refine go_getR dX8_comeTo_60 fl_X8_9 (by first | assumption | exact Nat.le_of_ble_eq_true rfl) (by first | assumption | rfl) rfl (by first | assumption | rfl) ?_
            refine go_iload dX8_comeTo_63 rfl ?_
            refine go_iaload dX8_comeTo_65 (by first | assumption | exact Nat.le_of_ble_eq_true rfl) (by first | assumption | rfl) (by omega) (by omega) ?_
            refine go_ldc dX8_comeTo_66 kc_X8_18 rfl ?_
            refine go_icmp_ne (tgt := 107) dX8_comeTo_68 rfl (fun h68 => ?_) (fun h68 => ?_)
            ·
              refine go_iinc dX8_comeTo_107 rfl rfl ⟨by omega, by omega⟩ ?_
              refine go_goto (tgt := 52) dX8_comeTo_110 rfl ?_
              refine go_drop (ih2 _ _ _ μ1 (by omega) (by omega) hrk ?_ (fun c c0 c1 => h0_ c (by omega) c1) h55 ?_ hfr hmany) rfl
              · intro c c0 c1
                by_cases e : c = i
                · subst e; rw [h0_ c (by omega) (by omega), hsi]; have h01 := cE_01 (rk := rkC μ M) (w := w) (a := a) r.toNat c; split <;> omega
                · exact h1_ c c0 (by omega)
              · intro hb c c0 c1
                by_cases e : c = i
                · subst e; rw [hsi]; have h01 := cE_01 (rk := rkC μ M) (w := w) (a := a) r.toNat c; split <;> omega
                · exact hb2 hb c c0 (by omega)
            ·
              refine go_aload_n dX8_comeTo_71 rfl ?_
              refine go_getR dX8_comeTo_72 fl_X8_41 (by first | assumption | exact Nat.le_of_ble_eq_true rfl) (by first | assumption | rfl) rfl (by first | assumption | rfl) ?_
              refine go_iload dX8_comeTo_75 rfl ?_
              refine go_iaload dX8_comeTo_77 (by first | assumption | exact Nat.le_of_ble_eq_true rfl) (by first | assumption | rfl) (by omega) (by omega) ?_
              refine go_iload_n dX8_comeTo_78 rfl ?_
              refine go_icmp_gt (tgt := 107) dX8_comeTo_79 rfl (fun h79 => ?_) (fun h79 => ?_)
              ·
                refine go_iinc dX8_comeTo_107 rfl rfl ⟨by omega, by omega⟩ ?_
                refine go_goto (tgt := 52) dX8_comeTo_110 rfl ?_
                refine go_drop (ih2 _ _ _ μ1 (by omega) (by omega) hrk ?_ (fun c c0 c1 => h0_ c (by omega) c1) h55 ?_ hfr hmany) rfl
                · intro c c0 c1
                  by_cases e : c = i
                  · subst e; rw [h0_ c (by omega) (by omega), hsi]; have h01 := cE_01 (rk := rkC μ M) (w := w) (a := a) r.toNat c; rw [if_neg (by omega)]; omega
                  · exact h1_ c c0 (by omega)
                · intro hb c c0 c1
                  by_cases e : c = i
                  · subst e; rw [hsi]; have h01 := cE_01 (rk := rkC μ M) (w := w) (a := a) r.toNat c; rw [if_neg (by omega)]; omega
                  · exact hb2 hb c c0 (by omega)
              ·
                refine go_aload_n dX8_comeTo_82 rfl ?_
                refine go_iload dX8_comeTo_83 rfl ?_
                refine go_vI (ci := 7) dX8_comeTo_85 (ct_X8_leastBeside _ hv2 (by omega)) ml_X8_57 mc_X8_leastBeside mv_X8_leastBeside rfl (by first | assumption | exact Nat.le_of_ble_eq_true rfl) (by first | assumption | rfl) rfl ⟨rfl, rfl⟩ ⟨Nat.le_refl _, Nat.le_refl _⟩ rfl rfl rfl (fun x85 μ85 hc85 => ?_)
                obtain ⟨rfl, hm85⟩ := hc85
                rw [hm85, lb_cg hv2 (by omega) h55]
                refine go_ldc dX8_comeTo_88 kc_X8_18 rfl ?_
                refine go_icmp_ge (tgt := 107) dX8_comeTo_90 rfl (fun h90 => ?_) (fun h90 => ?_)
                ·
                  refine go_iinc dX8_comeTo_107 rfl rfl ⟨by omega, by omega⟩ ?_
                  refine go_goto (tgt := 52) dX8_comeTo_110 rfl ?_
                  refine go_drop (ih2 _ _ _ μ1 (by omega) (by omega) hrk ?_ (fun c c0 c1 => h0_ c (by omega) c1) h55 ?_ hfr hmany) rfl
                  · intro c c0 c1
                    by_cases e : c = i
                    · subst e; rw [h0_ c (by omega) (by omega), hsi]; have h01 := cE_01 (rk := rkC μ M) (w := w) (a := a) r.toNat c; rw [if_neg (by omega)]; omega
                    · exact h1_ c c0 (by omega)
                  · intro hb c c0 c1
                    by_cases e : c = i
                    · subst e; rw [hsi]; have h01 := cE_01 (rk := rkC μ M) (w := w) (a := a) r.toNat c; rw [if_neg (by omega)]; omega
                    · exact hb2 hb c c0 (by omega)
                ·
                  refine go_aload_n dX8_comeTo_93 rfl ?_
                  refine go_getR dX8_comeTo_94 fl_X8_9 (by first | assumption | exact Nat.le_of_ble_eq_true rfl) (by first | assumption | rfl) rfl (by first | assumption | rfl) ?_
                  refine go_iload dX8_comeTo_97 rfl ?_
                  refine go_iconst dX8_comeTo_99 rfl ?_
                  refine go_iastore dX8_comeTo_100 (by first | assumption | exact Nat.le_of_ble_eq_true rfl) (by first | assumption | rfl) (by omega) (by omega) ?_
                  have hcl := cnt_le (p := fun c => decide (μ1 54 c < 536870912)) 30
                  refine go_iinc dX8_comeTo_101 rfl rfl ⟨by omega, by omega⟩ ?_
                  refine go_iconst dX8_comeTo_104 rfl ?_
                  refine go_istore dX8_comeTo_105 rfl ?_
                  refine go_iinc dX8_comeTo_107 rfl rfl ⟨by omega, by omega⟩ ?_
                  refine go_goto (tgt := 52) dX8_comeTo_110 rfl ?_
                  refine go_drop (ih2 _ _ _ _ (by omega) (by omega) (fun c c0 c1 => by rw [ud_n (by omega)]; exact hrk c c0 c1) ?_ ?_ ?_ (fun hb => absurd hb (by decide)) ?_ ?_) rfl
                  · intro c c0 c1
                    rw [ud_s]
                    by_cases e : c = i
                    · subst e; rw [uf_same, hsi]; have h01 := cE_01 (rk := rkC μ M) (w := w) (a := a) r.toNat c; rw [if_pos (by omega)]; omega
                    · rw [uf_ne e]; exact h1_ c c0 (by omega)
                  · intro c c0 c1
                    rw [ud_s, uf_ne (by omega)]; exact h0_ c (by omega) c1
                  · intro c c0 c1
                    rw [ud_n (by decide)]; exact h55 c c0 c1
                  · intro q h0_ h1_ h2_ h3_
                    rw [ud_n (by assumption)]; exact hfr q h0_ h1_ h2_ h3_
                  · rw [ud_s, cnt_up (p := fun c => decide (μ1 54 c < 536870912)) (j := i) 30 hv2 (by omega) (fun e => by have := of_decide_eq_true e; omega) (by rw [uf_same]; rfl) (fun j _ _ ne => by rw [uf_ne ne])]
                    omega
      refine go_iload dX8_comeTo_19 rfl ?_
      refine go_bipush dX8_comeTo_21 rfl (by decide) ?_
      refine go_icmp_ge (tgt := 119) dX8_comeTo_23 rfl (fun h23 => ?_) (fun h23 => ?_)
      ·
        exact absurd h23 (by omega)
      ·
        refine go_iload dX8_comeTo_26 rfl ?_
        first | refine go_bz (tgt := 119) dX8_comeTo_28 rfl (fun h28 => ?_) (fun h28 => ?_) | refine go_if_eq (tgt := 119) dX8_comeTo_28 rfl (fun h28 => ?_) (fun h28 => ?_)
        ·
          have hE : ∀ c, 0 ≤ c → c < 30 → μ1 54 c = cE (rkC μ M) w a 30 c := fun c c0 c1 => by
            have hs := gE_st (k := r.toNat) (hbb h28) (30 - r.toNat) c c0 c1
            rw [show r.toNat + (30 - r.toNat) = 30 by omega] at hs
            rw [heq c c0 c1]
            exact hs.symm
          refine go_iload dX8_comeTo_119 rfl ?_
          exact go_ri dX8_comeTo_121 tyI ⟨Nat.le_refl _, Nat.le_refl _⟩ (⟨by rw [hmany]; exact congrArg Nat.cast (cnt_cg (fun c c0 c1 => by rw [hE c c0 c1])), hfr⟩)
        ·
          refine go_aload_n dX8_comeTo_31 rfl ?_
          refine go_getR dX8_comeTo_32 fl_X8_9 (by first | assumption | exact Nat.le_of_ble_eq_true rfl) (by first | assumption | rfl) rfl (by first | assumption | rfl) ?_
          refine go_iconst dX8_comeTo_35 rfl ?_
          refine go_aload_n dX8_comeTo_36 rfl ?_
          refine go_getR dX8_comeTo_37 fl_X8_15 (by first | assumption | exact Nat.le_of_ble_eq_true rfl) (by first | assumption | rfl) rfl (by first | assumption | rfl) ?_
          refine go_iconst dX8_comeTo_40 rfl ?_
          refine go_bipush dX8_comeTo_41 rfl (by decide) ?_
          refine go_copy dX8_comeTo_43 aw_X8_51 rfl rfl (by first | assumption | exact Nat.le_of_ble_eq_true rfl) (by first | assumption | exact Nat.le_of_ble_eq_true rfl) (by first | assumption | rfl) (by first | assumption | rfl) (by omega) (by omega) (by omega) (by omega) (by omega) ?_
          refine go_iconst dX8_comeTo_46 rfl ?_
          refine go_istore dX8_comeTo_47 rfl ?_
          refine go_iconst dX8_comeTo_49 rfl ?_
          refine go_istore dX8_comeTo_50 rfl ?_
          refine go_drop (inn 30 0 0 _ _ (by omega) (by omega) (fun c c0 c1 => by rw [ua_ne (by omega)]; exact hrk c c0 c1) (fun c c0 c1 => absurd c1 (by omega)) (fun c c0 c1 => by rw [ua_ne (by decide)]; exact heq c c0 c1) ?_ (fun _ c c0 c1 => absurd c1 (by omega)) ?_ ?_) rfl
          · intro c c0 c1
            rw [ua_same]
            unfold cpI
            rw [if_pos (by omega), show 0 + (c - 0) = c by omega]
            exact heq c c0 c1
          · intro q h0_ h1_ h2_ h3_
            rw [ua_ne (by assumption)]; exact hfr q h0_ h1_ h2_ h3_
          · rw [ua_ne (by decide)]; exact hmany
  refine go_aload_n dX8_comeTo_0 rfl ?_
  refine go_vV (ci := 2) dX8_comeTo_1 (ct_X3_weighRisks hMt hI) ml_X8_19 mc_X3_weighRisks mv_X3_weighRisks rfl (by first | assumption | exact Nat.le_of_ble_eq_true rfl) (by first | assumption | rfl) rfl ⟨rfl, rfl⟩ ⟨Nat.le_refl _, Nat.le_refl _⟩ rfl rfl rfl (fun μ1 hc1 => ?_)
  obtain ⟨hk1, hf1⟩ := hc1
  refine go_aload_n dX8_comeTo_4 rfl ?_
  refine go_iload_n dX8_comeTo_5 rfl ?_
  refine go_iconst dX8_comeTo_6 rfl ?_
  refine go_vV (ci := 7) dX8_comeTo_7 (ct_X8_startAt _ _ ha0 ha1) ml_X8_24 mc_X8_startAt mv_X8_startAt rfl (by first | assumption | exact Nat.le_of_ble_eq_true rfl) (by first | assumption | rfl) rfl ⟨rfl, rfl⟩ ⟨Nat.le_refl _, Nat.le_refl _⟩ rfl rfl rfl (fun μ7 hc7 => ?_)
  obtain ⟨hk7, hf7⟩ := hc7
  refine go_iconst dX8_comeTo_10 rfl ?_
  refine go_istore dX8_comeTo_11 rfl ?_
  refine go_iconst dX8_comeTo_13 rfl ?_
  refine go_istore dX8_comeTo_14 rfl ?_
  refine go_iconst dX8_comeTo_16 rfl ?_
  refine go_istore dX8_comeTo_17 rfl ?_
  exact go_drop (loop 30 0 1 1 μ7 (by omega) (by omega) (fun c c0 c1 => by rw [hf7 _ (by omega)]; exact hk1 c c0 c1) (fun c c0 c1 => hk7 c c0 c1) (fun h => absurd h (by decide)) (fun q h1 h2 h3 h4 => (hf7 q h3).trans (hf1 q h1 h2)) (by rw [cnt_1 ha0 ha1 hk7]; rfl)) rfl

