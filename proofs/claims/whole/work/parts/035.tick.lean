/-! THE CLASS: a tick, many, a mountain becomes as another -/
theorem slS_c {h st : Int → Int} {s : (Int → Int) × Int} {c : Int} : s.2 ≤ (slS h st s c).2 ∧ (slS h st s c).2 ≤ s.2 + 1 := by
  unfold slS
  split
  · show s.2 ≤ s.2 + 1 ∧ s.2 + 1 ≤ s.2 + 1; omega
  · omega
theorem slR_c {h st : Int → Int} : ∀ (n : Nat) (s : (Int → Int) × Int) (c : Int), s.2 ≤ (slR h st n s c).2 ∧ (slR h st n s c).2 ≤ s.2 + (n : Nat)
  | 0, s, c => by show s.2 ≤ s.2 ∧ s.2 ≤ s.2 + ((0 : Nat) : Int); omega
  | n + 1, s, c => by
    have h1 := slR_c (h := h) (st := st) n (slS h st s c) (c + 1)
    have h2 := slS_c (h := h) (st := st) (s := s) (c := c)
    rw [slR_s]
    omega
theorem slN_c {h st : Int → Int} : ∀ (r : Nat) (s : (Int → Int) × Int), s.2 ≤ (slN h st r s).2 ∧ (slN h st r s).2 ≤ s.2 + 6 * (r : Nat)
  | 0, s => by show s.2 ≤ s.2 ∧ s.2 ≤ s.2 + 6 * ((0 : Nat) : Int); omega
  | r + 1, s => by
    have h1 := slN_c (h := h) (st := st) r (slR h st 6 s (6 * (r : Nat)))
    have h2 := slR_c (h := h) (st := st) 6 s (6 * (r : Nat))
    show s.2 ≤ (slN h st r (slR h st 6 s (6 * (r : Nat)))).2 ∧ (slN h st r (slR h st 6 s (6 * (r : Nat)))).2 ≤ _
    omega
theorem slS_cg {h h' st st' : Int → Int} {s : (Int → Int) × Int} {c : Int} (e1 : h c = h' c) (e2 : st c = st' c) : slS h st s c = slS h' st' s c := by
  unfold slS; rw [e1, e2]
theorem slR_cg {h h' st st' : Int → Int} (e1 : ∀ c, 0 ≤ c → c < 30 → h c = h' c) (e2 : ∀ c, 0 ≤ c → c < 30 → st c = st' c) : ∀ (n : Nat) (s : (Int → Int) × Int) (c : Int), 0 ≤ c → c + (n : Nat) ≤ 30 → slR h st n s c = slR h' st' n s c
  | 0, s, c, _, _ => rfl
  | n + 1, s, c, h0, h1 => by
    rw [slR_s, slR_s, slS_cg (e1 c h0 (by omega)) (e2 c h0 (by omega))]
    exact slR_cg e1 e2 n _ _ (by omega) (by omega)
theorem slN_cg {h h' st st' : Int → Int} (e1 : ∀ c, 0 ≤ c → c < 30 → h c = h' c) (e2 : ∀ c, 0 ≤ c → c < 30 → st c = st' c) : ∀ (r : Nat) (s : (Int → Int) × Int), r ≤ 5 → slN h st r s = slN h' st' r s
  | 0, s, _ => rfl
  | r + 1, s, hr => by
    show slN h st r (slR h st 6 s (6 * (r : Nat))) = slN h' st' r (slR h' st' 6 s (6 * (r : Nat)))
    rw [slR_cg e1 e2 6 s _ (by omega) (by omega)]
    exact slN_cg e1 e2 r _ (by omega)
theorem slS_B {h st : Int → Int} {s : (Int → Int) × Int} {row col : Int} (hb : slB s.1 row col) (hr0 : 0 ≤ row) (hr4 : row ≤ 4) (hc0 : 0 ≤ col) (hc5 : col < 6) : slB (slS h st s (row * 6 + col)).1 row (col + 1) := by
  by_cases hy : 30 ≤ st (row * 6 + col) ∧ h (row * 6 + col) < s.1 (row * 6 + col)
  · by_cases h6 : 6 ≤ row * 6 + col
    · rw [slS_up hy h6]
      exact slB_up hb (by omega) hr4 hc0 hc5
    · rw [slS_lo hy h6]
      exact slB_lo hb
  · rw [slS_no hy]
    exact slB_no hb
theorem slR_B {h st : Int → Int} {row : Int} (hr0 : 0 ≤ row) (hr4 : row ≤ 4) : ∀ (n : Nat) (s : (Int → Int) × Int) (col : Int), col + (n : Nat) = 6 → 0 ≤ col → slB s.1 row col → slB (slR h st n s (row * 6 + col)).1 row 6
  | 0, s, col, e, _, hb => by
    have : col = 6 := by omega
    subst this
    exact hb
  | n + 1, s, col, e, h0, hb => by
    rw [slR_s, show row * 6 + col + 1 = row * 6 + (col + 1) by omega]
    exact slR_B hr0 hr4 n _ (col + 1) (by omega) (by omega) (slS_B hb hr0 hr4 h0 (by omega))
theorem slN_B {h st : Int → Int} : ∀ (r : Nat) (s : (Int → Int) × Int), r ≤ 5 → slB s.1 ((r : Nat) - 1) 0 → slB (slN h st r s).1 (-1) 0
  | 0, s, _, hb => hb
  | r + 1, s, hr, hb => by
    show slB (slN h st r (slR h st 6 s (6 * (r : Nat)))).1 (-1) 0
    apply slN_B r _ (by omega)
    have h1 : slB s.1 (r : Nat) 0 := by
      have e : ((r + 1 : Nat) : Int) - 1 = (r : Nat) := by omega
      rw [e] at hb; exact hb
    have h2 := slR_B (h := h) (st := st) (row := (r : Nat)) (by omega) (by omega) 6 s 0 (by omega) (by omega) h1
    rw [show ((r : Nat) : Int) * 6 + 0 = 6 * (r : Nat) by omega] at h2
    exact slB_row h2
abbrev TS : Type := (Int → Int) × Int × Int × Int
def tkF (kinds steeps ph : Int → Int) (fall : Int) (s : TS) : TS × Int :=
  ((clpF (slN (fun c => kHold (kinds c) (ph c) (sunV s.2.2.1)) steeps 5 (dftA kinds (snwF s.1 (fall + dv (dz s.2.1) % 3) 30), 0)).1 30, dz s.2.1, (if s.2.2.1 < 23 then s.2.2.1 + 1 else 0), wr (s.2.2.2 + (slN (fun c => kHold (kinds c) (ph c) (sunV s.2.2.1)) steeps 5 (dftA kinds (snwF s.1 (fall + dv (dz s.2.1) % 3) 30), 0)).2)),
   (slN (fun c => kHold (kinds c) (ph c) (sunV s.2.2.1)) steeps 5 (dftA kinds (snwF s.1 (fall + dv (dz s.2.1) % 3) 30), 0)).2)
def tS (μ : Mem) (M : Nat) : TS := (μ (M + 3), μ M 11, μ M 9, μ M 12)
def lB (f : Int → Int) : Prop := ∀ c, 0 ≤ c → c < 30 → 0 ≤ f c ∧ f c ≤ 999
theorem snw_b {f : Int → Int} {m : Int} (h : lB f) (hm : 0 ≤ m) : lB (snwF f m 30) := by
  intro c h0 h1
  have := h c h0 h1
  unfold snwF
  rw [if_pos ⟨h0, h1⟩]
  omega
theorem dftA_b {kinds f : Int → Int} (h : lB f) : lB (dftA kinds f) := by
  intro c h0 h1
  have b1 := h c h0 h1
  have b2 := dftD_b (kinds := kinds) b1.1 b1.2
  have b3 : 0 ≤ dftI kinds f c := by
    unfold dftI
    split
    · omega
    · have b4 := h (c - 1) (by omega) (by omega)
      exact (dftD_b b4.1 b4.2).1
  unfold dftA
  rw [if_pos ⟨h0, h1⟩]
  omega
theorem sl_b {h st f : Int → Int} (hf : lB f) : lB (clpF (slN h st 5 (f, 0)).1 30) := by
  intro c h0 h1
  have hb : slB f ((5 : Nat) - 1) 0 := fun q q0 q1 => by have := hf q q0 q1; omega
  have := slN_B (h := h) (st := st) 5 (f, 0) (by omega) hb c h0 h1
  unfold clpF
  rw [if_pos ⟨h0, h1⟩]
  omega
theorem tk_b {kinds steeps ph : Int → Int} {fall : Int} {s : TS} (hf : 0 ≤ fall) (h : lB s.1) : lB (tkF kinds steeps ph fall s).1.1 := by
  have := dv_b (dz s.2.1)
  exact sl_b (dftA_b (snw_b h (by omega)))
theorem tk_c {kinds steeps ph : Int → Int} {fall : Int} {s : TS} : 0 ≤ (tkF kinds steeps ph fall s).2 ∧ (tkF kinds steeps ph fall s).2 ≤ 30 := by
  have := slN_c (h := fun c => kHold (kinds c) (ph c) (sunV s.2.2.1)) (st := steeps) 5 (dftA kinds (snwF s.1 (fall + dv (dz s.2.1) % 3) 30), 0)
  show 0 ≤ (slN (fun c => kHold (kinds c) (ph c) (sunV s.2.2.1)) steeps 5 (dftA kinds (snwF s.1 (fall + dv (dz s.2.1) % 3) 30), 0)).2 ∧ (slN (fun c => kHold (kinds c) (ph c) (sunV s.2.2.1)) steeps 5 (dftA kinds (snwF s.1 (fall + dv (dz s.2.1) % 3) 30), 0)).2 ≤ 30
  exact ⟨this.1, this.2⟩
theorem mtI_up {μ μ' : Mem} {M : Nat} (hM : 32 ≤ M) (h : mtI μ M) (hg : lB (μ' (M + 3))) (h9 : 0 ≤ μ' M 9 ∧ μ' M 9 ≤ 23) (hk : ∀ k, k ≠ 9 → k ≠ 11 → k ≠ 12 → μ' M k = μ M k) (hf : ∀ q, q ≠ 3 → q ≠ M → q ≠ M + 3 → q ≠ M + 5 → q ≠ M + 6 → μ' q = μ q) : mtI μ' M := by
  obtain ⟨iK, iS, iL, iT, iTn, iD, iH, iF, iX, iW⟩ := h
  unfold mtI
  rw [hk 7 (by decide) (by decide) (by decide), hk 8 (by decide) (by decide) (by decide), hk 10 (by decide) (by decide) (by decide), hk 13 (by decide) (by decide) (by decide), hf (M + 1) (by omega) (by omega) (by omega) (by omega) (by omega), hf (M + 2) (by omega) (by omega) (by omega) (by omega) (by omega), hf (M + 4) (by omega) (by omega) (by omega) (by omega) (by omega)]
  exact ⟨iK, iS, hg, iT, iTn, iD, h9, iF, iX, lwI_fr (fun q h1 h2 => hf q (by omega) (by omega) (by omega) (by omega) (by omega)) iW⟩

set_option maxRecDepth 100000 in
set_option maxHeartbeats 4000000 in
theorem ct_X3_tick {l : Launch} {D : va_G} {cA : Nat → ClassId} {μ : Mem} {M : Nat} (hMt : isMt M) (hI : mtI μ M) (ph : Int → Int) (hph : ∀ c, 0 ≤ c → c < 30 → μ (M + 6) c = ph c) (hpb : ∀ c, 0 ≤ c → c < 30 → 0 ≤ ph c ∧ ph c ≤ 99) : CtN l D cA yX3_tick cX3_tick 2 (some .int) 5 [vr M] μ (Pi (fun x μ' => x = (tkF (μ (M + 1)) (μ (M + 2)) ph (μ M 10) (tS μ M)).2 ∧ tS μ' M = (tkF (μ (M + 1)) (μ (M + 2)) ph (μ M 10) (tS μ M)).1 ∧ (∀ k, k ≠ 9 → k ≠ 11 → k ≠ 12 → μ' M k = μ M k) ∧ ∀ q, q ≠ M → q ≠ M + 3 → μ' q = μ q)) := by
  refine Ct.of (own := RX3) (by decide +kernel) rfl (fun σ => Nat.le_of_ble_eq_true rfl) (fun hM hP ha => ?_)
  obtain ⟨hM32, hM53, hA0, hA1, hA2, hA3, hA4, hA5, hA6, hs0, hs1, hs2, hs3, hs4, hs5, hs6, hr0, hr1, hr2, hr3, hr4, hr5, hr6⟩ := mt_f hMt
  obtain ⟨iK, iS, iL, iT, iTn, iD, iH, iF, iX, iW⟩ := id hI
  have hdb := dv_b (dz (μ M 11))
  have hb1 : lB (snwF (μ (M + 3)) (μ M 10 + dv (dz (μ M 11)) % 3) 30) := snw_b iL (by omega)
  have hI1 : mtI (ua (ud μ M 11 (dz (μ M 11))) (M + 3) (snwF (μ (M + 3)) (μ M 10 + dv (dz (μ M 11)) % 3) 30)) M := mtI_up hM32 hI (by rw [ua_same]; exact hb1) (by simp (disch := omega) only [ud, ua_same, ua_ne, uf_same, uf_ne]; exact iH) (fun k a b c => by simp (disch := omega) only [ud, ua_same, ua_ne, uf_ne, b]) (fun q a b c d e => by simp (disch := omega) only [ud, ua_ne])
  have hb2 : lB (dftA (μ (M + 1)) (snwF (μ (M + 3)) (μ M 10 + dv (dz (μ M 11)) % 3) 30)) := dftA_b hb1
  have hI2 : mtI (ua (ud μ M 11 (dz (μ M 11))) (M + 3) (dftA (μ (M + 1)) (snwF (μ (M + 3)) (μ M 10 + dv (dz (μ M 11)) % 3) 30))) M := mtI_up hM32 hI (by rw [ua_same]; exact hb2) (by simp (disch := omega) only [ud, ua_same, ua_ne, uf_same, uf_ne]; exact iH) (fun k a b c => by simp (disch := omega) only [ud, ua_same, ua_ne, uf_ne, b]) (fun q a b c d e => by simp (disch := omega) only [ud, ua_ne])
  obtain ⟨S1, hS1⟩ : ∃ q, q = (slN (fun c => kHold (μ (M + 1) c) (ph c) (sunV (μ M 9))) (μ (M + 2)) 5 (dftA (μ (M + 1)) (snwF (μ (M + 3)) (μ M 10 + dv (dz (μ M 11)) % 3) 30), 0)) := ⟨_, rfl⟩
  have hsc := slN_c (h := fun c => kHold (μ (M + 1) c) (ph c) (sunV (μ M 9))) (st := μ (M + 2)) 5 (dftA (μ (M + 1)) (snwF (μ (M + 3)) (μ M 10 + dv (dz (μ M 11)) % 3) 30), 0)
  rw [← hS1] at hsc
  refine go_aload_n dX3_tick_0 rfl ?_
  refine go_vV (ci := 2) dX3_tick_1 (ct_X3_snow hMt hI) ml_X3_111 mc_X3_snow mv_X3_snow rfl (by first | assumption | exact Nat.le_of_ble_eq_true rfl) (by first | assumption | rfl) rfl ⟨rfl, rfl⟩ ⟨Nat.le_refl _, Nat.le_refl _⟩ rfl rfl rfl (fun μ1 hc1 => ?_)
  subst hc1
  refine go_aload_n dX3_tick_4 rfl ?_
  refine go_vV (ci := 2) dX3_tick_5 (ct_X3_drift hMt hI1) ml_X3_114 mc_X3_drift mv_X3_drift rfl (by first | assumption | exact Nat.le_of_ble_eq_true rfl) (by first | assumption | rfl) rfl ⟨rfl, rfl⟩ ⟨Nat.le_refl _, Nat.le_refl _⟩ rfl rfl rfl (fun μ5 hc5 => ?_)
  rw [ua_ua, ua_same, ua_ne (by omega), ud_n (by omega)] at hc5
  subst hc5
  refine go_aload_n dX3_tick_8 rfl ?_
  refine go_vI (ci := 2) dX3_tick_9 (ct_X3_slide hMt hI2 (fun c c0 c1 => by rw [ua_ne (by omega), ud_n (by omega), hph c c0 c1]; exact hpb c c0 c1)) ml_X3_117 mc_X3_slide mv_X3_slide rfl (by first | assumption | exact Nat.le_of_ble_eq_true rfl) (by first | assumption | rfl) rfl ⟨rfl, rfl⟩ ⟨Nat.le_refl _, Nat.le_refl _⟩ rfl rfl rfl (fun x9 μ9 hc9 => ?_)
  rw [ua_same, ua_ua] at hc9
  rw [show ua (ud μ M 11 (dz (μ M 11))) (M + 3) (dftA (μ (M + 1)) (snwF (μ (M + 3)) (μ M 10 + dv (dz (μ M 11)) % 3) 30)) (M + 1) = μ (M + 1) from (ua_ne (by omega)).trans (ud_n (by omega)), show ua (ud μ M 11 (dz (μ M 11))) (M + 3) (dftA (μ (M + 1)) (snwF (μ (M + 3)) (μ M 10 + dv (dz (μ M 11)) % 3) 30)) (M + 2) = μ (M + 2) from (ua_ne (by omega)).trans (ud_n (by omega)), show ua (ud μ M 11 (dz (μ M 11))) (M + 3) (dftA (μ (M + 1)) (snwF (μ (M + 3)) (μ M 10 + dv (dz (μ M 11)) % 3) 30)) (M + 6) = μ (M + 6) from (ua_ne (by omega)).trans (ud_n (by omega)), show ua (ud μ M 11 (dz (μ M 11))) (M + 3) (dftA (μ (M + 1)) (snwF (μ (M + 3)) (μ M 10 + dv (dz (μ M 11)) % 3) 30)) M 9 = μ M 9 from by simp (disch := omega) only [ud, ua_same, ua_ne, uf_same, uf_ne]] at hc9
  rw [slN_cg (h' := fun c => kHold (μ (M + 1) c) (ph c) (sunV (μ M 9))) (st' := μ (M + 2)) (fun c c0 c1 => by show kHold _ (μ (M + 6) c) _ = _; rw [hph c c0 c1]) (fun _ _ _ => rfl) 5 _ (by omega), ← hS1] at hc9
  obtain ⟨rfl, hm9⟩ := hc9
  subst hm9
  refine go_istore_n dX3_tick_12 rfl ?_
  refine go_aload_n dX3_tick_13 rfl ?_
  refine go_dup dX3_tick_14 rfl ?_
  refine go_getI 12 dX3_tick_15 fl_X3_56 (by first | assumption | exact Nat.le_of_ble_eq_true rfl) (by first | assumption | rfl) rfl rfl ?_
  try simp (disch := omega) only [ud, ua_same, ua_ne, uf_same, uf_ne]
  refine go_iload_n dX3_tick_18 rfl ?_
  refine go_iaddw dX3_tick_19 ?_
  refine go_putI 12 dX3_tick_20 pl_X3_56 (by first | assumption | exact Nat.le_of_ble_eq_true rfl) (by first | assumption | rfl) rfl rfl ?_
  refine go_aload_n dX3_tick_23 rfl ?_
  refine go_aload_n dX3_tick_24 rfl ?_
  refine go_getI 9 dX3_tick_25 fl_X3_34 (by first | assumption | exact Nat.le_of_ble_eq_true rfl) (by first | assumption | rfl) rfl rfl ?_
  try simp (disch := omega) only [ud, ua_same, ua_ne, uf_same, uf_ne]
  refine go_bipush dX3_tick_28 rfl (by decide) ?_
  refine go_icmp_lt (tgt := 37) dX3_tick_30 rfl (fun h30 => ?_) (fun h30 => ?_)
  ·
    refine go_aload_n dX3_tick_37 rfl ?_
    refine go_getI 9 dX3_tick_38 fl_X3_34 (by first | assumption | exact Nat.le_of_ble_eq_true rfl) (by first | assumption | rfl) rfl rfl ?_
    try simp (disch := omega) only [ud, ua_same, ua_ne, uf_same, uf_ne]
    refine go_iconst dX3_tick_41 rfl ?_
    refine go_iadd dX3_tick_42 ⟨by omega, by omega⟩ ?_
    refine go_putI 9 dX3_tick_43 pl_X3_34 (by first | assumption | exact Nat.le_of_ble_eq_true rfl) (by first | assumption | rfl) rfl rfl ?_
    refine go_iload_n dX3_tick_46 rfl ?_
    refine go_ri dX3_tick_47 tyI ⟨Nat.le_refl _, Nat.le_refl _⟩ (?_)
    refine ⟨by rw [hS1]; rfl, ?_, ?_, ?_⟩
    · unfold tS
      simp (disch := omega) only [ud, ua_same, ua_ne, uf_same, uf_ne]
      rw [hS1]
      show _ = ((_, _, if μ M 9 < 23 then μ M 9 + 1 else 0, _) : TS)
      rw [if_pos h30]
      try rfl
    · intro k a b c
      simp (disch := omega) only [ud, ua_same, ua_ne, uf_ne, a, b, c]
    · intro q a b
      simp (disch := omega) only [ud, ua_ne]
  ·
    refine go_iconst dX3_tick_33 rfl ?_
    refine go_goto (tgt := 43) dX3_tick_34 rfl ?_
    refine go_putI 9 dX3_tick_43 pl_X3_34 (by first | assumption | exact Nat.le_of_ble_eq_true rfl) (by first | assumption | rfl) rfl rfl ?_
    refine go_iload_n dX3_tick_46 rfl ?_
    refine go_ri dX3_tick_47 tyI ⟨Nat.le_refl _, Nat.le_refl _⟩ (?_)
    refine ⟨by rw [hS1]; rfl, ?_, ?_, ?_⟩
    · unfold tS
      simp (disch := omega) only [ud, ua_same, ua_ne, uf_same, uf_ne]
      rw [hS1]
      show _ = ((_, _, if μ M 9 < 23 then μ M 9 + 1 else 0, _) : TS)
      rw [if_neg h30]
      try rfl
    · intro k a b c
      simp (disch := omega) only [ud, ua_same, ua_ne, uf_ne, a, b, c]
    · intro q a b
      simp (disch := omega) only [ud, ua_ne]

def tkN (kinds steeps ph : Int → Int) (fall : Int) (s : TS) : Nat → TS × Int
  | 0 => (s, 0)
  | n + 1 => ((tkF kinds steeps ph fall (tkN kinds steeps ph fall s n).1).1, (tkN kinds steeps ph fall s n).2 + (tkF kinds steeps ph fall (tkN kinds steeps ph fall s n).1).2)
def phC (μ : Mem) (M : Nat) (c : Int) : Int := plainH (LM μ M) (μ (M + 2) c) (c / 6)
theorem tkN_b {kinds steeps ph : Int → Int} {fall : Int} {s : TS} (hf : 0 ≤ fall) (h : lB s.1) (h9 : 0 ≤ s.2.2.1 ∧ s.2.2.1 ≤ 23) : ∀ n : Nat, lB (tkN kinds steeps ph fall s n).1.1 ∧ (0 ≤ (tkN kinds steeps ph fall s n).1.2.2.1 ∧ (tkN kinds steeps ph fall s n).1.2.2.1 ≤ 23) ∧ 0 ≤ (tkN kinds steeps ph fall s n).2 ∧ (tkN kinds steeps ph fall s n).2 ≤ 30 * (n : Nat)
  | 0 => ⟨h, h9, by show (0 : Int) ≤ 0; omega, by show (0 : Int) ≤ _; omega⟩
  | n + 1 => by
    obtain ⟨h1, h2, h3, h4⟩ := tkN_b (kinds := kinds) (steeps := steeps) (ph := ph) hf h h9 n
    have h5 := tk_c (kinds := kinds) (steeps := steeps) (ph := ph) (fall := fall) (s := (tkN kinds steeps ph fall s n).1)
    refine ⟨tk_b hf h1, ?_, ?_⟩
    · show 0 ≤ (if (tkN kinds steeps ph fall s n).1.2.2.1 < 23 then (tkN kinds steeps ph fall s n).1.2.2.1 + 1 else 0) ∧ (if (tkN kinds steeps ph fall s n).1.2.2.1 < 23 then (tkN kinds steeps ph fall s n).1.2.2.1 + 1 else 0) ≤ 23
      split <;> omega
    · show 0 ≤ (tkN kinds steeps ph fall s n).2 + (tkF kinds steeps ph fall (tkN kinds steeps ph fall s n).1).2 ∧ (tkN kinds steeps ph fall s n).2 + (tkF kinds steeps ph fall (tkN kinds steeps ph fall s n).1).2 ≤ 30 * ((n + 1 : Nat) : Int)
      omega
/-- what a mountain keeps when ticks go by -/
def tkK (μ μ' : Mem) (M : Nat) : Prop := (∀ k, k ≠ 9 → k ≠ 11 → k ≠ 12 → μ' M k = μ M k) ∧ ∀ q, q ≠ 3 → q ≠ M → q ≠ M + 3 → q ≠ M + 6 → μ' q = μ q

set_option maxRecDepth 100000 in
set_option maxHeartbeats 4000000 in
theorem ct_X3_tickOften {l : Launch} {D : va_G} {cA : Nat → ClassId} {μ : Mem} {M : Nat} (hMt : isMt M) (hI : mtI μ M) (n : Int) (hn0 : 0 ≤ n) (hn1 : n ≤ 48) : CtN l D cA yX3_tickOften cX3_tickOften 4 (some .int) 6 [vr M, vi n] μ (Pi (fun x μ' => x = (tkN (μ (M + 1)) (μ (M + 2)) (phC μ M) (μ M 10) (tS μ M) n.toNat).2 ∧ tS μ' M = (tkN (μ (M + 1)) (μ (M + 2)) (phC μ M) (μ M 10) (tS μ M) n.toNat).1 ∧ tkK μ μ' M)) := by
  refine Ct.of (own := RX3) (by decide +kernel) rfl (fun σ => Nat.le_of_ble_eq_true rfl) (fun hM hP ha => ?_)
  obtain ⟨hM32, hM53, hA0, hA1, hA2, hA3, hA4, hA5, hA6, hs0, hs1, hs2, hs3, hs4, hs5, hs6, hr0, hr1, hr2, hr3, hr4, hr5, hr6⟩ := mt_f hMt
  obtain ⟨iK, iS, iL, iT, iTn, iD, iH, iF, iX, iW⟩ := id hI
  have loop : ∀ (m : Nat) (i : Int) (sl : Int) (μ1 : Mem), n - i = (m : Nat) → 0 ≤ i → (sl = (tkN (μ (M + 1)) (μ (M + 2)) (phC μ M) (μ M 10) (tS μ M) i.toNat).2) → (tS μ1 M = (tkN (μ (M + 1)) (μ (M + 2)) (phC μ M) (μ M 10) (tS μ M) i.toNat).1) → (tkK μ μ1 M) → (∀ c, 0 ≤ c → c < 30 → μ1 (M + 6) c = phC μ M c) → Go l D cA none RX3 cX3_tickOften 4 (some .int) (6, 0, 0) (QN (Pi (fun x μ' => x = (tkN (μ (M + 1)) (μ (M + 2)) (phC μ M) (μ M 10) (tS μ M) n.toNat).2 ∧ tS μ' M = (tkN (μ (M + 1)) (μ (M + 2)) (phC μ M) (μ M 10) (tS μ M) n.toNat).1 ∧ tkK μ μ' M))) 113 ρ0 0 0 8 [(0, vr M), (1, vi n), (2, vi sl), (3, vi i)] [] μ1 := by
    intro m
    induction m with
    | zero =>
      intro i sl μ1 hm hv hsl hts hkk hph
      refine go_iload_n dX3_tickOften_8 rfl ?_
      refine go_iload_n dX3_tickOften_9 rfl ?_
      refine go_icmp_ge (tgt := 26) dX3_tickOften_10 rfl (fun h10 => ?_) (fun h10 => ?_)
      ·
        refine go_iload_n dX3_tickOften_26 rfl ?_
        exact go_ri dX3_tickOften_27 tyI ⟨Nat.le_refl _, Nat.le_refl _⟩ (⟨by rw [hsl, show i = n by omega], by rw [hts, show i = n by omega], hkk⟩)
      ·
        exact absurd h10 (by omega)
    | succ m ih =>
      intro i sl μ1 hm hv hsl hts hkk hph
      refine go_iload_n dX3_tickOften_8 rfl ?_
      refine go_iload_n dX3_tickOften_9 rfl ?_
      refine go_icmp_ge (tgt := 26) dX3_tickOften_10 rfl (fun h10 => ?_) (fun h10 => ?_)
      ·
        exact absurd h10 (by omega)
      ·
        obtain ⟨hk1, hk2⟩ := hkk
        have hb := tkN_b (kinds := μ (M + 1)) (steeps := μ (M + 2)) (ph := phC μ M) (fall := μ M 10) (s := tS μ M) iF.1 iL iH i.toNat
        rw [← hts, ← hsl] at hb
        have hI1 : mtI μ1 M := mtI_up hM32 hI hb.1 hb.2.1 hk1 (fun q a b c d e => hk2 q a b c e)
        have hc := tk_c (kinds := μ (M + 1)) (steeps := μ (M + 2)) (ph := phC μ M) (fall := μ M 10) (s := tS μ1 M)
        refine go_iload_n dX3_tickOften_13 rfl ?_
        refine go_aload_n dX3_tickOften_14 rfl ?_
        refine go_vI (ci := 2) dX3_tickOften_15 (ct_X3_tick hMt hI1 (phC μ M) hph (fun c c0 c1 => ph_b (iS c c0 c1).1 (iS c c0 c1).2)) ml_X3_105 mc_X3_tick mv_X3_tick rfl (by first | assumption | exact Nat.le_of_ble_eq_true rfl) (by first | assumption | rfl) rfl ⟨rfl, rfl⟩ ⟨Nat.le_refl _, Nat.le_refl _⟩ rfl rfl rfl (fun x15 μ15 hc15 => ?_)
        rw [hk2 (M + 1) (by omega) (by omega) (by omega) (by omega), hk2 (M + 2) (by omega) (by omega) (by omega) (by omega), hk1 10 (by decide) (by decide) (by decide)] at hc15
        obtain ⟨rfl, hts15, hk15, hf15⟩ := hc15
        refine go_iadd dX3_tickOften_18 ⟨by omega, by omega⟩ ?_
        refine go_istore_n dX3_tickOften_19 rfl ?_
        refine go_iinc dX3_tickOften_20 rfl rfl ⟨by omega, by omega⟩ ?_
        refine go_goto (tgt := 8) dX3_tickOften_23 rfl ?_
        have hsn : (i + 1).toNat = i.toNat + 1 := by omega
        refine go_drop (ih _ _ μ15 (by omega) (by omega) ?_ ?_ ⟨?_, ?_⟩ ?_) rfl
        · rw [hsn]; show _ = (tkN _ _ _ _ _ i.toNat).2 + (tkF _ _ _ _ (tkN _ _ _ _ _ i.toNat).1).2; rw [← hts, ← hsl]
        · rw [hsn, hts15]; show _ = (tkF _ _ _ _ (tkN _ _ _ _ _ i.toNat).1).1; rw [← hts]
        · intro k a b c; rw [hk15 k a b c]; exact hk1 k a b c
        · intro q a b c d; rw [hf15 q b c]; exact hk2 q a b c d
        · intro c c0 c1; rw [hf15 (M + 6) (by omega) (by omega)]; exact hph c c0 c1
  refine go_aload_n dX3_tickOften_0 rfl ?_
  refine go_vV (ci := 2) dX3_tickOften_1 (ct_X3_brace hMt hI) ml_X3_102 mc_X3_brace mv_X3_brace rfl (by first | assumption | exact Nat.le_of_ble_eq_true rfl) (by first | assumption | rfl) rfl ⟨rfl, rfl⟩ ⟨Nat.le_refl _, Nat.le_refl _⟩ rfl rfl rfl (fun μ1 hc1 => ?_)
  obtain ⟨hb1, hf1⟩ := hc1
  refine go_iconst dX3_tickOften_4 rfl ?_
  refine go_istore_n dX3_tickOften_5 rfl ?_
  refine go_iconst dX3_tickOften_6 rfl ?_
  refine go_istore_n dX3_tickOften_7 rfl ?_
  refine go_drop (loop n.toNat 0 0 μ1 (by omega) (by omega) rfl ?_ ⟨?_, ?_⟩ hb1) rfl
  · unfold tS; rw [hf1 M (by omega) (by omega), hf1 (M + 3) (by omega) (by omega)]; rfl
  · intro k _ _ _; rw [hf1 M (by omega) (by omega)]
  · intro q a b c d; exact hf1 q a d

set_option maxRecDepth 100000 in
set_option maxHeartbeats 4000000 in
theorem ct_X3_become {l : Launch} {D : va_G} {cA : Nat → ClassId} {μ : Mem} {M N : Nat} (hMt : isMt M) (hNt : isMt N) (hMN : M ≠ N) : CtN l D cA yX3_become cX3_become 2 none 2 [vr M, vr N] μ (Pv (fun μ' => (∀ c, 0 ≤ c → c < 30 → μ' (M + 1) c = μ (N + 1) c ∧ μ' (M + 2) c = μ (N + 2) c ∧ μ' (M + 3) c = μ (N + 3) c) ∧ (∀ i, 0 ≤ i → i < 24 → μ' (M + 4) i = μ (N + 4) i) ∧ (μ' M 7 = μ N 7 ∧ μ' M 8 = μ N 8 ∧ μ' M 9 = μ N 9 ∧ μ' M 10 = μ N 10 ∧ μ' M 11 = μ N 11 ∧ μ' M 12 = μ N 12 ∧ μ' M 13 = μ N 13) ∧ ∀ q, q ≠ M → q ≠ M + 1 → q ≠ M + 2 → q ≠ M + 3 → q ≠ M + 4 → μ' q = μ q)) := by
  refine Ct.of (own := RX3) (by decide +kernel) rfl (fun σ => Nat.le_of_ble_eq_true rfl) (fun hM hP ha => ?_)
  obtain ⟨hM32, hM53, hA0, hA1, hA2, hA3, hA4, hA5, hA6, hs0, hs1, hs2, hs3, hs4, hs5, hs6, hr0, hr1, hr2, hr3, hr4, hr5, hr6⟩ := mt_f hMt
  obtain ⟨hN32, hN53, nA0, nA1, nA2, nA3, nA4, nA5, nA6, ns0, ns1, ns2, ns3, ns4, ns5, ns6, nr0, nr1, nr2, nr3, nr4, nr5, nr6⟩ := mt_f hNt
  have hap : M + 6 < N ∨ N + 6 < M := by unfold isMt at hMt hNt; omega
  refine go_aload_n dX3_become_0 rfl ?_
  refine go_getR dX3_become_1 fl_X3_9 (by first | assumption | exact Nat.le_of_ble_eq_true rfl) (by first | assumption | rfl) rfl (by first | assumption | rfl) ?_
  refine go_iconst dX3_become_4 rfl ?_
  refine go_aload_n dX3_become_5 rfl ?_
  refine go_getR dX3_become_6 fl_X3_9 (by first | assumption | exact Nat.le_of_ble_eq_true rfl) (by first | assumption | rfl) rfl (by first | assumption | rfl) ?_
  refine go_iconst dX3_become_9 rfl ?_
  refine go_bipush dX3_become_10 rfl (by decide) ?_
  refine go_copy dX3_become_12 aw_X3_47 rfl rfl (by first | assumption | exact Nat.le_of_ble_eq_true rfl) (by first | assumption | exact Nat.le_of_ble_eq_true rfl) (by first | assumption | rfl) (by first | assumption | rfl) (by omega) (by omega) (by omega) (by omega) (by omega) ?_
  refine go_aload_n dX3_become_15 rfl ?_
  refine go_getR dX3_become_16 fl_X3_15 (by first | assumption | exact Nat.le_of_ble_eq_true rfl) (by first | assumption | rfl) rfl (by first | assumption | rfl) ?_
  refine go_iconst dX3_become_19 rfl ?_
  refine go_aload_n dX3_become_20 rfl ?_
  refine go_getR dX3_become_21 fl_X3_15 (by first | assumption | exact Nat.le_of_ble_eq_true rfl) (by first | assumption | rfl) rfl (by first | assumption | rfl) ?_
  refine go_iconst dX3_become_24 rfl ?_
  refine go_bipush dX3_become_25 rfl (by decide) ?_
  refine go_copy dX3_become_27 aw_X3_47 rfl rfl (by first | assumption | exact Nat.le_of_ble_eq_true rfl) (by first | assumption | exact Nat.le_of_ble_eq_true rfl) (by first | assumption | rfl) (by first | assumption | rfl) (by omega) (by omega) (by omega) (by omega) (by omega) ?_
  refine go_aload_n dX3_become_30 rfl ?_
  refine go_getR dX3_become_31 fl_X3_18 (by first | assumption | exact Nat.le_of_ble_eq_true rfl) (by first | assumption | rfl) rfl (by first | assumption | rfl) ?_
  refine go_iconst dX3_become_34 rfl ?_
  refine go_aload_n dX3_become_35 rfl ?_
  refine go_getR dX3_become_36 fl_X3_18 (by first | assumption | exact Nat.le_of_ble_eq_true rfl) (by first | assumption | rfl) rfl (by first | assumption | rfl) ?_
  refine go_iconst dX3_become_39 rfl ?_
  refine go_bipush dX3_become_40 rfl (by decide) ?_
  refine go_copy dX3_become_42 aw_X3_47 rfl rfl (by first | assumption | exact Nat.le_of_ble_eq_true rfl) (by first | assumption | exact Nat.le_of_ble_eq_true rfl) (by first | assumption | rfl) (by first | assumption | rfl) (by omega) (by omega) (by omega) (by omega) (by omega) ?_
  refine go_aload_n dX3_become_45 rfl ?_
  refine go_getR dX3_become_46 fl_X3_21 (by first | assumption | exact Nat.le_of_ble_eq_true rfl) (by first | assumption | rfl) rfl (by first | assumption | rfl) ?_
  refine go_iconst dX3_become_49 rfl ?_
  refine go_aload_n dX3_become_50 rfl ?_
  refine go_getR dX3_become_51 fl_X3_21 (by first | assumption | exact Nat.le_of_ble_eq_true rfl) (by first | assumption | rfl) rfl (by first | assumption | rfl) ?_
  refine go_iconst dX3_become_54 rfl ?_
  refine go_bipush dX3_become_55 rfl (by decide) ?_
  refine go_copy dX3_become_57 aw_X3_47 rfl rfl (by first | assumption | exact Nat.le_of_ble_eq_true rfl) (by first | assumption | exact Nat.le_of_ble_eq_true rfl) (by first | assumption | rfl) (by first | assumption | rfl) (by omega) (by omega) (by omega) (by omega) (by omega) ?_
  refine go_aload_n dX3_become_60 rfl ?_
  refine go_aload_n dX3_become_61 rfl ?_
  refine go_getI 7 dX3_become_62 fl_X3_53 (by first | assumption | exact Nat.le_of_ble_eq_true rfl) (by first | assumption | rfl) rfl rfl ?_
  refine go_putI 7 dX3_become_65 pl_X3_53 (by first | assumption | exact Nat.le_of_ble_eq_true rfl) (by first | assumption | rfl) rfl rfl ?_
  refine go_aload_n dX3_become_68 rfl ?_
  refine go_aload_n dX3_become_69 rfl ?_
  refine go_getI 8 dX3_become_70 fl_X3_30 (by first | assumption | exact Nat.le_of_ble_eq_true rfl) (by first | assumption | rfl) rfl rfl ?_
  try simp (disch := omega) only [ud, ua_same, ua_ne, uf_same, uf_ne]
  refine go_putI 8 dX3_become_73 pl_X3_30 (by first | assumption | exact Nat.le_of_ble_eq_true rfl) (by first | assumption | rfl) rfl rfl ?_
  refine go_aload_n dX3_become_76 rfl ?_
  refine go_aload_n dX3_become_77 rfl ?_
  refine go_getI 9 dX3_become_78 fl_X3_34 (by first | assumption | exact Nat.le_of_ble_eq_true rfl) (by first | assumption | rfl) rfl rfl ?_
  try simp (disch := omega) only [ud, ua_same, ua_ne, uf_same, uf_ne]
  refine go_putI 9 dX3_become_81 pl_X3_34 (by first | assumption | exact Nat.le_of_ble_eq_true rfl) (by first | assumption | rfl) rfl rfl ?_
  refine go_aload_n dX3_become_84 rfl ?_
  refine go_aload_n dX3_become_85 rfl ?_
  refine go_getI 10 dX3_become_86 fl_X3_37 (by first | assumption | exact Nat.le_of_ble_eq_true rfl) (by first | assumption | rfl) rfl rfl ?_
  try simp (disch := omega) only [ud, ua_same, ua_ne, uf_same, uf_ne]
  refine go_putI 10 dX3_become_89 pl_X3_37 (by first | assumption | exact Nat.le_of_ble_eq_true rfl) (by first | assumption | rfl) rfl rfl ?_
  refine go_aload_n dX3_become_92 rfl ?_
  refine go_aload_n dX3_become_93 rfl ?_
  refine go_getI 11 dX3_become_94 fl_X3_40 (by first | assumption | exact Nat.le_of_ble_eq_true rfl) (by first | assumption | rfl) rfl rfl ?_
  try simp (disch := omega) only [ud, ua_same, ua_ne, uf_same, uf_ne]
  refine go_putI 11 dX3_become_97 pl_X3_40 (by first | assumption | exact Nat.le_of_ble_eq_true rfl) (by first | assumption | rfl) rfl rfl ?_
  refine go_aload_n dX3_become_100 rfl ?_
  refine go_aload_n dX3_become_101 rfl ?_
  refine go_getI 12 dX3_become_102 fl_X3_56 (by first | assumption | exact Nat.le_of_ble_eq_true rfl) (by first | assumption | rfl) rfl rfl ?_
  try simp (disch := omega) only [ud, ua_same, ua_ne, uf_same, uf_ne]
  refine go_putI 12 dX3_become_105 pl_X3_56 (by first | assumption | exact Nat.le_of_ble_eq_true rfl) (by first | assumption | rfl) rfl rfl ?_
  refine go_aload_n dX3_become_108 rfl ?_
  refine go_aload_n dX3_become_109 rfl ?_
  refine go_getI 13 dX3_become_110 fl_X3_59 (by first | assumption | exact Nat.le_of_ble_eq_true rfl) (by first | assumption | rfl) rfl rfl ?_
  try simp (disch := omega) only [ud, ua_same, ua_ne, uf_same, uf_ne]
  refine go_putI 13 dX3_become_113 pl_X3_59 (by first | assumption | exact Nat.le_of_ble_eq_true rfl) (by first | assumption | rfl) rfl rfl ?_
  refine go_rv dX3_become_116 rfl ⟨Nat.le_refl _, Nat.le_refl _⟩ (?_)
  refine ⟨fun c c0 c1 => ⟨?_, ?_, ?_⟩, fun i i0 i1 => ?_, ⟨?_, ?_, ?_, ?_, ?_, ?_, ?_⟩, fun q a b c d e => ?_⟩
  · simp (disch := omega) only [ud, ua_same, ua_ne, uf_same, uf_ne]
    unfold cpI
    rw [if_pos (by omega), show (0 : Int) + (c - 0) = c by omega]
    try simp (disch := omega) only [ud, ua_same, ua_ne, uf_same, uf_ne]
  · simp (disch := omega) only [ud, ua_same, ua_ne, uf_same, uf_ne]
    unfold cpI
    rw [if_pos (by omega), show (0 : Int) + (c - 0) = c by omega]
    try simp (disch := omega) only [ud, ua_same, ua_ne, uf_same, uf_ne]
  · simp (disch := omega) only [ud, ua_same, ua_ne, uf_same, uf_ne]
    unfold cpI
    rw [if_pos (by omega), show (0 : Int) + (c - 0) = c by omega]
    try simp (disch := omega) only [ud, ua_same, ua_ne, uf_same, uf_ne]
  · simp (disch := omega) only [ud, ua_same, ua_ne, uf_same, uf_ne]
    unfold cpI
    rw [if_pos (by omega), show (0 : Int) + (i - 0) = i by omega]
    try simp (disch := omega) only [ud, ua_same, ua_ne, uf_same, uf_ne]
  · simp (disch := omega) only [ud, ua_same, ua_ne, uf_same, uf_ne]
  · simp (disch := omega) only [ud, ua_same, ua_ne, uf_same, uf_ne]
  · simp (disch := omega) only [ud, ua_same, ua_ne, uf_same, uf_ne]
  · simp (disch := omega) only [ud, ua_same, ua_ne, uf_same, uf_ne]
  · simp (disch := omega) only [ud, ua_same, ua_ne, uf_same, uf_ne]
  · simp (disch := omega) only [ud, ua_same, ua_ne, uf_same, uf_ne]
  · simp (disch := omega) only [ud, ua_same, ua_ne, uf_same, uf_ne]
  · simp (disch := omega) only [ud, ua_same, ua_ne, uf_same, uf_ne]

