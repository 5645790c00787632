/-! THE CLASS: public methods: calm, images, rows that wait, the tape, texts told -/
def clm (k st ph : Int → Int) (fall : Int) : Nat → TS → Int → Int
  | 0, _, _ => -1000000005
  | m + 1, s, i => if 0 < (tkF k st ph fall s).2 then i else clm k st ph fall m (tkF k st ph fall s).1 (i + 1)
theorem clm_cg {k k' st st' ph ph' : Int → Int} {fall : Int} (hk : EqR k k') (hst : EqR st st') (hp : EqR ph ph') : ∀ (m : Nat) (s t : TS) (i : Int), tsE s t → clm k st ph fall m s i = clm k' st' ph' fall m t i
  | 0, _, _, _, _ => rfl
  | m + 1, s, t, i, h => by
    obtain ⟨a, b⟩ := tkF_cg (fall := fall) hk hst hp h
    show (if 0 < (tkF k st ph fall s).2 then i else _) = (if 0 < (tkF k' st' ph' fall t).2 then i else _)
    rw [b, clm_cg hk hst hp m _ _ (i + 1) a]
def rgA (wt : Int → Int) (told : Int) (k st ph : Int → Int) (fall : Int) : Nat → TS → Int → Int
  | 0, _, i => 2 * i
  | m + 1, s, i => if told ≤ 2 * i ∨ wt (2 * i) ≠ (tkF k st ph fall s).2 then 2 * i else if told ≤ 2 * i + 1 ∨ wt (2 * i + 1) ≠ sumN (tkF k st ph fall s).1.1 30 then 2 * i + 1 else rgA wt told k st ph fall m (tkF k st ph fall s).1 (i + 1)
theorem rgA_cg {wt : Int → Int} {told : Int} {k k' st st' ph ph' : Int → Int} {fall : Int} (hk : EqR k k') (hst : EqR st st') (hp : EqR ph ph') : ∀ (m : Nat) (s t : TS) (i : Int), tsE s t → rgA wt told k st ph fall m s i = rgA wt told k' st' ph' fall m t i
  | 0, _, _, _, _ => rfl
  | m + 1, s, t, i, h => by
    obtain ⟨a, b⟩ := tkF_cg (fall := fall) hk hst hp h
    show (if told ≤ 2 * i ∨ wt (2 * i) ≠ (tkF k st ph fall s).2 then 2 * i else if told ≤ 2 * i + 1 ∨ wt (2 * i + 1) ≠ sumN (tkF k st ph fall s).1.1 30 then 2 * i + 1 else _) = (if told ≤ 2 * i ∨ wt (2 * i) ≠ (tkF k' st' ph' fall t).2 then 2 * i else if told ≤ 2 * i + 1 ∨ wt (2 * i + 1) ≠ sumN (tkF k' st' ph' fall t).1.1 30 then 2 * i + 1 else _)
    rw [b, sumN_cg a.1 30 (by omega), rgA_cg hk hst hp m _ _ (i + 1) a]
abbrev clmM (μ : Mem) (M : Nat) : Int := clm (μ (M + 1)) (μ (M + 2)) (phC μ M) (μ M 10) 48 (tS μ M) 1
abbrev rgM (wt : Int → Int) (told : Int) (μ : Mem) (M : Nat) (n : Nat) : Int := rgA wt told (μ (M + 1)) (μ (M + 2)) (phC μ M) (μ M 10) n (tS μ M) 0
theorem asM_clm {μ μ' : Mem} {M N : Nat} (h : asM μ' M μ N) (hl : ∀ q, 4 ≤ q → q < 32 → μ' q = μ q) (hI : mtI μ N) : clmM μ' M = clmM μ N := by
  have e10 : μ' M 10 = μ N 10 := h.2.2.2.2.2.1
  show clm (μ' (M + 1)) (μ' (M + 2)) (phC μ' M) (μ' M 10) 48 (tS μ' M) 1 = _
  rw [e10]
  exact clm_cg (fun c a b => (h.1 c a b).1) (fun c a b => (h.1 c a b).2.1) (asM_ph h hl hI) 48 _ _ 1 (asM_ts h)
theorem asM_rg {wt : Int → Int} {told : Int} {μ μ' : Mem} {M N n : Nat} (h : asM μ' M μ N) (hl : ∀ q, 4 ≤ q → q < 32 → μ' q = μ q) (hI : mtI μ N) : rgM wt told μ' M n = rgM wt told μ N n := by
  have e10 : μ' M 10 = μ N 10 := h.2.2.2.2.2.1
  show rgA wt told (μ' (M + 1)) (μ' (M + 2)) (phC μ' M) (μ' M 10) n (tS μ' M) 0 = _
  rw [e10]
  exact rgA_cg (fun c a b => (h.1 c a b).1) (fun c a b => (h.1 c a b).2.1) (asM_ph h hl hI) n _ _ 0 (asM_ts h)
theorem rg_b {wt : Int → Int} {told : Int} {k st ph : Int → Int} {fall : Int} : ∀ (m : Nat) (s : TS) (i : Int), 0 ≤ i → 0 ≤ rgA wt told k st ph fall m s i ∧ rgA wt told k st ph fall m s i ≤ 2 * (i + (m : Nat))
  | 0, _, i, h => by show 0 ≤ 2 * i ∧ 2 * i ≤ 2 * (i + ((0 : Nat) : Int)); omega
  | m + 1, s, i, h => by
    have := rg_b (wt := wt) (told := told) (k := k) (st := st) (ph := ph) (fall := fall) m (tkF k st ph fall s).1 (i + 1) (by omega)
    unfold rgA
    split
    · omega
    · split <;> omega

set_option maxRecDepth 100000 in
set_option maxHeartbeats 4000000 in
theorem ct_X9_calm {l : Launch} {D : va_G} {cA : Nat → ClassId} {μ : Mem} (hI : mtI μ 32) : CtN l D cA yX9_calm cX9_calm 2 (some .int) 7 [vr 0] μ (Pi (fun x μ' => x = clmM μ 32 ∧ ∀ q, ¬ cs q → μ' q = μ q)) := by
  refine Ct.of (own := RX9) (by decide +kernel) rfl (fun σ => Nat.le_of_ble_eq_true rfl) (fun hM hP ha => ?_)
  obtain ⟨w0_0, w0_1, w0_2, w0_3, w0_4, w0_5, w0_6, w0_7, w0_8, w0_9, w1_0, w1_1, w32_1, w32_2, w32_3, w32_4, w32_5, w32_6, w39_1, w39_2, w39_3, w39_4, w39_5, w39_6, w46_1, w46_2, w46_3, w46_4, w46_5, w46_6, w56_0, w58_0, w58_1, w53_0, w53_1⟩ := ws_f
  have hMt : isMt 32 := Or.inl rfl
  obtain ⟨iK, iS, iL, iT, iTn, iD, iH, iF, iX, iW⟩ := id hI
  simp only [Nat.reduceAdd] at iK iS iL iT
  refine go_aload_n dX9_calm_0 rfl ?_
  refine go_getR dX9_calm_1 fl_X9_28 (by first | assumption | exact Nat.le_of_ble_eq_true rfl) (by first | assumption | rfl) rfl (by first | assumption | rfl) ?_
  refine go_aload_n dX9_calm_4 rfl ?_
  refine go_getR dX9_calm_5 fl_X9_21 (by first | assumption | exact Nat.le_of_ble_eq_true rfl) (by first | assumption | rfl) rfl (by first | assumption | rfl) ?_
  refine go_vV (ci := 2) dX9_calm_8 (ct_X3_become (M := 46) (N := 32) (by unfold isMt; omega) (by unfold isMt; omega) (by decide)) ml_X9_146 mc_X3_become mv_X3_become rfl (by first | assumption | exact Nat.le_of_ble_eq_true rfl) (by first | assumption | rfl) rfl ⟨rfl, rfl⟩ ⟨Nat.le_refl _, Nat.le_refl _⟩ rfl rfl rfl (fun μ8 hc8 => ?_)
  have ha8 : asM μ8 46 μ 32 := ⟨hc8.1, hc8.2.1, hc8.2.2.1⟩
  have hfb8 := hc8.2.2.2
  simp only [Nat.reduceAdd] at hfb8
  have hl8 : ∀ q, 4 ≤ q → q < 32 → μ8 q = μ q := fun q a b => hfb8 q (by omega) (by omega) (by omega) (by omega) (by omega)
  have hIb : mtI μ8 46 := asM_I ha8 hl8 hI
  refine go_aload_n dX9_calm_11 rfl ?_
  refine go_getR dX9_calm_12 fl_X9_28 (by first | assumption | exact Nat.le_of_ble_eq_true rfl) (by first | assumption | rfl) rfl (by first | assumption | rfl) ?_
  refine go_vV (ci := 2) dX9_calm_15 (ct_X3_brace (M := 46) (by unfold isMt; omega) hIb) ml_X9_153 mc_X3_brace mv_X3_brace rfl (by first | assumption | exact Nat.le_of_ble_eq_true rfl) (by first | assumption | rfl) rfl ⟨rfl, rfl⟩ ⟨Nat.le_refl _, Nat.le_refl _⟩ rfl rfl rfl (fun μ15 hc15 => ?_)
  simp only [Nat.reduceAdd] at hc15
  obtain ⟨hph, hfr⟩ := hc15
  obtain ⟨ν, hν⟩ : ∃ q, q = μ8 := ⟨_, rfl⟩
  rw [← hν] at hph hfr hIb ha8 hl8 hfb8
  have iFt := hIb.2.2.2.2.2.2.2.1
  have iSt := hIb.2.1
  have iHt := hIb.2.2.2.2.2.2.1
  have iLt := hIb.2.2.1
  have loop : ∀ (m : Nat) (i : Int) (μ1 : Mem), 49 - i = (m : Nat) → 0 ≤ i → (tkK ν μ1 46) → (∀ c, 0 ≤ c → c < 30 → μ1 52 c = phC ν 46 c) → (lB (μ1 49)) → (0 ≤ μ1 46 9 ∧ μ1 46 9 ≤ 23) → clmM ν 46 = clm (ν 47) (ν 48) (phC ν 46) (ν 46 10) m (tS μ1 46) i → Go l D cA none RX9 cX9_calm 2 (some .int) (7, 0, 0) (QN (Pi (fun x μ' => x = clmM μ 32 ∧ ∀ q, ¬ cs q → μ' q = μ q))) 113 ρ0 0 0 20 [(0, vr 0), (1, vi i)] [] μ1 := by
    intro m
    induction m with
    | zero =>
      intro i μ1 hm hi0 hkk hph1 hlb h9 hres
      refine go_iload_n dX9_calm_20 rfl ?_
      refine go_bipush dX9_calm_21 rfl (by decide) ?_
      refine go_icmp_gt (tgt := 44) dX9_calm_23 rfl (fun h23 => ?_) (fun h23 => ?_)
      ·
        refine go_ldc dX9_calm_44 kc_X9_159 rfl ?_
        refine go_ri dX9_calm_46 tyI ⟨Nat.le_refl _, Nat.le_refl _⟩ (?_)
        refine ⟨?_, fun q hq => ?_⟩
        · rw [← asM_clm ha8 hl8 hI, hres]; rfl
        · unfold cs at hq
          rw [hkk.2 q (by omega) (by omega) (by omega) (by omega)]
          exact hfb8 q (by omega) (by omega) (by omega) (by omega) (by omega)
      ·
        exact absurd h23 (by omega)
    | succ m ih =>
      intro i μ1 hm hi0 hkk hph1 hlb h9 hres
      refine go_iload_n dX9_calm_20 rfl ?_
      refine go_bipush dX9_calm_21 rfl (by decide) ?_
      refine go_icmp_gt (tgt := 44) dX9_calm_23 rfl (fun h23 => ?_) (fun h23 => ?_)
      ·
        exact absurd h23 (by omega)
      ·
        obtain ⟨hk1, hk2⟩ := id hkk
        simp only [Nat.reduceAdd] at hk2
        have hI1 : mtI μ1 46 := mtI_up (by omega) hIb hlb h9 hk1 (fun q a b c d e => hk2 q a b c e)
        have hk47 : μ1 47 = ν 47 := hk2 47 (by omega) (by omega) (by omega) (by omega)
        have hk48 : μ1 48 = ν 48 := hk2 48 (by omega) (by omega) (by omega) (by omega)
        have hk10 : μ1 46 10 = ν 46 10 := hk1 10 (by decide) (by decide) (by decide)
        refine go_aload_n dX9_calm_26 rfl ?_
        refine go_getR dX9_calm_27 fl_X9_28 (by first | assumption | exact Nat.le_of_ble_eq_true rfl) (by first | assumption | rfl) rfl (by first | assumption | rfl) ?_
        refine go_vI (ci := 2) dX9_calm_30 (ct_X3_tick (M := 46) (by unfold isMt; omega) hI1 (phC ν 46) hph1 (fun c a b => ph_b (iSt c a b).1 (iSt c a b).2)) ml_X9_156 mc_X3_tick mv_X3_tick rfl (by first | assumption | exact Nat.le_of_ble_eq_true rfl) (by first | assumption | rfl) rfl ⟨rfl, rfl⟩ ⟨Nat.le_refl _, Nat.le_refl _⟩ rfl rfl rfl (fun x30 μ30 hc30 => ?_)
        simp only [Nat.reduceAdd] at hc30
        rw [hk47, hk48, hk10] at hc30
        obtain ⟨rfl, ht30, hk30, hf30⟩ := hc30
        have hlb2 : lB (μ30 49) := by
          have e : μ30 49 = (tkF (ν 47) (ν 48) (phC ν 46) (ν 46 10) (tS μ1 46)).1.1 := congrArg Prod.fst ht30
          rw [e]
          exact tk_b iFt.1 hlb
        have h92 : 0 ≤ μ30 46 9 ∧ μ30 46 9 ≤ 23 := by
          have e : μ30 46 9 = (if μ1 46 9 < 23 then μ1 46 9 + 1 else 0) := congrArg (fun q => q.2.2.1) ht30
          rw [e]
          split <;> omega
        have hkk2 : tkK ν μ30 46 := ⟨fun k a b c => (hk30 k a b c).trans (hk1 k a b c), fun q a b c d => (hf30 q b c).trans (hk2 q a b c d)⟩
        have hph2 : ∀ c, 0 ≤ c → c < 30 → μ30 52 c = phC ν 46 c := fun c a b => by rw [hf30 52 (by omega) (by omega)]; exact hph1 c a b
        refine go_if_le (tgt := 38) dX9_calm_33 rfl (fun h33 => ?_) (fun h33 => ?_)
        ·
          refine go_iinc dX9_calm_38 rfl rfl ⟨by omega, by omega⟩ ?_
          refine go_goto (tgt := 20) dX9_calm_41 rfl ?_
          refine go_drop (ih _ μ30 (by omega) (by omega) hkk2 hph2 hlb2 h92 ?_) rfl
          rw [hres, ht30]
          show (if 0 < (tkF _ _ _ _ _).2 then i else _) = _
          rw [if_neg (by omega)]
        ·
          refine go_iload_n dX9_calm_36 rfl ?_
          refine go_ri dX9_calm_37 tyI ⟨Nat.le_refl _, Nat.le_refl _⟩ (?_)
          refine ⟨?_, fun q hq => ?_⟩
          · rw [← asM_clm ha8 hl8 hI, hres]
            show _ = (if 0 < (tkF _ _ _ _ _).2 then i else _)
            rw [if_pos (by omega)]
          · unfold cs at hq
            rw [hkk2.2 q (by omega) (by omega) (by omega) (by omega)]
            exact hfb8 q (by omega) (by omega) (by omega) (by omega) (by omega)
  refine go_iconst dX9_calm_18 rfl ?_
  refine go_istore_n dX9_calm_19 rfl ?_
  refine go_drop (loop 48 1 μ15 (by omega) (by omega) ⟨fun k _ _ _ => by rw [hfr 46 (by omega) (by omega)], fun q a b c d => hfr q a d⟩ hph (by rw [hfr 49 (by omega) (by omega)]; exact iLt) (by rw [hfr 46 (by omega) (by omega)]; exact iHt) ?_) rfl
  rw [show tS μ15 46 = tS ν 46 by unfold tS; simp only [Nat.reduceAdd]; rw [hfr 46 (by omega) (by omega), hfr 49 (by omega) (by omega)]]

set_option maxRecDepth 100000 in
set_option maxHeartbeats 4000000 in
theorem ct_X9_rightAhead {l : Launch} {D : va_G} {cA : Nat → ClassId} {μ : Mem} (hI2 : mtI μ 39) (told n : Int) (ht0 : 0 ≤ told) (ht1 : told ≤ 60) (hn0 : 1 ≤ n) (hn1 : n ≤ 30) : CtN l D cA yX9_rightAhead cX9_rightAhead 6 (some .int) 7 [vr 0, vi told, vi n] μ (Pi (fun x μ' => x = rgM (μ 86) told μ 39 n.toNat ∧ ∀ q, ¬ cs q → μ' q = μ q)) := by
  refine Ct.of (own := RX9) (by decide +kernel) rfl (fun σ => Nat.le_of_ble_eq_true rfl) (fun hM hP ha => ?_)
  obtain ⟨w0_0, w0_1, w0_2, w0_3, w0_4, w0_5, w0_6, w0_7, w0_8, w0_9, w1_0, w1_1, w32_1, w32_2, w32_3, w32_4, w32_5, w32_6, w39_1, w39_2, w39_3, w39_4, w39_5, w39_6, w46_1, w46_2, w46_3, w46_4, w46_5, w46_6, w56_0, w58_0, w58_1, w53_0, w53_1⟩ := ws_f
  refine go_aload_n dX9_rightAhead_0 rfl ?_
  refine go_getR dX9_rightAhead_1 fl_X9_28 (by first | assumption | exact Nat.le_of_ble_eq_true rfl) (by first | assumption | rfl) rfl (by first | assumption | rfl) ?_
  refine go_aload_n dX9_rightAhead_4 rfl ?_
  refine go_getR dX9_rightAhead_5 fl_X9_25 (by first | assumption | exact Nat.le_of_ble_eq_true rfl) (by first | assumption | rfl) rfl (by first | assumption | rfl) ?_
  refine go_vV (ci := 2) dX9_rightAhead_8 (ct_X3_become (M := 46) (N := 39) (by unfold isMt; omega) (by unfold isMt; omega) (by decide)) ml_X9_146 mc_X3_become mv_X3_become rfl (by first | assumption | exact Nat.le_of_ble_eq_true rfl) (by first | assumption | rfl) rfl ⟨rfl, rfl⟩ ⟨Nat.le_refl _, Nat.le_refl _⟩ rfl rfl rfl (fun μ8 hc8 => ?_)
  have ha8 : asM μ8 46 μ 39 := ⟨hc8.1, hc8.2.1, hc8.2.2.1⟩
  have hfb8 := hc8.2.2.2
  simp only [Nat.reduceAdd] at hfb8
  have hl8 : ∀ q, 4 ≤ q → q < 32 → μ8 q = μ q := fun q a b => hfb8 q (by omega) (by omega) (by omega) (by omega) (by omega)
  have hIb : mtI μ8 46 := asM_I ha8 hl8 hI2
  refine go_aload_n dX9_rightAhead_11 rfl ?_
  refine go_getR dX9_rightAhead_12 fl_X9_28 (by first | assumption | exact Nat.le_of_ble_eq_true rfl) (by first | assumption | rfl) rfl (by first | assumption | rfl) ?_
  refine go_vV (ci := 2) dX9_rightAhead_15 (ct_X3_brace (M := 46) (by unfold isMt; omega) hIb) ml_X9_153 mc_X3_brace mv_X3_brace rfl (by first | assumption | exact Nat.le_of_ble_eq_true rfl) (by first | assumption | rfl) rfl ⟨rfl, rfl⟩ ⟨Nat.le_refl _, Nat.le_refl _⟩ rfl rfl rfl (fun μ15 hc15 => ?_)
  simp only [Nat.reduceAdd] at hc15
  obtain ⟨hph, hfr⟩ := hc15
  obtain ⟨ν, hν⟩ : ∃ q, q = μ8 := ⟨_, rfl⟩
  rw [← hν] at hph hfr hIb ha8 hl8 hfb8
  have iFt := hIb.2.2.2.2.2.2.2.1
  have iSt := hIb.2.1
  have iHt := hIb.2.2.2.2.2.2.1
  have iLt := hIb.2.2.1
  have loop : ∀ (m : Nat) (i : Int) (μ1 : Mem), n - i = (m : Nat) → 0 ≤ i → (tkK ν μ1 46) → (∀ c, 0 ≤ c → c < 30 → μ1 52 c = phC ν 46 c) → (lB (μ1 49)) → (0 ≤ μ1 46 9 ∧ μ1 46 9 ≤ 23) → rgM (μ 86) told ν 46 n.toNat = rgA (μ 86) told (ν 47) (ν 48) (phC ν 46) (ν 46 10) m (tS μ1 46) i → Go l D cA none RX9 cX9_rightAhead 6 (some .int) (7, 0, 0) (QN (Pi (fun x μ' => x = rgM (μ 86) told μ 39 n.toNat ∧ ∀ q, ¬ cs q → μ' q = μ q))) 113 ρ0 0 0 20 [(0, vr 0), (1, vi told), (2, vi n), (3, vi i)] [] μ1 := by
    intro m
    induction m with
    | zero =>
      intro i μ1 hm hi0 hkk hph1 hlb h9 hres
      refine go_iload_n dX9_rightAhead_20 rfl ?_
      refine go_iload_n dX9_rightAhead_21 rfl ?_
      refine go_icmp_ge (tgt := 98) dX9_rightAhead_22 rfl (fun h22 => ?_) (fun h22 => ?_)
      ·
        refine go_iconst dX9_rightAhead_98 rfl ?_
        refine go_iload_n dX9_rightAhead_99 rfl ?_
        refine go_imul dX9_rightAhead_100 ⟨by omega, by omega⟩ ?_
        refine go_ri dX9_rightAhead_101 tyI ⟨Nat.le_refl _, Nat.le_refl _⟩ (?_)
        refine ⟨?_, fun q hq => ?_⟩
        · rw [← asM_rg ha8 hl8 hI2, hres, show n = i by omega]; rfl
        · unfold cs at hq
          rw [hkk.2 q (by omega) (by omega) (by omega) (by omega)]
          exact hfb8 q (by omega) (by omega) (by omega) (by omega) (by omega)
      ·
        exact absurd h22 (by omega)
    | succ m ih =>
      intro i μ1 hm hi0 hkk hph1 hlb h9 hres
      refine go_iload_n dX9_rightAhead_20 rfl ?_
      refine go_iload_n dX9_rightAhead_21 rfl ?_
      refine go_icmp_ge (tgt := 98) dX9_rightAhead_22 rfl (fun h22 => ?_) (fun h22 => ?_)
      ·
        exact absurd h22 (by omega)
      ·
        obtain ⟨hk1, hk2⟩ := id hkk
        simp only [Nat.reduceAdd] at hk2
        have hI1 : mtI μ1 46 := mtI_up (by omega) hIb hlb h9 hk1 (fun q a b c d e => hk2 q a b c e)
        have hk47 : μ1 47 = ν 47 := hk2 47 (by omega) (by omega) (by omega) (by omega)
        have hk48 : μ1 48 = ν 48 := hk2 48 (by omega) (by omega) (by omega) (by omega)
        have hk10 : μ1 46 10 = ν 46 10 := hk1 10 (by decide) (by decide) (by decide)
        refine go_aload_n dX9_rightAhead_25 rfl ?_
        refine go_getR dX9_rightAhead_26 fl_X9_28 (by first | assumption | exact Nat.le_of_ble_eq_true rfl) (by first | assumption | rfl) rfl (by first | assumption | rfl) ?_
        refine go_vI (ci := 2) dX9_rightAhead_29 (ct_X3_tick (M := 46) (by unfold isMt; omega) hI1 (phC ν 46) hph1 (fun c a b => ph_b (iSt c a b).1 (iSt c a b).2)) ml_X9_156 mc_X3_tick mv_X3_tick rfl (by first | assumption | exact Nat.le_of_ble_eq_true rfl) (by first | assumption | rfl) rfl ⟨rfl, rfl⟩ ⟨Nat.le_refl _, Nat.le_refl _⟩ rfl rfl rfl (fun x29 μ29 hc29 => ?_)
        simp only [Nat.reduceAdd] at hc29
        rw [hk47, hk48, hk10] at hc29
        obtain ⟨rfl, ht29, hk29, hf29⟩ := hc29
        have hlb2 : lB (μ29 49) := by
          have e : μ29 49 = (tkF (ν 47) (ν 48) (phC ν 46) (ν 46 10) (tS μ1 46)).1.1 := congrArg Prod.fst ht29
          rw [e]
          exact tk_b iFt.1 hlb
        have h92 : 0 ≤ μ29 46 9 ∧ μ29 46 9 ≤ 23 := by
          have e : μ29 46 9 = (if μ1 46 9 < 23 then μ1 46 9 + 1 else 0) := congrArg (fun q => q.2.2.1) ht29
          rw [e]
          split <;> omega
        have hkk2 : tkK ν μ29 46 := ⟨fun k a b c => (hk29 k a b c).trans (hk1 k a b c), fun q a b c d => (hf29 q b c).trans (hk2 q a b c d)⟩
        have hph2 : ∀ c, 0 ≤ c → c < 30 → μ29 52 c = phC ν 46 c := fun c a b => by rw [hf29 52 (by omega) (by omega)]; exact hph1 c a b
        have hw86 : μ29 86 = μ 86 := by rw [hf29 86 (by omega) (by omega), hkk.2 86 (by omega) (by omega) (by omega) (by omega)]; exact hfb8 86 (by omega) (by omega) (by omega) (by omega) (by omega)
        have hI29 : mtI μ29 46 := mtI_up (by omega) hIb hlb2 h92 hkk2.1 (fun q a b c d e => hkk2.2 q a b c e)
        refine go_istore dX9_rightAhead_32 rfl ?_
        refine go_iconst dX9_rightAhead_34 rfl ?_
        refine go_iload_n dX9_rightAhead_35 rfl ?_
        refine go_imul dX9_rightAhead_36 ⟨by omega, by omega⟩ ?_
        refine go_istore dX9_rightAhead_37 rfl ?_
        refine go_iload dX9_rightAhead_39 rfl ?_
        refine go_iload_n dX9_rightAhead_41 rfl ?_
        refine go_icmp_ge (tgt := 57) dX9_rightAhead_42 rfl (fun h42 => ?_) (fun h42 => ?_)
        ·
          refine go_iload dX9_rightAhead_57 rfl ?_
          refine go_ri dX9_rightAhead_59 tyI ⟨Nat.le_refl _, Nat.le_refl _⟩ (?_)
          refine ⟨?_, fun q hq => ?_⟩
          · rw [← asM_rg ha8 hl8 hI2, hres]
            show _ = (if told ≤ 2 * i ∨ μ 86 (2 * i) ≠ (tkF _ _ _ _ _).2 then 2 * i else if told ≤ 2 * i + 1 ∨ μ 86 (2 * i + 1) ≠ sumN (tkF _ _ _ _ _).1.1 30 then 2 * i + 1 else _)
            rw [if_pos (by omega)]
          · unfold cs at hq
            rw [hkk2.2 q (by omega) (by omega) (by omega) (by omega)]
            exact hfb8 q (by omega) (by omega) (by omega) (by omega) (by omega)
        ·
          refine go_aload_n dX9_rightAhead_45 rfl ?_
          refine go_getR dX9_rightAhead_46 fl_X9_68 (by first | assumption | exact Nat.le_of_ble_eq_true rfl) (by first | assumption | rfl) rfl (by first | assumption | rfl) ?_
          refine go_iload dX9_rightAhead_49 rfl ?_
          refine go_iaload dX9_rightAhead_51 (by first | assumption | exact Nat.le_of_ble_eq_true rfl) (by first | assumption | rfl) (by omega) (by omega) ?_
          try simp (disch := omega) only [ud, ua_same, ua_ne, uf_same, uf_ne]
          rw [hw86]
          refine go_iload dX9_rightAhead_52 rfl ?_
          refine go_icmp_eq (tgt := 60) dX9_rightAhead_54 rfl (fun h54 => ?_) (fun h54 => ?_)
          ·
            refine go_iload dX9_rightAhead_60 rfl ?_
            refine go_iconst dX9_rightAhead_62 rfl ?_
            refine go_iadd dX9_rightAhead_63 ⟨by omega, by omega⟩ ?_
            refine go_iload_n dX9_rightAhead_64 rfl ?_
            refine go_icmp_ge (tgt := 87) dX9_rightAhead_65 rfl (fun h65 => ?_) (fun h65 => ?_)
            ·
              refine go_iload dX9_rightAhead_87 rfl ?_
              refine go_iconst dX9_rightAhead_89 rfl ?_
              refine go_iadd dX9_rightAhead_90 ⟨by omega, by omega⟩ ?_
              refine go_ri dX9_rightAhead_91 tyI ⟨Nat.le_refl _, Nat.le_refl _⟩ (?_)
              refine ⟨?_, fun q hq => ?_⟩
              · rw [← asM_rg ha8 hl8 hI2, hres]
                show _ = (if told ≤ 2 * i ∨ μ 86 (2 * i) ≠ (tkF _ _ _ _ _).2 then 2 * i else if told ≤ 2 * i + 1 ∨ μ 86 (2 * i + 1) ≠ sumN (tkF _ _ _ _ _).1.1 30 then 2 * i + 1 else _)
                rw [if_neg (by omega), if_pos (by omega)]
              · unfold cs at hq
                rw [hkk2.2 q (by omega) (by omega) (by omega) (by omega)]
                exact hfb8 q (by omega) (by omega) (by omega) (by omega) (by omega)
            ·
              refine go_aload_n dX9_rightAhead_68 rfl ?_
              refine go_getR dX9_rightAhead_69 fl_X9_68 (by first | assumption | exact Nat.le_of_ble_eq_true rfl) (by first | assumption | rfl) rfl (by first | assumption | rfl) ?_
              refine go_iload dX9_rightAhead_72 rfl ?_
              refine go_iconst dX9_rightAhead_74 rfl ?_
              refine go_iadd dX9_rightAhead_75 ⟨by omega, by omega⟩ ?_
              refine go_iaload dX9_rightAhead_76 (by first | assumption | exact Nat.le_of_ble_eq_true rfl) (by first | assumption | rfl) (by omega) (by omega) ?_
              try simp (disch := omega) only [ud, ua_same, ua_ne, uf_same, uf_ne]
              rw [hw86]
              refine go_aload_n dX9_rightAhead_77 rfl ?_
              refine go_getR dX9_rightAhead_78 fl_X9_28 (by first | assumption | exact Nat.le_of_ble_eq_true rfl) (by first | assumption | rfl) rfl (by first | assumption | rfl) ?_
              refine go_vI (ci := 2) dX9_rightAhead_81 (ct_X3_allLoad (M := 46) (by unfold isMt; omega) hI29) ml_X9_137 mc_X3_allLoad mv_X3_allLoad rfl (by first | assumption | exact Nat.le_of_ble_eq_true rfl) (by first | assumption | rfl) rfl ⟨rfl, rfl⟩ ⟨Nat.le_refl _, Nat.le_refl _⟩ rfl rfl rfl (fun x81 μ81 hc81 => ?_)
              simp only [Nat.reduceAdd] at hc81
              obtain ⟨rfl, hm81⟩ := hc81
              have e49 : μ29 49 = (tkF (ν 47) (ν 48) (phC ν 46) (ν 46 10) (tS μ1 46)).1.1 := congrArg Prod.fst ht29
              rw [hm81, e49]
              refine go_icmp_eq (tgt := 92) dX9_rightAhead_84 rfl (fun h84 => ?_) (fun h84 => ?_)
              ·
                refine go_iinc dX9_rightAhead_92 rfl rfl ⟨by omega, by omega⟩ ?_
                refine go_goto (tgt := 20) dX9_rightAhead_95 rfl ?_
                refine go_drop (ih _ μ29 (by omega) (by omega) hkk2 hph2 hlb2 h92 ?_) rfl
                rw [hres, ht29]
                show (if told ≤ 2 * i ∨ μ 86 (2 * i) ≠ (tkF _ _ _ _ _).2 then 2 * i else if told ≤ 2 * i + 1 ∨ μ 86 (2 * i + 1) ≠ sumN (tkF _ _ _ _ _).1.1 30 then 2 * i + 1 else _) = _
                rw [if_neg (by omega), if_neg (by omega)]
              ·
                refine go_iload dX9_rightAhead_87 rfl ?_
                refine go_iconst dX9_rightAhead_89 rfl ?_
                refine go_iadd dX9_rightAhead_90 ⟨by omega, by omega⟩ ?_
                refine go_ri dX9_rightAhead_91 tyI ⟨Nat.le_refl _, Nat.le_refl _⟩ (?_)
                refine ⟨?_, fun q hq => ?_⟩
                · rw [← asM_rg ha8 hl8 hI2, hres]
                  show _ = (if told ≤ 2 * i ∨ μ 86 (2 * i) ≠ (tkF _ _ _ _ _).2 then 2 * i else if told ≤ 2 * i + 1 ∨ μ 86 (2 * i + 1) ≠ sumN (tkF _ _ _ _ _).1.1 30 then 2 * i + 1 else _)
                  rw [if_neg (by omega), if_pos (by omega)]
                · unfold cs at hq
                  rw [hkk2.2 q (by omega) (by omega) (by omega) (by omega)]
                  exact hfb8 q (by omega) (by omega) (by omega) (by omega) (by omega)
          ·
            refine go_iload dX9_rightAhead_57 rfl ?_
            refine go_ri dX9_rightAhead_59 tyI ⟨Nat.le_refl _, Nat.le_refl _⟩ (?_)
            refine ⟨?_, fun q hq => ?_⟩
            · rw [← asM_rg ha8 hl8 hI2, hres]
              show _ = (if told ≤ 2 * i ∨ μ 86 (2 * i) ≠ (tkF _ _ _ _ _).2 then 2 * i else if told ≤ 2 * i + 1 ∨ μ 86 (2 * i + 1) ≠ sumN (tkF _ _ _ _ _).1.1 30 then 2 * i + 1 else _)
              rw [if_pos (by omega)]
            · unfold cs at hq
              rw [hkk2.2 q (by omega) (by omega) (by omega) (by omega)]
              exact hfb8 q (by omega) (by omega) (by omega) (by omega) (by omega)
  refine go_iconst dX9_rightAhead_18 rfl ?_
  refine go_istore_n dX9_rightAhead_19 rfl ?_
  refine go_drop (loop n.toNat 0 μ15 (by omega) (by omega) ⟨fun k _ _ _ => by rw [hfr 46 (by omega) (by omega)], fun q a b c d => hfr q a d⟩ hph (by rw [hfr 49 (by omega) (by omega)]; exact iLt) (by rw [hfr 46 (by omega) (by omega)]; exact iHt) ?_) rfl
  rw [show tS μ15 46 = tS ν 46 by unfold tS; simp only [Nat.reduceAdd]; rw [hfr 46 (by omega) (by omega), hfr 49 (by omega) (by omega)]]

set_option maxRecDepth 100000 in
set_option maxHeartbeats 4000000 in
theorem ct_X9_check {l : Launch} {D : va_G} {cA : Nat → ClassId} {μ : Mem} (hI2 : μ 0 11 ≠ 0 → mtI μ 39) (hw : 0 ≤ μ 0 10 ∧ μ 0 10 ≤ 60) (n : Int) : CtN l D cA yX9_check cX9_check 4 (some .int) 8 [vr 0, vi n] μ (Pi (fun x μ' => μ' 0 = uf (μ 0) 10 0 ∧ (∀ q, q ≠ 0 → ¬ cs q → μ' q = μ q) ∧ x = (if 1 ≤ n ∧ n ≤ 30 then (if μ 0 11 = 0 then -1000000002 else if rgM (μ 86) (μ 0 10) μ 39 n.toNat = μ 0 10 ∧ rgM (μ 86) (μ 0 10) μ 39 n.toNat = 2 * n then 0 else 1 + rgM (μ 86) (μ 0 10) μ 39 n.toNat) else -1000000001))) := by
  refine Ct.of (own := RX9) (by decide +kernel) rfl (fun σ => Nat.le_of_ble_eq_true rfl) (fun hM hP ha => ?_)
  obtain ⟨w0_0, w0_1, w0_2, w0_3, w0_4, w0_5, w0_6, w0_7, w0_8, w0_9, w1_0, w1_1, w32_1, w32_2, w32_3, w32_4, w32_5, w32_6, w39_1, w39_2, w39_3, w39_4, w39_5, w39_6, w46_1, w46_2, w46_3, w46_4, w46_5, w46_6, w56_0, w58_0, w58_1, w53_0, w53_1⟩ := ws_f
  have hI2v : μ 0 11 ≠ 0 → mtI (ud μ 0 10 0) 39 := fun h => asM_I (μ := μ) (N := 39) ⟨fun c _ _ => by refine ⟨?_, ?_, ?_⟩ <;> rw [ud_n (by omega)], fun i _ _ => by rw [ud_n (by omega)], by refine ⟨?_, ?_, ?_, ?_, ?_, ?_, ?_⟩ <;> rw [ud_n (by omega)]⟩ (fun q a b => ud_n (by omega)) (hI2 h)
  refine go_aload_n dX9_check_0 rfl ?_
  refine go_getI 10 dX9_check_1 fl_X9_328 (by first | assumption | exact Nat.le_of_ble_eq_true rfl) (by first | assumption | rfl) rfl rfl ?_
  refine go_istore_n dX9_check_4 rfl ?_
  refine go_aload_n dX9_check_5 rfl ?_
  refine go_iconst dX9_check_6 rfl ?_
  refine go_putI 10 dX9_check_7 pl_X9_328 (by first | assumption | exact Nat.le_of_ble_eq_true rfl) (by first | assumption | rfl) rfl rfl ?_
  refine go_iload_n dX9_check_10 rfl ?_
  refine go_iconst dX9_check_11 rfl ?_
  refine go_bipush dX9_check_12 rfl (by decide) ?_
  refine go_sI dX9_check_14 (ct_X9_isWithin _ _ _) ml_X9_81 mc_X9_isWithin ms_X9_isWithin ⟨rfl, rfl⟩ ⟨Nat.le_refl _, Nat.le_refl _⟩ rfl rfl rfl (fun x14 μ14 hc14 => ?_)
  obtain ⟨rfl, hm14⟩ := hc14
  rw [hm14]
  first | refine go_bnz (tgt := 23) dX9_check_17 rfl (fun h17 => ?_) (fun h17 => ?_) | refine go_if_ne (tgt := 23) dX9_check_17 rfl (fun h17 => ?_) (fun h17 => ?_)
  ·
    refine go_aload_n dX9_check_23 rfl ?_
    refine go_getI 11 dX9_check_24 fl_X9_331 (by first | assumption | exact Nat.le_of_ble_eq_true rfl) (by first | assumption | rfl) rfl rfl ?_
    try simp (disch := omega) only [ud, ua_same, ua_ne, uf_same, uf_ne]
    first | refine go_bnz (tgt := 33) dX9_check_27 rfl (fun h27 => ?_) (fun h27 => ?_) | refine go_if_ne (tgt := 33) dX9_check_27 rfl (fun h27 => ?_) (fun h27 => ?_)
    ·
      refine go_aload_n dX9_check_33 rfl ?_
      refine go_iload_n dX9_check_34 rfl ?_
      refine go_iload_n dX9_check_35 rfl ?_
      refine go_vI (ci := 8) dX9_check_36 (ct_X9_rightAhead (μ := ud μ 0 10 0) (hI2v (by omega)) _ _ hw.1 hw.2 (by omega) (by omega)) ml_X9_335 mc_X9_rightAhead mv_X9_rightAhead rfl (by first | assumption | exact Nat.le_of_ble_eq_true rfl) (by first | assumption | rfl) rfl ⟨rfl, rfl⟩ ⟨Nat.le_refl _, Nat.le_refl _⟩ rfl rfl rfl (fun x36 μ36 hc36 => ?_)
      obtain ⟨rfl, hf36⟩ := hc36
      have eR : rgM ((ud μ 0 10 0) 86) (μ 0 10) (ud μ 0 10 0) 39 n.toNat = rgM (μ 86) (μ 0 10) μ 39 n.toNat := by
        have e : asM (ud μ 0 10 0) 39 μ 39 := ⟨fun c _ _ => by refine ⟨?_, ?_, ?_⟩ <;> rw [ud_n (by omega)], fun i _ _ => by rw [ud_n (by omega)], by refine ⟨?_, ?_, ?_, ?_, ?_, ?_, ?_⟩ <;> rw [ud_n (by omega)]⟩
        rw [asM_rg e (fun q a b => ud_n (by omega)) (hI2 (by omega)), ud_n (by omega)]
      rw [eR]
      have hrb : 0 ≤ rgM (μ 86) (μ 0 10) μ 39 n.toNat ∧ rgM (μ 86) (μ 0 10) μ 39 n.toNat ≤ 2 * (0 + (n.toNat : Nat)) := rg_b n.toNat (tS μ 39) 0 (by omega)
      refine go_istore_n dX9_check_39 rfl ?_
      refine go_iload_n dX9_check_40 rfl ?_
      refine go_iload_n dX9_check_41 rfl ?_
      refine go_icmp_ne (tgt := 56) dX9_check_42 rfl (fun h42 => ?_) (fun h42 => ?_)
      ·
        refine go_iconst dX9_check_56 rfl ?_
        refine go_iload_n dX9_check_57 rfl ?_
        refine go_iadd dX9_check_58 ⟨by omega, by omega⟩ ?_
        refine go_ri dX9_check_59 tyI ⟨Nat.le_refl _, Nat.le_refl _⟩ (?_)
        refine ⟨by rw [hf36 0 (by unfold cs; omega), ud_s], fun q a b => by rw [hf36 q b, ud_n a], ?_⟩
        rw [if_pos (by omega), if_neg (by omega)]
        rw [if_neg (fun e => h42 e.1)]
      ·
        refine go_iload_n dX9_check_45 rfl ?_
        refine go_iconst dX9_check_46 rfl ?_
        refine go_iload_n dX9_check_47 rfl ?_
        refine go_imul dX9_check_48 ⟨by omega, by omega⟩ ?_
        refine go_icmp_ne (tgt := 56) dX9_check_49 rfl (fun h49 => ?_) (fun h49 => ?_)
        ·
          refine go_iconst dX9_check_56 rfl ?_
          refine go_iload_n dX9_check_57 rfl ?_
          refine go_iadd dX9_check_58 ⟨by omega, by omega⟩ ?_
          refine go_ri dX9_check_59 tyI ⟨Nat.le_refl _, Nat.le_refl _⟩ (?_)
          refine ⟨by rw [hf36 0 (by unfold cs; omega), ud_s], fun q a b => by rw [hf36 q b, ud_n a], ?_⟩
          rw [if_pos (by omega), if_neg (by omega)]
          rw [if_neg (fun e => h49 e.2)]
        ·
          refine go_iconst dX9_check_52 rfl ?_
          refine go_goto (tgt := 59) dX9_check_53 rfl ?_
          refine go_ri dX9_check_59 tyI ⟨Nat.le_refl _, Nat.le_refl _⟩ (?_)
          refine ⟨by rw [hf36 0 (by unfold cs; omega), ud_s], fun q a b => by rw [hf36 q b, ud_n a], ?_⟩
          rw [if_pos (by omega), if_neg (by omega)]
          rw [if_pos ⟨h42, h49⟩]
    ·
      refine go_ldc dX9_check_30 kc_X9_169 rfl ?_
      exact go_ri dX9_check_32 tyI ⟨Nat.le_refl _, Nat.le_refl _⟩ (⟨ud_s, fun q a b => ud_n a, by rw [if_pos (by omega), if_pos (by omega)]⟩)
  ·
    refine go_ldc dX9_check_20 kc_X9_85 rfl ?_
    exact go_ri dX9_check_22 tyI ⟨Nat.le_refl _, Nat.le_refl _⟩ (⟨ud_s, fun q a b => ud_n a, by rw [if_neg (by omega)]⟩)

set_option maxRecDepth 100000 in
set_option maxHeartbeats 4000000 in
theorem ct_X9_keep {l : Launch} {D : va_G} {cA : Nat → ClassId} {μ : Mem} (hI : mtI μ 32) : CtN l D cA yX9_keep cX9_keep 1 (some .int) 3 [vr 0] μ (Pi (fun x μ' => x = sumN (μ 35) 30 ∧ asM μ' 39 μ 32 ∧ μ' 0 = uf (μ 0) 11 1 ∧ ∀ q, q ≠ 0 → q ≠ 39 → q ≠ 40 → q ≠ 41 → q ≠ 42 → q ≠ 43 → μ' q = μ q)) := by
  refine Ct.of (own := RX9) (by decide +kernel) rfl (fun σ => Nat.le_of_ble_eq_true rfl) (fun hM hP ha => ?_)
  obtain ⟨w0_0, w0_1, w0_2, w0_3, w0_4, w0_5, w0_6, w0_7, w0_8, w0_9, w1_0, w1_1, w32_1, w32_2, w32_3, w32_4, w32_5, w32_6, w39_1, w39_2, w39_3, w39_4, w39_5, w39_6, w46_1, w46_2, w46_3, w46_4, w46_5, w46_6, w56_0, w58_0, w58_1, w53_0, w53_1⟩ := ws_f
  have hMt : isMt 32 := Or.inl rfl
  obtain ⟨iK, iS, iL, iT, iTn, iD, iH, iF, iX, iW⟩ := id hI
  simp only [Nat.reduceAdd] at iK iS iL iT
  refine go_aload_n dX9_keep_0 rfl ?_
  refine go_getR dX9_keep_1 fl_X9_25 (by first | assumption | exact Nat.le_of_ble_eq_true rfl) (by first | assumption | rfl) rfl (by first | assumption | rfl) ?_
  refine go_aload_n dX9_keep_4 rfl ?_
  refine go_getR dX9_keep_5 fl_X9_21 (by first | assumption | exact Nat.le_of_ble_eq_true rfl) (by first | assumption | rfl) rfl (by first | assumption | rfl) ?_
  refine go_vV (ci := 2) dX9_keep_8 (ct_X3_become (M := 39) (N := 32) (by unfold isMt; omega) (by unfold isMt; omega) (by decide)) ml_X9_146 mc_X3_become mv_X3_become rfl (by first | assumption | exact Nat.le_of_ble_eq_true rfl) (by first | assumption | rfl) rfl ⟨rfl, rfl⟩ ⟨Nat.le_refl _, Nat.le_refl _⟩ rfl rfl rfl (fun μ8 hc8 => ?_)
  have ha8 : asM μ8 39 μ 32 := ⟨hc8.1, hc8.2.1, hc8.2.2.1⟩
  have hfb8 := hc8.2.2.2
  simp only [Nat.reduceAdd] at hfb8
  refine go_aload_n dX9_keep_11 rfl ?_
  refine go_iconst dX9_keep_12 rfl ?_
  refine go_putZ 11 dX9_keep_13 pl_X9_331 (by first | exact Or.inr rfl | exact Or.inl rfl) (by first | assumption | exact Nat.le_of_ble_eq_true rfl) (by first | assumption | rfl) rfl rfl ?_
  have hI20 : mtI (ud μ8 0 11 1) 32 := asM_I (μ := μ) (N := 32) ⟨fun c _ _ => by simp only [Nat.reduceAdd]; refine ⟨?_, ?_, ?_⟩ <;> (rw [ud_n (by omega)]; rw [hfb8 _ (by omega) (by omega) (by omega) (by omega) (by omega)]), fun i _ _ => by simp only [Nat.reduceAdd]; rw [ud_n (by omega)]; rw [hfb8 _ (by omega) (by omega) (by omega) (by omega) (by omega)], by rw [ud_n (by omega), hfb8 32 (by omega) (by omega) (by omega) (by omega) (by omega)]; exact ⟨rfl, rfl, rfl, rfl, rfl, rfl, rfl⟩⟩ (fun q a b => by rw [ud_n (by omega)]; exact hfb8 q (by omega) (by omega) (by omega) (by omega) (by omega)) hI
  refine go_aload_n dX9_keep_16 rfl ?_
  refine go_getR dX9_keep_17 fl_X9_21 (by first | assumption | exact Nat.le_of_ble_eq_true rfl) (by first | assumption | rfl) rfl (by first | assumption | rfl) ?_
  refine go_vI (ci := 2) dX9_keep_20 (ct_X3_allLoad hMt hI20) ml_X9_137 mc_X3_allLoad mv_X3_allLoad rfl (by first | assumption | exact Nat.le_of_ble_eq_true rfl) (by first | assumption | rfl) rfl ⟨rfl, rfl⟩ ⟨Nat.le_refl _, Nat.le_refl _⟩ rfl rfl rfl (fun x20 μ20 hc20 => ?_)
  simp only [Nat.reduceAdd] at hc20
  obtain ⟨rfl, hm20⟩ := hc20
  rw [hm20]
  refine go_ri dX9_keep_23 tyI ⟨Nat.le_refl _, Nat.le_refl _⟩ (?_)
  refine ⟨?_, ?_, ?_, ?_⟩
  · rw [ud_n (by omega), hfb8 35 (by omega) (by omega) (by omega) (by omega) (by omega)]
  · obtain ⟨a1, a2, a3⟩ := ha8
    refine ⟨fun c c0 c1 => ?_, fun i i0 i1 => ?_, ?_⟩
    · rw [ud_n (by omega), ud_n (by omega), ud_n (by omega)]; exact a1 c c0 c1
    · rw [ud_n (by omega)]; exact a2 i i0 i1
    · rw [ud_n (by omega)]; exact a3
  · rw [ud_s, hfb8 0 (by omega) (by omega) (by omega) (by omega) (by omega)]
  · intro q a b c d e f
    rw [ud_n a]; exact hfb8 q b c d e f

set_option maxRecDepth 100000 in
set_option maxHeartbeats 4000000 in
theorem ct_X9_back {l : Launch} {D : va_G} {cA : Nat → ClassId} {μ : Mem} (hI2 : μ 0 11 ≠ 0 → mtI μ 39) : CtN l D cA yX9_back cX9_back 1 (some .int) 3 [vr 0] μ (Pi (fun x μ' => (μ 0 11 = 0 → x = -1000000002 ∧ μ' = μ) ∧ (μ 0 11 ≠ 0 → x = sumN (μ 42) 30 ∧ asM μ' 32 μ 39 ∧ ∀ q, q ≠ 32 → q ≠ 33 → q ≠ 34 → q ≠ 35 → q ≠ 36 → μ' q = μ q))) := by
  refine Ct.of (own := RX9) (by decide +kernel) rfl (fun σ => Nat.le_of_ble_eq_true rfl) (fun hM hP ha => ?_)
  obtain ⟨w0_0, w0_1, w0_2, w0_3, w0_4, w0_5, w0_6, w0_7, w0_8, w0_9, w1_0, w1_1, w32_1, w32_2, w32_3, w32_4, w32_5, w32_6, w39_1, w39_2, w39_3, w39_4, w39_5, w39_6, w46_1, w46_2, w46_3, w46_4, w46_5, w46_6, w56_0, w58_0, w58_1, w53_0, w53_1⟩ := ws_f
  have hMt : isMt 32 := Or.inl rfl
  refine go_aload_n dX9_back_0 rfl ?_
  refine go_getI 11 dX9_back_1 fl_X9_331 (by first | assumption | exact Nat.le_of_ble_eq_true rfl) (by first | assumption | rfl) rfl rfl ?_
  first | refine go_bnz (tgt := 10) dX9_back_4 rfl (fun h4 => ?_) (fun h4 => ?_) | refine go_if_ne (tgt := 10) dX9_back_4 rfl (fun h4 => ?_) (fun h4 => ?_)
  ·
    refine go_aload_n dX9_back_10 rfl ?_
    refine go_getR dX9_back_11 fl_X9_21 (by first | assumption | exact Nat.le_of_ble_eq_true rfl) (by first | assumption | rfl) rfl (by first | assumption | rfl) ?_
    refine go_aload_n dX9_back_14 rfl ?_
    refine go_getR dX9_back_15 fl_X9_25 (by first | assumption | exact Nat.le_of_ble_eq_true rfl) (by first | assumption | rfl) rfl (by first | assumption | rfl) ?_
    refine go_vV (ci := 2) dX9_back_18 (ct_X3_become (M := 32) (N := 39) (by unfold isMt; omega) (by unfold isMt; omega) (by decide)) ml_X9_146 mc_X3_become mv_X3_become rfl (by first | assumption | exact Nat.le_of_ble_eq_true rfl) (by first | assumption | rfl) rfl ⟨rfl, rfl⟩ ⟨Nat.le_refl _, Nat.le_refl _⟩ rfl rfl rfl (fun μ18 hc18 => ?_)
    have ha18 : asM μ18 32 μ 39 := ⟨hc18.1, hc18.2.1, hc18.2.2.1⟩
    have hfb18 := hc18.2.2.2
    simp only [Nat.reduceAdd] at hfb18
    have hl18 : ∀ q, 4 ≤ q → q < 32 → μ18 q = μ q := fun q a b => hfb18 q (by omega) (by omega) (by omega) (by omega) (by omega)
    have hI18 : mtI μ18 32 := asM_I ha18 hl18 (hI2 h4)
    refine go_aload_n dX9_back_21 rfl ?_
    refine go_getR dX9_back_22 fl_X9_21 (by first | assumption | exact Nat.le_of_ble_eq_true rfl) (by first | assumption | rfl) rfl (by first | assumption | rfl) ?_
    refine go_vI (ci := 2) dX9_back_25 (ct_X3_allLoad hMt hI18) ml_X9_137 mc_X3_allLoad mv_X3_allLoad rfl (by first | assumption | exact Nat.le_of_ble_eq_true rfl) (by first | assumption | rfl) rfl ⟨rfl, rfl⟩ ⟨Nat.le_refl _, Nat.le_refl _⟩ rfl rfl rfl (fun x25 μ25 hc25 => ?_)
    simp only [Nat.reduceAdd] at hc25
    obtain ⟨rfl, hm25⟩ := hc25
    rw [hm25]
    exact go_ri dX9_back_28 tyI ⟨Nat.le_refl _, Nat.le_refl _⟩ (⟨fun h => absurd h h4, fun _ => ⟨sumN_cg (fun c a b => (ha18.1 c a b).2.2) 30 (by omega), ha18, hfb18⟩⟩)
  ·
    refine go_ldc dX9_back_7 kc_X9_169 rfl ?_
    exact go_ri dX9_back_9 tyI ⟨Nat.le_refl _, Nat.le_refl _⟩ (⟨fun _ => ⟨rfl, rfl⟩, fun h => absurd h4 h⟩)

set_option maxRecDepth 100000 in
set_option maxHeartbeats 4000000 in
theorem ct_X9_count {l : Launch} {D : va_G} {cA : Nat → ClassId} {μ : Mem} (hI : mtI μ 32) (what : Int) : CtN l D cA yX9_count cX9_count 2 (some .int) 2 [vr 0, vi what] μ (Pi (fun x μ' => x = (if what = 0 then sumN (μ 35) 30 else if what = 1 then μ 32 12 else if what = 2 then μ 32 8 else if what = 3 then μ 32 9 else if what = 4 then μ 32 10 else if what = 5 then μ 32 7 else if what = 6 then μ 32 13 else if what = 7 then μ 0 10 else if what = 8 then μ 56 1 else if what = 9 then μ 32 11 else -1000000001) ∧ μ' = μ)) := by
  refine Ct.of (own := RX9) (by decide +kernel) rfl (fun σ => Nat.le_of_ble_eq_true rfl) (fun hM hP ha => ?_)
  obtain ⟨w0_0, w0_1, w0_2, w0_3, w0_4, w0_5, w0_6, w0_7, w0_8, w0_9, w1_0, w1_1, w32_1, w32_2, w32_3, w32_4, w32_5, w32_6, w39_1, w39_2, w39_3, w39_4, w39_5, w39_6, w46_1, w46_2, w46_3, w46_4, w46_5, w46_6, w56_0, w58_0, w58_1, w53_0, w53_1⟩ := ws_f
  have hMt : isMt 32 := Or.inl rfl
  obtain ⟨iK, iS, iL, iT, iTn, iD, iH, iF, iX, iW⟩ := id hI
  simp only [Nat.reduceAdd] at iK iS iL iT
  refine go_iload_n dX9_count_0 rfl ?_
  refine go_case (0) (fun h1_0 => ?_) (fun h1_0 => ?_)
  ·
    refine go_tabIn (tgt := 56) dX9_count_1 (by rw [h1_0]; decide) (by rw [h1_0]; decide) (by rw [h1_0]; try rfl) rfl ?_
    refine go_aload_n dX9_count_56 rfl ?_
    refine go_getR dX9_count_57 fl_X9_21 (by first | assumption | exact Nat.le_of_ble_eq_true rfl) (by first | assumption | rfl) rfl (by first | assumption | rfl) ?_
    refine go_vI (ci := 2) dX9_count_60 (ct_X3_allLoad hMt hI) ml_X9_137 mc_X3_allLoad mv_X3_allLoad rfl (by first | assumption | exact Nat.le_of_ble_eq_true rfl) (by first | assumption | rfl) rfl ⟨rfl, rfl⟩ ⟨Nat.le_refl _, Nat.le_refl _⟩ rfl rfl rfl (fun x60 μ60 hc60 => ?_)
    simp only [Nat.reduceAdd] at hc60
    obtain ⟨rfl, hm60⟩ := hc60
    rw [hm60]
    exact go_ri dX9_count_63 tyI ⟨Nat.le_refl _, Nat.le_refl _⟩ (⟨by (repeat (first | rw [if_pos (by omega)] | rw [if_neg (by omega)])), rfl⟩)
  refine go_case (1) (fun h1_1 => ?_) (fun h1_1 => ?_)
  ·
    refine go_tabIn (tgt := 64) dX9_count_1 (by rw [h1_1]; decide) (by rw [h1_1]; decide) (by rw [h1_1]; try rfl) rfl ?_
    refine go_aload_n dX9_count_64 rfl ?_
    refine go_getR dX9_count_65 fl_X9_21 (by first | assumption | exact Nat.le_of_ble_eq_true rfl) (by first | assumption | rfl) rfl (by first | assumption | rfl) ?_
    refine go_getI 12 dX9_count_68 fl_X9_338 (by first | assumption | exact Nat.le_of_ble_eq_true rfl) (by first | assumption | rfl) rfl rfl ?_
    exact go_ri dX9_count_71 tyI ⟨Nat.le_refl _, Nat.le_refl _⟩ (⟨by (repeat (first | rw [if_pos (by omega)] | rw [if_neg (by omega)])), rfl⟩)
  refine go_case (2) (fun h1_2 => ?_) (fun h1_2 => ?_)
  ·
    refine go_tabIn (tgt := 72) dX9_count_1 (by rw [h1_2]; decide) (by rw [h1_2]; decide) (by rw [h1_2]; try rfl) rfl ?_
    refine go_aload_n dX9_count_72 rfl ?_
    refine go_getR dX9_count_73 fl_X9_21 (by first | assumption | exact Nat.le_of_ble_eq_true rfl) (by first | assumption | rfl) rfl (by first | assumption | rfl) ?_
    refine go_getI 8 dX9_count_76 fl_X9_124 (by first | assumption | exact Nat.le_of_ble_eq_true rfl) (by first | assumption | rfl) rfl rfl ?_
    exact go_ri dX9_count_79 tyI ⟨Nat.le_refl _, Nat.le_refl _⟩ (⟨by (repeat (first | rw [if_pos (by omega)] | rw [if_neg (by omega)])), rfl⟩)
  refine go_case (3) (fun h1_3 => ?_) (fun h1_3 => ?_)
  ·
    refine go_tabIn (tgt := 80) dX9_count_1 (by rw [h1_3]; decide) (by rw [h1_3]; decide) (by rw [h1_3]; try rfl) rfl ?_
    refine go_aload_n dX9_count_80 rfl ?_
    refine go_getR dX9_count_81 fl_X9_21 (by first | assumption | exact Nat.le_of_ble_eq_true rfl) (by first | assumption | rfl) rfl (by first | assumption | rfl) ?_
    refine go_getI 9 dX9_count_84 fl_X9_128 (by first | assumption | exact Nat.le_of_ble_eq_true rfl) (by first | assumption | rfl) rfl rfl ?_
    exact go_ri dX9_count_87 tyI ⟨Nat.le_refl _, Nat.le_refl _⟩ (⟨by (repeat (first | rw [if_pos (by omega)] | rw [if_neg (by omega)])), rfl⟩)
  refine go_case (4) (fun h1_4 => ?_) (fun h1_4 => ?_)
  ·
    refine go_tabIn (tgt := 88) dX9_count_1 (by rw [h1_4]; decide) (by rw [h1_4]; decide) (by rw [h1_4]; try rfl) rfl ?_
    refine go_aload_n dX9_count_88 rfl ?_
    refine go_getR dX9_count_89 fl_X9_21 (by first | assumption | exact Nat.le_of_ble_eq_true rfl) (by first | assumption | rfl) rfl (by first | assumption | rfl) ?_
    refine go_getI 10 dX9_count_92 fl_X9_131 (by first | assumption | exact Nat.le_of_ble_eq_true rfl) (by first | assumption | rfl) rfl rfl ?_
    exact go_ri dX9_count_95 tyI ⟨Nat.le_refl _, Nat.le_refl _⟩ (⟨by (repeat (first | rw [if_pos (by omega)] | rw [if_neg (by omega)])), rfl⟩)
  refine go_case (5) (fun h1_5 => ?_) (fun h1_5 => ?_)
  ·
    refine go_tabIn (tgt := 96) dX9_count_1 (by rw [h1_5]; decide) (by rw [h1_5]; decide) (by rw [h1_5]; try rfl) rfl ?_
    refine go_aload_n dX9_count_96 rfl ?_
    refine go_getR dX9_count_97 fl_X9_21 (by first | assumption | exact Nat.le_of_ble_eq_true rfl) (by first | assumption | rfl) rfl (by first | assumption | rfl) ?_
    refine go_getI 7 dX9_count_100 fl_X9_160 (by first | assumption | exact Nat.le_of_ble_eq_true rfl) (by first | assumption | rfl) rfl rfl ?_
    exact go_ri dX9_count_103 tyI ⟨Nat.le_refl _, Nat.le_refl _⟩ (⟨by (repeat (first | rw [if_pos (by omega)] | rw [if_neg (by omega)])), rfl⟩)
  refine go_case (6) (fun h1_6 => ?_) (fun h1_6 => ?_)
  ·
    refine go_tabIn (tgt := 104) dX9_count_1 (by rw [h1_6]; decide) (by rw [h1_6]; decide) (by rw [h1_6]; try rfl) rfl ?_
    refine go_aload_n dX9_count_104 rfl ?_
    refine go_getR dX9_count_105 fl_X9_21 (by first | assumption | exact Nat.le_of_ble_eq_true rfl) (by first | assumption | rfl) rfl (by first | assumption | rfl) ?_
    refine go_getI 13 dX9_count_108 fl_X9_240 (by first | assumption | exact Nat.le_of_ble_eq_true rfl) (by first | assumption | rfl) rfl rfl ?_
    exact go_ri dX9_count_111 tyI ⟨Nat.le_refl _, Nat.le_refl _⟩ (⟨by (repeat (first | rw [if_pos (by omega)] | rw [if_neg (by omega)])), rfl⟩)
  refine go_case (7) (fun h1_7 => ?_) (fun h1_7 => ?_)
  ·
    refine go_tabIn (tgt := 112) dX9_count_1 (by rw [h1_7]; decide) (by rw [h1_7]; decide) (by rw [h1_7]; try rfl) rfl ?_
    refine go_aload_n dX9_count_112 rfl ?_
    refine go_getI 10 dX9_count_113 fl_X9_328 (by first | assumption | exact Nat.le_of_ble_eq_true rfl) (by first | assumption | rfl) rfl rfl ?_
    exact go_ri dX9_count_116 tyI ⟨Nat.le_refl _, Nat.le_refl _⟩ (⟨by (repeat (first | rw [if_pos (by omega)] | rw [if_neg (by omega)])), rfl⟩)
  refine go_case (8) (fun h1_8 => ?_) (fun h1_8 => ?_)
  ·
    refine go_tabIn (tgt := 117) dX9_count_1 (by rw [h1_8]; decide) (by rw [h1_8]; decide) (by rw [h1_8]; try rfl) rfl ?_
    refine go_aload_n dX9_count_117 rfl ?_
    refine go_getR dX9_count_118 fl_X9_41 (by first | assumption | exact Nat.le_of_ble_eq_true rfl) (by first | assumption | rfl) rfl (by first | assumption | rfl) ?_
    refine go_getI 1 dX9_count_121 fl_X9_234 (by first | assumption | exact Nat.le_of_ble_eq_true rfl) (by first | assumption | rfl) rfl rfl ?_
    exact go_ri dX9_count_124 tyI ⟨Nat.le_refl _, Nat.le_refl _⟩ (⟨by (repeat (first | rw [if_pos (by omega)] | rw [if_neg (by omega)])), rfl⟩)
  refine go_case (9) (fun h1_9 => ?_) (fun h1_9 => ?_)
  ·
    refine go_tabIn (tgt := 125) dX9_count_1 (by rw [h1_9]; decide) (by rw [h1_9]; decide) (by rw [h1_9]; try rfl) rfl ?_
    refine go_aload_n dX9_count_125 rfl ?_
    refine go_getR dX9_count_126 fl_X9_21 (by first | assumption | exact Nat.le_of_ble_eq_true rfl) (by first | assumption | rfl) rfl (by first | assumption | rfl) ?_
    refine go_getI 11 dX9_count_129 fl_X9_140 (by first | assumption | exact Nat.le_of_ble_eq_true rfl) (by first | assumption | rfl) rfl rfl ?_
    exact go_ri dX9_count_132 tyI ⟨Nat.le_refl _, Nat.le_refl _⟩ (⟨by (repeat (first | rw [if_pos (by omega)] | rw [if_neg (by omega)])), rfl⟩)
  refine go_tabOut (tgt := 133) dX9_count_1 (by omega) rfl ?_
  refine go_ldc dX9_count_133 kc_X9_85 rfl ?_
  exact go_ri dX9_count_135 tyI ⟨Nat.le_refl _, Nat.le_refl _⟩ (⟨by (repeat (first | rw [if_pos (by omega)] | rw [if_neg (by omega)])), rfl⟩)

set_option maxRecDepth 100000 in
set_option maxHeartbeats 4000000 in
theorem ct_X9_tell {l : Launch} {D : va_G} {cA : Nat → ClassId} {μ : Mem} (hw : 0 ≤ μ 0 10 ∧ μ 0 10 ≤ 60) (v : Int) : CtN l D cA yX9_tell cX9_tell 2 (some .int) 1 [vr 0, vi v] μ (Pi (fun x μ' => (60 ≤ μ 0 10 → x = -1000000003 ∧ μ' = μ) ∧ (μ 0 10 < 60 → x = μ 0 10 + 1 ∧ μ' = ud (ud μ 86 (μ 0 10) v) 0 10 (μ 0 10 + 1)))) := by
  refine Ct.of (own := RX9) (by decide +kernel) rfl (fun σ => Nat.le_of_ble_eq_true rfl) (fun hM hP ha => ?_)
  obtain ⟨w0_0, w0_1, w0_2, w0_3, w0_4, w0_5, w0_6, w0_7, w0_8, w0_9, w1_0, w1_1, w32_1, w32_2, w32_3, w32_4, w32_5, w32_6, w39_1, w39_2, w39_3, w39_4, w39_5, w39_6, w46_1, w46_2, w46_3, w46_4, w46_5, w46_6, w56_0, w58_0, w58_1, w53_0, w53_1⟩ := ws_f
  refine go_aload_n dX9_tell_0 rfl ?_
  refine go_getI 10 dX9_tell_1 fl_X9_328 (by first | assumption | exact Nat.le_of_ble_eq_true rfl) (by first | assumption | rfl) rfl rfl ?_
  refine go_bipush dX9_tell_4 rfl (by decide) ?_
  refine go_icmp_lt (tgt := 12) dX9_tell_6 rfl (fun h6 => ?_) (fun h6 => ?_)
  ·
    refine go_aload_n dX9_tell_12 rfl ?_
    refine go_getR dX9_tell_13 fl_X9_68 (by first | assumption | exact Nat.le_of_ble_eq_true rfl) (by first | assumption | rfl) rfl (by first | assumption | rfl) ?_
    refine go_aload_n dX9_tell_16 rfl ?_
    refine go_getI 10 dX9_tell_17 fl_X9_328 (by first | assumption | exact Nat.le_of_ble_eq_true rfl) (by first | assumption | rfl) rfl rfl ?_
    refine go_iload_n dX9_tell_20 rfl ?_
    refine go_iastore dX9_tell_21 (by first | assumption | exact Nat.le_of_ble_eq_true rfl) (by first | assumption | rfl) (by omega) (by omega) ?_
    refine go_aload_n dX9_tell_22 rfl ?_
    refine go_dup dX9_tell_23 rfl ?_
    refine go_getI 10 dX9_tell_24 fl_X9_328 (by first | assumption | exact Nat.le_of_ble_eq_true rfl) (by first | assumption | rfl) rfl rfl ?_
    try simp (disch := omega) only [ud, ua_same, ua_ne, uf_same, uf_ne]
    refine go_iconst dX9_tell_27 rfl ?_
    refine go_iadd dX9_tell_28 ⟨by omega, by omega⟩ ?_
    refine go_putI 10 dX9_tell_29 pl_X9_328 (by first | assumption | exact Nat.le_of_ble_eq_true rfl) (by first | assumption | rfl) rfl rfl ?_
    refine go_aload_n dX9_tell_32 rfl ?_
    refine go_getI 10 dX9_tell_33 fl_X9_328 (by first | assumption | exact Nat.le_of_ble_eq_true rfl) (by first | assumption | rfl) rfl rfl ?_
    try simp (disch := omega) only [ud, ua_same, ua_ne, uf_same, uf_ne]
    exact go_ri dX9_tell_36 tyI ⟨Nat.le_refl _, Nat.le_refl _⟩ (⟨fun h => absurd h (by omega), fun _ => ⟨rfl, by simp (disch := omega) only [ud, ua_same, ua_ne, uf_same, uf_ne]⟩⟩)
  ·
    refine go_ldc dX9_tell_9 kc_X9_170 rfl ?_
    exact go_ri dX9_tell_11 tyI ⟨Nat.le_refl _, Nat.le_refl _⟩ (⟨fun _ => ⟨rfl, rfl⟩, fun h => absurd h (by omega)⟩)

set_option maxRecDepth 100000 in
set_option maxHeartbeats 4000000 in
theorem ct_X9_trim {l : Launch} {D : va_G} {cA : Nat → ClassId} {μ : Mem} (n : Int) : CtN l D cA yX9_trim cX9_trim 2 (some .int) 2 [vr 0, vi n] μ (Pi (fun x μ' => ((0 ≤ n ∧ n ≤ μ 56 1) → x = n ∧ μ' = ud μ 56 1 n) ∧ (¬ (0 ≤ n ∧ n ≤ μ 56 1) → x = -1000000001 ∧ μ' = μ))) := by
  refine Ct.of (own := RX9) (by decide +kernel) rfl (fun σ => Nat.le_of_ble_eq_true rfl) (fun hM hP ha => ?_)
  obtain ⟨w0_0, w0_1, w0_2, w0_3, w0_4, w0_5, w0_6, w0_7, w0_8, w0_9, w1_0, w1_1, w32_1, w32_2, w32_3, w32_4, w32_5, w32_6, w39_1, w39_2, w39_3, w39_4, w39_5, w39_6, w46_1, w46_2, w46_3, w46_4, w46_5, w46_6, w56_0, w58_0, w58_1, w53_0, w53_1⟩ := ws_f
  refine go_iload_n dX9_trim_0 rfl ?_
  refine go_iconst dX9_trim_1 rfl ?_
  refine go_aload_n dX9_trim_2 rfl ?_
  refine go_getR dX9_trim_3 fl_X9_41 (by first | assumption | exact Nat.le_of_ble_eq_true rfl) (by first | assumption | rfl) rfl (by first | assumption | rfl) ?_
  refine go_getI 1 dX9_trim_6 fl_X9_234 (by first | assumption | exact Nat.le_of_ble_eq_true rfl) (by first | assumption | rfl) rfl rfl ?_
  refine go_sI dX9_trim_9 (ct_X9_isWithin _ _ _) ml_X9_81 mc_X9_isWithin ms_X9_isWithin ⟨rfl, rfl⟩ ⟨Nat.le_refl _, Nat.le_refl _⟩ rfl rfl rfl (fun x9 μ9 hc9 => ?_)
  obtain ⟨rfl, hm9⟩ := hc9
  rw [hm9]
  first | refine go_bnz (tgt := 18) dX9_trim_12 rfl (fun h12 => ?_) (fun h12 => ?_) | refine go_if_ne (tgt := 18) dX9_trim_12 rfl (fun h12 => ?_) (fun h12 => ?_)
  ·
    refine go_aload_n dX9_trim_18 rfl ?_
    refine go_getR dX9_trim_19 fl_X9_41 (by first | assumption | exact Nat.le_of_ble_eq_true rfl) (by first | assumption | rfl) rfl (by first | assumption | rfl) ?_
    refine go_iload_n dX9_trim_22 rfl ?_
    refine go_putI 1 dX9_trim_23 pl_X9_234 (by first | assumption | exact Nat.le_of_ble_eq_true rfl) (by first | assumption | rfl) rfl rfl ?_
    refine go_iload_n dX9_trim_26 rfl ?_
    exact go_ri dX9_trim_27 tyI ⟨Nat.le_refl _, Nat.le_refl _⟩ (by first | exact ⟨fun _ => ⟨rfl, rfl⟩, fun h => absurd (by omega) h⟩ | exact ⟨fun h => absurd h (by omega), fun _ => ⟨rfl, rfl⟩⟩)
  ·
    refine go_ldc dX9_trim_15 kc_X9_85 rfl ?_
    exact go_ri dX9_trim_17 tyI ⟨Nat.le_refl _, Nat.le_refl _⟩ (by first | exact ⟨fun _ => ⟨rfl, rfl⟩, fun h => absurd (by omega) h⟩ | exact ⟨fun h => absurd h (by omega), fun _ => ⟨rfl, rfl⟩⟩)

set_option maxRecDepth 100000 in
set_option maxHeartbeats 4000000 in
theorem ct_X9_feed {l : Launch} {D : va_G} {cA : Nat → ClassId} {μ : Mem} (hT : 0 ≤ μ 56 1 ∧ μ 56 1 ≤ 96) (a b c : Int) : CtN l D cA yX9_feed cX9_feed 4 (some .int) 2 [vr 0, vi a, vi b, vi c] μ (Pi (fun x μ' => (96 < μ 56 1 + 12 → x = -1000000003 ∧ μ' = μ) ∧ (μ 56 1 + 12 ≤ 96 → x = μ 56 1 + 12 ∧ μ' 56 1 = μ 56 1 + 12 ∧ (∀ q, μ' 57 q = if μ 56 1 ≤ q ∧ q < μ 56 1 + 12 then byI (if q - μ 56 1 < 4 then a else if q - μ 56 1 < 8 then b else c) (24 - 8 * ((q - μ 56 1) % 4)) else μ 57 q) ∧ ∀ q, q ≠ 56 → q ≠ 57 → μ' q = μ q))) := by
  refine Ct.of (own := RX9) (by decide +kernel) rfl (fun σ => Nat.le_of_ble_eq_true rfl) (fun hM hP ha => ?_)
  obtain ⟨w0_0, w0_1, w0_2, w0_3, w0_4, w0_5, w0_6, w0_7, w0_8, w0_9, w1_0, w1_1, w32_1, w32_2, w32_3, w32_4, w32_5, w32_6, w39_1, w39_2, w39_3, w39_4, w39_5, w39_6, w46_1, w46_2, w46_3, w46_4, w46_5, w46_6, w56_0, w58_0, w58_1, w53_0, w53_1⟩ := ws_f
  refine go_aload_n dX9_feed_0 rfl ?_
  refine go_getR dX9_feed_1 fl_X9_41 (by first | assumption | exact Nat.le_of_ble_eq_true rfl) (by first | assumption | rfl) rfl (by first | assumption | rfl) ?_
  refine go_bipush dX9_feed_4 rfl (by decide) ?_
  refine go_vI (ci := 6) dX9_feed_6 (ct_X7_hasRoomFor _ hT (by omega)) ml_X9_227 mc_X7_hasRoomFor mv_X7_hasRoomFor rfl (by first | assumption | exact Nat.le_of_ble_eq_true rfl) (by first | assumption | rfl) rfl ⟨rfl, rfl⟩ ⟨Nat.le_refl _, Nat.le_refl _⟩ rfl rfl rfl (fun x6 μ6 hc6 => ?_)
  obtain ⟨rfl, hm6⟩ := hc6
  rw [hm6]
  first | refine go_bnz (tgt := 15) dX9_feed_9 rfl (fun h9 => ?_) (fun h9 => ?_) | refine go_if_ne (tgt := 15) dX9_feed_9 rfl (fun h9 => ?_) (fun h9 => ?_)
  ·
    refine go_aload_n dX9_feed_15 rfl ?_
    refine go_getR dX9_feed_16 fl_X9_41 (by first | assumption | exact Nat.le_of_ble_eq_true rfl) (by first | assumption | rfl) rfl (by first | assumption | rfl) ?_
    refine go_iload_n dX9_feed_19 rfl ?_
    refine go_vV (ci := 6) dX9_feed_20 (ct_X7_takeInt _ (μ 56 1) rfl (by omega)) ml_X9_230 mc_X7_takeInt mv_X7_takeInt rfl (by first | assumption | exact Nat.le_of_ble_eq_true rfl) (by first | assumption | rfl) rfl ⟨rfl, rfl⟩ ⟨Nat.le_refl _, Nat.le_refl _⟩ rfl rfl rfl (fun μ20 hc20 => ?_)
    obtain ⟨hb20, hl20, hf20⟩ := hc20
    refine go_aload_n dX9_feed_23 rfl ?_
    refine go_getR dX9_feed_24 fl_X9_41 (by first | assumption | exact Nat.le_of_ble_eq_true rfl) (by first | assumption | rfl) rfl (by first | assumption | rfl) ?_
    refine go_iload_n dX9_feed_27 rfl ?_
    refine go_vV (ci := 6) dX9_feed_28 (ct_X7_takeInt _ (μ 56 1 + 4) hl20 (by omega)) ml_X9_230 mc_X7_takeInt mv_X7_takeInt rfl (by first | assumption | exact Nat.le_of_ble_eq_true rfl) (by first | assumption | rfl) rfl ⟨rfl, rfl⟩ ⟨Nat.le_refl _, Nat.le_refl _⟩ rfl rfl rfl (fun μ28 hc28 => ?_)
    obtain ⟨hb28, hl28, hf28⟩ := hc28
    refine go_aload_n dX9_feed_31 rfl ?_
    refine go_getR dX9_feed_32 fl_X9_41 (by first | assumption | exact Nat.le_of_ble_eq_true rfl) (by first | assumption | rfl) rfl (by first | assumption | rfl) ?_
    refine go_iload_n dX9_feed_35 rfl ?_
    refine go_vV (ci := 6) dX9_feed_36 (ct_X7_takeInt _ (μ 56 1 + 8) (by omega) (by omega)) ml_X9_230 mc_X7_takeInt mv_X7_takeInt rfl (by first | assumption | exact Nat.le_of_ble_eq_true rfl) (by first | assumption | rfl) rfl ⟨rfl, rfl⟩ ⟨Nat.le_refl _, Nat.le_refl _⟩ rfl rfl rfl (fun μ36 hc36 => ?_)
    obtain ⟨hb36, hl36, hf36⟩ := hc36
    skip
    refine go_aload_n dX9_feed_39 rfl ?_
    refine go_getR dX9_feed_40 fl_X9_41 (by first | assumption | exact Nat.le_of_ble_eq_true rfl) (by first | assumption | rfl) rfl (by first | assumption | rfl) ?_
    refine go_getI 1 dX9_feed_43 fl_X9_234 (by first | assumption | exact Nat.le_of_ble_eq_true rfl) (by first | assumption | rfl) rfl rfl ?_
    try simp (disch := omega) only [ud, ua_same, ua_ne, uf_same, uf_ne]
    refine go_ri dX9_feed_46 tyI ⟨Nat.le_refl _, Nat.le_refl _⟩ (?_)
    refine ⟨fun h => absurd h (by omega), fun _ => ⟨by omega, by omega, fun q => ?_, fun q a b => by rw [hf36 q a b, hf28 q a b, hf20 q a b]⟩⟩
    rw [hb36 q, hb28 q, hb20 q]
    by_cases e : μ 56 1 ≤ q ∧ q < μ 56 1 + 12
    · rw [if_pos e]
      by_cases e1 : q - μ 56 1 < 4
      · rw [if_neg (show ¬ (μ 56 1 + 8 ≤ q ∧ q < μ 56 1 + 8 + 4) by omega), if_neg (show ¬ (μ 56 1 + 4 ≤ q ∧ q < μ 56 1 + 4 + 4) by omega), if_pos (show μ 56 1 ≤ q ∧ q < μ 56 1 + 4 by omega), if_pos e1, show (q - μ 56 1) % 4 = q - μ 56 1 by omega]
      · rw [if_neg e1]
        by_cases e2 : q - μ 56 1 < 8
        · rw [if_neg (show ¬ (μ 56 1 + 8 ≤ q ∧ q < μ 56 1 + 8 + 4) by omega), if_pos (show μ 56 1 + 4 ≤ q ∧ q < μ 56 1 + 4 + 4 by omega), if_pos e2, show (q - μ 56 1) % 4 = q - (μ 56 1 + 4) by omega]
        · rw [if_pos (show μ 56 1 + 8 ≤ q ∧ q < μ 56 1 + 8 + 4 by omega), if_neg e2, show (q - μ 56 1) % 4 = q - (μ 56 1 + 8) by omega]
    · rw [if_neg e, if_neg (by omega), if_neg (by omega), if_neg (by omega)]
  ·
    refine go_ldc dX9_feed_12 kc_X9_170 rfl ?_
    exact go_ri dX9_feed_14 tyI ⟨Nat.le_refl _, Nat.le_refl _⟩ (⟨fun _ => ⟨rfl, rfl⟩, fun h => absurd h h9⟩)

set_option maxRecDepth 100000 in
set_option maxHeartbeats 4000000 in
theorem ct_X9_textTold {l : Launch} {D : va_G} {cA : Nat → ClassId} {μ : Mem} (hI : mtI μ 32) (t what : Int) : CtN l D cA yX9_textTold cX9_textTold 3 (some .int) 2 [vr 0, vi t, vi what] μ (Pi (fun x μ' => x = (if (0 ≤ t ∧ t ≤ μ 32 13 - 1) ∧ 0 ≤ what ∧ what ≤ 1 then (if what = 0 then μ (4 + 2 * t.toNat) 0 else μ (4 + 2 * t.toNat) 1) else -1000000001) ∧ μ' = μ)) := by
  refine Ct.of (own := RX9) (by decide +kernel) rfl (fun σ => Nat.le_of_ble_eq_true rfl) (fun hM hP ha => ?_)
  obtain ⟨w0_0, w0_1, w0_2, w0_3, w0_4, w0_5, w0_6, w0_7, w0_8, w0_9, w1_0, w1_1, w32_1, w32_2, w32_3, w32_4, w32_5, w32_6, w39_1, w39_2, w39_3, w39_4, w39_5, w39_6, w46_1, w46_2, w46_3, w46_4, w46_5, w46_6, w56_0, w58_0, w58_1, w53_0, w53_1⟩ := ws_f
  have hMt : isMt 32 := Or.inl rfl
  obtain ⟨iK, iS, iL, iT, iTn, iD, iH, iF, iX, iW⟩ := id hI
  simp only [Nat.reduceAdd] at iK iS iL iT
  refine go_iload_n dX9_textTold_0 rfl ?_
  refine go_iconst dX9_textTold_1 rfl ?_
  refine go_aload_n dX9_textTold_2 rfl ?_
  refine go_getR dX9_textTold_3 fl_X9_21 (by first | assumption | exact Nat.le_of_ble_eq_true rfl) (by first | assumption | rfl) rfl (by first | assumption | rfl) ?_
  refine go_getI 13 dX9_textTold_6 fl_X9_240 (by first | assumption | exact Nat.le_of_ble_eq_true rfl) (by first | assumption | rfl) rfl rfl ?_
  refine go_iconst dX9_textTold_9 rfl ?_
  refine go_isub dX9_textTold_10 ⟨by omega, by omega⟩ ?_
  refine go_sI dX9_textTold_11 (ct_X9_isWithin _ _ _) ml_X9_81 mc_X9_isWithin ms_X9_isWithin ⟨rfl, rfl⟩ ⟨Nat.le_refl _, Nat.le_refl _⟩ rfl rfl rfl (fun x11 μ11 hc11 => ?_)
  obtain ⟨rfl, hm11⟩ := hc11
  rw [hm11]
  first | refine go_bz (tgt := 26) dX9_textTold_14 rfl (fun h14 => ?_) (fun h14 => ?_) | refine go_if_eq (tgt := 26) dX9_textTold_14 rfl (fun h14 => ?_) (fun h14 => ?_)
  ·
    refine go_ldc dX9_textTold_26 kc_X9_85 rfl ?_
    exact go_ri dX9_textTold_28 tyI ⟨Nat.le_refl _, Nat.le_refl _⟩ (⟨by (repeat (first | rw [if_pos (by omega)] | rw [if_neg (by omega)])), rfl⟩)
  ·
    refine go_iload_n dX9_textTold_17 rfl ?_
    refine go_iconst dX9_textTold_18 rfl ?_
    refine go_iconst dX9_textTold_19 rfl ?_
    refine go_sI dX9_textTold_20 (ct_X9_isWithin _ _ _) ml_X9_81 mc_X9_isWithin ms_X9_isWithin ⟨rfl, rfl⟩ ⟨Nat.le_refl _, Nat.le_refl _⟩ rfl rfl rfl (fun x20 μ20 hc20 => ?_)
    obtain ⟨rfl, hm20⟩ := hc20
    rw [hm20]
    first | refine go_bnz (tgt := 29) dX9_textTold_23 rfl (fun h23 => ?_) (fun h23 => ?_) | refine go_if_ne (tgt := 29) dX9_textTold_23 rfl (fun h23 => ?_) (fun h23 => ?_)
    ·
      refine go_iload_n dX9_textTold_29 rfl ?_
      first | refine go_bnz (tgt := 48) dX9_textTold_30 rfl (fun h30 => ?_) (fun h30 => ?_) | refine go_if_ne (tgt := 48) dX9_textTold_30 rfl (fun h30 => ?_) (fun h30 => ?_)
      ·
        refine go_aload_n dX9_textTold_48 rfl ?_
        refine go_getR dX9_textTold_49 fl_X9_10 (by first | assumption | exact Nat.le_of_ble_eq_true rfl) (by first | assumption | rfl) rfl (by first | assumption | rfl) ?_
        refine go_getR dX9_textTold_52 fl_X9_243 (by first | assumption | exact Nat.le_of_ble_eq_true rfl) (by first | assumption | rfl) rfl (by first | assumption | rfl) ?_
        refine go_iload_n dX9_textTold_55 rfl ?_
        refine go_rows dX9_textTold_56 (by omega) (by omega) (fun hj56_0 hj56_1 hj56_2 hj56_3 hj56_4 => ?_)
        refine go_getI 1 dX9_textTold_57 fl_X9_259 (by first | assumption | exact Nat.le_of_ble_eq_true rfl) (by first | assumption | rfl) rfl rfl ?_
        try simp (disch := omega) only [ud, ua_same, ua_ne, uf_same, uf_ne]
        exact go_ri dX9_textTold_60 tyI ⟨Nat.le_refl _, Nat.le_refl _⟩ (⟨by (repeat (first | rw [if_pos (by omega)] | rw [if_neg (by omega)])), rfl⟩)
      ·
        refine go_aload_n dX9_textTold_33 rfl ?_
        refine go_getR dX9_textTold_34 fl_X9_10 (by first | assumption | exact Nat.le_of_ble_eq_true rfl) (by first | assumption | rfl) rfl (by first | assumption | rfl) ?_
        refine go_getR dX9_textTold_37 fl_X9_243 (by first | assumption | exact Nat.le_of_ble_eq_true rfl) (by first | assumption | rfl) rfl (by first | assumption | rfl) ?_
        refine go_iload_n dX9_textTold_40 rfl ?_
        refine go_rows dX9_textTold_41 (by omega) (by omega) (fun hj41_0 hj41_1 hj41_2 hj41_3 hj41_4 => ?_)
        refine go_getI 0 dX9_textTold_42 fl_X9_256 (by first | assumption | exact Nat.le_of_ble_eq_true rfl) (by first | assumption | rfl) rfl rfl ?_
        try simp (disch := omega) only [ud, ua_same, ua_ne, uf_same, uf_ne]
        refine go_goto (tgt := 60) dX9_textTold_45 rfl ?_
        exact go_ri dX9_textTold_60 tyI ⟨Nat.le_refl _, Nat.le_refl _⟩ (⟨by (repeat (first | rw [if_pos (by omega)] | rw [if_neg (by omega)])), rfl⟩)
    ·
      refine go_ldc dX9_textTold_26 kc_X9_85 rfl ?_
      exact go_ri dX9_textTold_28 tyI ⟨Nat.le_refl _, Nat.le_refl _⟩ (⟨by (repeat (first | rw [if_pos (by omega)] | rw [if_neg (by omega)])), rfl⟩)

set_option maxRecDepth 100000 in
set_option maxHeartbeats 4000000 in
theorem ct_X9_why {l : Launch} {D : va_G} {cA : Nat → ClassId} {μ : Mem} (hI : mtI μ 32) (key : Int) : CtN l D cA yX9_why cX9_why 2 (some .int) 3 [vr 0, vi key] μ (Pi (fun x μ' => x = (if 0 ≤ key ∧ key ≤ 2 then onI (lastK (fun i => μ (4 + 2 * i) 0) key (μ 32 13).toNat) else -1000000001) ∧ μ' = μ)) := by
  refine Ct.of (own := RX9) (by decide +kernel) rfl (fun σ => Nat.le_of_ble_eq_true rfl) (fun hM hP ha => ?_)
  obtain ⟨w0_0, w0_1, w0_2, w0_3, w0_4, w0_5, w0_6, w0_7, w0_8, w0_9, w1_0, w1_1, w32_1, w32_2, w32_3, w32_4, w32_5, w32_6, w39_1, w39_2, w39_3, w39_4, w39_5, w39_6, w46_1, w46_2, w46_3, w46_4, w46_5, w46_6, w56_0, w58_0, w58_1, w53_0, w53_1⟩ := ws_f
  have hMt : isMt 32 := Or.inl rfl
  obtain ⟨iK, iS, iL, iT, iTn, iD, iH, iF, iX, iW⟩ := id hI
  simp only [Nat.reduceAdd] at iK iS iL iT
  refine go_iload_n dX9_why_0 rfl ?_
  refine go_iconst dX9_why_1 rfl ?_
  refine go_iconst dX9_why_2 rfl ?_
  refine go_sI dX9_why_3 (ct_X9_isWithin _ _ _) ml_X9_81 mc_X9_isWithin ms_X9_isWithin ⟨rfl, rfl⟩ ⟨Nat.le_refl _, Nat.le_refl _⟩ rfl rfl rfl (fun x3 μ3 hc3 => ?_)
  obtain ⟨rfl, hm3⟩ := hc3
  rw [hm3]
  first | refine go_bnz (tgt := 12) dX9_why_6 rfl (fun h6 => ?_) (fun h6 => ?_) | refine go_if_ne (tgt := 12) dX9_why_6 rfl (fun h6 => ?_) (fun h6 => ?_)
  ·
    refine go_aload_n dX9_why_12 rfl ?_
    refine go_getR dX9_why_13 fl_X9_10 (by first | assumption | exact Nat.le_of_ble_eq_true rfl) (by first | assumption | rfl) rfl (by first | assumption | rfl) ?_
    refine go_iload_n dX9_why_16 rfl ?_
    refine go_aload_n dX9_why_17 rfl ?_
    refine go_getR dX9_why_18 fl_X9_21 (by first | assumption | exact Nat.le_of_ble_eq_true rfl) (by first | assumption | rfl) rfl (by first | assumption | rfl) ?_
    refine go_getI 13 dX9_why_21 fl_X9_240 (by first | assumption | exact Nat.le_of_ble_eq_true rfl) (by first | assumption | rfl) rfl rfl ?_
    try simp (disch := omega) only [ud, ua_same, ua_ne, uf_same, uf_ne]
    refine go_vI (ci := 1) dX9_why_24 (ct_X2_lastOf _ _ iX.1 iX.2) ml_X9_262 mc_X2_lastOf mv_X2_lastOf rfl (by first | assumption | exact Nat.le_of_ble_eq_true rfl) (by first | assumption | rfl) rfl ⟨rfl, rfl⟩ ⟨Nat.le_refl _, Nat.le_refl _⟩ rfl rfl rfl (fun x24 μ24 hc24 => ?_)
    obtain ⟨rfl, hm24⟩ := hc24
    rw [hm24]
    exact go_ri dX9_why_27 tyI ⟨Nat.le_refl _, Nat.le_refl _⟩ (⟨by (repeat (first | rw [if_pos (by omega)] | rw [if_neg (by omega)])), rfl⟩)
  ·
    refine go_ldc dX9_why_9 kc_X9_85 rfl ?_
    exact go_ri dX9_why_11 tyI ⟨Nat.le_refl _, Nat.le_refl _⟩ (⟨by (repeat (first | rw [if_pos (by omega)] | rw [if_neg (by omega)])), rfl⟩)

