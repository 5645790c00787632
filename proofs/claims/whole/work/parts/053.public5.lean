/-! THE CLASS: way, bound, wall, reach -/
theorem mtI_fw {μ μ' : Mem} (hf : ∀ q, q ≠ 3 → q ≠ 37 → q ≠ 54 → μ' q = μ q) (h : mtI μ 32) : mtI μ' 32 := by
  obtain ⟨iK, iS, iL, iT, iTn, iD, iH, iF, iX, iW⟩ := h
  unfold mtI
  rw [hf 32 (by omega) (by omega) (by omega), hf (32 + 1) (by omega) (by omega) (by omega), hf (32 + 2) (by omega) (by omega) (by omega), hf (32 + 3) (by omega) (by omega) (by omega), hf (32 + 4) (by omega) (by omega) (by omega)]
  exact ⟨iK, iS, iL, iT, iTn, iD, iH, iF, iX, lwI_fr (fun q h1 h2 => hf q (by omega) (by omega) (by omega)) iW⟩
theorem LM_fw {μ μ' : Mem} (hI : mtI μ 32) (hf : ∀ q, q ≠ 3 → q ≠ 37 → q ≠ 54 → μ' q = μ q) : LM μ' 32 = LM μ 32 := by
  unfold LM
  rw [hf 32 (by omega) (by omega) (by omega)]
  exact LLc_fr hI.2.2.2.2.2.2.2.2.2.1 (fun q h1 h2 => hf q (by omega) (by omega) (by omega))
theorem bD_cg {f g rk rk' : Int → Int} {c : Int} (h0 : 0 ≤ c) (h1 : c < 30) (h : ∀ q, 0 ≤ q → q < 30 → f q = g q) (hr : ∀ q, 0 ≤ q → q < 30 → rk q = rk' q) : bD f rk c = bD g rk' c := by
  unfold bD; rw [bdS_cg h0 h1 h hr]
theorem brN_cg {sv : Int → Int → Int} {f g rk rk' : Int → Int} (h : ∀ q, 0 ≤ q → q < 30 → f q = g q) (hr : ∀ q, 0 ≤ q → q < 30 → rk q = rk' q) : ∀ (n : Nat) (c : Int), 0 ≤ c → c < 30 → brN sv f rk n c = brN sv g rk' n c
  | 0, _, _, _ => rfl
  | n + 1, c, h0, h1 => by
    rw [brN_s, brN_s, bD_cg h0 h1 h hr]
    rcases nb_r (d := bD g rk' c) h0 h1 with e | e
    · rw [if_pos e, if_pos e]
    · rw [if_neg (by omega), if_neg (by omega), brN_cg h hr n _ e.1 e.2]
theorem ceN_cg {f g rk rk' : Int → Int} (h : ∀ q, 0 ≤ q → q < 30 → f q = g q) (hr : ∀ q, 0 ≤ q → q < 30 → rk q = rk' q) : ∀ (n : Nat) (c : Int), 0 ≤ c → c < 30 → ceN f rk n c = ceN g rk' n c
  | 0, _, _, _ => rfl
  | n + 1, c, h0, h1 => by
    show (if c = -1000000005 then _ else ceN f rk n (nb c (bD f rk c))) = (if c = -1000000005 then _ else ceN g rk' n (nb c (bD g rk' c)))
    rw [if_neg (by omega), if_neg (by omega), bD_cg h0 h1 h hr]
    rcases nb_r (d := bD g rk' c) h0 h1 with e | e
    · rw [e, ceN_none, ceN_none]
    · exact ceN_cg h hr n _ e.1 e.2
def wyV (sv : Int → Int → Int) (rk : Int → Int) (fr to what : Int) : Int :=
  if what = 0 then wF rk to fr / 64 else if what = 1 then wF rk to fr % 64 else if what = 2 then brN sv (wF rk to) rk (wF rk to fr % 64).toNat fr else if wF rk to fr % 64 < what - 10 then -1000000005 else ceN (wF rk to) rk (what - 10).toNat fr
def svC (μ : Mem) (M : Nat) : Int → Int → Int := fun a b => stepV (LM μ M) (μ (M + 2) b) (upV a b)

set_option maxRecDepth 100000 in
set_option maxHeartbeats 4000000 in
theorem ct_X9_way {l : Launch} {D : va_G} {cA : Nat → ClassId} {μ : Mem} (hI : mtI μ 32) (fr to what : Int) (hw : what ≤ 2147483647) : CtN l D cA yX9_way cX9_way 4 (some .int) 7 [vr 0, vi fr, vi to, vi what] μ (Pi (fun x μ' => x = (if (0 ≤ fr ∧ fr ≤ 29) ∧ (0 ≤ to ∧ to ≤ 29) ∧ 0 ≤ what ∧ ¬ (3 ≤ what ∧ what ≤ 9) then wyV (svC μ 32) (rkC μ 32) fr to what else -1000000001) ∧ ∀ q, q ≠ 3 → q ≠ 37 → q ≠ 54 → μ' q = μ q)) := by
  refine Ct.of (own := RX9) (by decide +kernel) rfl (fun σ => Nat.le_of_ble_eq_true rfl) (fun hM hP ha => ?_)
  obtain ⟨w0_0, w0_1, w0_2, w0_3, w0_4, w0_5, w0_6, w0_7, w0_8, w0_9, w1_0, w1_1, w32_1, w32_2, w32_3, w32_4, w32_5, w32_6, w39_1, w39_2, w39_3, w39_4, w39_5, w39_6, w46_1, w46_2, w46_3, w46_4, w46_5, w46_6, w56_0, w58_0, w58_1, w53_0, w53_1⟩ := ws_f
  have hMt : isMt 32 := Or.inl rfl
  obtain ⟨iK, iS, iL, iT, iTn, iD, iH, iF, iX, iW⟩ := id hI
  simp only [Nat.reduceAdd] at iK iS iL iT
  refine go_iload_n dX9_way_0 rfl ?_
  refine go_sI dX9_way_1 (ct_X9_isCell _) ml_X9_72 mc_X9_isCell ms_X9_isCell ⟨rfl, rfl⟩ ⟨Nat.le_refl _, Nat.le_refl _⟩ rfl rfl rfl (fun x1 μ1 hc1 => ?_)
  obtain ⟨rfl, hm1⟩ := hc1
  rw [hm1]
  first | refine go_bz (tgt := 28) dX9_way_4 rfl (fun h4 => ?_) (fun h4 => ?_) | refine go_if_eq (tgt := 28) dX9_way_4 rfl (fun h4 => ?_) (fun h4 => ?_)
  ·
    refine go_ldc dX9_way_28 kc_X9_85 rfl ?_
    exact go_ri dX9_way_30 tyI ⟨Nat.le_refl _, Nat.le_refl _⟩ (⟨by rw [if_neg (by omega)], fun _ _ _ _ => rfl⟩)
  ·
    refine go_iload_n dX9_way_7 rfl ?_
    refine go_sI dX9_way_8 (ct_X9_isCell _) ml_X9_72 mc_X9_isCell ms_X9_isCell ⟨rfl, rfl⟩ ⟨Nat.le_refl _, Nat.le_refl _⟩ rfl rfl rfl (fun x8 μ8 hc8 => ?_)
    obtain ⟨rfl, hm8⟩ := hc8
    rw [hm8]
    first | refine go_bz (tgt := 28) dX9_way_11 rfl (fun h11 => ?_) (fun h11 => ?_) | refine go_if_eq (tgt := 28) dX9_way_11 rfl (fun h11 => ?_) (fun h11 => ?_)
    ·
      refine go_ldc dX9_way_28 kc_X9_85 rfl ?_
      exact go_ri dX9_way_30 tyI ⟨Nat.le_refl _, Nat.le_refl _⟩ (⟨by rw [if_neg (by omega)], fun _ _ _ _ => rfl⟩)
    ·
      refine go_iload_n dX9_way_14 rfl ?_
      refine go_if_lt (tgt := 28) dX9_way_15 rfl (fun h15 => ?_) (fun h15 => ?_)
      ·
        refine go_ldc dX9_way_28 kc_X9_85 rfl ?_
        exact go_ri dX9_way_30 tyI ⟨Nat.le_refl _, Nat.le_refl _⟩ (⟨by rw [if_neg (by omega)], fun _ _ _ _ => rfl⟩)
      ·
        refine go_iload_n dX9_way_18 rfl ?_
        refine go_iconst dX9_way_19 rfl ?_
        refine go_bipush dX9_way_20 rfl (by decide) ?_
        refine go_sI dX9_way_22 (ct_X9_isWithin _ _ _) ml_X9_81 mc_X9_isWithin ms_X9_isWithin ⟨rfl, rfl⟩ ⟨Nat.le_refl _, Nat.le_refl _⟩ rfl rfl rfl (fun x22 μ22 hc22 => ?_)
        obtain ⟨rfl, hm22⟩ := hc22
        rw [hm22]
        first | refine go_bz (tgt := 31) dX9_way_25 rfl (fun h25 => ?_) (fun h25 => ?_) | refine go_if_eq (tgt := 31) dX9_way_25 rfl (fun h25 => ?_) (fun h25 => ?_)
        ·
          refine go_aload_n dX9_way_31 rfl ?_
          refine go_getR dX9_way_32 fl_X9_34 (by first | assumption | exact Nat.le_of_ble_eq_true rfl) (by first | assumption | rfl) rfl (by first | assumption | rfl) ?_
          refine go_aload_n dX9_way_35 rfl ?_
          refine go_getR dX9_way_36 fl_X9_21 (by first | assumption | exact Nat.le_of_ble_eq_true rfl) (by first | assumption | rfl) rfl (by first | assumption | rfl) ?_
          refine go_iload_n dX9_way_39 rfl ?_
          refine go_vV (ci := 7) dX9_way_40 (ct_X8_findTo hMt hI _ (by omega) (by omega)) ml_X9_193 mc_X8_findTo mv_X8_findTo rfl (by first | assumption | exact Nat.le_of_ble_eq_true rfl) (by first | assumption | rfl) rfl ⟨rfl, rfl⟩ ⟨Nat.le_refl _, Nat.le_refl _⟩ rfl rfl rfl (fun μ40 hc40 => ?_)
          obtain ⟨hk40, hr40, hf40⟩ := hc40
          simp only [Nat.reduceAdd] at hr40 hf40
          have hI40 := mtI_fw hf40 hI
          have hB : wyB μ40 32 := fun q q0 q1 => ⟨by rw [hk40 q q0 q1]; exact wD_b (fun q a b => (rkC_b hI q a b).1) 29 q q0 q1, by show 0 ≤ μ40 37 q ∧ _; rw [hr40 q q0 q1]; exact rkC_b hI q q0 q1⟩
          have hkf := hk40 fr (by omega) (by omega)
          refine go_iload_n dX9_way_43 rfl ?_
          refine go_case (0) (fun h44_0 => ?_) (fun h44_0 => ?_)
          ·
            refine go_tabIn (tgt := 72) dX9_way_44 (by rw [h44_0]; decide) (by rw [h44_0]; decide) (by rw [h44_0]; try rfl) rfl ?_
            refine go_aload_n dX9_way_72 rfl ?_
            refine go_getR dX9_way_73 fl_X9_34 (by first | assumption | exact Nat.le_of_ble_eq_true rfl) (by first | assumption | rfl) rfl (by first | assumption | rfl) ?_
            refine go_iload_n dX9_way_76 rfl ?_
            refine go_vI (ci := 7) dX9_way_77 (ct_X8_risksFrom _ (by omega) (by omega) (hB _ (by omega) (by omega)).1.1) ml_X9_197 mc_X8_risksFrom mv_X8_risksFrom rfl (by first | assumption | exact Nat.le_of_ble_eq_true rfl) (by first | assumption | rfl) rfl ⟨rfl, rfl⟩ ⟨Nat.le_refl _, Nat.le_refl _⟩ rfl rfl rfl (fun x77 μ77 hc77 => ?_)
            obtain ⟨rfl, hm77⟩ := hc77
            rw [hm77]
            exact go_ri dX9_way_80 tyI ⟨Nat.le_refl _, Nat.le_refl _⟩ (⟨by rw [if_pos (by omega)]; unfold wyV; rw [if_pos h44_0, hkf], hf40⟩)
          refine go_case (1) (fun h44_1 => ?_) (fun h44_1 => ?_)
          ·
            refine go_tabIn (tgt := 81) dX9_way_44 (by rw [h44_1]; decide) (by rw [h44_1]; decide) (by rw [h44_1]; try rfl) rfl ?_
            refine go_aload_n dX9_way_81 rfl ?_
            refine go_getR dX9_way_82 fl_X9_34 (by first | assumption | exact Nat.le_of_ble_eq_true rfl) (by first | assumption | rfl) rfl (by first | assumption | rfl) ?_
            refine go_iload_n dX9_way_85 rfl ?_
            refine go_vI (ci := 7) dX9_way_86 (ct_X8_stepsFrom _ (by omega) (by omega) (hB _ (by omega) (by omega)).1.1) ml_X9_200 mc_X8_stepsFrom mv_X8_stepsFrom rfl (by first | assumption | exact Nat.le_of_ble_eq_true rfl) (by first | assumption | rfl) rfl ⟨rfl, rfl⟩ ⟨Nat.le_refl _, Nat.le_refl _⟩ rfl rfl rfl (fun x86 μ86 hc86 => ?_)
            obtain ⟨rfl, hm86⟩ := hc86
            rw [hm86]
            exact go_ri dX9_way_89 tyI ⟨Nat.le_refl _, Nat.le_refl _⟩ (⟨by rw [if_pos (by omega)]; unfold wyV; rw [if_neg (by omega), if_pos h44_1, hkf], hf40⟩)
          refine go_case (2) (fun h44_2 => ?_) (fun h44_2 => ?_)
          ·
            refine go_tabIn (tgt := 90) dX9_way_44 (by rw [h44_2]; decide) (by rw [h44_2]; decide) (by rw [h44_2]; try rfl) rfl ?_
            refine go_aload_n dX9_way_90 rfl ?_
            refine go_getR dX9_way_91 fl_X9_34 (by first | assumption | exact Nat.le_of_ble_eq_true rfl) (by first | assumption | rfl) rfl (by first | assumption | rfl) ?_
            refine go_aload_n dX9_way_94 rfl ?_
            refine go_getR dX9_way_95 fl_X9_21 (by first | assumption | exact Nat.le_of_ble_eq_true rfl) (by first | assumption | rfl) rfl (by first | assumption | rfl) ?_
            refine go_iload_n dX9_way_98 rfl ?_
            refine go_vI (ci := 7) dX9_way_99 (ct_X8_breathFrom hMt hB hI40 _ (by omega) (by omega)) ml_X9_203 mc_X8_breathFrom mv_X8_breathFrom rfl (by first | assumption | exact Nat.le_of_ble_eq_true rfl) (by first | assumption | rfl) rfl ⟨rfl, rfl⟩ ⟨Nat.le_refl _, Nat.le_refl _⟩ rfl rfl rfl (fun x99 μ99 hc99 => ?_)
            rw [LM_fw hI hf40, hf40 (32 + 2) (by decide) (by decide) (by decide), brN_cg hk40 hr40 _ _ (by omega) (by omega), hkf] at hc99
            obtain ⟨rfl, hf99⟩ := hc99
            exact go_ri dX9_way_102 tyI ⟨Nat.le_refl _, Nat.le_refl _⟩ (⟨by rw [if_pos (by omega)]; unfold wyV; rw [if_neg (by omega), if_neg (by omega), if_pos h44_2]; rfl, fun q h1 h2 h3 => (hf99 q h1).trans (hf40 q h1 h2 h3)⟩)
          refine go_tabOut (tgt := 103) dX9_way_44 (by omega) rfl ?_
          refine go_aload_n dX9_way_103 rfl ?_
          refine go_getR dX9_way_104 fl_X9_34 (by first | assumption | exact Nat.le_of_ble_eq_true rfl) (by first | assumption | rfl) rfl (by first | assumption | rfl) ?_
          refine go_aload_n dX9_way_107 rfl ?_
          refine go_getR dX9_way_108 fl_X9_21 (by first | assumption | exact Nat.le_of_ble_eq_true rfl) (by first | assumption | rfl) rfl (by first | assumption | rfl) ?_
          refine go_iload_n dX9_way_111 rfl ?_
          refine go_iload_n dX9_way_112 rfl ?_
          refine go_bipush dX9_way_113 rfl (by decide) ?_
          refine go_isub dX9_way_115 ⟨by omega, by omega⟩ ?_
          refine go_vI (ci := 7) dX9_way_116 (ct_X8_cellFrom hMt hB _ _ (by omega) (by omega) (by omega)) ml_X9_207 mc_X8_cellFrom mv_X8_cellFrom rfl (by first | assumption | exact Nat.le_of_ble_eq_true rfl) (by first | assumption | rfl) rfl ⟨rfl, rfl⟩ ⟨Nat.le_refl _, Nat.le_refl _⟩ rfl rfl rfl (fun x116 μ116 hc116 => ?_)
          rw [ceN_cg hk40 hr40 _ _ (by omega) (by omega), hkf] at hc116
          obtain ⟨rfl, hm116⟩ := hc116
          rw [hm116]
          exact go_ri dX9_way_119 tyI ⟨Nat.le_refl _, Nat.le_refl _⟩ (⟨by rw [if_pos (show (0 ≤ fr ∧ fr ≤ 29) ∧ (0 ≤ to ∧ to ≤ 29) ∧ 0 ≤ what ∧ ¬ (3 ≤ what ∧ what ≤ 9) by omega)]; unfold wyV; rw [if_neg (show ¬ what = 0 by omega), if_neg (show ¬ what = 1 by omega), if_neg (show ¬ what = 2 by omega)], hf40⟩)
        ·
          refine go_ldc dX9_way_28 kc_X9_85 rfl ?_
          exact go_ri dX9_way_30 tyI ⟨Nat.le_refl _, Nat.le_refl _⟩ (⟨by rw [if_neg (by omega)], fun _ _ _ _ => rfl⟩)

set_option maxRecDepth 100000 in
set_option maxHeartbeats 4000000 in
theorem ct_X9_bound {l : Launch} {D : va_G} {cA : Nat → ClassId} {μ : Mem} (hI : mtI μ 32) (fr to n : Int) : CtN l D cA yX9_bound cX9_bound 4 (some .int) 7 [vr 0, vi fr, vi to, vi n] μ (Pi (fun x μ' => x = (if (0 ≤ fr ∧ fr ≤ 29) ∧ (0 ≤ to ∧ to ≤ 29) ∧ 0 ≤ n ∧ n ≤ 40 then (if bE (rkC μ 32) fr n.toNat to < 536870912 then bE (rkC μ 32) fr n.toNat to else -1000000005) else -1000000001) ∧ ∀ q, q ≠ 3 → q ≠ 37 → q ≠ 54 → q ≠ 55 → μ' q = μ q)) := by
  refine Ct.of (own := RX9) (by decide +kernel) rfl (fun σ => Nat.le_of_ble_eq_true rfl) (fun hM hP ha => ?_)
  obtain ⟨w0_0, w0_1, w0_2, w0_3, w0_4, w0_5, w0_6, w0_7, w0_8, w0_9, w1_0, w1_1, w32_1, w32_2, w32_3, w32_4, w32_5, w32_6, w39_1, w39_2, w39_3, w39_4, w39_5, w39_6, w46_1, w46_2, w46_3, w46_4, w46_5, w46_6, w56_0, w58_0, w58_1, w53_0, w53_1⟩ := ws_f
  have hMt : isMt 32 := Or.inl rfl
  obtain ⟨iK, iS, iL, iT, iTn, iD, iH, iF, iX, iW⟩ := id hI
  simp only [Nat.reduceAdd] at iK iS iL iT
  refine go_iload_n dX9_bound_0 rfl ?_
  refine go_sI dX9_bound_1 (ct_X9_isCell _) ml_X9_72 mc_X9_isCell ms_X9_isCell ⟨rfl, rfl⟩ ⟨Nat.le_refl _, Nat.le_refl _⟩ rfl rfl rfl (fun x1 μ1 hc1 => ?_)
  obtain ⟨rfl, hm1⟩ := hc1
  rw [hm1]
  first | refine go_bz (tgt := 24) dX9_bound_4 rfl (fun h4 => ?_) (fun h4 => ?_) | refine go_if_eq (tgt := 24) dX9_bound_4 rfl (fun h4 => ?_) (fun h4 => ?_)
  ·
    refine go_ldc dX9_bound_24 kc_X9_85 rfl ?_
    exact go_ri dX9_bound_26 tyI ⟨Nat.le_refl _, Nat.le_refl _⟩ (⟨by rw [if_neg (by omega)], fun _ _ _ _ _ => rfl⟩)
  ·
    refine go_iload_n dX9_bound_7 rfl ?_
    refine go_sI dX9_bound_8 (ct_X9_isCell _) ml_X9_72 mc_X9_isCell ms_X9_isCell ⟨rfl, rfl⟩ ⟨Nat.le_refl _, Nat.le_refl _⟩ rfl rfl rfl (fun x8 μ8 hc8 => ?_)
    obtain ⟨rfl, hm8⟩ := hc8
    rw [hm8]
    first | refine go_bz (tgt := 24) dX9_bound_11 rfl (fun h11 => ?_) (fun h11 => ?_) | refine go_if_eq (tgt := 24) dX9_bound_11 rfl (fun h11 => ?_) (fun h11 => ?_)
    ·
      refine go_ldc dX9_bound_24 kc_X9_85 rfl ?_
      exact go_ri dX9_bound_26 tyI ⟨Nat.le_refl _, Nat.le_refl _⟩ (⟨by rw [if_neg (by omega)], fun _ _ _ _ _ => rfl⟩)
    ·
      refine go_iload_n dX9_bound_14 rfl ?_
      refine go_iconst dX9_bound_15 rfl ?_
      refine go_bipush dX9_bound_16 rfl (by decide) ?_
      refine go_sI dX9_bound_18 (ct_X9_isWithin _ _ _) ml_X9_81 mc_X9_isWithin ms_X9_isWithin ⟨rfl, rfl⟩ ⟨Nat.le_refl _, Nat.le_refl _⟩ rfl rfl rfl (fun x18 μ18 hc18 => ?_)
      obtain ⟨rfl, hm18⟩ := hc18
      rw [hm18]
      first | refine go_bnz (tgt := 27) dX9_bound_21 rfl (fun h21 => ?_) (fun h21 => ?_) | refine go_if_ne (tgt := 27) dX9_bound_21 rfl (fun h21 => ?_) (fun h21 => ?_)
      ·
        refine go_aload_n dX9_bound_27 rfl ?_
        refine go_getR dX9_bound_28 fl_X9_34 (by first | assumption | exact Nat.le_of_ble_eq_true rfl) (by first | assumption | rfl) rfl (by first | assumption | rfl) ?_
        refine go_aload_n dX9_bound_31 rfl ?_
        refine go_getR dX9_bound_32 fl_X9_21 (by first | assumption | exact Nat.le_of_ble_eq_true rfl) (by first | assumption | rfl) rfl (by first | assumption | rfl) ?_
        refine go_iload_n dX9_bound_35 rfl ?_
        refine go_iload_n dX9_bound_36 rfl ?_
        refine go_iload_n dX9_bound_37 rfl ?_
        refine go_vI (ci := 7) dX9_bound_38 (ct_X8_leastWithin hMt hI _ _ _ (by omega) (by omega) (by omega) (by omega) (by omega) (by omega)) ml_X9_211 mc_X8_leastWithin mv_X8_leastWithin rfl (by first | assumption | exact Nat.le_of_ble_eq_true rfl) (by first | assumption | rfl) rfl ⟨rfl, rfl⟩ ⟨Nat.le_refl _, Nat.le_refl _⟩ rfl rfl rfl (fun x38 μ38 hc38 => ?_)
        simp only [Nat.reduceAdd] at hc38
        obtain ⟨rfl, hf⟩ := hc38
        exact go_ri dX9_bound_41 tyI ⟨Nat.le_refl _, Nat.le_refl _⟩ (⟨by rw [if_pos (show (0 ≤ fr ∧ fr ≤ 29) ∧ (0 ≤ to ∧ to ≤ 29) ∧ 0 ≤ n ∧ n ≤ 40 by omega)], hf⟩)
      ·
        refine go_ldc dX9_bound_24 kc_X9_85 rfl ?_
        exact go_ri dX9_bound_26 tyI ⟨Nat.le_refl _, Nat.le_refl _⟩ (⟨by rw [if_neg (by omega)], fun _ _ _ _ _ => rfl⟩)

set_option maxRecDepth 100000 in
set_option maxHeartbeats 4000000 in
theorem ct_X9_wall {l : Launch} {D : va_G} {cA : Nat → ClassId} {μ : Mem} (hI : mtI μ 32) (fr to : Int) : CtN l D cA yX9_wall cX9_wall 3 (some .int) 4 [vr 0, vi fr, vi to] μ (Pi (fun x μ' => x = (if (0 ≤ fr ∧ fr ≤ 29) ∧ (0 ≤ to ∧ to ≤ 29) then sE (μ 34) fr 30 to else -1000000001) ∧ ∀ q, q ≠ 54 → q ≠ 55 → μ' q = μ q)) := by
  refine Ct.of (own := RX9) (by decide +kernel) rfl (fun σ => Nat.le_of_ble_eq_true rfl) (fun hM hP ha => ?_)
  obtain ⟨w0_0, w0_1, w0_2, w0_3, w0_4, w0_5, w0_6, w0_7, w0_8, w0_9, w1_0, w1_1, w32_1, w32_2, w32_3, w32_4, w32_5, w32_6, w39_1, w39_2, w39_3, w39_4, w39_5, w39_6, w46_1, w46_2, w46_3, w46_4, w46_5, w46_6, w56_0, w58_0, w58_1, w53_0, w53_1⟩ := ws_f
  have hMt : isMt 32 := Or.inl rfl
  obtain ⟨iK, iS, iL, iT, iTn, iD, iH, iF, iX, iW⟩ := id hI
  simp only [Nat.reduceAdd] at iK iS iL iT
  refine go_iload_n dX9_wall_0 rfl ?_
  refine go_sI dX9_wall_1 (ct_X9_isCell _) ml_X9_72 mc_X9_isCell ms_X9_isCell ⟨rfl, rfl⟩ ⟨Nat.le_refl _, Nat.le_refl _⟩ rfl rfl rfl (fun x1 μ1 hc1 => ?_)
  obtain ⟨rfl, hm1⟩ := hc1
  rw [hm1]
  first | refine go_bz (tgt := 14) dX9_wall_4 rfl (fun h4 => ?_) (fun h4 => ?_) | refine go_if_eq (tgt := 14) dX9_wall_4 rfl (fun h4 => ?_) (fun h4 => ?_)
  ·
    refine go_ldc dX9_wall_14 kc_X9_85 rfl ?_
    exact go_ri dX9_wall_16 tyI ⟨Nat.le_refl _, Nat.le_refl _⟩ (⟨by rw [if_neg (by omega)], fun _ _ _ => rfl⟩)
  ·
    refine go_iload_n dX9_wall_7 rfl ?_
    refine go_sI dX9_wall_8 (ct_X9_isCell _) ml_X9_72 mc_X9_isCell ms_X9_isCell ⟨rfl, rfl⟩ ⟨Nat.le_refl _, Nat.le_refl _⟩ rfl rfl rfl (fun x8 μ8 hc8 => ?_)
    obtain ⟨rfl, hm8⟩ := hc8
    rw [hm8]
    first | refine go_bnz (tgt := 17) dX9_wall_11 rfl (fun h11 => ?_) (fun h11 => ?_) | refine go_if_ne (tgt := 17) dX9_wall_11 rfl (fun h11 => ?_) (fun h11 => ?_)
    ·
      refine go_aload_n dX9_wall_17 rfl ?_
      refine go_getR dX9_wall_18 fl_X9_34 (by first | assumption | exact Nat.le_of_ble_eq_true rfl) (by first | assumption | rfl) rfl (by first | assumption | rfl) ?_
      refine go_aload_n dX9_wall_21 rfl ?_
      refine go_getR dX9_wall_22 fl_X9_21 (by first | assumption | exact Nat.le_of_ble_eq_true rfl) (by first | assumption | rfl) rfl (by first | assumption | rfl) ?_
      refine go_iload_n dX9_wall_25 rfl ?_
      refine go_iload_n dX9_wall_26 rfl ?_
      refine go_vI (ci := 7) dX9_wall_27 (ct_X8_leastSteep hMt hI _ _ (by omega) (by omega) (by omega) (by omega)) ml_X9_215 mc_X8_leastSteep mv_X8_leastSteep rfl (by first | assumption | exact Nat.le_of_ble_eq_true rfl) (by first | assumption | rfl) rfl ⟨rfl, rfl⟩ ⟨Nat.le_refl _, Nat.le_refl _⟩ rfl rfl rfl (fun x27 μ27 hc27 => ?_)
      simp only [Nat.reduceAdd] at hc27
      obtain ⟨rfl, hf⟩ := hc27
      exact go_ri dX9_wall_30 tyI ⟨Nat.le_refl _, Nat.le_refl _⟩ (⟨by rw [if_pos (by omega)], hf⟩)
    ·
      refine go_ldc dX9_wall_14 kc_X9_85 rfl ?_
      exact go_ri dX9_wall_16 tyI ⟨Nat.le_refl _, Nat.le_refl _⟩ (⟨by rw [if_neg (by omega)], fun _ _ _ => rfl⟩)

set_option maxRecDepth 100000 in
set_option maxHeartbeats 4000000 in
theorem ct_X9_reach {l : Launch} {D : va_G} {cA : Nat → ClassId} {μ : Mem} (hI : mtI μ 32) (c w : Int) : CtN l D cA yX9_reach cX9_reach 3 (some .int) 7 [vr 0, vi c, vi w] μ (Pi (fun x μ' => x = (if (0 ≤ c ∧ c ≤ 29) ∧ 0 ≤ w ∧ w ≤ 99999 then ((cnt (fun q => decide (cE (rkC μ 32) w c 30 q < 536870912)) 30 : Nat) : Int) else -1000000001) ∧ ∀ q, q ≠ 3 → q ≠ 37 → q ≠ 54 → q ≠ 55 → μ' q = μ q)) := by
  refine Ct.of (own := RX9) (by decide +kernel) rfl (fun σ => Nat.le_of_ble_eq_true rfl) (fun hM hP ha => ?_)
  obtain ⟨w0_0, w0_1, w0_2, w0_3, w0_4, w0_5, w0_6, w0_7, w0_8, w0_9, w1_0, w1_1, w32_1, w32_2, w32_3, w32_4, w32_5, w32_6, w39_1, w39_2, w39_3, w39_4, w39_5, w39_6, w46_1, w46_2, w46_3, w46_4, w46_5, w46_6, w56_0, w58_0, w58_1, w53_0, w53_1⟩ := ws_f
  have hMt : isMt 32 := Or.inl rfl
  obtain ⟨iK, iS, iL, iT, iTn, iD, iH, iF, iX, iW⟩ := id hI
  simp only [Nat.reduceAdd] at iK iS iL iT
  refine go_iload_n dX9_reach_0 rfl ?_
  refine go_sI dX9_reach_1 (ct_X9_isCell _) ml_X9_72 mc_X9_isCell ms_X9_isCell ⟨rfl, rfl⟩ ⟨Nat.le_refl _, Nat.le_refl _⟩ rfl rfl rfl (fun x1 μ1 hc1 => ?_)
  obtain ⟨rfl, hm1⟩ := hc1
  rw [hm1]
  first | refine go_bz (tgt := 17) dX9_reach_4 rfl (fun h4 => ?_) (fun h4 => ?_) | refine go_if_eq (tgt := 17) dX9_reach_4 rfl (fun h4 => ?_) (fun h4 => ?_)
  ·
    refine go_ldc dX9_reach_17 kc_X9_85 rfl ?_
    exact go_ri dX9_reach_19 tyI ⟨Nat.le_refl _, Nat.le_refl _⟩ (⟨by rw [if_neg (by omega)], fun _ _ _ _ _ => rfl⟩)
  ·
    refine go_iload_n dX9_reach_7 rfl ?_
    refine go_iconst dX9_reach_8 rfl ?_
    refine go_ldc dX9_reach_9 kc_X9_186 rfl ?_
    refine go_sI dX9_reach_11 (ct_X9_isWithin _ _ _) ml_X9_81 mc_X9_isWithin ms_X9_isWithin ⟨rfl, rfl⟩ ⟨Nat.le_refl _, Nat.le_refl _⟩ rfl rfl rfl (fun x11 μ11 hc11 => ?_)
    obtain ⟨rfl, hm11⟩ := hc11
    rw [hm11]
    first | refine go_bnz (tgt := 20) dX9_reach_14 rfl (fun h14 => ?_) (fun h14 => ?_) | refine go_if_ne (tgt := 20) dX9_reach_14 rfl (fun h14 => ?_) (fun h14 => ?_)
    ·
      refine go_aload_n dX9_reach_20 rfl ?_
      refine go_getR dX9_reach_21 fl_X9_34 (by first | assumption | exact Nat.le_of_ble_eq_true rfl) (by first | assumption | rfl) rfl (by first | assumption | rfl) ?_
      refine go_aload_n dX9_reach_24 rfl ?_
      refine go_getR dX9_reach_25 fl_X9_21 (by first | assumption | exact Nat.le_of_ble_eq_true rfl) (by first | assumption | rfl) rfl (by first | assumption | rfl) ?_
      refine go_iload_n dX9_reach_28 rfl ?_
      refine go_iload_n dX9_reach_29 rfl ?_
      refine go_vI (ci := 7) dX9_reach_30 (ct_X8_comeTo hMt hI _ _ (by omega) (by omega)) ml_X9_218 mc_X8_comeTo mv_X8_comeTo rfl (by first | assumption | exact Nat.le_of_ble_eq_true rfl) (by first | assumption | rfl) rfl ⟨rfl, rfl⟩ ⟨Nat.le_refl _, Nat.le_refl _⟩ rfl rfl rfl (fun x30 μ30 hc30 => ?_)
      simp only [Nat.reduceAdd] at hc30
      obtain ⟨rfl, hf⟩ := hc30
      exact go_ri dX9_reach_33 tyI ⟨Nat.le_refl _, Nat.le_refl _⟩ (⟨by rw [if_pos (by omega)], hf⟩)
    ·
      refine go_ldc dX9_reach_17 kc_X9_85 rfl ?_
      exact go_ri dX9_reach_19 tyI ⟨Nat.le_refl _, Nat.le_refl _⟩ (⟨by rw [if_neg (by omega)], fun _ _ _ _ _ => rfl⟩)

