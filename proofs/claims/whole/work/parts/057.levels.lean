/-! THE CLASS: the reader's levels and pieces -/
theorem sAt_sAt {s : RS} {v w : Int} : sAt (sAt s v) w = sAt s w := rfl
theorem rdL_6 {B : Int → Int} {N ke ky : Int} {d : Nat} {p n : Int} {s : RS} : rdL B N ke ky (d + 1) 6 p n s = pcS B N ke ky (rdL B N ke ky d 0 (p + 1) n) (rdL B N ke ky d 6 p (n + 1)) p n s := by
  show (if (6 : Int) = 6 then _ else _) = _
  rw [if_pos rfl]
theorem rdL_5 {B : Int → Int} {N ke ky : Int} {d : Nat} {p n : Int} {s : RS} : rdL B N ke ky (d + 1) 5 p n s = rdL B N ke ky d 6 p n s := by
  show (if (5 : Int) = 6 then _ else if (5 : Int) = 5 then _ else _) = _
  rw [if_neg (by decide), if_pos rfl]
theorem rdL_l {B : Int → Int} {N ke ky : Int} {d : Nat} {lv p n : Int} {s : RS} (h : lv < 5) : rdL B N ke ky (d + 1) lv p n s = lpS B N lv (rdL B N ke ky d (lv + 1) p n) (if lv = 2 then 1 else 96) (rdL B N ke ky d (lv + 1) p n s) := by
  show (if lv = 6 then _ else if lv = 5 then _ else _) = _
  rw [if_neg (by omega), if_neg (by omega)]
theorem lpS_s {B : Int → Int} {N lv : Int} {f : RS → RS} {k : Nat} {s : RS} : lpS B N lv f (k + 1) s = if rFl s = -1000000005 then (if lvO (bA B N (skp B N (rAt s))) = lv then lpS B N lv f k (adC (f (sAt s (skp B N (rAt s) + 1))) (-(bA B N (skp B N (rAt s))))) else sAt s (skp B N (rAt s))) else s := rfl

set_option maxRecDepth 100000 in
set_option maxHeartbeats 4000000 in
theorem ct_rd {l : Launch} {D : va_G} {cA : Nat → ClassId} {μ : Mem} (hN0 : 0 ≤ μ 56 1) (hN1 : μ 56 1 ≤ 96) : ∀ d : Nat,
    (∀ (p n : Int) (s : RS), 0 ≤ p → p ≤ 8 → 0 ≤ n → n ≤ 8 → okR (μ 56 1) s → (8 - p) * 7 + (8 - n) + 1 ≤ (d : Nat) → CtN l D cA yX4_readPiece cX4_readPiece 4 none (d + 3) [vr 58, vi p, vi n] (mR μ s) (Pv (fun μ' => μ' = mR μ (rdL (μ 57) (μ 56 1) (μ 58 4) (μ 59 0) d 6 p n s)))) ∧
    (∀ (lv p n : Int) (s : RS), 0 ≤ lv → lv ≤ 5 → 0 ≤ p → p ≤ 8 → 0 ≤ n → n ≤ 8 → okR (μ 56 1) s → (8 - p) * 7 + (8 - n) + (6 - lv) + 1 ≤ (d : Nat) → CtN l D cA yX4_readLevel cX4_readLevel 7 none (d + 3) [vr 58, vi lv, vi p, vi n] (mR μ s) (Pv (fun μ' => μ' = mR μ (rdL (μ 57) (μ 56 1) (μ 58 4) (μ 59 0) d lv p n s)))) := by
  intro d
  induction d with
  | zero => exact ⟨fun p n s h1 h2 h3 h4 _ h => absurd h (by omega), fun lv p n s h1 h2 h3 h4 h5 h6 _ h => absurd h (by omega)⟩
  | succ d ih =>
    refine ⟨fun p n s hp0 hp8 hn0 hn8 hs hd => ?_, fun lv p n s hlv0 hlv5 hp0 hp8 hn0 hn8 hs hd => ?_⟩
    · refine Ct.of (own := RX4) (by decide +kernel) rfl (fun σ => Nat.le_of_ble_eq_true rfl) (fun hM hP ha => ?_)
      have w58_0 : ρ0 58 (0 : Nat) = some 56 := by decide +kernel
      have w58_1 : ρ0 58 (1 : Nat) = some 59 := by decide +kernel
      have w56_0 : ρ0 56 (0 : Nat) = some 57 := by decide +kernel
      have hr0 := hs.1
      refine go_aload_n dX4_readPiece_0 rfl ?_
      refine go_getI 3 dX4_readPiece_1 fl_X4_30 (by first | assumption | exact Nat.le_of_ble_eq_true rfl) (by first | assumption | rfl) rfl rfl ?_
      try simp (disch := omega) only [ud, ua_same, ua_ne, uf_same, uf_ne, mR_at, mR_fl, mR_ke, mR_ky, mR_pc, mR_ln, mR_56, mR_57, mR_60, rAt_adC, rFl_adC, rLn_adC, rPc_adC, rAt_adP, rFl_adP, rLn_adP, rPc_adP, rAt_sAt, rAt_sFl, rAt_sLn, rAt_sPc, rAt_sCo, rFl_sAt, rFl_sFl, rFl_sLn, rFl_sPc, rFl_sCo, rLn_sAt, rLn_sFl, rLn_sLn, rLn_sPc, rLn_sCo, rPc_sAt, rPc_sFl, rPc_sLn, rPc_sPc, rPc_sCo, rCo_sAt, rCo_sFl, rCo_sLn, rCo_sPc, rCo_sCo]
      refine go_ldc dX4_readPiece_4 kc_X4_29 rfl ?_
      refine go_icmp_eq (tgt := 10) dX4_readPiece_6 rfl (fun h6 => ?_) (fun h6 => ?_)
      ·
        refine go_aload_n dX4_readPiece_10 rfl ?_
        refine go_vI (ci := 3) dX4_readPiece_11 (cr_nextByte hN0 hN1 hs.1 hs.2.1) ml_X4_40 mc_X4_nextByte mv_X4_nextByte rfl (by first | assumption | exact Nat.le_of_ble_eq_true rfl) (by first | assumption | rfl) rfl ⟨Nat.ble_eq_true_of_le (by dsimp only; omega), rfl⟩ ⟨Nat.le_refl _, Nat.le_refl _⟩ rfl rfl rfl (fun x11 μ11 hc11 => ?_)
        obtain ⟨rfl, rfl⟩ := hc11
        have hsk := skp_r (B := μ 57) hs.2.1
        have hs1 := (gw_at hs hsk.1 hsk.2).1
        refine go_istore_n dX4_readPiece_14 rfl ?_
        refine go_iload_n dX4_readPiece_15 rfl ?_
        refine go_bipush dX4_readPiece_16 rfl (by decide) ?_
        refine go_icmp_ne (tgt := 53) dX4_readPiece_18 rfl (fun h18 => ?_) (fun h18 => ?_)
        ·
          refine go_iload_n dX4_readPiece_53 rfl ?_
          refine go_bipush dX4_readPiece_54 rfl (by decide) ?_
          refine go_icmp_ne (tgt := 95) dX4_readPiece_56 rfl (fun h56 => ?_) (fun h56 => ?_)
          ·
            refine go_aload_n dX4_readPiece_95 rfl ?_
            refine go_getR dX4_readPiece_96 fl_X4_18 (by first | assumption | exact Nat.le_of_ble_eq_true rfl) (by first | assumption | rfl) rfl (by first | assumption | rfl) ?_
            refine go_aload_n dX4_readPiece_99 rfl ?_
            refine go_getI 2 dX4_readPiece_100 fl_X4_25 (by first | assumption | exact Nat.le_of_ble_eq_true rfl) (by first | assumption | rfl) rfl rfl ?_
            try simp (disch := omega) only [ud, ua_same, ua_ne, uf_same, uf_ne, mR_at, mR_fl, mR_ke, mR_ky, mR_pc, mR_ln, mR_56, mR_57, mR_60, rAt_adC, rFl_adC, rLn_adC, rPc_adC, rAt_adP, rFl_adP, rLn_adP, rPc_adP, rAt_sAt, rAt_sFl, rAt_sLn, rAt_sPc, rAt_sCo, rFl_sAt, rFl_sFl, rFl_sLn, rFl_sPc, rFl_sCo, rLn_sAt, rLn_sFl, rLn_sLn, rLn_sPc, rLn_sCo, rPc_sAt, rPc_sFl, rPc_sLn, rPc_sPc, rPc_sCo, rCo_sAt, rCo_sFl, rCo_sLn, rCo_sPc, rCo_sCo]
            refine go_vI (ci := 6) dX4_readPiece_103 (cr_isDigitAt hN0 hN1 _ (by omega)) ml_X4_98 mc_X7_isDigitAt mv_X7_isDigitAt rfl (by first | assumption | exact Nat.le_of_ble_eq_true rfl) (by first | assumption | rfl) rfl ⟨Nat.ble_eq_true_of_le (by dsimp only; omega), rfl⟩ ⟨Nat.le_refl _, Nat.le_refl _⟩ rfl rfl rfl (fun x103 μ103 hc103 => ?_)
            obtain ⟨rfl, hm103⟩ := hc103
            rw [hm103]
            first | refine go_bz (tgt := 116) dX4_readPiece_106 rfl (fun h106 => ?_) (fun h106 => ?_) | refine go_if_eq (tgt := 116) dX4_readPiece_106 rfl (fun h106 => ?_) (fun h106 => ?_)
            ·
              refine go_aload_n dX4_readPiece_116 rfl ?_
              refine go_iload_n dX4_readPiece_117 rfl ?_
              refine go_vV (ci := 3) dX4_readPiece_118 (ct_X4_readName hN0 hN1 hs1.1 hs1.2.1 hs1.2.2.1 hs1.2.2.2.1 hs1.2.2.2.2.1 hs1.2.2.2.2.2 _) ml_X4_105 mc_X4_readName mv_X4_readName rfl (by first | assumption | exact Nat.le_of_ble_eq_true rfl) (by first | assumption | rfl) rfl ⟨Nat.ble_eq_true_of_le (by dsimp only; omega), rfl⟩ ⟨Nat.le_refl _, Nat.le_refl _⟩ rfl rfl rfl (fun μ118 hc118 => ?_)
              subst hc118
              exact go_rv dX4_readPiece_121 rfl ⟨Nat.le_refl _, Nat.le_refl _⟩ (by rw [rdL_6]; unfold pcS; rw [if_pos h6, if_neg (by omega), if_neg (by omega), if_neg (qDg_f h106)])
            ·
              refine go_aload_n dX4_readPiece_109 rfl ?_
              refine go_vV (ci := 3) dX4_readPiece_110 (ct_X4_readNumber hN0 hN1 hs1.1 hs1.2.1 (qDg_t h106) (bA_lt (B := μ 57) (by show bA (μ 57) (μ 56 1) (skp (μ 57) (μ 56 1) (rAt s)) ≠ _; omega)) hs1.2.2.1 hs1.2.2.2.1 hs1.2.2.2.2.1 hs1.2.2.2.2.2) ml_X4_102 mc_X4_readNumber mv_X4_readNumber rfl (by first | assumption | exact Nat.le_of_ble_eq_true rfl) (by first | assumption | rfl) rfl ⟨Nat.ble_eq_true_of_le (by dsimp only; omega), rfl⟩ ⟨Nat.le_refl _, Nat.le_refl _⟩ rfl rfl rfl (fun μ110 hc110 => ?_)
              subst hc110
              refine go_goto (tgt := 121) dX4_readPiece_113 rfl ?_
              exact go_rv dX4_readPiece_121 rfl ⟨Nat.le_refl _, Nat.le_refl _⟩ (by rw [rdL_6]; unfold pcS; rw [if_pos h6, if_neg (by omega), if_neg (by omega), if_pos (qDg_t h106)])
          ·
            refine go_iload_n dX4_readPiece_59 rfl ?_
            refine go_bipush dX4_readPiece_60 rfl (by decide) ?_
            refine go_icmp_ge (tgt := 95) dX4_readPiece_62 rfl (fun h62 => ?_) (fun h62 => ?_)
            ·
              refine go_aload_n dX4_readPiece_95 rfl ?_
              refine go_getR dX4_readPiece_96 fl_X4_18 (by first | assumption | exact Nat.le_of_ble_eq_true rfl) (by first | assumption | rfl) rfl (by first | assumption | rfl) ?_
              refine go_aload_n dX4_readPiece_99 rfl ?_
              refine go_getI 2 dX4_readPiece_100 fl_X4_25 (by first | assumption | exact Nat.le_of_ble_eq_true rfl) (by first | assumption | rfl) rfl rfl ?_
              try simp (disch := omega) only [ud, ua_same, ua_ne, uf_same, uf_ne, mR_at, mR_fl, mR_ke, mR_ky, mR_pc, mR_ln, mR_56, mR_57, mR_60, rAt_adC, rFl_adC, rLn_adC, rPc_adC, rAt_adP, rFl_adP, rLn_adP, rPc_adP, rAt_sAt, rAt_sFl, rAt_sLn, rAt_sPc, rAt_sCo, rFl_sAt, rFl_sFl, rFl_sLn, rFl_sPc, rFl_sCo, rLn_sAt, rLn_sFl, rLn_sLn, rLn_sPc, rLn_sCo, rPc_sAt, rPc_sFl, rPc_sLn, rPc_sPc, rPc_sCo, rCo_sAt, rCo_sFl, rCo_sLn, rCo_sPc, rCo_sCo]
              refine go_vI (ci := 6) dX4_readPiece_103 (cr_isDigitAt hN0 hN1 _ (by omega)) ml_X4_98 mc_X7_isDigitAt mv_X7_isDigitAt rfl (by first | assumption | exact Nat.le_of_ble_eq_true rfl) (by first | assumption | rfl) rfl ⟨Nat.ble_eq_true_of_le (by dsimp only; omega), rfl⟩ ⟨Nat.le_refl _, Nat.le_refl _⟩ rfl rfl rfl (fun x103 μ103 hc103 => ?_)
              obtain ⟨rfl, hm103⟩ := hc103
              rw [hm103]
              first | refine go_bz (tgt := 116) dX4_readPiece_106 rfl (fun h106 => ?_) (fun h106 => ?_) | refine go_if_eq (tgt := 116) dX4_readPiece_106 rfl (fun h106 => ?_) (fun h106 => ?_)
              ·
                refine go_aload_n dX4_readPiece_116 rfl ?_
                refine go_iload_n dX4_readPiece_117 rfl ?_
                refine go_vV (ci := 3) dX4_readPiece_118 (ct_X4_readName hN0 hN1 hs1.1 hs1.2.1 hs1.2.2.1 hs1.2.2.2.1 hs1.2.2.2.2.1 hs1.2.2.2.2.2 _) ml_X4_105 mc_X4_readName mv_X4_readName rfl (by first | assumption | exact Nat.le_of_ble_eq_true rfl) (by first | assumption | rfl) rfl ⟨Nat.ble_eq_true_of_le (by dsimp only; omega), rfl⟩ ⟨Nat.le_refl _, Nat.le_refl _⟩ rfl rfl rfl (fun μ118 hc118 => ?_)
                subst hc118
                exact go_rv dX4_readPiece_121 rfl ⟨Nat.le_refl _, Nat.le_refl _⟩ (by rw [rdL_6]; unfold pcS; rw [if_pos h6, if_neg (by omega), if_neg (by omega), if_neg (qDg_f h106)])
              ·
                refine go_aload_n dX4_readPiece_109 rfl ?_
                refine go_vV (ci := 3) dX4_readPiece_110 (ct_X4_readNumber hN0 hN1 hs1.1 hs1.2.1 (qDg_t h106) (bA_lt (B := μ 57) (by show bA (μ 57) (μ 56 1) (skp (μ 57) (μ 56 1) (rAt s)) ≠ _; omega)) hs1.2.2.1 hs1.2.2.2.1 hs1.2.2.2.2.1 hs1.2.2.2.2.2) ml_X4_102 mc_X4_readNumber mv_X4_readNumber rfl (by first | assumption | exact Nat.le_of_ble_eq_true rfl) (by first | assumption | rfl) rfl ⟨Nat.ble_eq_true_of_le (by dsimp only; omega), rfl⟩ ⟨Nat.le_refl _, Nat.le_refl _⟩ rfl rfl rfl (fun μ110 hc110 => ?_)
                subst hc110
                refine go_goto (tgt := 121) dX4_readPiece_113 rfl ?_
                exact go_rv dX4_readPiece_121 rfl ⟨Nat.le_refl _, Nat.le_refl _⟩ (by rw [rdL_6]; unfold pcS; rw [if_pos h6, if_neg (by omega), if_neg (by omega), if_pos (qDg_t h106)])
            ·
              have hl := bA_lt (B := μ 57) (N := μ 56 1) (p := skp (μ 57) (μ 56 1) (rAt s)) (by omega)
              refine go_aload_n dX4_readPiece_65 rfl ?_
              refine go_dup dX4_readPiece_66 rfl ?_
              refine go_getI 2 dX4_readPiece_67 fl_X4_25 (by first | assumption | exact Nat.le_of_ble_eq_true rfl) (by first | assumption | rfl) rfl rfl ?_
              try simp (disch := omega) only [ud, ua_same, ua_ne, uf_same, uf_ne, mR_at, mR_fl, mR_ke, mR_ky, mR_pc, mR_ln, mR_56, mR_57, mR_60, rAt_adC, rFl_adC, rLn_adC, rPc_adC, rAt_adP, rFl_adP, rLn_adP, rPc_adP, rAt_sAt, rAt_sFl, rAt_sLn, rAt_sPc, rAt_sCo, rFl_sAt, rFl_sFl, rFl_sLn, rFl_sPc, rFl_sCo, rLn_sAt, rLn_sFl, rLn_sLn, rLn_sPc, rLn_sCo, rPc_sAt, rPc_sFl, rPc_sLn, rPc_sPc, rPc_sCo, rCo_sAt, rCo_sFl, rCo_sLn, rCo_sPc, rCo_sCo]
              refine go_iconst dX4_readPiece_70 rfl ?_
              refine go_iadd dX4_readPiece_71 ⟨by omega, by omega⟩ ?_
              refine go_putI 2 dX4_readPiece_72 pl_X4_25 (by first | assumption | exact Nat.le_of_ble_eq_true rfl) (by first | assumption | rfl) rfl rfl ?_
              rw [mR_sat, sAt_sAt]
              have hs2 := (gw_at hs (v := skp (μ 57) (μ 56 1) (rAt s) + 1) (by omega) (by omega)).1
              refine go_aload_n dX4_readPiece_75 rfl ?_
              refine go_iload_n dX4_readPiece_76 rfl ?_
              refine go_iload_n dX4_readPiece_77 rfl ?_
              refine go_iconst dX4_readPiece_78 rfl ?_
              refine go_iadd dX4_readPiece_79 ⟨by omega, by omega⟩ ?_
              refine go_vV (ci := 3) dX4_readPiece_80 (ih.1 p (n + 1) _ (by omega) (by omega) (by omega) (by omega) hs2 (by omega)) ml_X4_84 mc_X4_readPiece mv_X4_readPiece rfl (by first | assumption | exact Nat.le_of_ble_eq_true rfl) (by first | assumption | rfl) rfl ⟨Nat.ble_eq_true_of_le (by dsimp only; omega), rfl⟩ ⟨Nat.le_refl _, Nat.le_refl _⟩ rfl rfl rfl (fun μ80 hc80 => ?_)
              subst hc80
              have hg3 := gw_rd (B := μ 57) (ke := μ 58 4) (ky := μ 59 0) d 6 p (n + 1) _ (by omega) hs2
              have hlA : rLn (rdL (μ 57) (μ 56 1) (μ 58 4) (μ 59 0) d 6 p (n + 1) (sAt s (skp (μ 57) (μ 56 1) (rAt s) + 1))) < 96 := by
                obtain ⟨⟨g1, g2, g3, g4, g5, g6⟩, e2, e3, e4⟩ := hg3
                simp only [rAt_sAt, rLn_sAt] at e2 e3 e4
                have := hs.2.2.2.1
                omega
              refine go_aload_n dX4_readPiece_83 rfl ?_
              refine go_getR dX4_readPiece_84 fl_X4_12 (by first | assumption | exact Nat.le_of_ble_eq_true rfl) (by first | assumption | rfl) rfl (by first | assumption | rfl) ?_
              refine go_bipush dX4_readPiece_87 rfl (by decide) ?_
              refine go_vV (ci := 0) dX4_readPiece_89 (cr_add _ hg3.1.2.2.1 hlA) ml_X4_91 mc_X1_add mv_X1_add rfl (by first | assumption | exact Nat.le_of_ble_eq_true rfl) (by first | assumption | rfl) rfl ⟨Nat.ble_eq_true_of_le (by dsimp only; omega), rfl⟩ ⟨Nat.le_refl _, Nat.le_refl _⟩ rfl rfl rfl (fun μ89 hc89 => ?_)
              subst hc89
              refine go_goto (tgt := 121) dX4_readPiece_92 rfl ?_
              exact go_rv dX4_readPiece_121 rfl ⟨Nat.le_refl _, Nat.le_refl _⟩ (by rw [rdL_6]; unfold pcS; rw [if_pos h6, if_neg (by omega), if_pos ⟨by omega, by omega⟩])
        ·
          refine go_iload_n dX4_readPiece_21 rfl ?_
          refine go_bipush dX4_readPiece_22 rfl (by decide) ?_
          refine go_icmp_ge (tgt := 53) dX4_readPiece_24 rfl (fun h24 => ?_) (fun h24 => ?_)
          ·
            refine go_iload_n dX4_readPiece_53 rfl ?_
            refine go_bipush dX4_readPiece_54 rfl (by decide) ?_
            refine go_icmp_ne (tgt := 95) dX4_readPiece_56 rfl (fun h56 => ?_) (fun h56 => ?_)
            ·
              refine go_aload_n dX4_readPiece_95 rfl ?_
              refine go_getR dX4_readPiece_96 fl_X4_18 (by first | assumption | exact Nat.le_of_ble_eq_true rfl) (by first | assumption | rfl) rfl (by first | assumption | rfl) ?_
              refine go_aload_n dX4_readPiece_99 rfl ?_
              refine go_getI 2 dX4_readPiece_100 fl_X4_25 (by first | assumption | exact Nat.le_of_ble_eq_true rfl) (by first | assumption | rfl) rfl rfl ?_
              try simp (disch := omega) only [ud, ua_same, ua_ne, uf_same, uf_ne, mR_at, mR_fl, mR_ke, mR_ky, mR_pc, mR_ln, mR_56, mR_57, mR_60, rAt_adC, rFl_adC, rLn_adC, rPc_adC, rAt_adP, rFl_adP, rLn_adP, rPc_adP, rAt_sAt, rAt_sFl, rAt_sLn, rAt_sPc, rAt_sCo, rFl_sAt, rFl_sFl, rFl_sLn, rFl_sPc, rFl_sCo, rLn_sAt, rLn_sFl, rLn_sLn, rLn_sPc, rLn_sCo, rPc_sAt, rPc_sFl, rPc_sLn, rPc_sPc, rPc_sCo, rCo_sAt, rCo_sFl, rCo_sLn, rCo_sPc, rCo_sCo]
              refine go_vI (ci := 6) dX4_readPiece_103 (cr_isDigitAt hN0 hN1 _ (by omega)) ml_X4_98 mc_X7_isDigitAt mv_X7_isDigitAt rfl (by first | assumption | exact Nat.le_of_ble_eq_true rfl) (by first | assumption | rfl) rfl ⟨Nat.ble_eq_true_of_le (by dsimp only; omega), rfl⟩ ⟨Nat.le_refl _, Nat.le_refl _⟩ rfl rfl rfl (fun x103 μ103 hc103 => ?_)
              obtain ⟨rfl, hm103⟩ := hc103
              rw [hm103]
              first | refine go_bz (tgt := 116) dX4_readPiece_106 rfl (fun h106 => ?_) (fun h106 => ?_) | refine go_if_eq (tgt := 116) dX4_readPiece_106 rfl (fun h106 => ?_) (fun h106 => ?_)
              ·
                refine go_aload_n dX4_readPiece_116 rfl ?_
                refine go_iload_n dX4_readPiece_117 rfl ?_
                refine go_vV (ci := 3) dX4_readPiece_118 (ct_X4_readName hN0 hN1 hs1.1 hs1.2.1 hs1.2.2.1 hs1.2.2.2.1 hs1.2.2.2.2.1 hs1.2.2.2.2.2 _) ml_X4_105 mc_X4_readName mv_X4_readName rfl (by first | assumption | exact Nat.le_of_ble_eq_true rfl) (by first | assumption | rfl) rfl ⟨Nat.ble_eq_true_of_le (by dsimp only; omega), rfl⟩ ⟨Nat.le_refl _, Nat.le_refl _⟩ rfl rfl rfl (fun μ118 hc118 => ?_)
                subst hc118
                exact go_rv dX4_readPiece_121 rfl ⟨Nat.le_refl _, Nat.le_refl _⟩ (by rw [rdL_6]; unfold pcS; rw [if_pos h6, if_neg (by omega), if_neg (by omega), if_neg (qDg_f h106)])
              ·
                refine go_aload_n dX4_readPiece_109 rfl ?_
                refine go_vV (ci := 3) dX4_readPiece_110 (ct_X4_readNumber hN0 hN1 hs1.1 hs1.2.1 (qDg_t h106) (bA_lt (B := μ 57) (by show bA (μ 57) (μ 56 1) (skp (μ 57) (μ 56 1) (rAt s)) ≠ _; omega)) hs1.2.2.1 hs1.2.2.2.1 hs1.2.2.2.2.1 hs1.2.2.2.2.2) ml_X4_102 mc_X4_readNumber mv_X4_readNumber rfl (by first | assumption | exact Nat.le_of_ble_eq_true rfl) (by first | assumption | rfl) rfl ⟨Nat.ble_eq_true_of_le (by dsimp only; omega), rfl⟩ ⟨Nat.le_refl _, Nat.le_refl _⟩ rfl rfl rfl (fun μ110 hc110 => ?_)
                subst hc110
                refine go_goto (tgt := 121) dX4_readPiece_113 rfl ?_
                exact go_rv dX4_readPiece_121 rfl ⟨Nat.le_refl _, Nat.le_refl _⟩ (by rw [rdL_6]; unfold pcS; rw [if_pos h6, if_neg (by omega), if_neg (by omega), if_pos (qDg_t h106)])
            ·
              refine go_iload_n dX4_readPiece_59 rfl ?_
              refine go_bipush dX4_readPiece_60 rfl (by decide) ?_
              refine go_icmp_ge (tgt := 95) dX4_readPiece_62 rfl (fun h62 => ?_) (fun h62 => ?_)
              ·
                refine go_aload_n dX4_readPiece_95 rfl ?_
                refine go_getR dX4_readPiece_96 fl_X4_18 (by first | assumption | exact Nat.le_of_ble_eq_true rfl) (by first | assumption | rfl) rfl (by first | assumption | rfl) ?_
                refine go_aload_n dX4_readPiece_99 rfl ?_
                refine go_getI 2 dX4_readPiece_100 fl_X4_25 (by first | assumption | exact Nat.le_of_ble_eq_true rfl) (by first | assumption | rfl) rfl rfl ?_
                try simp (disch := omega) only [ud, ua_same, ua_ne, uf_same, uf_ne, mR_at, mR_fl, mR_ke, mR_ky, mR_pc, mR_ln, mR_56, mR_57, mR_60, rAt_adC, rFl_adC, rLn_adC, rPc_adC, rAt_adP, rFl_adP, rLn_adP, rPc_adP, rAt_sAt, rAt_sFl, rAt_sLn, rAt_sPc, rAt_sCo, rFl_sAt, rFl_sFl, rFl_sLn, rFl_sPc, rFl_sCo, rLn_sAt, rLn_sFl, rLn_sLn, rLn_sPc, rLn_sCo, rPc_sAt, rPc_sFl, rPc_sLn, rPc_sPc, rPc_sCo, rCo_sAt, rCo_sFl, rCo_sLn, rCo_sPc, rCo_sCo]
                refine go_vI (ci := 6) dX4_readPiece_103 (cr_isDigitAt hN0 hN1 _ (by omega)) ml_X4_98 mc_X7_isDigitAt mv_X7_isDigitAt rfl (by first | assumption | exact Nat.le_of_ble_eq_true rfl) (by first | assumption | rfl) rfl ⟨Nat.ble_eq_true_of_le (by dsimp only; omega), rfl⟩ ⟨Nat.le_refl _, Nat.le_refl _⟩ rfl rfl rfl (fun x103 μ103 hc103 => ?_)
                obtain ⟨rfl, hm103⟩ := hc103
                rw [hm103]
                first | refine go_bz (tgt := 116) dX4_readPiece_106 rfl (fun h106 => ?_) (fun h106 => ?_) | refine go_if_eq (tgt := 116) dX4_readPiece_106 rfl (fun h106 => ?_) (fun h106 => ?_)
                ·
                  refine go_aload_n dX4_readPiece_116 rfl ?_
                  refine go_iload_n dX4_readPiece_117 rfl ?_
                  refine go_vV (ci := 3) dX4_readPiece_118 (ct_X4_readName hN0 hN1 hs1.1 hs1.2.1 hs1.2.2.1 hs1.2.2.2.1 hs1.2.2.2.2.1 hs1.2.2.2.2.2 _) ml_X4_105 mc_X4_readName mv_X4_readName rfl (by first | assumption | exact Nat.le_of_ble_eq_true rfl) (by first | assumption | rfl) rfl ⟨Nat.ble_eq_true_of_le (by dsimp only; omega), rfl⟩ ⟨Nat.le_refl _, Nat.le_refl _⟩ rfl rfl rfl (fun μ118 hc118 => ?_)
                  subst hc118
                  exact go_rv dX4_readPiece_121 rfl ⟨Nat.le_refl _, Nat.le_refl _⟩ (by rw [rdL_6]; unfold pcS; rw [if_pos h6, if_neg (by omega), if_neg (by omega), if_neg (qDg_f h106)])
                ·
                  refine go_aload_n dX4_readPiece_109 rfl ?_
                  refine go_vV (ci := 3) dX4_readPiece_110 (ct_X4_readNumber hN0 hN1 hs1.1 hs1.2.1 (qDg_t h106) (bA_lt (B := μ 57) (by show bA (μ 57) (μ 56 1) (skp (μ 57) (μ 56 1) (rAt s)) ≠ _; omega)) hs1.2.2.1 hs1.2.2.2.1 hs1.2.2.2.2.1 hs1.2.2.2.2.2) ml_X4_102 mc_X4_readNumber mv_X4_readNumber rfl (by first | assumption | exact Nat.le_of_ble_eq_true rfl) (by first | assumption | rfl) rfl ⟨Nat.ble_eq_true_of_le (by dsimp only; omega), rfl⟩ ⟨Nat.le_refl _, Nat.le_refl _⟩ rfl rfl rfl (fun μ110 hc110 => ?_)
                  subst hc110
                  refine go_goto (tgt := 121) dX4_readPiece_113 rfl ?_
                  exact go_rv dX4_readPiece_121 rfl ⟨Nat.le_refl _, Nat.le_refl _⟩ (by rw [rdL_6]; unfold pcS; rw [if_pos h6, if_neg (by omega), if_neg (by omega), if_pos (qDg_t h106)])
              ·
                have hl := bA_lt (B := μ 57) (N := μ 56 1) (p := skp (μ 57) (μ 56 1) (rAt s)) (by omega)
                refine go_aload_n dX4_readPiece_65 rfl ?_
                refine go_dup dX4_readPiece_66 rfl ?_
                refine go_getI 2 dX4_readPiece_67 fl_X4_25 (by first | assumption | exact Nat.le_of_ble_eq_true rfl) (by first | assumption | rfl) rfl rfl ?_
                try simp (disch := omega) only [ud, ua_same, ua_ne, uf_same, uf_ne, mR_at, mR_fl, mR_ke, mR_ky, mR_pc, mR_ln, mR_56, mR_57, mR_60, rAt_adC, rFl_adC, rLn_adC, rPc_adC, rAt_adP, rFl_adP, rLn_adP, rPc_adP, rAt_sAt, rAt_sFl, rAt_sLn, rAt_sPc, rAt_sCo, rFl_sAt, rFl_sFl, rFl_sLn, rFl_sPc, rFl_sCo, rLn_sAt, rLn_sFl, rLn_sLn, rLn_sPc, rLn_sCo, rPc_sAt, rPc_sFl, rPc_sLn, rPc_sPc, rPc_sCo, rCo_sAt, rCo_sFl, rCo_sLn, rCo_sPc, rCo_sCo]
                refine go_iconst dX4_readPiece_70 rfl ?_
                refine go_iadd dX4_readPiece_71 ⟨by omega, by omega⟩ ?_
                refine go_putI 2 dX4_readPiece_72 pl_X4_25 (by first | assumption | exact Nat.le_of_ble_eq_true rfl) (by first | assumption | rfl) rfl rfl ?_
                rw [mR_sat, sAt_sAt]
                have hs2 := (gw_at hs (v := skp (μ 57) (μ 56 1) (rAt s) + 1) (by omega) (by omega)).1
                refine go_aload_n dX4_readPiece_75 rfl ?_
                refine go_iload_n dX4_readPiece_76 rfl ?_
                refine go_iload_n dX4_readPiece_77 rfl ?_
                refine go_iconst dX4_readPiece_78 rfl ?_
                refine go_iadd dX4_readPiece_79 ⟨by omega, by omega⟩ ?_
                refine go_vV (ci := 3) dX4_readPiece_80 (ih.1 p (n + 1) _ (by omega) (by omega) (by omega) (by omega) hs2 (by omega)) ml_X4_84 mc_X4_readPiece mv_X4_readPiece rfl (by first | assumption | exact Nat.le_of_ble_eq_true rfl) (by first | assumption | rfl) rfl ⟨Nat.ble_eq_true_of_le (by dsimp only; omega), rfl⟩ ⟨Nat.le_refl _, Nat.le_refl _⟩ rfl rfl rfl (fun μ80 hc80 => ?_)
                subst hc80
                have hg3 := gw_rd (B := μ 57) (ke := μ 58 4) (ky := μ 59 0) d 6 p (n + 1) _ (by omega) hs2
                have hlA : rLn (rdL (μ 57) (μ 56 1) (μ 58 4) (μ 59 0) d 6 p (n + 1) (sAt s (skp (μ 57) (μ 56 1) (rAt s) + 1))) < 96 := by
                  obtain ⟨⟨g1, g2, g3, g4, g5, g6⟩, e2, e3, e4⟩ := hg3
                  simp only [rAt_sAt, rLn_sAt] at e2 e3 e4
                  have := hs.2.2.2.1
                  omega
                refine go_aload_n dX4_readPiece_83 rfl ?_
                refine go_getR dX4_readPiece_84 fl_X4_12 (by first | assumption | exact Nat.le_of_ble_eq_true rfl) (by first | assumption | rfl) rfl (by first | assumption | rfl) ?_
                refine go_bipush dX4_readPiece_87 rfl (by decide) ?_
                refine go_vV (ci := 0) dX4_readPiece_89 (cr_add _ hg3.1.2.2.1 hlA) ml_X4_91 mc_X1_add mv_X1_add rfl (by first | assumption | exact Nat.le_of_ble_eq_true rfl) (by first | assumption | rfl) rfl ⟨Nat.ble_eq_true_of_le (by dsimp only; omega), rfl⟩ ⟨Nat.le_refl _, Nat.le_refl _⟩ rfl rfl rfl (fun μ89 hc89 => ?_)
                subst hc89
                refine go_goto (tgt := 121) dX4_readPiece_92 rfl ?_
                exact go_rv dX4_readPiece_121 rfl ⟨Nat.le_refl _, Nat.le_refl _⟩ (by rw [rdL_6]; unfold pcS; rw [if_pos h6, if_neg (by omega), if_pos ⟨by omega, by omega⟩])
          ·
            have hl := bA_lt (B := μ 57) (N := μ 56 1) (p := skp (μ 57) (μ 56 1) (rAt s)) (by omega)
            refine go_aload_n dX4_readPiece_27 rfl ?_
            refine go_dup dX4_readPiece_28 rfl ?_
            refine go_getI 2 dX4_readPiece_29 fl_X4_25 (by first | assumption | exact Nat.le_of_ble_eq_true rfl) (by first | assumption | rfl) rfl rfl ?_
            try simp (disch := omega) only [ud, ua_same, ua_ne, uf_same, uf_ne, mR_at, mR_fl, mR_ke, mR_ky, mR_pc, mR_ln, mR_56, mR_57, mR_60, rAt_adC, rFl_adC, rLn_adC, rPc_adC, rAt_adP, rFl_adP, rLn_adP, rPc_adP, rAt_sAt, rAt_sFl, rAt_sLn, rAt_sPc, rAt_sCo, rFl_sAt, rFl_sFl, rFl_sLn, rFl_sPc, rFl_sCo, rLn_sAt, rLn_sFl, rLn_sLn, rLn_sPc, rLn_sCo, rPc_sAt, rPc_sFl, rPc_sLn, rPc_sPc, rPc_sCo, rCo_sAt, rCo_sFl, rCo_sLn, rCo_sPc, rCo_sCo]
            refine go_iconst dX4_readPiece_32 rfl ?_
            refine go_iadd dX4_readPiece_33 ⟨by omega, by omega⟩ ?_
            refine go_putI 2 dX4_readPiece_34 pl_X4_25 (by first | assumption | exact Nat.le_of_ble_eq_true rfl) (by first | assumption | rfl) rfl rfl ?_
            rw [mR_sat, sAt_sAt]
            have hs2 := (gw_at hs (v := skp (μ 57) (μ 56 1) (rAt s) + 1) (by omega) (by omega)).1
            refine go_aload_n dX4_readPiece_37 rfl ?_
            refine go_iconst dX4_readPiece_38 rfl ?_
            refine go_iload_n dX4_readPiece_39 rfl ?_
            refine go_iconst dX4_readPiece_40 rfl ?_
            refine go_iadd dX4_readPiece_41 ⟨by omega, by omega⟩ ?_
            refine go_iload_n dX4_readPiece_42 rfl ?_
            refine go_vV (ci := 3) dX4_readPiece_43 (ih.2 0 (p + 1) n _ (by omega) (by omega) (by omega) (by omega) (by omega) (by omega) hs2 (by omega)) ml_X4_36 mc_X4_readLevel mv_X4_readLevel rfl (by first | assumption | exact Nat.le_of_ble_eq_true rfl) (by first | assumption | rfl) rfl ⟨Nat.ble_eq_true_of_le (by dsimp only; omega), rfl⟩ ⟨Nat.le_refl _, Nat.le_refl _⟩ rfl rfl rfl (fun μ43 hc43 => ?_)
            subst hc43
            have hs3 := (gw_rd (B := μ 57) (ke := μ 58 4) (ky := μ 59 0) d 0 (p + 1) n _ (by omega) hs2).1
            refine go_aload_n dX4_readPiece_46 rfl ?_
            refine go_vV (ci := 3) dX4_readPiece_47 (ct_X4_readClosing hN0 hN1 hs3.1 hs3.2.1) ml_X4_95 mc_X4_readClosing mv_X4_readClosing rfl (by first | assumption | exact Nat.le_of_ble_eq_true rfl) (by first | assumption | rfl) rfl ⟨Nat.ble_eq_true_of_le (by dsimp only; omega), rfl⟩ ⟨Nat.le_refl _, Nat.le_refl _⟩ rfl rfl rfl (fun μ47 hc47 => ?_)
            subst hc47
            refine go_goto (tgt := 121) dX4_readPiece_50 rfl ?_
            exact go_rv dX4_readPiece_121 rfl ⟨Nat.le_refl _, Nat.le_refl _⟩ (by rw [rdL_6]; unfold pcS; rw [if_pos h6, if_pos ⟨by omega, by omega⟩])
      ·
        exact go_rv dX4_readPiece_9 rfl ⟨Nat.le_refl _, Nat.le_refl _⟩ (by rw [rdL_6]; unfold pcS; rw [if_neg h6])
    · refine Ct.of (own := RX4) (by decide +kernel) rfl (fun σ => Nat.le_of_ble_eq_true rfl) (fun hM hP ha => ?_)
      have w58_0 : ρ0 58 (0 : Nat) = some 56 := by decide +kernel
      have w58_1 : ρ0 58 (1 : Nat) = some 59 := by decide +kernel
      have w56_0 : ρ0 56 (0 : Nat) = some 57 := by decide +kernel
      by_cases hlv : lv < 5
      ·
        have loop : ∀ (m : Nat) (mo i : Int) (t : RS), mo - i = (m : Nat) → 0 ≤ i ∧ mo ≤ 96 → okR (μ 56 1) t → rdL (μ 57) (μ 56 1) (μ 58 4) (μ 59 0) (d + 1) lv p n s = lpS (μ 57) (μ 56 1) lv (rdL (μ 57) (μ 56 1) (μ 58 4) (μ 59 0) d (lv + 1) p n) m t → Go l D cA none RX4 cX4_readLevel 7 none (d + 1 + 3, 0, 0) (QN (Pv (fun μ' => μ' = mR μ (rdL (μ 57) (μ 56 1) (μ 58 4) (μ 59 0) (d + 1) lv p n s)))) 113 ρ0 0 0 37 [(0, vr 58), (1, vi lv), (2, vi p), (3, vi n), (4, vi mo), (5, vi i)] [] (mR μ t) := by
          intro m mo
          induction m with
          | zero =>
            intro i t hm hi ht hx
            refine go_iload dX4_readLevel_37 rfl ?_
            refine go_iload dX4_readLevel_39 rfl ?_
            refine go_icmp_ge (tgt := 105) dX4_readLevel_41 rfl (fun h41 => ?_) (fun h41 => ?_)
            ·
              exact go_rv dX4_readLevel_105 rfl ⟨Nat.le_refl _, Nat.le_refl _⟩ (by rw [hx]; rfl)
            ·
              exact absurd h41 (by omega)
          | succ m ih2 =>
            intro i t hm hi ht hx
            refine go_iload dX4_readLevel_37 rfl ?_
            refine go_iload dX4_readLevel_39 rfl ?_
            refine go_icmp_ge (tgt := 105) dX4_readLevel_41 rfl (fun h41 => ?_) (fun h41 => ?_)
            ·
              exact absurd h41 (by omega)
            ·
              have hr0 := ht.1
              refine go_aload_n dX4_readLevel_44 rfl ?_
              refine go_getI 3 dX4_readLevel_45 fl_X4_30 (by first | assumption | exact Nat.le_of_ble_eq_true rfl) (by first | assumption | rfl) rfl rfl ?_
              try simp (disch := omega) only [ud, ua_same, ua_ne, uf_same, uf_ne, mR_at, mR_fl, mR_ke, mR_ky, mR_pc, mR_ln, mR_56, mR_57, mR_60, rAt_adC, rFl_adC, rLn_adC, rPc_adC, rAt_adP, rFl_adP, rLn_adP, rPc_adP, rAt_sAt, rAt_sFl, rAt_sLn, rAt_sPc, rAt_sCo, rFl_sAt, rFl_sFl, rFl_sLn, rFl_sPc, rFl_sCo, rLn_sAt, rLn_sFl, rLn_sLn, rLn_sPc, rLn_sCo, rPc_sAt, rPc_sFl, rPc_sLn, rPc_sPc, rPc_sCo, rCo_sAt, rCo_sFl, rCo_sLn, rCo_sPc, rCo_sCo]
              refine go_ldc dX4_readLevel_48 kc_X4_29 rfl ?_
              refine go_icmp_ne (tgt := 105) dX4_readLevel_50 rfl (fun h50 => ?_) (fun h50 => ?_)
              ·
                exact go_rv dX4_readLevel_105 rfl ⟨Nat.le_refl _, Nat.le_refl _⟩ (by rw [hx, lpS_s, if_neg h50])
              ·
                refine go_aload_n dX4_readLevel_53 rfl ?_
                refine go_vI (ci := 3) dX4_readLevel_54 (cr_nextByte hN0 hN1 ht.1 ht.2.1) ml_X4_40 mc_X4_nextByte mv_X4_nextByte rfl (by first | assumption | exact Nat.le_of_ble_eq_true rfl) (by first | assumption | rfl) rfl ⟨Nat.ble_eq_true_of_le (by dsimp only; omega), rfl⟩ ⟨Nat.le_refl _, Nat.le_refl _⟩ rfl rfl rfl (fun x54 μ54 hc54 => ?_)
                obtain ⟨rfl, rfl⟩ := hc54
                have hsk := skp_r (B := μ 57) ht.2.1
                have ht1 := (gw_at ht hsk.1 hsk.2).1
                refine go_sI dX4_readLevel_57 (ct_X4_levelOf _) ml_X4_88 mc_X4_levelOf ms_X4_levelOf ⟨Nat.ble_eq_true_of_le (by dsimp only; omega), rfl⟩ ⟨Nat.le_refl _, Nat.le_refl _⟩ rfl rfl rfl (fun x57 μ57 hc57 => ?_)
                obtain ⟨rfl, hm57⟩ := hc57
                rw [hm57]
                refine go_iload_n dX4_readLevel_60 rfl ?_
                refine go_icmp_ne (tgt := 105) dX4_readLevel_61 rfl (fun h61 => ?_) (fun h61 => ?_)
                ·
                  exact go_rv dX4_readLevel_105 rfl ⟨Nat.le_refl _, Nat.le_refl _⟩ (by rw [hx, lpS_s, if_pos (by omega), if_neg h61])
                ·
                  refine go_aload_n dX4_readLevel_64 rfl ?_
                  refine go_vI (ci := 3) dX4_readLevel_65 (cr_nextByte hN0 hN1 ht1.1 ht1.2.1) ml_X4_40 mc_X4_nextByte mv_X4_nextByte rfl (by first | assumption | exact Nat.le_of_ble_eq_true rfl) (by first | assumption | rfl) rfl ⟨Nat.ble_eq_true_of_le (by dsimp only; omega), rfl⟩ ⟨Nat.le_refl _, Nat.le_refl _⟩ rfl rfl rfl (fun x65 μ65 hc65 => ?_)
                  rw [rAt_sAt, skp_skp ht.2.1, sAt_sAt] at hc65
                  obtain ⟨rfl, rfl⟩ := hc65
                  have hl := lvO_lt (B := μ 57) hlv0 (by omega : lvO (bA (μ 57) (μ 56 1) (skp (μ 57) (μ 56 1) (rAt t))) = lv)
                  refine go_istore dX4_readLevel_68 rfl ?_
                  refine go_aload_n dX4_readLevel_70 rfl ?_
                  refine go_dup dX4_readLevel_71 rfl ?_
                  refine go_getI 2 dX4_readLevel_72 fl_X4_25 (by first | assumption | exact Nat.le_of_ble_eq_true rfl) (by first | assumption | rfl) rfl rfl ?_
                  try simp (disch := omega) only [ud, ua_same, ua_ne, uf_same, uf_ne, mR_at, mR_fl, mR_ke, mR_ky, mR_pc, mR_ln, mR_56, mR_57, mR_60, rAt_adC, rFl_adC, rLn_adC, rPc_adC, rAt_adP, rFl_adP, rLn_adP, rPc_adP, rAt_sAt, rAt_sFl, rAt_sLn, rAt_sPc, rAt_sCo, rFl_sAt, rFl_sFl, rFl_sLn, rFl_sPc, rFl_sCo, rLn_sAt, rLn_sFl, rLn_sLn, rLn_sPc, rLn_sCo, rPc_sAt, rPc_sFl, rPc_sLn, rPc_sPc, rPc_sCo, rCo_sAt, rCo_sFl, rCo_sLn, rCo_sPc, rCo_sCo]
                  refine go_iconst dX4_readLevel_75 rfl ?_
                  refine go_iadd dX4_readLevel_76 ⟨by omega, by omega⟩ ?_
                  refine go_putI 2 dX4_readLevel_77 pl_X4_25 (by first | assumption | exact Nat.le_of_ble_eq_true rfl) (by first | assumption | rfl) rfl rfl ?_
                  rw [mR_sat, sAt_sAt]
                  have ht2 := (gw_at ht (v := skp (μ 57) (μ 56 1) (rAt t) + 1) (by omega) (by omega)).1
                  refine go_aload_n dX4_readLevel_80 rfl ?_
                  refine go_iload_n dX4_readLevel_81 rfl ?_
                  refine go_iconst dX4_readLevel_82 rfl ?_
                  refine go_iadd dX4_readLevel_83 ⟨by omega, by omega⟩ ?_
                  refine go_iload_n dX4_readLevel_84 rfl ?_
                  refine go_iload_n dX4_readLevel_85 rfl ?_
                  refine go_vV (ci := 3) dX4_readLevel_86 (ih.2 (lv + 1) p n _ (by omega) (by omega) (by omega) (by omega) (by omega) (by omega) ht2 (by omega)) ml_X4_36 mc_X4_readLevel mv_X4_readLevel rfl (by first | assumption | exact Nat.le_of_ble_eq_true rfl) (by first | assumption | rfl) rfl ⟨Nat.ble_eq_true_of_le (by dsimp only; omega), rfl⟩ ⟨Nat.le_refl _, Nat.le_refl _⟩ rfl rfl rfl (fun μ86 hc86 => ?_)
                  subst hc86
                  have hg3 := gw_rd (B := μ 57) (ke := μ 58 4) (ky := μ 59 0) d (lv + 1) p n _ (by omega) ht2
                  have hlA : rLn (rdL (μ 57) (μ 56 1) (μ 58 4) (μ 59 0) d (lv + 1) p n (sAt t (skp (μ 57) (μ 56 1) (rAt t) + 1))) < 96 := by
                    obtain ⟨⟨g1, g2, g3, g4, g5, g6⟩, e2, e3, e4⟩ := hg3
                    simp only [rAt_sAt, rLn_sAt] at e2 e3 e4
                    have := ht.2.2.2.1
                    omega
                  refine go_aload_n dX4_readLevel_89 rfl ?_
                  refine go_getR dX4_readLevel_90 fl_X4_12 (by first | assumption | exact Nat.le_of_ble_eq_true rfl) (by first | assumption | rfl) rfl (by first | assumption | rfl) ?_
                  refine go_iload dX4_readLevel_93 rfl ?_
                  refine go_ineg dX4_readLevel_95 ?_
                  rw [wr_id (show iR (-(bA (μ 57) (μ 56 1) (skp (μ 57) (μ 56 1) (rAt t)))) from by unfold lvO at h61; split at h61 <;> (try split at h61) <;> (try split at h61) <;> (try split at h61) <;> (try split at h61) <;> exact ⟨by omega, by omega⟩)]
                  refine go_vV (ci := 0) dX4_readLevel_96 (cr_add _ hg3.1.2.2.1 hlA) ml_X4_91 mc_X1_add mv_X1_add rfl (by first | assumption | exact Nat.le_of_ble_eq_true rfl) (by first | assumption | rfl) rfl ⟨Nat.ble_eq_true_of_le (by dsimp only; omega), rfl⟩ ⟨Nat.le_refl _, Nat.le_refl _⟩ rfl rfl rfl (fun μ96 hc96 => ?_)
                  subst hc96
                  refine go_iinc dX4_readLevel_99 rfl rfl ⟨by omega, by omega⟩ ?_
                  refine go_goto (tgt := 37) dX4_readLevel_102 rfl ?_
                  exact go_drop (ih2 _ _ (by omega) (by omega) (gw_s1 ht hsk.1 hl hg3).1 (by rw [hx, lpS_s, if_pos (by omega), if_pos (by omega)])) rfl
        refine go_iload_n dX4_readLevel_0 rfl ?_
        refine go_iconst dX4_readLevel_1 rfl ?_
        refine go_icmp_lt (tgt := 12) dX4_readLevel_2 rfl (fun h2 => ?_) (fun h2 => ?_)
        ·
          refine go_aload_n dX4_readLevel_12 rfl ?_
          refine go_iload_n dX4_readLevel_13 rfl ?_
          refine go_iconst dX4_readLevel_14 rfl ?_
          refine go_iadd dX4_readLevel_15 ⟨by omega, by omega⟩ ?_
          refine go_iload_n dX4_readLevel_16 rfl ?_
          refine go_iload_n dX4_readLevel_17 rfl ?_
          refine go_vV (ci := 3) dX4_readLevel_18 (ih.2 (lv + 1) p n _ (by omega) (by omega) (by omega) (by omega) (by omega) (by omega) hs (by omega)) ml_X4_36 mc_X4_readLevel mv_X4_readLevel rfl (by first | assumption | exact Nat.le_of_ble_eq_true rfl) (by first | assumption | rfl) rfl ⟨Nat.ble_eq_true_of_le (by dsimp only; omega), rfl⟩ ⟨Nat.le_refl _, Nat.le_refl _⟩ rfl rfl rfl (fun μ18 hc18 => ?_)
          subst hc18
          have h18 := (gw_rd (B := μ 57) (ke := μ 58 4) (ky := μ 59 0) d (lv + 1) p n _ (by omega) hs).1
          refine go_iload_n dX4_readLevel_21 rfl ?_
          refine go_iconst dX4_readLevel_22 rfl ?_
          refine go_icmp_ne (tgt := 30) dX4_readLevel_23 rfl (fun h23 => ?_) (fun h23 => ?_)
          ·
            refine go_bipush dX4_readLevel_30 rfl (by decide) ?_
            refine go_istore dX4_readLevel_32 rfl ?_
            refine go_iconst dX4_readLevel_34 rfl ?_
            refine go_istore dX4_readLevel_35 rfl ?_
            exact go_drop (loop 96 _ 0 _ (by omega) (by omega) h18 (by rw [rdL_l (by omega), if_neg h23])) rfl
          ·
            refine go_iconst dX4_readLevel_26 rfl ?_
            refine go_goto (tgt := 32) dX4_readLevel_27 rfl ?_
            refine go_istore dX4_readLevel_32 rfl ?_
            refine go_iconst dX4_readLevel_34 rfl ?_
            refine go_istore dX4_readLevel_35 rfl ?_
            exact go_drop (loop 1 _ 0 _ (by omega) (by omega) h18 (by rw [rdL_l (by omega), if_pos (by omega)])) rfl
        ·
          exact absurd hlv (by omega)
      ·
        refine go_iload_n dX4_readLevel_0 rfl ?_
        refine go_iconst dX4_readLevel_1 rfl ?_
        refine go_icmp_lt (tgt := 12) dX4_readLevel_2 rfl (fun h2 => ?_) (fun h2 => ?_)
        ·
          exact absurd h2 (by omega)
        ·
          refine go_aload_n dX4_readLevel_5 rfl ?_
          refine go_iload_n dX4_readLevel_6 rfl ?_
          refine go_iload_n dX4_readLevel_7 rfl ?_
          refine go_vV (ci := 3) dX4_readLevel_8 (ih.1 p n _ (by omega) (by omega) (by omega) (by omega) hs (by omega)) ml_X4_84 mc_X4_readPiece mv_X4_readPiece rfl (by first | assumption | exact Nat.le_of_ble_eq_true rfl) (by first | assumption | rfl) rfl ⟨Nat.ble_eq_true_of_le (by dsimp only; omega), rfl⟩ ⟨Nat.le_refl _, Nat.le_refl _⟩ rfl rfl rfl (fun μ8 hc8 => ?_)
          subst hc8
          exact go_rv dX4_readLevel_11 rfl ⟨Nat.le_refl _, Nat.le_refl _⟩ (by rw [show lv = 5 by omega, rdL_5])

