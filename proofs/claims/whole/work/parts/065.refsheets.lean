/-! THE REFERENCE: sheets, slots, odds, bytes of the tape -/
def bt (x : Int32) (i : Nat) : Bool := x.toBitVec.getLsbD i
theorem b_ext {x y : Int32} (h : ∀ i, i < 32 → bt x i = bt y i) : x = y := Int32.toBitVec_inj.mp (BitVec.eq_of_getLsbD_eq (fun i hi => h i hi))
theorem b_and (x y : Int32) (i : Nat) : bt (x &&& y) i = (bt x i && bt y i) := by unfold bt; rw [Int32.toBitVec_and, BitVec.getLsbD_and]
theorem b_big {x : Int32} {i : Nat} (h : 32 ≤ i) : bt x i = false := BitVec.getLsbD_of_ge _ _ h
theorem b_255 (i : Nat) : bt 255 i = decide (i < 8) := by
  rcases Nat.lt_or_ge i 32 with h | h
  · exact (by decide +kernel : ∀ i, i < 32 → bt 255 i = decide (i < 8)) i h
  · rw [b_big h, decide_eq_false (by omega)]
theorem s_l : ∀ n, n < 32 → ((nI n &&& 31).toBitVec.smod 32).toNat = n := by decide +kernel
theorem s_u : ∀ n, n < 32 → (((nI n).toUInt32 &&& Int32.toUInt32 31).toBitVec % 32).toNat = n := by decide +kernel
theorem b_shl (n : Nat) (hn : n < 32) (x : Int32) {i : Nat} (hi : i < 32) : bt (x <<< (nI n &&& 31)) i = (decide (n ≤ i) && bt x (i - n)) := by
  unfold bt
  rw [Int32.toBitVec_shiftLeft]
  show (x.toBitVec <<< ((nI n &&& 31).toBitVec.smod 32).toNat).getLsbD i = _
  rw [s_l n hn, BitVec.getLsbD_shiftLeft]
  rcases Nat.lt_or_ge i n with h | h
  · simp [h, Nat.not_le.mpr h]
  · simp [hi, h, Nat.not_lt.mpr h]
theorem b_ushr (n : Nat) (hn : n < 32) (x : Int32) (i : Nat) : bt ((x.toUInt32 >>> ((nI n).toUInt32 &&& Int32.toUInt32 31)).toInt32) i = bt x (n + i) := by
  show (x.toUInt32 >>> ((nI n).toUInt32 &&& Int32.toUInt32 31)).toBitVec.getLsbD i = x.toUInt32.toBitVec.getLsbD (n + i)
  rw [UInt32.toBitVec_shiftRight]
  show (x.toUInt32.toBitVec >>> (((nI n).toUInt32 &&& Int32.toUInt32 31).toBitVec % 32).toNat).getLsbD i = _
  rw [s_u n hn, BitVec.getLsbD_ushiftRight]
theorem b_sshr (n : Nat) (hn : n < 32) (x : Int32) {i : Nat} (hi : i < 32) : bt (x >>> (nI n &&& 31)) i = if n + i < 32 then bt x (n + i) else bt x 31 := by
  unfold bt
  rw [Int32.toBitVec_shiftRight]
  show (x.toBitVec.sshiftRight ((nI n &&& 31).toBitVec.smod 32).toNat).getLsbD i = _
  rw [s_l n hn, BitVec.getLsbD_sshiftRight, BitVec.msb_eq_getLsbD_last]
  simp [hi]
theorem sh_and (n : Nat) (hn : n ≤ 24) (x : Int32) : (x >>> (nI n &&& 31)) &&& 255 = ((x.toUInt32 >>> ((nI n).toUInt32 &&& Int32.toUInt32 31)).toInt32) &&& 255 := by
  apply b_ext
  intro i hi
  rw [b_and, b_and, b_255]
  by_cases h : i < 8
  · rw [b_sshr n (by omega) x hi, b_ushr n (by omega), if_pos (by omega)]
  · rw [decide_eq_false h, Bool.and_false, Bool.and_false]
theorem by_s {v s : Int} (hs : s = 24 ∨ s = 16 ∨ s = 8 ∨ s = 0) : andI (shrI v s) 255 = byI v s := by
  have e255 : Int32.ofInt 255 = 255 := by decide
  have e24 : Int32.ofInt 24 = nI 24 := by decide
  have e16 : Int32.ofInt 16 = nI 16 := by decide
  have e8 : Int32.ofInt 8 = nI 8 := by decide
  have e0 : Int32.ofInt 0 = nI 0 := by decide
  unfold byI andI shrI ushrI
  rw [Int32.ofInt_toInt, Int32.ofInt_toInt, e255]
  rcases hs with h | h | h | h <;> subst h
  · rw [e24]; exact congrArg Int32.toInt (sh_and 24 (by omega) _)
  · rw [e16]; exact congrArg Int32.toInt (sh_and 16 (by omega) _)
  · rw [e8]; exact congrArg Int32.toInt (sh_and 8 (by omega) _)
  · rw [e0]; exact congrArg Int32.toInt (sh_and 0 (by omega) _)
theorem sx_bt (x : Int32) {i : Nat} (hi : i < 32) : bt x.toInt16.toInt32 i = if i < 16 then bt x i else bt x 15 := by
  show ((x.toBitVec.signExtend 16).signExtend 32).getLsbD i = if i < 16 then x.toBitVec.getLsbD i else x.toBitVec.getLsbD 15
  rw [BitVec.getLsbD_signExtend]
  by_cases h : i < 16
  · rw [if_pos h, if_pos h, BitVec.getLsbD_signExtend, if_pos (by omega), decide_eq_true h, decide_eq_true hi, Bool.true_and, Bool.true_and]
  · rw [if_neg h, if_neg h, BitVec.msb_eq_getLsbD_last, BitVec.getLsbD_signExtend, if_pos (by omega), decide_eq_true hi, Bool.true_and]
    rfl
theorem sx_sh (x : Int32) : (x <<< (nI 16 &&& 31)) >>> (nI 16 &&& 31) = x.toInt16.toInt32 := by
  apply b_ext
  intro i hi
  rw [b_sshr 16 (by omega) _ hi, sx_bt x hi]
  by_cases h : i < 16
  · rw [if_pos (by omega), if_pos h, b_shl 16 (by omega) _ (by omega), decide_eq_true (by omega), Bool.true_and, show 16 + i - 16 = i by omega]
  · rw [if_neg (by omega), if_neg h, b_shl 16 (by omega) _ (by omega), decide_eq_true (by omega), Bool.true_and]
theorem sx_i (v : Int) : shrI (shlI v 16) 16 = i2sI v := by
  have e16 : Int32.ofInt 16 = nI 16 := by decide
  unfold shrI shlI i2sI
  rw [Int32.ofInt_toInt, e16, sx_sh]
def shM (μ : Mem) : Prop := ∀ k : Int, 0 ≤ k → k < 4 → (-1 ≤ μ 91 k ∧ μ 91 k ≤ 1) ∧ 0 ≤ μ 92 k ∧ μ 92 k ≤ 24
def slM (μ : Mem) : Prop := ∀ k : Int, 0 ≤ k → k < 5 → (0 ≤ μ 94 k ∧ μ 94 k ≤ 3) ∧ (μ 94 k = 2 → 0 ≤ μ 97 k ∧ μ 97 k ≤ 24)

set_option maxRecDepth 100000 in
set_option maxHeartbeats 4000000 in
theorem ct_X10_sheet {l : Launch} {D : va_G} {cA : Nat → ClassId} {μ : Mem} (sh so n : Int) : CtN l D cA yX10_sheet cX10_sheet 5 (some .int) 3 [vr 87, vi sh, vi so, vi n] μ (Pi (fun x μ' => (¬ ((0 ≤ sh ∧ sh ≤ 3) ∧ -1 ≤ so ∧ so ≤ 1) → x = -1000000001 ∧ μ' = μ) ∧ (((0 ≤ sh ∧ sh ≤ 3) ∧ -1 ≤ so ∧ so ≤ 1) → (so = -1 → x = 0 ∧ μ' 91 = uf (μ 91) sh (-1) ∧ μ' 92 = uf (μ 92) sh (0) ∧ (∀ q, μ' 93 q = if 24 * sh ≤ q ∧ q < 24 * sh + 24 then 0 else μ 93 q) ∧ ∀ q, q ≠ 91 → q ≠ 92 → q ≠ 93 → μ' q = μ q) ∧ (so ≠ -1 → (24 < n → x = -1000000001 ∧ μ' = μ) ∧ (n ≤ 24 → (n < 0 → x = -1000000014 ∧ μ' = μ) ∧ (0 ≤ n → x = n ∧ μ' 91 = uf (μ 91) sh (so) ∧ μ' 92 = uf (μ 92) sh (n) ∧ (∀ q, μ' 93 q = if 24 * sh ≤ q ∧ q < 24 * sh + 24 then 0 else μ 93 q) ∧ ∀ q, q ≠ 91 → q ≠ 92 → q ≠ 93 → μ' q = μ q)))))) := by
  refine Ct.of (own := RX10) (by decide +kernel) rfl (fun σ => Nat.le_of_ble_eq_true rfl) (fun hM hP ha => ?_)
  obtain ⟨m87, r88, s88, r89, s89, r90, s90, r91, s91, r92, s92, r93, s93, r94, s94, r95, s95, r96, s96, r97, s97, r98, s98, r99, s99, r100, s100, r101, s101, r102, s102, r103, s103, r104, s104, r105, s105, r106, s106, r107, s107, r108, s108, r109, s109, r110, s110, r111, s111, r112, s112⟩ := md_f
  have loop : ∀ (m : Nat) (i : Int) (μ1 : Mem), 24 - i = (m : Nat) → 0 ≤ i → ((0 ≤ sh ∧ sh ≤ 3) ∧ -1 ≤ so ∧ so ≤ 1) → (0 ≤ so → 0 ≤ n ∧ n ≤ 24) → (μ1 91 = uf (μ 91) sh so) → (μ1 92 = uf (μ 92) sh (if so < 0 then 0 else n)) → (∀ q, μ1 93 q = if 24 * sh ≤ q ∧ q < 24 * sh + i then 0 else μ 93 q) → (∀ q, q ≠ 91 → q ≠ 92 → q ≠ 93 → μ1 q = μ q) → Go l D cA none RX10 cX10_sheet 5 (some .int) (3, 0, 0) (QN (Pi (fun x μ' => (¬ ((0 ≤ sh ∧ sh ≤ 3) ∧ -1 ≤ so ∧ so ≤ 1) → x = -1000000001 ∧ μ' = μ) ∧ (((0 ≤ sh ∧ sh ≤ 3) ∧ -1 ≤ so ∧ so ≤ 1) → (so = -1 → x = 0 ∧ μ' 91 = uf (μ 91) sh (-1) ∧ μ' 92 = uf (μ 92) sh (0) ∧ (∀ q, μ' 93 q = if 24 * sh ≤ q ∧ q < 24 * sh + 24 then 0 else μ 93 q) ∧ ∀ q, q ≠ 91 → q ≠ 92 → q ≠ 93 → μ' q = μ q) ∧ (so ≠ -1 → (24 < n → x = -1000000001 ∧ μ' = μ) ∧ (n ≤ 24 → (n < 0 → x = -1000000014 ∧ μ' = μ) ∧ (0 ≤ n → x = n ∧ μ' 91 = uf (μ 91) sh (so) ∧ μ' 92 = uf (μ 92) sh (n) ∧ (∀ q, μ' 93 q = if 24 * sh ≤ q ∧ q < 24 * sh + 24 then 0 else μ 93 q) ∧ ∀ q, q ≠ 91 → q ≠ 92 → q ≠ 93 → μ' q = μ q))))))) 113 ρ0 0 0 69 [(0, vr 87), (1, vi sh), (2, vi so), (3, vi n), (4, vi i)] [] μ1 := by
    intro m
    induction m with
    | zero =>
      intro i μ1 hm hv hC hn h91 h92 h93 hf
      refine go_iload dX10_sheet_69 rfl ?_
      refine go_bipush dX10_sheet_71 rfl (by decide) ?_
      refine go_icmp_ge (tgt := 95) dX10_sheet_73 rfl (fun h73 => ?_) (fun h73 => ?_)
      ·
        rw [show i = 24 by omega] at h93
        refine go_aload_n dX10_sheet_95 rfl ?_
        refine go_getR dX10_sheet_96 fl_X10_22 (by first | assumption | exact Nat.le_of_ble_eq_true rfl) (by first | assumption | rfl) rfl (by first | assumption | rfl) ?_
        refine go_iload_n dX10_sheet_99 rfl ?_
        refine go_iaload dX10_sheet_100 (by first | assumption | exact Nat.le_of_ble_eq_true rfl) (by first | assumption | rfl) (by omega) (by omega) ?_
        rw [h92, uf_same]
        exact go_ri dX10_sheet_101 tyI ⟨Nat.le_refl _, Nat.le_refl _⟩ (by
            by_cases e : so = -1
            · rw [if_pos (by omega)] at h92 ⊢
              rw [e] at h91
              exact ⟨fun h => absurd hC h, fun _ => ⟨fun _ => ⟨rfl, h91, h92, h93, hf⟩, fun h => absurd e h⟩⟩
            · rw [if_neg (by omega)] at h92 ⊢
              exact ⟨fun h => absurd hC h, fun _ => ⟨fun h => absurd h e, fun _ => ⟨fun h => absurd h (by omega), fun _ => ⟨fun h => absurd h (by omega), fun _ => ⟨rfl, h91, h92, h93, hf⟩⟩⟩⟩⟩)
      ·
        exact absurd h73 (by omega)
    | succ m ih =>
      intro i μ1 hm hv hC hn h91 h92 h93 hf
      refine go_iload dX10_sheet_69 rfl ?_
      refine go_bipush dX10_sheet_71 rfl (by decide) ?_
      refine go_icmp_ge (tgt := 95) dX10_sheet_73 rfl (fun h73 => ?_) (fun h73 => ?_)
      ·
        exact absurd h73 (by omega)
      ·
        refine go_aload_n dX10_sheet_76 rfl ?_
        refine go_getR dX10_sheet_77 fl_X10_25 (by first | assumption | exact Nat.le_of_ble_eq_true rfl) (by first | assumption | rfl) rfl (by first | assumption | rfl) ?_
        refine go_bipush dX10_sheet_80 rfl (by decide) ?_
        refine go_iload_n dX10_sheet_82 rfl ?_
        refine go_imul dX10_sheet_83 ⟨by omega, by omega⟩ ?_
        refine go_iload dX10_sheet_84 rfl ?_
        refine go_iadd dX10_sheet_86 ⟨by omega, by omega⟩ ?_
        refine go_iconst dX10_sheet_87 rfl ?_
        refine go_iastore dX10_sheet_88 (by first | assumption | exact Nat.le_of_ble_eq_true rfl) (by first | assumption | rfl) (by omega) (by omega) ?_
        refine go_iinc dX10_sheet_89 rfl rfl ⟨by omega, by omega⟩ ?_
        refine go_goto (tgt := 69) dX10_sheet_92 rfl ?_
        refine go_drop (ih _ _ (by omega) (by omega) hC hn ?_ ?_ ?_ ?_) rfl
        · rw [ud_n (by decide)]; exact h91
        · rw [ud_n (by decide)]; exact h92
        · intro q
          rw [ud_s]
          by_cases e : q = 24 * sh + i
          · rw [e, uf_same, if_pos (by omega)]
          · rw [uf_ne e, h93]
            by_cases e2 : 24 * sh ≤ q ∧ q < 24 * sh + i
            · rw [if_pos e2, if_pos (by omega)]
            · rw [if_neg e2, if_neg (by omega)]
        · intro q a b c; rw [ud_n c]; exact hf q a b c
  refine go_iload_n dX10_sheet_0 rfl ?_
  refine go_sI dX10_sheet_1 (ct_X10_isSheet _) ml_X10_323 mc_X10_isSheet ms_X10_isSheet ⟨rfl, rfl⟩ ⟨Nat.le_refl _, Nat.le_refl _⟩ rfl rfl rfl (fun x1 μ1 hc1 => ?_)
  obtain ⟨rfl, hm1⟩ := hc1
  rw [hm1]
  first | refine go_bz (tgt := 29) dX10_sheet_4 rfl (fun h4 => ?_) (fun h4 => ?_) | refine go_if_eq (tgt := 29) dX10_sheet_4 rfl (fun h4 => ?_) (fun h4 => ?_)
  ·
    refine go_ldc dX10_sheet_29 kc_X10_126 rfl ?_
    exact go_ri dX10_sheet_31 tyI ⟨Nat.le_refl _, Nat.le_refl _⟩ (⟨fun _ => ⟨rfl, rfl⟩, fun h => absurd h (by omega)⟩)
  ·
    refine go_iload_n dX10_sheet_7 rfl ?_
    refine go_i2l dX10_sheet_8 ?_
    refine go_ldc2 dX10_sheet_9 kl_X10_326 rfl ?_
    refine go_lconst dX10_sheet_12 ?_
    refine go_sI dX10_sheet_13 (ct_X10_isIn _ _ _) ml_X10_87 mc_X10_isIn ms_X10_isIn ⟨rfl, rfl⟩ ⟨Nat.le_refl _, Nat.le_refl _⟩ rfl rfl rfl (fun x13 μ13 hc13 => ?_)
    obtain ⟨rfl, hm13⟩ := hc13
    rw [hm13]
    first | refine go_bz (tgt := 29) dX10_sheet_16 rfl (fun h16 => ?_) (fun h16 => ?_) | refine go_if_eq (tgt := 29) dX10_sheet_16 rfl (fun h16 => ?_) (fun h16 => ?_)
    ·
      refine go_ldc dX10_sheet_29 kc_X10_126 rfl ?_
      exact go_ri dX10_sheet_31 tyI ⟨Nat.le_refl _, Nat.le_refl _⟩ (⟨fun _ => ⟨rfl, rfl⟩, fun h => absurd h (by omega)⟩)
    ·
      refine go_iload_n dX10_sheet_19 rfl ?_
      refine go_if_lt (tgt := 32) dX10_sheet_20 rfl (fun h20 => ?_) (fun h20 => ?_)
      ·
        refine go_iload_n dX10_sheet_32 rfl ?_
        refine go_if_lt (tgt := 44) dX10_sheet_33 rfl (fun h33 => ?_) (fun h33 => ?_)
        ·
          refine go_aload_n dX10_sheet_44 rfl ?_
          refine go_getR dX10_sheet_45 fl_X10_19 (by first | assumption | exact Nat.le_of_ble_eq_true rfl) (by first | assumption | rfl) rfl (by first | assumption | rfl) ?_
          refine go_iload_n dX10_sheet_48 rfl ?_
          refine go_iload_n dX10_sheet_49 rfl ?_
          refine go_iastore dX10_sheet_50 (by first | assumption | exact Nat.le_of_ble_eq_true rfl) (by first | assumption | rfl) (by omega) (by omega) ?_
          refine go_aload_n dX10_sheet_51 rfl ?_
          refine go_getR dX10_sheet_52 fl_X10_22 (by first | assumption | exact Nat.le_of_ble_eq_true rfl) (by first | assumption | rfl) rfl (by first | assumption | rfl) ?_
          refine go_iload_n dX10_sheet_55 rfl ?_
          refine go_iload_n dX10_sheet_56 rfl ?_
          refine go_if_ge (tgt := 64) dX10_sheet_57 rfl (fun h57 => ?_) (fun h57 => ?_)
          ·
            exact absurd h57 (by omega)
          ·
            refine go_iconst dX10_sheet_60 rfl ?_
            refine go_goto (tgt := 65) dX10_sheet_61 rfl ?_
            refine go_iastore dX10_sheet_65 (by first | assumption | exact Nat.le_of_ble_eq_true rfl) (by first | assumption | rfl) (by omega) (by omega) ?_
            refine go_iconst dX10_sheet_66 rfl ?_
            refine go_istore dX10_sheet_67 rfl ?_
            refine go_drop (loop 24 0 _ (by omega) (by omega) (by omega) (by omega) ?_ ?_ ?_ ?_) rfl
            · rw [ud_n (by decide), ud_s]
            · rw [ud_s, ud_n (by decide), if_pos (by omega)]
            · intro q; rw [ud_n (by decide), ud_n (by decide), if_neg (by omega)]
            · intro q a b c; rw [ud_n b, ud_n a]
        ·
          exact absurd h33 (by omega)
      ·
        refine go_iload_n dX10_sheet_23 rfl ?_
        refine go_bipush dX10_sheet_24 rfl (by decide) ?_
        refine go_icmp_le (tgt := 32) dX10_sheet_26 rfl (fun h26 => ?_) (fun h26 => ?_)
        ·
          refine go_iload_n dX10_sheet_32 rfl ?_
          refine go_if_lt (tgt := 44) dX10_sheet_33 rfl (fun h33 => ?_) (fun h33 => ?_)
          ·
            exact absurd h33 (by omega)
          ·
            refine go_iload_n dX10_sheet_36 rfl ?_
            refine go_if_ge (tgt := 44) dX10_sheet_37 rfl (fun h37 => ?_) (fun h37 => ?_)
            ·
              refine go_aload_n dX10_sheet_44 rfl ?_
              refine go_getR dX10_sheet_45 fl_X10_19 (by first | assumption | exact Nat.le_of_ble_eq_true rfl) (by first | assumption | rfl) rfl (by first | assumption | rfl) ?_
              refine go_iload_n dX10_sheet_48 rfl ?_
              refine go_iload_n dX10_sheet_49 rfl ?_
              refine go_iastore dX10_sheet_50 (by first | assumption | exact Nat.le_of_ble_eq_true rfl) (by first | assumption | rfl) (by omega) (by omega) ?_
              refine go_aload_n dX10_sheet_51 rfl ?_
              refine go_getR dX10_sheet_52 fl_X10_22 (by first | assumption | exact Nat.le_of_ble_eq_true rfl) (by first | assumption | rfl) rfl (by first | assumption | rfl) ?_
              refine go_iload_n dX10_sheet_55 rfl ?_
              refine go_iload_n dX10_sheet_56 rfl ?_
              refine go_if_ge (tgt := 64) dX10_sheet_57 rfl (fun h57 => ?_) (fun h57 => ?_)
              ·
                refine go_iload_n dX10_sheet_64 rfl ?_
                refine go_iastore dX10_sheet_65 (by first | assumption | exact Nat.le_of_ble_eq_true rfl) (by first | assumption | rfl) (by omega) (by omega) ?_
                refine go_iconst dX10_sheet_66 rfl ?_
                refine go_istore dX10_sheet_67 rfl ?_
                refine go_drop (loop 24 0 _ (by omega) (by omega) (by omega) (by omega) ?_ ?_ ?_ ?_) rfl
                · rw [ud_n (by decide), ud_s]
                · rw [ud_s, ud_n (by decide), if_neg (by omega)]
                · intro q; rw [ud_n (by decide), ud_n (by decide), if_neg (by omega)]
                · intro q a b c; rw [ud_n b, ud_n a]
              ·
                exact absurd h57 (by omega)
            ·
              refine go_ldcw dX10_sheet_40 kc_X10_328 rfl ?_
              exact go_ri dX10_sheet_43 tyI ⟨Nat.le_refl _, Nat.le_refl _⟩ (⟨fun h => absurd (by omega) h, fun _ => ⟨fun h => absurd h (by omega), fun _ => ⟨fun h => absurd h (by omega), fun _ => ⟨fun _ => ⟨rfl, rfl⟩, fun h => absurd h (by omega)⟩⟩⟩⟩)
        ·
          refine go_ldc dX10_sheet_29 kc_X10_126 rfl ?_
          exact go_ri dX10_sheet_31 tyI ⟨Nat.le_refl _, Nat.le_refl _⟩ (⟨fun h => absurd (by omega) h, fun _ => ⟨fun h => absurd h (by omega), fun _ => ⟨fun _ => ⟨rfl, rfl⟩, fun h => absurd h (by omega)⟩⟩⟩)

set_option maxRecDepth 100000 in
set_option maxHeartbeats 4000000 in
theorem ct_X10_mark {l : Launch} {D : va_G} {cA : Nat → ClassId} {μ : Mem} (hS : shM μ) (sh q v : Int) : CtN l D cA yX10_mark cX10_mark 4 (some .int) 3 [vr 87, vi sh, vi q, vi v] μ (Pi (fun x μ' => (¬ (0 ≤ sh ∧ sh ≤ 3) → x = -1000000001 ∧ μ' = μ) ∧ ((0 ≤ sh ∧ sh ≤ 3) → (μ 91 sh = -1 → x = -1000000011 ∧ μ' = μ) ∧ (μ 91 sh ≠ -1 → (¬ (0 ≤ q ∧ q ≤ μ 92 sh - 1) → x = -1000000013 ∧ μ' = μ) ∧ ((0 ≤ q ∧ q ≤ μ 92 sh - 1) → (μ 91 sh = 0 → (v = -1000000005 → x = -1000000012 ∧ μ' = μ) ∧ (v ≠ -1000000005 → x = 1 ∧ μ' = ud μ 93 (24 * sh + q) (i2sI v))) ∧ (μ 91 sh ≠ 0 → (v ≠ -1000000005 ∧ ¬ (-99999 ≤ v ∧ v ≤ 99999) → x = -1000000001 ∧ μ' = μ) ∧ (¬ (v ≠ -1000000005 ∧ ¬ (-99999 ≤ v ∧ v ≤ 99999)) → x = 1 ∧ μ' = ud μ 93 (24 * sh + q) v))))))) := by
  refine Ct.of (own := RX10) (by decide +kernel) rfl (fun σ => Nat.le_of_ble_eq_true rfl) (fun hM hP ha => ?_)
  obtain ⟨m87, r88, s88, r89, s89, r90, s90, r91, s91, r92, s92, r93, s93, r94, s94, r95, s95, r96, s96, r97, s97, r98, s98, r99, s99, r100, s100, r101, s101, r102, s102, r103, s103, r104, s104, r105, s105, r106, s106, r107, s107, r108, s108, r109, s109, r110, s110, r111, s111, r112, s112⟩ := md_f
  refine go_iload_n dX10_mark_0 rfl ?_
  refine go_sI dX10_mark_1 (ct_X10_isSheet _) ml_X10_323 mc_X10_isSheet ms_X10_isSheet ⟨rfl, rfl⟩ ⟨Nat.le_refl _, Nat.le_refl _⟩ rfl rfl rfl (fun x1 μ1 hc1 => ?_)
  obtain ⟨rfl, hm1⟩ := hc1
  rw [hm1]
  first | refine go_bnz (tgt := 10) dX10_mark_4 rfl (fun h4 => ?_) (fun h4 => ?_) | refine go_if_ne (tgt := 10) dX10_mark_4 rfl (fun h4 => ?_) (fun h4 => ?_)
  ·
    have hs := hS sh (by omega) (by omega)
    refine go_aload_n dX10_mark_10 rfl ?_
    refine go_getR dX10_mark_11 fl_X10_19 (by first | assumption | exact Nat.le_of_ble_eq_true rfl) (by first | assumption | rfl) rfl (by first | assumption | rfl) ?_
    refine go_iload_n dX10_mark_14 rfl ?_
    refine go_iaload dX10_mark_15 (by first | assumption | exact Nat.le_of_ble_eq_true rfl) (by first | assumption | rfl) (by omega) (by omega) ?_
    try simp (disch := omega) only [ua_same, ua_ne, uf_same, uf_ne]
    refine go_if_ge (tgt := 23) dX10_mark_16 rfl (fun h16 => ?_) (fun h16 => ?_)
    ·
      refine go_iload_n dX10_mark_23 rfl ?_
      refine go_i2l dX10_mark_24 ?_
      refine go_lconst dX10_mark_25 ?_
      refine go_aload_n dX10_mark_26 rfl ?_
      refine go_getR dX10_mark_27 fl_X10_22 (by first | assumption | exact Nat.le_of_ble_eq_true rfl) (by first | assumption | rfl) rfl (by first | assumption | rfl) ?_
      refine go_iload_n dX10_mark_30 rfl ?_
      refine go_iaload dX10_mark_31 (by first | assumption | exact Nat.le_of_ble_eq_true rfl) (by first | assumption | rfl) (by omega) (by omega) ?_
      try simp (disch := omega) only [ua_same, ua_ne, uf_same, uf_ne]
      refine go_iconst dX10_mark_32 rfl ?_
      refine go_isub dX10_mark_33 ⟨by omega, by omega⟩ ?_
      refine go_i2l dX10_mark_34 ?_
      refine go_sI dX10_mark_35 (ct_X10_isIn _ _ _) ml_X10_87 mc_X10_isIn ms_X10_isIn ⟨rfl, rfl⟩ ⟨Nat.le_refl _, Nat.le_refl _⟩ rfl rfl rfl (fun x35 μ35 hc35 => ?_)
      obtain ⟨rfl, hm35⟩ := hc35
      rw [hm35]
      first | refine go_bnz (tgt := 45) dX10_mark_38 rfl (fun h38 => ?_) (fun h38 => ?_) | refine go_if_ne (tgt := 45) dX10_mark_38 rfl (fun h38 => ?_) (fun h38 => ?_)
      ·
        refine go_aload_n dX10_mark_45 rfl ?_
        refine go_getR dX10_mark_46 fl_X10_19 (by first | assumption | exact Nat.le_of_ble_eq_true rfl) (by first | assumption | rfl) rfl (by first | assumption | rfl) ?_
        refine go_iload_n dX10_mark_49 rfl ?_
        refine go_iaload dX10_mark_50 (by first | assumption | exact Nat.le_of_ble_eq_true rfl) (by first | assumption | rfl) (by omega) (by omega) ?_
        try simp (disch := omega) only [ua_same, ua_ne, uf_same, uf_ne]
        first | refine go_bnz (tgt := 63) dX10_mark_51 rfl (fun h51 => ?_) (fun h51 => ?_) | refine go_if_ne (tgt := 63) dX10_mark_51 rfl (fun h51 => ?_) (fun h51 => ?_)
        ·
          refine go_aload_n dX10_mark_63 rfl ?_
          refine go_getR dX10_mark_64 fl_X10_19 (by first | assumption | exact Nat.le_of_ble_eq_true rfl) (by first | assumption | rfl) rfl (by first | assumption | rfl) ?_
          refine go_iload_n dX10_mark_67 rfl ?_
          refine go_iaload dX10_mark_68 (by first | assumption | exact Nat.le_of_ble_eq_true rfl) (by first | assumption | rfl) (by omega) (by omega) ?_
          try simp (disch := omega) only [ua_same, ua_ne, uf_same, uf_ne]
          refine go_iconst dX10_mark_69 rfl ?_
          refine go_icmp_ne (tgt := 96) dX10_mark_70 rfl (fun h70 => ?_) (fun h70 => ?_)
          ·
            exact absurd h70 (by omega)
          ·
            refine go_iload_n dX10_mark_73 rfl ?_
            refine go_ldc dX10_mark_74 kc_X10_86 rfl ?_
            refine go_icmp_eq (tgt := 96) dX10_mark_76 rfl (fun h76 => ?_) (fun h76 => ?_)
            ·
              refine go_aload_n dX10_mark_96 rfl ?_
              refine go_getR dX10_mark_97 fl_X10_25 (by first | assumption | exact Nat.le_of_ble_eq_true rfl) (by first | assumption | rfl) rfl (by first | assumption | rfl) ?_
              refine go_bipush dX10_mark_100 rfl (by decide) ?_
              refine go_iload_n dX10_mark_102 rfl ?_
              refine go_imul dX10_mark_103 ⟨by omega, by omega⟩ ?_
              refine go_iload_n dX10_mark_104 rfl ?_
              refine go_iadd dX10_mark_105 ⟨by omega, by omega⟩ ?_
              refine go_aload_n dX10_mark_106 rfl ?_
              refine go_getR dX10_mark_107 fl_X10_19 (by first | assumption | exact Nat.le_of_ble_eq_true rfl) (by first | assumption | rfl) rfl (by first | assumption | rfl) ?_
              refine go_iload_n dX10_mark_110 rfl ?_
              refine go_iaload dX10_mark_111 (by first | assumption | exact Nat.le_of_ble_eq_true rfl) (by first | assumption | rfl) (by omega) (by omega) ?_
              try simp (disch := omega) only [ua_same, ua_ne, uf_same, uf_ne]
              first | refine go_bnz (tgt := 125) dX10_mark_112 rfl (fun h112 => ?_) (fun h112 => ?_) | refine go_if_ne (tgt := 125) dX10_mark_112 rfl (fun h112 => ?_) (fun h112 => ?_)
              ·
                refine go_iload_n dX10_mark_125 rfl ?_
                refine go_iastore dX10_mark_126 (by first | assumption | exact Nat.le_of_ble_eq_true rfl) (by first | assumption | rfl) (by omega) (by omega) ?_
                refine go_iconst dX10_mark_127 rfl ?_
                exact go_ri dX10_mark_128 tyI ⟨Nat.le_refl _, Nat.le_refl _⟩ (⟨fun h => absurd (by omega) h, fun _ => ⟨fun h => absurd h (by omega), fun _ => ⟨fun h => absurd (by omega) h, fun _ => ⟨fun h => absurd h (by omega), fun _ => ⟨fun h => absurd h (by omega), fun _ => ⟨rfl, rfl⟩⟩⟩⟩⟩⟩)
              ·
                exact absurd h112 (by omega)
            ·
              refine go_iload_n dX10_mark_79 rfl ?_
              refine go_i2l dX10_mark_80 ?_
              refine go_ldc2 dX10_mark_81 kl_X10_331 rfl ?_
              refine go_ldc2 dX10_mark_84 kl_X10_195 rfl ?_
              refine go_sI dX10_mark_87 (ct_X10_isIn _ _ _) ml_X10_87 mc_X10_isIn ms_X10_isIn ⟨rfl, rfl⟩ ⟨Nat.le_refl _, Nat.le_refl _⟩ rfl rfl rfl (fun x87 μ87 hc87 => ?_)
              obtain ⟨rfl, hm87⟩ := hc87
              rw [hm87]
              first | refine go_bnz (tgt := 96) dX10_mark_90 rfl (fun h90 => ?_) (fun h90 => ?_) | refine go_if_ne (tgt := 96) dX10_mark_90 rfl (fun h90 => ?_) (fun h90 => ?_)
              ·
                refine go_aload_n dX10_mark_96 rfl ?_
                refine go_getR dX10_mark_97 fl_X10_25 (by first | assumption | exact Nat.le_of_ble_eq_true rfl) (by first | assumption | rfl) rfl (by first | assumption | rfl) ?_
                refine go_bipush dX10_mark_100 rfl (by decide) ?_
                refine go_iload_n dX10_mark_102 rfl ?_
                refine go_imul dX10_mark_103 ⟨by omega, by omega⟩ ?_
                refine go_iload_n dX10_mark_104 rfl ?_
                refine go_iadd dX10_mark_105 ⟨by omega, by omega⟩ ?_
                refine go_aload_n dX10_mark_106 rfl ?_
                refine go_getR dX10_mark_107 fl_X10_19 (by first | assumption | exact Nat.le_of_ble_eq_true rfl) (by first | assumption | rfl) rfl (by first | assumption | rfl) ?_
                refine go_iload_n dX10_mark_110 rfl ?_
                refine go_iaload dX10_mark_111 (by first | assumption | exact Nat.le_of_ble_eq_true rfl) (by first | assumption | rfl) (by omega) (by omega) ?_
                try simp (disch := omega) only [ua_same, ua_ne, uf_same, uf_ne]
                first | refine go_bnz (tgt := 125) dX10_mark_112 rfl (fun h112 => ?_) (fun h112 => ?_) | refine go_if_ne (tgt := 125) dX10_mark_112 rfl (fun h112 => ?_) (fun h112 => ?_)
                ·
                  refine go_iload_n dX10_mark_125 rfl ?_
                  refine go_iastore dX10_mark_126 (by first | assumption | exact Nat.le_of_ble_eq_true rfl) (by first | assumption | rfl) (by omega) (by omega) ?_
                  refine go_iconst dX10_mark_127 rfl ?_
                  exact go_ri dX10_mark_128 tyI ⟨Nat.le_refl _, Nat.le_refl _⟩ (⟨fun h => absurd (by omega) h, fun _ => ⟨fun h => absurd h (by omega), fun _ => ⟨fun h => absurd (by omega) h, fun _ => ⟨fun h => absurd h (by omega), fun _ => ⟨fun h => absurd h (by omega), fun _ => ⟨rfl, rfl⟩⟩⟩⟩⟩⟩)
                ·
                  exact absurd h112 (by omega)
              ·
                refine go_ldc dX10_mark_93 kc_X10_126 rfl ?_
                exact go_ri dX10_mark_95 tyI ⟨Nat.le_refl _, Nat.le_refl _⟩ (⟨fun h => absurd (by omega) h, fun _ => ⟨fun h => absurd h (by omega), fun _ => ⟨fun h => absurd (by omega) h, fun _ => ⟨fun h => absurd h (by omega), fun _ => ⟨fun _ => ⟨rfl, rfl⟩, fun h => absurd h (by omega)⟩⟩⟩⟩⟩)
        ·
          refine go_iload_n dX10_mark_54 rfl ?_
          refine go_ldc dX10_mark_55 kc_X10_86 rfl ?_
          refine go_icmp_ne (tgt := 63) dX10_mark_57 rfl (fun h57 => ?_) (fun h57 => ?_)
          ·
            refine go_aload_n dX10_mark_63 rfl ?_
            refine go_getR dX10_mark_64 fl_X10_19 (by first | assumption | exact Nat.le_of_ble_eq_true rfl) (by first | assumption | rfl) rfl (by first | assumption | rfl) ?_
            refine go_iload_n dX10_mark_67 rfl ?_
            refine go_iaload dX10_mark_68 (by first | assumption | exact Nat.le_of_ble_eq_true rfl) (by first | assumption | rfl) (by omega) (by omega) ?_
            try simp (disch := omega) only [ua_same, ua_ne, uf_same, uf_ne]
            refine go_iconst dX10_mark_69 rfl ?_
            refine go_icmp_ne (tgt := 96) dX10_mark_70 rfl (fun h70 => ?_) (fun h70 => ?_)
            ·
              refine go_aload_n dX10_mark_96 rfl ?_
              refine go_getR dX10_mark_97 fl_X10_25 (by first | assumption | exact Nat.le_of_ble_eq_true rfl) (by first | assumption | rfl) rfl (by first | assumption | rfl) ?_
              refine go_bipush dX10_mark_100 rfl (by decide) ?_
              refine go_iload_n dX10_mark_102 rfl ?_
              refine go_imul dX10_mark_103 ⟨by omega, by omega⟩ ?_
              refine go_iload_n dX10_mark_104 rfl ?_
              refine go_iadd dX10_mark_105 ⟨by omega, by omega⟩ ?_
              refine go_aload_n dX10_mark_106 rfl ?_
              refine go_getR dX10_mark_107 fl_X10_19 (by first | assumption | exact Nat.le_of_ble_eq_true rfl) (by first | assumption | rfl) rfl (by first | assumption | rfl) ?_
              refine go_iload_n dX10_mark_110 rfl ?_
              refine go_iaload dX10_mark_111 (by first | assumption | exact Nat.le_of_ble_eq_true rfl) (by first | assumption | rfl) (by omega) (by omega) ?_
              try simp (disch := omega) only [ua_same, ua_ne, uf_same, uf_ne]
              first | refine go_bnz (tgt := 125) dX10_mark_112 rfl (fun h112 => ?_) (fun h112 => ?_) | refine go_if_ne (tgt := 125) dX10_mark_112 rfl (fun h112 => ?_) (fun h112 => ?_)
              ·
                exact absurd h112 (by omega)
              ·
                refine go_iload_n dX10_mark_115 rfl ?_
                refine go_bipush dX10_mark_116 rfl (by decide) ?_
                refine go_ishl dX10_mark_118 ?_
                refine go_bipush dX10_mark_119 rfl (by decide) ?_
                refine go_ishr dX10_mark_121 ?_
                refine go_goto (tgt := 126) dX10_mark_122 rfl ?_
                refine go_iastore dX10_mark_126 (by first | assumption | exact Nat.le_of_ble_eq_true rfl) (by first | assumption | rfl) (by omega) (by omega) ?_
                refine go_iconst dX10_mark_127 rfl ?_
                exact go_ri dX10_mark_128 tyI ⟨Nat.le_refl _, Nat.le_refl _⟩ (⟨fun h => absurd (by omega) h, fun _ => ⟨fun h => absurd h (by omega), fun _ => ⟨fun h => absurd (by omega) h, fun _ => ⟨fun _ => ⟨fun h => absurd h (by omega), fun _ => ⟨rfl, by rw [sx_i]⟩⟩, fun h => absurd h (by omega)⟩⟩⟩⟩)
            ·
              exact absurd h70 (by omega)
          ·
            refine go_ldc dX10_mark_60 kc_X10_144 rfl ?_
            exact go_ri dX10_mark_62 tyI ⟨Nat.le_refl _, Nat.le_refl _⟩ (⟨fun h => absurd (by omega) h, fun _ => ⟨fun h => absurd h (by omega), fun _ => ⟨fun h => absurd (by omega) h, fun _ => ⟨fun _ => ⟨fun _ => ⟨rfl, rfl⟩, fun h => absurd h (by omega)⟩, fun h => absurd h (by omega)⟩⟩⟩⟩)
      ·
        refine go_ldcw dX10_mark_41 kc_X10_330 rfl ?_
        exact go_ri dX10_mark_44 tyI ⟨Nat.le_refl _, Nat.le_refl _⟩ (⟨fun h => absurd (by omega) h, fun _ => ⟨fun h => absurd h (by omega), fun _ => ⟨fun _ => ⟨rfl, rfl⟩, fun h => absurd h (by omega)⟩⟩⟩)
    ·
      refine go_ldcw dX10_mark_19 kc_X10_329 rfl ?_
      exact go_ri dX10_mark_22 tyI ⟨Nat.le_refl _, Nat.le_refl _⟩ (⟨fun h => absurd (by omega) h, fun _ => ⟨fun _ => ⟨rfl, rfl⟩, fun h => absurd h (by omega)⟩⟩)
  ·
    refine go_ldc dX10_mark_7 kc_X10_126 rfl ?_
    exact go_ri dX10_mark_9 tyI ⟨Nat.le_refl _, Nat.le_refl _⟩ (⟨fun _ => ⟨rfl, rfl⟩, fun h => absurd h (by omega)⟩)

set_option maxRecDepth 100000 in
set_option maxHeartbeats 4000000 in
theorem ct_X10_reads {l : Launch} {D : va_G} {cA : Nat → ClassId} {μ : Mem} (hI : mdI (μ 88)) (hS : shM μ) (sh : Int) : CtN l D cA yX10_reads cX10_reads 4 (some .int) 7 [vr 87, vi sh] μ (Pi (fun x μ' => x = (if 0 ≤ sh ∧ sh ≤ 3 then (if μ 91 sh = -1 then -1000000011 else rdN (fun k => μ 93 (24 * sh + k)) (rkC (vm (μ 88)) 32) (μ 92 sh).toNat 0) else -1000000001) ∧ ∀ q, q ≠ 108 → q ≠ 109 → μ' q = μ q)) := by
  refine Ct.of (own := RX10) (by decide +kernel) rfl (fun σ => Nat.le_of_ble_eq_true rfl) (fun hM hP ha => ?_)
  obtain ⟨m87, r88, s88, r89, s89, r90, s90, r91, s91, r92, s92, r93, s93, r94, s94, r95, s95, r96, s96, r97, s97, r98, s98, r99, s99, r100, s100, r101, s101, r102, s102, r103, s103, r104, s104, r105, s105, r106, s106, r107, s107, r108, s108, r109, s109, r110, s110, r111, s111, r112, s112⟩ := md_f
  have loop : ∀ (m : Nat) (i : Int) (μ1 : Mem), (μ 92 sh) - i = (m : Nat) → 0 ≤ i → (0 ≤ sh ∧ sh ≤ 3) → (μ 91 sh ≠ -1) → (rdN (fun k => μ 93 (24 * sh + k)) (rkC (vm (μ 88)) 32) (μ 92 sh).toNat 0 = rdN (fun k => μ 93 (24 * sh + k)) (rkC (vm (μ 88)) 32) (μ 92 sh - i).toNat i) → (∀ q, q ≠ 108 → q ≠ 109 → μ1 q = μ q) → Go l D cA none RX10 cX10_reads 4 (some .int) (7, 0, 0) (QN (Pi (fun x μ' => x = (if 0 ≤ sh ∧ sh ≤ 3 then (if μ 91 sh = -1 then -1000000011 else rdN (fun k => μ 93 (24 * sh + k)) (rkC (vm (μ 88)) 32) (μ 92 sh).toNat 0) else -1000000001) ∧ ∀ q, q ≠ 108 → q ≠ 109 → μ' q = μ q))) 113 ρ0 0 0 25 [(0, vr 87), (1, vi sh), (2, vi i)] [] μ1 := by
    intro m
    induction m with
    | zero =>
      intro i μ1 hm hv hC hno hres hf
      have e88 : μ1 88 = μ 88 := hf _ (by omega) (by omega)
      have e92 : μ1 92 = μ 92 := hf _ (by omega) (by omega)
      have e93 : μ1 93 = μ 93 := hf _ (by omega) (by omega)
      refine go_iload_n dX10_reads_25 rfl ?_
      refine go_aload_n dX10_reads_26 rfl ?_
      refine go_getR dX10_reads_27 fl_X10_22 (by first | assumption | exact Nat.le_of_ble_eq_true rfl) (by first | assumption | rfl) rfl (by first | assumption | rfl) ?_
      refine go_iload_n dX10_reads_30 rfl ?_
      refine go_iaload dX10_reads_31 (by first | assumption | exact Nat.le_of_ble_eq_true rfl) (by first | assumption | rfl) (by omega) (by omega) ?_
      rw [e92]
      refine go_icmp_ge (tgt := 70) dX10_reads_32 rfl (fun h32 => ?_) (fun h32 => ?_)
      ·
        refine go_ldc dX10_reads_70 kc_X10_86 rfl ?_
        exact go_ri dX10_reads_72 tyI ⟨Nat.le_refl _, Nat.le_refl _⟩ (⟨by rw [if_pos hC, if_neg hno, hres, show (μ 92 sh - i).toNat = 0 by omega]; rfl, hf⟩)
      ·
        exact absurd h32 (by omega)
    | succ m ih =>
      intro i μ1 hm hv hC hno hres hf
      have e88 : μ1 88 = μ 88 := hf _ (by omega) (by omega)
      have e92 : μ1 92 = μ 92 := hf _ (by omega) (by omega)
      have e93 : μ1 93 = μ 93 := hf _ (by omega) (by omega)
      refine go_iload_n dX10_reads_25 rfl ?_
      refine go_aload_n dX10_reads_26 rfl ?_
      refine go_getR dX10_reads_27 fl_X10_22 (by first | assumption | exact Nat.le_of_ble_eq_true rfl) (by first | assumption | rfl) rfl (by first | assumption | rfl) ?_
      refine go_iload_n dX10_reads_30 rfl ?_
      refine go_iaload dX10_reads_31 (by first | assumption | exact Nat.le_of_ble_eq_true rfl) (by first | assumption | rfl) (by omega) (by omega) ?_
      rw [e92]
      refine go_icmp_ge (tgt := 70) dX10_reads_32 rfl (fun h32 => ?_) (fun h32 => ?_)
      ·
        exact absurd h32 (by omega)
      ·
        have hs := hS sh (by omega) (by omega)
        have hun : rdN (fun k => μ 93 (24 * sh + k)) (rkC (vm (μ 88)) 32) (μ 92 sh - i).toNat i = if μ 93 (24 * sh + i) ≠ -1000000005 ∧ μ 93 (24 * sh + i) ≠ rkC (vm (μ 88)) 32 i then i else rdN (fun k => μ 93 (24 * sh + k)) (rkC (vm (μ 88)) 32) (μ 92 sh - (i + 1)).toNat (i + 1) := by rw [show (μ 92 sh - i).toNat = (μ 92 sh - (i + 1)).toNat + 1 by omega]; rfl
        refine go_aload_n dX10_reads_35 rfl ?_
        refine go_getR dX10_reads_36 fl_X10_25 (by first | assumption | exact Nat.le_of_ble_eq_true rfl) (by first | assumption | rfl) rfl (by first | assumption | rfl) ?_
        refine go_bipush dX10_reads_39 rfl (by decide) ?_
        refine go_iload_n dX10_reads_41 rfl ?_
        refine go_imul dX10_reads_42 ⟨by omega, by omega⟩ ?_
        refine go_iload_n dX10_reads_43 rfl ?_
        refine go_iadd dX10_reads_44 ⟨by omega, by omega⟩ ?_
        refine go_iaload dX10_reads_45 (by first | assumption | exact Nat.le_of_ble_eq_true rfl) (by first | assumption | rfl) (by omega) (by omega) ?_
        rw [e93]
        refine go_istore_n dX10_reads_46 rfl ?_
        refine go_iload_n dX10_reads_47 rfl ?_
        refine go_ldc dX10_reads_48 kc_X10_86 rfl ?_
        refine go_icmp_eq (tgt := 64) dX10_reads_50 rfl (fun h50 => ?_) (fun h50 => ?_)
        ·
          refine go_iinc dX10_reads_64 rfl rfl ⟨by omega, by omega⟩ ?_
          refine go_goto (tgt := 25) dX10_reads_67 rfl ?_
          exact go_drop (ih _ _ (by omega) (by omega) hC hno (by rw [hres, hun, if_neg (fun h => h.1 h50)]) hf) rfl
        ·
          refine go_iload_n dX10_reads_53 rfl ?_
          refine go_aload_n dX10_reads_54 rfl ?_
          refine go_iload_n dX10_reads_55 rfl ?_
          refine go_vI (ci := 9) dX10_reads_56 (ct_X10_risk (by rw [e88]; exact hI) _ (by omega) (by omega)) ml_X10_131 mc_X10_risk mv_X10_risk rfl (by first | assumption | exact Nat.le_of_ble_eq_true rfl) (by first | assumption | rfl) rfl ⟨rfl, rfl⟩ ⟨Nat.le_refl _, Nat.le_refl _⟩ rfl rfl rfl (fun x56 μ56 hc56 => ?_)
          rw [e88] at hc56
          obtain ⟨rfl, hf56⟩ := hc56
          have hfb : ∀ q, q ≠ 108 → q ≠ 109 → μ56 q = μ q := fun q a b => (hf56 q a b).trans (hf q a b)
          refine go_icmp_eq (tgt := 64) dX10_reads_59 rfl (fun h59 => ?_) (fun h59 => ?_)
          ·
            refine go_iinc dX10_reads_64 rfl rfl ⟨by omega, by omega⟩ ?_
            refine go_goto (tgt := 25) dX10_reads_67 rfl ?_
            exact go_drop (ih _ _ (by omega) (by omega) hC hno (by rw [hres, hun, if_neg (fun h => h.2 h59)]) hfb) rfl
          ·
            refine go_iload_n dX10_reads_62 rfl ?_
            exact go_ri dX10_reads_63 tyI ⟨Nat.le_refl _, Nat.le_refl _⟩ (⟨by rw [if_pos hC, if_neg hno, hres, hun, if_pos ⟨h50, h59⟩], hfb⟩)
  refine go_iload_n dX10_reads_0 rfl ?_
  refine go_sI dX10_reads_1 (ct_X10_isSheet _) ml_X10_323 mc_X10_isSheet ms_X10_isSheet ⟨rfl, rfl⟩ ⟨Nat.le_refl _, Nat.le_refl _⟩ rfl rfl rfl (fun x1 μ1 hc1 => ?_)
  obtain ⟨rfl, hm1⟩ := hc1
  rw [hm1]
  first | refine go_bnz (tgt := 10) dX10_reads_4 rfl (fun h4 => ?_) (fun h4 => ?_) | refine go_if_ne (tgt := 10) dX10_reads_4 rfl (fun h4 => ?_) (fun h4 => ?_)
  ·
    have hs := hS sh (by omega) (by omega)
    refine go_aload_n dX10_reads_10 rfl ?_
    refine go_getR dX10_reads_11 fl_X10_19 (by first | assumption | exact Nat.le_of_ble_eq_true rfl) (by first | assumption | rfl) rfl (by first | assumption | rfl) ?_
    refine go_iload_n dX10_reads_14 rfl ?_
    refine go_iaload dX10_reads_15 (by first | assumption | exact Nat.le_of_ble_eq_true rfl) (by first | assumption | rfl) (by omega) (by omega) ?_
    try simp (disch := omega) only [ua_same, ua_ne, uf_same, uf_ne]
    refine go_if_ge (tgt := 23) dX10_reads_16 rfl (fun h16 => ?_) (fun h16 => ?_)
    ·
      refine go_iconst dX10_reads_23 rfl ?_
      refine go_istore_n dX10_reads_24 rfl ?_
      exact go_drop (loop (μ 92 sh).toNat 0 μ (by omega) (by omega) (by omega) (by omega) (by rw [Int.sub_zero]) (fun _ _ _ => rfl)) rfl
    ·
      refine go_ldcw dX10_reads_19 kc_X10_329 rfl ?_
      exact go_ri dX10_reads_22 tyI ⟨Nat.le_refl _, Nat.le_refl _⟩ (⟨by rw [if_pos (by omega), if_pos (by omega)], fun _ _ _ => rfl⟩)
  ·
    refine go_ldc dX10_reads_7 kc_X10_126 rfl ?_
    exact go_ri dX10_reads_9 tyI ⟨Nat.le_refl _, Nat.le_refl _⟩ (⟨by rw [if_neg (by omega)], fun _ _ _ => rfl⟩)

theorem prS_e {sr : Int → Int} {row : Int} {m : Nat} {g : Int → Int} {n k v : Int} (hv : v = if sr k = -1000000005 then g (row * 6 + k) else max 0 (min 999 (sr k))) : prS sr row (m + 1) (g, n) k = prS sr row m (uf g (row * 6 + k) v, n + (if v = g (row * 6 + k) then 0 else 1)) (k + 1) := prS_s (s := (g, n)) hv
set_option maxRecDepth 100000 in
set_option maxHeartbeats 4000000 in
theorem ct_X10_pour {l : Launch} {D : va_G} {cA : Nat → ClassId} {μ : Mem} (hS : shM μ) (sh row : Int) : CtN l D cA yX10_pour cX10_pour 8 (some .int) 3 [vr 87, vi sh, vi row] μ (Pi (fun x μ' => (¬ ((0 ≤ sh ∧ sh ≤ 3) ∧ 0 ≤ row ∧ row ≤ 4) → x = -1000000001 ∧ μ' = μ) ∧ (((0 ≤ sh ∧ sh ≤ 3) ∧ 0 ≤ row ∧ row ≤ 4) → (μ 91 sh = -1 → x = -1000000011 ∧ μ' = μ) ∧ (μ 91 sh ≠ -1 → x = (prS (fun k => μ 93 (24 * sh + k)) row (min 6 (μ 92 sh)).toNat (vm (μ 88) 35, 0) 0).2 ∧ μ' = ua μ 88 (ldF (μ 88) (prS (fun k => μ 93 (24 * sh + k)) row (min 6 (μ 92 sh)).toNat (vm (μ 88) 35, 0) 0).1))))) := by
  refine Ct.of (own := RX10) (by decide +kernel) rfl (fun σ => Nat.le_of_ble_eq_true rfl) (fun hM hP ha => ?_)
  obtain ⟨m87, r88, s88, r89, s89, r90, s90, r91, s91, r92, s92, r93, s93, r94, s94, r95, s95, r96, s96, r97, s97, r98, s98, r99, s99, r100, s100, r101, s101, r102, s102, r103, s103, r104, s104, r105, s105, r106, s106, r107, s107, r108, s108, r109, s109, r110, s110, r111, s111, r112, s112⟩ := md_f
  have loop : ∀ (m : Nat) (i : Int) (n : Int) (g : Int → Int) (μ1 : Mem), (min 6 (μ 92 sh)) - i = (m : Nat) → 0 ≤ i → ((0 ≤ sh ∧ sh ≤ 3) ∧ 0 ≤ row ∧ row ≤ 4) → (μ 91 sh ≠ -1) → (0 ≤ n) → (n ≤ i) → ((prS (fun k => μ 93 (24 * sh + k)) row (min 6 (μ 92 sh)).toNat (vm (μ 88) 35, 0) 0) = prS (fun k => μ 93 (24 * sh + k)) row (min 6 (μ 92 sh) - i).toNat (g, n) i) → (μ1 = ua μ 88 (ldF (μ 88) g)) → Go l D cA none RX10 cX10_pour 8 (some .int) (3, 0, 0) (QN (Pi (fun x μ' => (¬ ((0 ≤ sh ∧ sh ≤ 3) ∧ 0 ≤ row ∧ row ≤ 4) → x = -1000000001 ∧ μ' = μ) ∧ (((0 ≤ sh ∧ sh ≤ 3) ∧ 0 ≤ row ∧ row ≤ 4) → (μ 91 sh = -1 → x = -1000000011 ∧ μ' = μ) ∧ (μ 91 sh ≠ -1 → x = (prS (fun k => μ 93 (24 * sh + k)) row (min 6 (μ 92 sh)).toNat (vm (μ 88) 35, 0) 0).2 ∧ μ' = ua μ 88 (ldF (μ 88) (prS (fun k => μ 93 (24 * sh + k)) row (min 6 (μ 92 sh)).toNat (vm (μ 88) 35, 0) 0).1)))))) 113 ρ0 0 0 40 [(0, vr 87), (1, vi sh), (2, vi row), (3, vi n), (4, vi i)] [] μ1 := by
    intro m
    induction m with
    | zero =>
      intro i n g μ1 hm hv hC hno hn0 hn1 hres hm1
      subst hm1
      refine go_iload dX10_pour_40 rfl ?_
      refine go_aload_n dX10_pour_42 rfl ?_
      refine go_getR dX10_pour_43 fl_X10_22 (by first | assumption | exact Nat.le_of_ble_eq_true rfl) (by first | assumption | rfl) rfl (by first | assumption | rfl) ?_
      refine go_iload_n dX10_pour_46 rfl ?_
      refine go_iaload dX10_pour_47 (by first | assumption | exact Nat.le_of_ble_eq_true rfl) (by first | assumption | rfl) (by omega) (by omega) ?_
      rw [ua_ne (by decide)]
      refine go_icmp_ge (tgt := 143) dX10_pour_48 rfl (fun h48 => ?_) (fun h48 => ?_)
      ·
        refine go_iload_n dX10_pour_143 rfl ?_
        exact go_ri dX10_pour_144 tyI ⟨Nat.le_refl _, Nat.le_refl _⟩ (⟨fun h => absurd hC h, fun _ => ⟨fun h => absurd h hno, fun _ => by rw [hres, show (min 6 (μ 92 sh) - i).toNat = 0 by omega]; exact ⟨rfl, rfl⟩⟩⟩)
      ·
        refine go_iload dX10_pour_51 rfl ?_
        refine go_bipush dX10_pour_53 rfl (by decide) ?_
        refine go_icmp_ge (tgt := 143) dX10_pour_55 rfl (fun h55 => ?_) (fun h55 => ?_)
        ·
          refine go_iload_n dX10_pour_143 rfl ?_
          exact go_ri dX10_pour_144 tyI ⟨Nat.le_refl _, Nat.le_refl _⟩ (⟨fun h => absurd hC h, fun _ => ⟨fun h => absurd h hno, fun _ => by rw [hres, show (min 6 (μ 92 sh) - i).toNat = 0 by omega]; exact ⟨rfl, rfl⟩⟩⟩)
        ·
          exact absurd h55 (by omega)
    | succ m ih =>
      intro i n g μ1 hm hv hC hno hn0 hn1 hres hm1
      subst hm1
      have hg6 : 6 * row + i = row * 6 + i := by omega
      refine go_iload dX10_pour_40 rfl ?_
      refine go_aload_n dX10_pour_42 rfl ?_
      refine go_getR dX10_pour_43 fl_X10_22 (by first | assumption | exact Nat.le_of_ble_eq_true rfl) (by first | assumption | rfl) rfl (by first | assumption | rfl) ?_
      refine go_iload_n dX10_pour_46 rfl ?_
      refine go_iaload dX10_pour_47 (by first | assumption | exact Nat.le_of_ble_eq_true rfl) (by first | assumption | rfl) (by omega) (by omega) ?_
      rw [ua_ne (by decide)]
      refine go_icmp_ge (tgt := 143) dX10_pour_48 rfl (fun h48 => ?_) (fun h48 => ?_)
      ·
        exact absurd h48 (by omega)
      ·
        refine go_iload dX10_pour_51 rfl ?_
        refine go_bipush dX10_pour_53 rfl (by decide) ?_
        refine go_icmp_ge (tgt := 143) dX10_pour_55 rfl (fun h55 => ?_) (fun h55 => ?_)
        ·
          exact absurd h55 (by omega)
        ·
          have hs := hS sh (by omega) (by omega)
          refine go_aload_n dX10_pour_58 rfl ?_
          refine go_getR dX10_pour_59 fl_X10_25 (by first | assumption | exact Nat.le_of_ble_eq_true rfl) (by first | assumption | rfl) rfl (by first | assumption | rfl) ?_
          refine go_bipush dX10_pour_62 rfl (by decide) ?_
          refine go_iload_n dX10_pour_64 rfl ?_
          refine go_imul dX10_pour_65 ⟨by omega, by omega⟩ ?_
          refine go_iload dX10_pour_66 rfl ?_
          refine go_iadd dX10_pour_68 ⟨by omega, by omega⟩ ?_
          refine go_iaload dX10_pour_69 (by first | assumption | exact Nat.le_of_ble_eq_true rfl) (by first | assumption | rfl) (by omega) (by omega) ?_
          rw [ua_ne (by decide)]
          refine go_istore dX10_pour_70 rfl ?_
          refine go_aload_n dX10_pour_72 rfl ?_
          refine go_bipush dX10_pour_73 rfl (by decide) ?_
          refine go_iload_n dX10_pour_75 rfl ?_
          refine go_imul dX10_pour_76 ⟨by omega, by omega⟩ ?_
          refine go_iload dX10_pour_77 rfl ?_
          refine go_iadd dX10_pour_79 ⟨by omega, by omega⟩ ?_
          refine go_iconst dX10_pour_80 rfl ?_
          refine go_vI (ci := 9) dX10_pour_81 (ct_X10_of _ _ (by omega) (by omega) (by omega) (by omega)) ml_X10_92 mc_X10_of mv_X10_of rfl (by first | assumption | exact Nat.le_of_ble_eq_true rfl) (by first | assumption | rfl) rfl ⟨rfl, rfl⟩ ⟨Nat.le_refl _, Nat.le_refl _⟩ rfl rfl rfl (fun x81 μ81 hc81 => ?_)
          rw [ua_same, hg6, ldF_at (by omega) (by omega)] at hc81
          obtain ⟨rfl, hm81⟩ := hc81
          rw [hm81]
          refine go_istore dX10_pour_84 rfl ?_
          refine go_iload dX10_pour_86 rfl ?_
          refine go_ldc dX10_pour_88 kc_X10_86 rfl ?_
          refine go_icmp_ne (tgt := 98) dX10_pour_90 rfl (fun h90 => ?_) (fun h90 => ?_)
          ·
            refine go_iload dX10_pour_98 rfl ?_
            refine go_sipush dX10_pour_100 rfl (by decide) ?_
            refine go_sI dX10_pour_103 (ct_X10_within _ _ (by omega)) ml_X10_103 mc_X10_within ms_X10_within ⟨rfl, rfl⟩ ⟨Nat.le_refl _, Nat.le_refl _⟩ rfl rfl rfl (fun x103 μ103 hc103 => ?_)
            obtain ⟨rfl, hm103⟩ := hc103
            rw [hm103]
            refine go_istore dX10_pour_106 rfl ?_
            refine go_aload_n dX10_pour_108 rfl ?_
            refine go_bipush dX10_pour_109 rfl (by decide) ?_
            refine go_iload_n dX10_pour_111 rfl ?_
            refine go_imul dX10_pour_112 ⟨by omega, by omega⟩ ?_
            refine go_iload dX10_pour_113 rfl ?_
            refine go_iadd dX10_pour_115 ⟨by omega, by omega⟩ ?_
            refine go_iconst dX10_pour_116 rfl ?_
            refine go_iload dX10_pour_117 rfl ?_
            refine go_vV (ci := 9) dX10_pour_119 (ct_X10_sets _ _ _ (by omega) (by omega) (by omega) (by omega)) ml_X10_127 mc_X10_sets mv_X10_sets rfl (by first | assumption | exact Nat.le_of_ble_eq_true rfl) (by first | assumption | rfl) rfl ⟨rfl, rfl⟩ ⟨Nat.le_refl _, Nat.le_refl _⟩ rfl rfl rfl (fun μ119 hc119 => ?_)
            subst hc119
            refine go_iload_n dX10_pour_122 rfl ?_
            refine go_iload dX10_pour_123 rfl ?_
            refine go_iload dX10_pour_125 rfl ?_
            refine go_icmp_ne (tgt := 134) dX10_pour_127 rfl (fun h127 => ?_) (fun h127 => ?_)
            ·
              refine go_iconst dX10_pour_134 rfl ?_
              refine go_iadd dX10_pour_135 ⟨by omega, by omega⟩ ?_
              refine go_istore_n dX10_pour_136 rfl ?_
              refine go_iinc dX10_pour_137 rfl rfl ⟨by omega, by omega⟩ ?_
              refine go_goto (tgt := 40) dX10_pour_140 rfl ?_
              refine go_drop (ih _ _ (uf g (row * 6 + i) (max 0 (min 999 (μ 93 (24 * sh + i))))) _ (by omega) (by omega) hC hno (by omega) (by omega) ?_ ?_) rfl
              · rw [hres, show (min 6 (μ 92 sh) - i).toNat = (min 6 (μ 92 sh) - (i + 1)).toNat + 1 by omega, prS_e (sr := (fun k => μ 93 (24 * sh + k))) (k := i) (v := max 0 (min 999 (μ 93 (24 * sh + i)))) (if_neg h90).symm, if_neg h127]
              · rw [ud_ua, hg6, ldF_uf (by omega) (by omega)]
            ·
              refine go_iconst dX10_pour_130 rfl ?_
              refine go_goto (tgt := 135) dX10_pour_131 rfl ?_
              refine go_iadd dX10_pour_135 ⟨by omega, by omega⟩ ?_
              refine go_istore_n dX10_pour_136 rfl ?_
              refine go_iinc dX10_pour_137 rfl rfl ⟨by omega, by omega⟩ ?_
              refine go_goto (tgt := 40) dX10_pour_140 rfl ?_
              refine go_drop (ih _ _ (uf g (row * 6 + i) (max 0 (min 999 (μ 93 (24 * sh + i))))) _ (by omega) (by omega) hC hno (by omega) (by omega) ?_ ?_) rfl
              · rw [hres, show (min 6 (μ 92 sh) - i).toNat = (min 6 (μ 92 sh) - (i + 1)).toNat + 1 by omega, prS_e (sr := (fun k => μ 93 (24 * sh + k))) (k := i) (v := max 0 (min 999 (μ 93 (24 * sh + i)))) (if_neg h90).symm, if_pos h127]
              · rw [ud_ua, hg6, ldF_uf (by omega) (by omega)]
          ·
            refine go_iload dX10_pour_93 rfl ?_
            refine go_goto (tgt := 106) dX10_pour_95 rfl ?_
            refine go_istore dX10_pour_106 rfl ?_
            refine go_aload_n dX10_pour_108 rfl ?_
            refine go_bipush dX10_pour_109 rfl (by decide) ?_
            refine go_iload_n dX10_pour_111 rfl ?_
            refine go_imul dX10_pour_112 ⟨by omega, by omega⟩ ?_
            refine go_iload dX10_pour_113 rfl ?_
            refine go_iadd dX10_pour_115 ⟨by omega, by omega⟩ ?_
            refine go_iconst dX10_pour_116 rfl ?_
            refine go_iload dX10_pour_117 rfl ?_
            refine go_vV (ci := 9) dX10_pour_119 (ct_X10_sets _ _ _ (by omega) (by omega) (by omega) (by omega)) ml_X10_127 mc_X10_sets mv_X10_sets rfl (by first | assumption | exact Nat.le_of_ble_eq_true rfl) (by first | assumption | rfl) rfl ⟨rfl, rfl⟩ ⟨Nat.le_refl _, Nat.le_refl _⟩ rfl rfl rfl (fun μ119 hc119 => ?_)
            subst hc119
            refine go_iload_n dX10_pour_122 rfl ?_
            refine go_iload dX10_pour_123 rfl ?_
            refine go_iload dX10_pour_125 rfl ?_
            refine go_icmp_ne (tgt := 134) dX10_pour_127 rfl (fun h127 => ?_) (fun h127 => ?_)
            ·
              refine go_iconst dX10_pour_134 rfl ?_
              refine go_iadd dX10_pour_135 ⟨by omega, by omega⟩ ?_
              refine go_istore_n dX10_pour_136 rfl ?_
              refine go_iinc dX10_pour_137 rfl rfl ⟨by omega, by omega⟩ ?_
              refine go_goto (tgt := 40) dX10_pour_140 rfl ?_
              refine go_drop (ih _ _ (uf g (row * 6 + i) (g (row * 6 + i))) _ (by omega) (by omega) hC hno (by omega) (by omega) ?_ ?_) rfl
              · rw [hres, show (min 6 (μ 92 sh) - i).toNat = (min 6 (μ 92 sh) - (i + 1)).toNat + 1 by omega, prS_e (sr := (fun k => μ 93 (24 * sh + k))) (k := i) (v := g (row * 6 + i)) (if_pos h90).symm, if_neg h127]
              · rw [ud_ua, hg6, ldF_uf (by omega) (by omega)]
            ·
              refine go_iconst dX10_pour_130 rfl ?_
              refine go_goto (tgt := 135) dX10_pour_131 rfl ?_
              refine go_iadd dX10_pour_135 ⟨by omega, by omega⟩ ?_
              refine go_istore_n dX10_pour_136 rfl ?_
              refine go_iinc dX10_pour_137 rfl rfl ⟨by omega, by omega⟩ ?_
              refine go_goto (tgt := 40) dX10_pour_140 rfl ?_
              refine go_drop (ih _ _ (uf g (row * 6 + i) (g (row * 6 + i))) _ (by omega) (by omega) hC hno (by omega) (by omega) ?_ ?_) rfl
              · rw [hres, show (min 6 (μ 92 sh) - i).toNat = (min 6 (μ 92 sh) - (i + 1)).toNat + 1 by omega, prS_e (sr := (fun k => μ 93 (24 * sh + k))) (k := i) (v := g (row * 6 + i)) (if_pos h90).symm, if_pos h127]
              · rw [ud_ua, hg6, ldF_uf (by omega) (by omega)]
  refine go_iload_n dX10_pour_0 rfl ?_
  refine go_sI dX10_pour_1 (ct_X10_isSheet _) ml_X10_323 mc_X10_isSheet ms_X10_isSheet ⟨rfl, rfl⟩ ⟨Nat.le_refl _, Nat.le_refl _⟩ rfl rfl rfl (fun x1 μ1 hc1 => ?_)
  obtain ⟨rfl, hm1⟩ := hc1
  rw [hm1]
  first | refine go_bz (tgt := 19) dX10_pour_4 rfl (fun h4 => ?_) (fun h4 => ?_) | refine go_if_eq (tgt := 19) dX10_pour_4 rfl (fun h4 => ?_) (fun h4 => ?_)
  ·
    refine go_ldc dX10_pour_19 kc_X10_126 rfl ?_
    exact go_ri dX10_pour_21 tyI ⟨Nat.le_refl _, Nat.le_refl _⟩ (⟨fun _ => ⟨rfl, rfl⟩, fun h => absurd h (by omega)⟩)
  ·
    refine go_iload_n dX10_pour_7 rfl ?_
    refine go_i2l dX10_pour_8 ?_
    refine go_lconst dX10_pour_9 ?_
    refine go_ldc2 dX10_pour_10 kl_X10_190 rfl ?_
    refine go_sI dX10_pour_13 (ct_X10_isIn _ _ _) ml_X10_87 mc_X10_isIn ms_X10_isIn ⟨rfl, rfl⟩ ⟨Nat.le_refl _, Nat.le_refl _⟩ rfl rfl rfl (fun x13 μ13 hc13 => ?_)
    obtain ⟨rfl, hm13⟩ := hc13
    rw [hm13]
    first | refine go_bnz (tgt := 22) dX10_pour_16 rfl (fun h16 => ?_) (fun h16 => ?_) | refine go_if_ne (tgt := 22) dX10_pour_16 rfl (fun h16 => ?_) (fun h16 => ?_)
    ·
      have hs := hS sh (by omega) (by omega)
      refine go_aload_n dX10_pour_22 rfl ?_
      refine go_getR dX10_pour_23 fl_X10_19 (by first | assumption | exact Nat.le_of_ble_eq_true rfl) (by first | assumption | rfl) rfl (by first | assumption | rfl) ?_
      refine go_iload_n dX10_pour_26 rfl ?_
      refine go_iaload dX10_pour_27 (by first | assumption | exact Nat.le_of_ble_eq_true rfl) (by first | assumption | rfl) (by omega) (by omega) ?_
      try simp (disch := omega) only [ua_same, ua_ne, uf_same, uf_ne]
      refine go_if_ge (tgt := 35) dX10_pour_28 rfl (fun h28 => ?_) (fun h28 => ?_)
      ·
        refine go_iconst dX10_pour_35 rfl ?_
        refine go_istore_n dX10_pour_36 rfl ?_
        refine go_iconst dX10_pour_37 rfl ?_
        refine go_istore dX10_pour_38 rfl ?_
        exact go_drop (loop (min 6 (μ 92 sh)).toNat 0 0 (vm (μ 88) 35) μ (by omega) (by omega) (by omega) (by omega) (by omega) (by omega) (by rw [Int.sub_zero]) (by rw [ldF_self, ua_id])) rfl
      ·
        refine go_ldcw dX10_pour_31 kc_X10_329 rfl ?_
        exact go_ri dX10_pour_34 tyI ⟨Nat.le_refl _, Nat.le_refl _⟩ (⟨fun h => absurd (by omega) h, fun _ => ⟨fun _ => ⟨rfl, rfl⟩, fun h => absurd h (by omega)⟩⟩)
    ·
      refine go_ldc dX10_pour_19 kc_X10_126 rfl ?_
      exact go_ri dX10_pour_21 tyI ⟨Nat.le_refl _, Nat.le_refl _⟩ (⟨fun _ => ⟨rfl, rfl⟩, fun h => absurd h (by omega)⟩)

set_option maxRecDepth 100000 in
set_option maxHeartbeats 4000000 in
theorem ct_X10_copy {l : Launch} {D : va_G} {cA : Nat → ClassId} {μ : Mem} (hS : shM μ) (fr pl to at_ many : Int) (hr1 : iR pl) (hr2 : iR at_) (hr3 : iR many) : CtN l D cA yX10_copy cX10_copy 7 (some .int) 3 [vr 87, vi fr, vi pl, vi to, vi at_, vi many] μ (Pi (fun x μ' => (¬ ((0 ≤ fr ∧ fr ≤ 3) ∧ 0 ≤ to ∧ to ≤ 3) → x = -1000000001 ∧ μ' = μ) ∧ (((0 ≤ fr ∧ fr ≤ 3) ∧ 0 ≤ to ∧ to ≤ 3) → ((μ 91 fr = -1 ∨ μ 91 to = -1) → x = -1000000011 ∧ μ' = μ) ∧ (¬ (μ 91 fr = -1 ∨ μ 91 to = -1) → (μ 91 fr ≠ μ 91 to → x = -1000000012 ∧ μ' = μ) ∧ (μ 91 fr = μ 91 to → (¬ ((0 ≤ many ∧ (0 ≤ pl ∧ pl ≤ μ 92 fr) ∧ many ≤ μ 92 fr - pl) ∧ 0 ≤ many ∧ (0 ≤ at_ ∧ at_ ≤ μ 92 to) ∧ many ≤ μ 92 to - at_) → x = -1000000013 ∧ μ' = μ) ∧ (((0 ≤ many ∧ (0 ≤ pl ∧ pl ≤ μ 92 fr) ∧ many ≤ μ 92 fr - pl) ∧ 0 ≤ many ∧ (0 ≤ at_ ∧ at_ ≤ μ 92 to) ∧ many ≤ μ 92 to - at_) → x = many ∧ μ' 93 = cpI (μ 93) (μ 93) (24 * fr + pl) (24 * to + at_) many ∧ ∀ q, q ≠ 93 → q ≠ 110 → μ' q = μ q)))))) := by
  refine Ct.of (own := RX10) (by decide +kernel) rfl (fun σ => Nat.le_of_ble_eq_true rfl) (fun hM hP ha => ?_)
  obtain ⟨m87, r88, s88, r89, s89, r90, s90, r91, s91, r92, s92, r93, s93, r94, s94, r95, s95, r96, s96, r97, s97, r98, s98, r99, s99, r100, s100, r101, s101, r102, s102, r103, s103, r104, s104, r105, s105, r106, s106, r107, s107, r108, s108, r109, s109, r110, s110, r111, s111, r112, s112⟩ := md_f
  have lpB : ∀ (m : Nat) (i : Int) (μ1 : Mem), many - i = (m : Nat) → 0 ≤ i → ((0 ≤ fr ∧ fr ≤ 3) ∧ 0 ≤ to ∧ to ≤ 3) → (¬ (μ 91 fr = -1 ∨ μ 91 to = -1)) → (μ 91 fr = μ 91 to) → ((0 ≤ many ∧ (0 ≤ pl ∧ pl ≤ μ 92 fr) ∧ many ≤ μ 92 fr - pl) ∧ 0 ≤ many ∧ (0 ≤ at_ ∧ at_ ≤ μ 92 to) ∧ many ≤ μ 92 to - at_) → (∀ k, 0 ≤ k → k < many → μ1 110 k = μ 93 (24 * fr + pl + k)) → (μ1 93 = cpI (μ 93) (μ 93) (24 * fr + pl) (24 * to + at_) i) → (∀ q, q ≠ 93 → q ≠ 110 → μ1 q = μ q) → Go l D cA none RX10 cX10_copy 7 (some .int) (3, 0, 0) (QN (Pi (fun x μ' => (¬ ((0 ≤ fr ∧ fr ≤ 3) ∧ 0 ≤ to ∧ to ≤ 3) → x = -1000000001 ∧ μ' = μ) ∧ (((0 ≤ fr ∧ fr ≤ 3) ∧ 0 ≤ to ∧ to ≤ 3) → ((μ 91 fr = -1 ∨ μ 91 to = -1) → x = -1000000011 ∧ μ' = μ) ∧ (¬ (μ 91 fr = -1 ∨ μ 91 to = -1) → (μ 91 fr ≠ μ 91 to → x = -1000000012 ∧ μ' = μ) ∧ (μ 91 fr = μ 91 to → (¬ ((0 ≤ many ∧ (0 ≤ pl ∧ pl ≤ μ 92 fr) ∧ many ≤ μ 92 fr - pl) ∧ 0 ≤ many ∧ (0 ≤ at_ ∧ at_ ≤ μ 92 to) ∧ many ≤ μ 92 to - at_) → x = -1000000013 ∧ μ' = μ) ∧ (((0 ≤ many ∧ (0 ≤ pl ∧ pl ≤ μ 92 fr) ∧ many ≤ μ 92 fr - pl) ∧ 0 ≤ many ∧ (0 ≤ at_ ∧ at_ ≤ μ 92 to) ∧ many ≤ μ 92 to - at_) → x = many ∧ μ' 93 = cpI (μ 93) (μ 93) (24 * fr + pl) (24 * to + at_) many ∧ ∀ q, q ≠ 93 → q ≠ 110 → μ' q = μ q))))))) 113 ρ0 0 0 150 [(0, vr 87), (1, vi fr), (2, vi pl), (3, vi to), (4, vi at_), (5, vi many), (6, vi i)] [] μ1 := by
    intro m
    induction m with
    | zero =>
      intro i μ1 hm hv hC hN hE hX h110 h93 hf
      refine go_iload dX10_copy_150 rfl ?_
      refine go_iload dX10_copy_152 rfl ?_
      refine go_icmp_ge (tgt := 185) dX10_copy_154 rfl (fun h154 => ?_) (fun h154 => ?_)
      ·
        refine go_iload dX10_copy_185 rfl ?_
        exact go_ri dX10_copy_187 tyI ⟨Nat.le_refl _, Nat.le_refl _⟩ (⟨fun h => absurd hC h, fun _ => ⟨fun h => absurd h hN, fun _ => ⟨fun h => absurd hE h, fun _ => ⟨fun h => absurd hX h, fun _ => ⟨rfl, by rw [h93, show i = many by omega], hf⟩⟩⟩⟩⟩)
      ·
        exact absurd h154 (by omega)
    | succ m ih =>
      intro i μ1 hm hv hC hN hE hX h110 h93 hf
      refine go_iload dX10_copy_150 rfl ?_
      refine go_iload dX10_copy_152 rfl ?_
      refine go_icmp_ge (tgt := 185) dX10_copy_154 rfl (fun h154 => ?_) (fun h154 => ?_)
      ·
        exact absurd h154 (by omega)
      ·
        have hs2 := hS to (by omega) (by omega)
        refine go_aload_n dX10_copy_157 rfl ?_
        refine go_getR dX10_copy_158 fl_X10_25 (by first | assumption | exact Nat.le_of_ble_eq_true rfl) (by first | assumption | rfl) rfl (by first | assumption | rfl) ?_
        refine go_bipush dX10_copy_161 rfl (by decide) ?_
        refine go_iload_n dX10_copy_163 rfl ?_
        refine go_imul dX10_copy_164 ⟨by omega, by omega⟩ ?_
        refine go_iload dX10_copy_165 rfl ?_
        refine go_iadd dX10_copy_167 ⟨by omega, by omega⟩ ?_
        refine go_iload dX10_copy_168 rfl ?_
        refine go_iadd dX10_copy_170 ⟨by omega, by omega⟩ ?_
        refine go_aload_n dX10_copy_171 rfl ?_
        refine go_getR dX10_copy_172 fl_X10_77 (by first | assumption | exact Nat.le_of_ble_eq_true rfl) (by first | assumption | rfl) rfl (by first | assumption | rfl) ?_
        refine go_iload dX10_copy_175 rfl ?_
        refine go_iaload dX10_copy_177 (by first | assumption | exact Nat.le_of_ble_eq_true rfl) (by first | assumption | rfl) (by omega) (by omega) ?_
        rw [h110 i hv (by omega)]
        refine go_iastore dX10_copy_178 (by first | assumption | exact Nat.le_of_ble_eq_true rfl) (by first | assumption | rfl) (by omega) (by omega) ?_
        refine go_iinc dX10_copy_179 rfl rfl ⟨by omega, by omega⟩ ?_
        refine go_goto (tgt := 150) dX10_copy_182 rfl ?_
        refine go_drop (ih _ _ (by omega) (by omega) hC hN hE hX ?_ ?_ ?_) rfl
        · intro k k0 k1; rw [ud_n (by decide)]; exact h110 k k0 k1
        · rw [ud_s, h93]
          funext j
          unfold uf cpI
          by_cases e : j = 24 * to + at_ + i
          · rw [if_pos e, if_pos (by omega), show 24 * fr + pl + (j - (24 * to + at_)) = 24 * fr + pl + i by omega]
          · rw [if_neg e]
            by_cases e2 : 24 * to + at_ ≤ j ∧ j < 24 * to + at_ + i
            · rw [if_pos e2, if_pos (by omega)]
            · rw [if_neg e2, if_neg (by omega)]
        · intro q b c; rw [ud_n b]; exact hf q b c
  have lpA : ∀ (m : Nat) (i : Int) (μ1 : Mem), many - i = (m : Nat) → 0 ≤ i → ((0 ≤ fr ∧ fr ≤ 3) ∧ 0 ≤ to ∧ to ≤ 3) → (¬ (μ 91 fr = -1 ∨ μ 91 to = -1)) → (μ 91 fr = μ 91 to) → ((0 ≤ many ∧ (0 ≤ pl ∧ pl ≤ μ 92 fr) ∧ many ≤ μ 92 fr - pl) ∧ 0 ≤ many ∧ (0 ≤ at_ ∧ at_ ≤ μ 92 to) ∧ many ≤ μ 92 to - at_) → (∀ k, 0 ≤ k → k < i → μ1 110 k = μ 93 (24 * fr + pl + k)) → (∀ q, q ≠ 110 → μ1 q = μ q) → Go l D cA none RX10 cX10_copy 7 (some .int) (3, 0, 0) (QN (Pi (fun x μ' => (¬ ((0 ≤ fr ∧ fr ≤ 3) ∧ 0 ≤ to ∧ to ≤ 3) → x = -1000000001 ∧ μ' = μ) ∧ (((0 ≤ fr ∧ fr ≤ 3) ∧ 0 ≤ to ∧ to ≤ 3) → ((μ 91 fr = -1 ∨ μ 91 to = -1) → x = -1000000011 ∧ μ' = μ) ∧ (¬ (μ 91 fr = -1 ∨ μ 91 to = -1) → (μ 91 fr ≠ μ 91 to → x = -1000000012 ∧ μ' = μ) ∧ (μ 91 fr = μ 91 to → (¬ ((0 ≤ many ∧ (0 ≤ pl ∧ pl ≤ μ 92 fr) ∧ many ≤ μ 92 fr - pl) ∧ 0 ≤ many ∧ (0 ≤ at_ ∧ at_ ≤ μ 92 to) ∧ many ≤ μ 92 to - at_) → x = -1000000013 ∧ μ' = μ) ∧ (((0 ≤ many ∧ (0 ≤ pl ∧ pl ≤ μ 92 fr) ∧ many ≤ μ 92 fr - pl) ∧ 0 ≤ many ∧ (0 ≤ at_ ∧ at_ ≤ μ 92 to) ∧ many ≤ μ 92 to - at_) → x = many ∧ μ' 93 = cpI (μ 93) (μ 93) (24 * fr + pl) (24 * to + at_) many ∧ ∀ q, q ≠ 93 → q ≠ 110 → μ' q = μ q))))))) 113 ρ0 0 0 113 [(0, vr 87), (1, vi fr), (2, vi pl), (3, vi to), (4, vi at_), (5, vi many), (6, vi i)] [] μ1 := by
    intro m
    induction m with
    | zero =>
      intro i μ1 hm hv hC hN hE hX h110 hf
      refine go_iload dX10_copy_113 rfl ?_
      refine go_iload dX10_copy_115 rfl ?_
      refine go_icmp_ge (tgt := 147) dX10_copy_117 rfl (fun h117 => ?_) (fun h117 => ?_)
      ·
        refine go_iconst dX10_copy_147 rfl ?_
        refine go_istore dX10_copy_148 rfl ?_
        refine go_drop (lpB many.toNat 0 μ1 (by omega) (by omega) hC hN hE hX (fun k k0 k1 => h110 k k0 (by omega)) ?_ (fun q _ c => hf q c)) rfl
        rw [hf 93 (by decide)]
        funext j
        exact (if_neg (by omega)).symm
      ·
        exact absurd h117 (by omega)
    | succ m ih =>
      intro i μ1 hm hv hC hN hE hX h110 hf
      refine go_iload dX10_copy_113 rfl ?_
      refine go_iload dX10_copy_115 rfl ?_
      refine go_icmp_ge (tgt := 147) dX10_copy_117 rfl (fun h117 => ?_) (fun h117 => ?_)
      ·
        exact absurd h117 (by omega)
      ·
        have hs1 := hS fr (by omega) (by omega)
        refine go_aload_n dX10_copy_120 rfl ?_
        refine go_getR dX10_copy_121 fl_X10_77 (by first | assumption | exact Nat.le_of_ble_eq_true rfl) (by first | assumption | rfl) rfl (by first | assumption | rfl) ?_
        refine go_iload dX10_copy_124 rfl ?_
        refine go_aload_n dX10_copy_126 rfl ?_
        refine go_getR dX10_copy_127 fl_X10_25 (by first | assumption | exact Nat.le_of_ble_eq_true rfl) (by first | assumption | rfl) rfl (by first | assumption | rfl) ?_
        refine go_bipush dX10_copy_130 rfl (by decide) ?_
        refine go_iload_n dX10_copy_132 rfl ?_
        refine go_imul dX10_copy_133 ⟨by omega, by omega⟩ ?_
        refine go_iload_n dX10_copy_134 rfl ?_
        refine go_iadd dX10_copy_135 ⟨by omega, by omega⟩ ?_
        refine go_iload dX10_copy_136 rfl ?_
        refine go_iadd dX10_copy_138 ⟨by omega, by omega⟩ ?_
        refine go_iaload dX10_copy_139 (by first | assumption | exact Nat.le_of_ble_eq_true rfl) (by first | assumption | rfl) (by omega) (by omega) ?_
        rw [hf 93 (by decide)]
        refine go_iastore dX10_copy_140 (by first | assumption | exact Nat.le_of_ble_eq_true rfl) (by first | assumption | rfl) (by omega) (by omega) ?_
        refine go_iinc dX10_copy_141 rfl rfl ⟨by omega, by omega⟩ ?_
        refine go_goto (tgt := 113) dX10_copy_144 rfl ?_
        refine go_drop (ih _ _ (by omega) (by omega) hC hN hE hX ?_ ?_) rfl
        · intro k k0 k1
          rw [ud_s]
          by_cases e : k = i
          · rw [e, uf_same]
          · rw [uf_ne e]; exact h110 k k0 (by omega)
        · intro q c; rw [ud_n c]; exact hf q c
  refine go_iload_n dX10_copy_0 rfl ?_
  refine go_sI dX10_copy_1 (ct_X10_isSheet _) ml_X10_323 mc_X10_isSheet ms_X10_isSheet ⟨rfl, rfl⟩ ⟨Nat.le_refl _, Nat.le_refl _⟩ rfl rfl rfl (fun x1 μ1 hc1 => ?_)
  obtain ⟨rfl, hm1⟩ := hc1
  rw [hm1]
  first | refine go_bz (tgt := 14) dX10_copy_4 rfl (fun h4 => ?_) (fun h4 => ?_) | refine go_if_eq (tgt := 14) dX10_copy_4 rfl (fun h4 => ?_) (fun h4 => ?_)
  ·
    refine go_ldc dX10_copy_14 kc_X10_126 rfl ?_
    exact go_ri dX10_copy_16 tyI ⟨Nat.le_refl _, Nat.le_refl _⟩ (⟨fun _ => ⟨rfl, rfl⟩, fun h => absurd h (by omega)⟩)
  ·
    refine go_iload_n dX10_copy_7 rfl ?_
    refine go_sI dX10_copy_8 (ct_X10_isSheet _) ml_X10_323 mc_X10_isSheet ms_X10_isSheet ⟨rfl, rfl⟩ ⟨Nat.le_refl _, Nat.le_refl _⟩ rfl rfl rfl (fun x8 μ8 hc8 => ?_)
    obtain ⟨rfl, hm8⟩ := hc8
    rw [hm8]
    first | refine go_bnz (tgt := 17) dX10_copy_11 rfl (fun h11 => ?_) (fun h11 => ?_) | refine go_if_ne (tgt := 17) dX10_copy_11 rfl (fun h11 => ?_) (fun h11 => ?_)
    ·
      have hs1 := hS fr (by omega) (by omega)
      have hs2 := hS to (by omega) (by omega)
      refine go_aload_n dX10_copy_17 rfl ?_
      refine go_getR dX10_copy_18 fl_X10_19 (by first | assumption | exact Nat.le_of_ble_eq_true rfl) (by first | assumption | rfl) rfl (by first | assumption | rfl) ?_
      refine go_iload_n dX10_copy_21 rfl ?_
      refine go_iaload dX10_copy_22 (by first | assumption | exact Nat.le_of_ble_eq_true rfl) (by first | assumption | rfl) (by omega) (by omega) ?_
      try simp (disch := omega) only [ua_same, ua_ne, uf_same, uf_ne]
      refine go_if_lt (tgt := 35) dX10_copy_23 rfl (fun h23 => ?_) (fun h23 => ?_)
      ·
        refine go_ldcw dX10_copy_35 kc_X10_329 rfl ?_
        exact go_ri dX10_copy_38 tyI ⟨Nat.le_refl _, Nat.le_refl _⟩ (⟨fun h => absurd (by omega) h, fun _ => ⟨fun _ => ⟨rfl, rfl⟩, fun h => absurd (by omega) h⟩⟩)
      ·
        refine go_aload_n dX10_copy_26 rfl ?_
        refine go_getR dX10_copy_27 fl_X10_19 (by first | assumption | exact Nat.le_of_ble_eq_true rfl) (by first | assumption | rfl) rfl (by first | assumption | rfl) ?_
        refine go_iload_n dX10_copy_30 rfl ?_
        refine go_iaload dX10_copy_31 (by first | assumption | exact Nat.le_of_ble_eq_true rfl) (by first | assumption | rfl) (by omega) (by omega) ?_
        try simp (disch := omega) only [ua_same, ua_ne, uf_same, uf_ne]
        refine go_if_ge (tgt := 39) dX10_copy_32 rfl (fun h32 => ?_) (fun h32 => ?_)
        ·
          refine go_aload_n dX10_copy_39 rfl ?_
          refine go_getR dX10_copy_40 fl_X10_19 (by first | assumption | exact Nat.le_of_ble_eq_true rfl) (by first | assumption | rfl) rfl (by first | assumption | rfl) ?_
          refine go_iload_n dX10_copy_43 rfl ?_
          refine go_iaload dX10_copy_44 (by first | assumption | exact Nat.le_of_ble_eq_true rfl) (by first | assumption | rfl) (by omega) (by omega) ?_
          try simp (disch := omega) only [ua_same, ua_ne, uf_same, uf_ne]
          refine go_aload_n dX10_copy_45 rfl ?_
          refine go_getR dX10_copy_46 fl_X10_19 (by first | assumption | exact Nat.le_of_ble_eq_true rfl) (by first | assumption | rfl) rfl (by first | assumption | rfl) ?_
          refine go_iload_n dX10_copy_49 rfl ?_
          refine go_iaload dX10_copy_50 (by first | assumption | exact Nat.le_of_ble_eq_true rfl) (by first | assumption | rfl) (by omega) (by omega) ?_
          try simp (disch := omega) only [ua_same, ua_ne, uf_same, uf_ne]
          refine go_icmp_eq (tgt := 57) dX10_copy_51 rfl (fun h51 => ?_) (fun h51 => ?_)
          ·
            refine go_iload_n dX10_copy_57 rfl ?_
            refine go_if_lt (tgt := 106) dX10_copy_58 rfl (fun h58 => ?_) (fun h58 => ?_)
            ·
              refine go_ldcw dX10_copy_106 kc_X10_330 rfl ?_
              exact go_ri dX10_copy_109 tyI ⟨Nat.le_refl _, Nat.le_refl _⟩ (⟨fun h => absurd (by omega) h, fun _ => ⟨fun h => absurd h (by omega), fun _ => ⟨fun h => absurd h51 h, fun _ => ⟨fun _ => ⟨rfl, rfl⟩, fun h => absurd h (by omega)⟩⟩⟩⟩)
            ·
              refine go_iload dX10_copy_61 rfl ?_
              refine go_if_lt (tgt := 106) dX10_copy_63 rfl (fun h63 => ?_) (fun h63 => ?_)
              ·
                refine go_ldcw dX10_copy_106 kc_X10_330 rfl ?_
                exact go_ri dX10_copy_109 tyI ⟨Nat.le_refl _, Nat.le_refl _⟩ (⟨fun h => absurd (by omega) h, fun _ => ⟨fun h => absurd h (by omega), fun _ => ⟨fun h => absurd h51 h, fun _ => ⟨fun _ => ⟨rfl, rfl⟩, fun h => absurd h (by omega)⟩⟩⟩⟩)
              ·
                refine go_iload dX10_copy_66 rfl ?_
                refine go_if_lt (tgt := 106) dX10_copy_68 rfl (fun h68 => ?_) (fun h68 => ?_)
                ·
                  refine go_ldcw dX10_copy_106 kc_X10_330 rfl ?_
                  exact go_ri dX10_copy_109 tyI ⟨Nat.le_refl _, Nat.le_refl _⟩ (⟨fun h => absurd (by omega) h, fun _ => ⟨fun h => absurd h (by omega), fun _ => ⟨fun h => absurd h51 h, fun _ => ⟨fun _ => ⟨rfl, rfl⟩, fun h => absurd h (by omega)⟩⟩⟩⟩)
                ·
                  refine go_iload_n dX10_copy_71 rfl ?_
                  refine go_i2l dX10_copy_72 ?_
                  refine go_iload dX10_copy_73 rfl ?_
                  refine go_i2l dX10_copy_75 ?_
                  refine go_ladd dX10_copy_76 ⟨by omega, by omega⟩ ?_
                  refine go_aload_n dX10_copy_77 rfl ?_
                  refine go_getR dX10_copy_78 fl_X10_22 (by first | assumption | exact Nat.le_of_ble_eq_true rfl) (by first | assumption | rfl) rfl (by first | assumption | rfl) ?_
                  refine go_iload_n dX10_copy_81 rfl ?_
                  refine go_iaload dX10_copy_82 (by first | assumption | exact Nat.le_of_ble_eq_true rfl) (by first | assumption | rfl) (by omega) (by omega) ?_
                  try simp (disch := omega) only [ua_same, ua_ne, uf_same, uf_ne]
                  refine go_i2l dX10_copy_83 ?_
                  refine go_lcmp dX10_copy_84 ?_
                  refine go_if_gt (tgt := 106) dX10_copy_85 rfl (fun h85 => ?_) (fun h85 => ?_)
                  ·
                    rw [lcI_gt] at h85
                    refine go_ldcw dX10_copy_106 kc_X10_330 rfl ?_
                    exact go_ri dX10_copy_109 tyI ⟨Nat.le_refl _, Nat.le_refl _⟩ (⟨fun h => absurd (by omega) h, fun _ => ⟨fun h => absurd h (by omega), fun _ => ⟨fun h => absurd h51 h, fun _ => ⟨fun _ => ⟨rfl, rfl⟩, fun h => absurd h (by omega)⟩⟩⟩⟩)
                  ·
                    rw [lcI_gt] at h85
                    refine go_iload dX10_copy_88 rfl ?_
                    refine go_i2l dX10_copy_90 ?_
                    refine go_iload dX10_copy_91 rfl ?_
                    refine go_i2l dX10_copy_93 ?_
                    refine go_ladd dX10_copy_94 ⟨by omega, by omega⟩ ?_
                    refine go_aload_n dX10_copy_95 rfl ?_
                    refine go_getR dX10_copy_96 fl_X10_22 (by first | assumption | exact Nat.le_of_ble_eq_true rfl) (by first | assumption | rfl) rfl (by first | assumption | rfl) ?_
                    refine go_iload_n dX10_copy_99 rfl ?_
                    refine go_iaload dX10_copy_100 (by first | assumption | exact Nat.le_of_ble_eq_true rfl) (by first | assumption | rfl) (by omega) (by omega) ?_
                    try simp (disch := omega) only [ua_same, ua_ne, uf_same, uf_ne]
                    refine go_i2l dX10_copy_101 ?_
                    refine go_lcmp dX10_copy_102 ?_
                    refine go_if_le (tgt := 110) dX10_copy_103 rfl (fun h103 => ?_) (fun h103 => ?_)
                    ·
                      rw [lcI_le] at h103
                      refine go_iconst dX10_copy_110 rfl ?_
                      refine go_istore dX10_copy_111 rfl ?_
                      exact go_drop (lpA many.toNat 0 μ (by omega) (by omega) (by omega) (by omega) h51 (by omega) (fun k k0 k1 => absurd k1 (by omega)) (fun _ _ => rfl)) rfl
                    ·
                      rw [lcI_le] at h103
                      refine go_ldcw dX10_copy_106 kc_X10_330 rfl ?_
                      exact go_ri dX10_copy_109 tyI ⟨Nat.le_refl _, Nat.le_refl _⟩ (⟨fun h => absurd (by omega) h, fun _ => ⟨fun h => absurd h (by omega), fun _ => ⟨fun h => absurd h51 h, fun _ => ⟨fun _ => ⟨rfl, rfl⟩, fun h => absurd h (by omega)⟩⟩⟩⟩)
          ·
            refine go_ldc dX10_copy_54 kc_X10_144 rfl ?_
            exact go_ri dX10_copy_56 tyI ⟨Nat.le_refl _, Nat.le_refl _⟩ (⟨fun h => absurd (by omega) h, fun _ => ⟨fun h => absurd h (by omega), fun _ => ⟨fun _ => ⟨rfl, rfl⟩, fun h => absurd h h51⟩⟩⟩)
        ·
          refine go_ldcw dX10_copy_35 kc_X10_329 rfl ?_
          exact go_ri dX10_copy_38 tyI ⟨Nat.le_refl _, Nat.le_refl _⟩ (⟨fun h => absurd (by omega) h, fun _ => ⟨fun _ => ⟨rfl, rfl⟩, fun h => absurd (by omega) h⟩⟩)
    ·
      refine go_ldc dX10_copy_14 kc_X10_126 rfl ?_
      exact go_ri dX10_copy_16 tyI ⟨Nat.le_refl _, Nat.le_refl _⟩ (⟨fun _ => ⟨rfl, rfl⟩, fun h => absurd h (by omega)⟩)

set_option maxRecDepth 100000 in
set_option maxHeartbeats 4000000 in
theorem ct_X10_ask {l : Launch} {D : va_G} {cA : Nat → ClassId} {μ : Mem} (sl kind : Int) : CtN l D cA yX10_ask cX10_ask 3 (some .int) 3 [vr 87, vi sl, vi kind] μ (Pi (fun x μ' => x = (if (0 ≤ sl ∧ sl ≤ 4) ∧ 0 ≤ kind ∧ kind ≤ 5 then (if μ 94 sl = 0 then -1000000011 else if μ 94 sl = 1 ∧ isUb (μ 95 sl) kind = true then μ 96 sl else -1000000012) else -1000000001) ∧ μ' = μ)) := by
  refine Ct.of (own := RX10) (by decide +kernel) rfl (fun σ => Nat.le_of_ble_eq_true rfl) (fun hM hP ha => ?_)
  obtain ⟨m87, r88, s88, r89, s89, r90, s90, r91, s91, r92, s92, r93, s93, r94, s94, r95, s95, r96, s96, r97, s97, r98, s98, r99, s99, r100, s100, r101, s101, r102, s102, r103, s103, r104, s104, r105, s105, r106, s106, r107, s107, r108, s108, r109, s109, r110, s110, r111, s111, r112, s112⟩ := md_f
  refine go_iload_n dX10_ask_0 rfl ?_
  refine go_sI dX10_ask_1 (ct_X10_isSlot _) ml_X10_333 mc_X10_isSlot ms_X10_isSlot ⟨rfl, rfl⟩ ⟨Nat.le_refl _, Nat.le_refl _⟩ rfl rfl rfl (fun x1 μ1 hc1 => ?_)
  obtain ⟨rfl, hm1⟩ := hc1
  rw [hm1]
  first | refine go_bz (tgt := 19) dX10_ask_4 rfl (fun h4 => ?_) (fun h4 => ?_) | refine go_if_eq (tgt := 19) dX10_ask_4 rfl (fun h4 => ?_) (fun h4 => ?_)
  ·
    refine go_ldc dX10_ask_19 kc_X10_126 rfl ?_
    exact go_ri dX10_ask_21 tyI ⟨Nat.le_refl _, Nat.le_refl _⟩ (⟨by rw [if_neg (by omega)], rfl⟩)
  ·
    refine go_iload_n dX10_ask_7 rfl ?_
    refine go_i2l dX10_ask_8 ?_
    refine go_lconst dX10_ask_9 ?_
    refine go_ldc2 dX10_ask_10 kl_X10_120 rfl ?_
    refine go_sI dX10_ask_13 (ct_X10_isIn _ _ _) ml_X10_87 mc_X10_isIn ms_X10_isIn ⟨rfl, rfl⟩ ⟨Nat.le_refl _, Nat.le_refl _⟩ rfl rfl rfl (fun x13 μ13 hc13 => ?_)
    obtain ⟨rfl, hm13⟩ := hc13
    rw [hm13]
    first | refine go_bnz (tgt := 22) dX10_ask_16 rfl (fun h16 => ?_) (fun h16 => ?_) | refine go_if_ne (tgt := 22) dX10_ask_16 rfl (fun h16 => ?_) (fun h16 => ?_)
    ·
      refine go_aload_n dX10_ask_22 rfl ?_
      refine go_getR dX10_ask_23 fl_X10_28 (by first | assumption | exact Nat.le_of_ble_eq_true rfl) (by first | assumption | rfl) rfl (by first | assumption | rfl) ?_
      refine go_iload_n dX10_ask_26 rfl ?_
      refine go_iaload dX10_ask_27 (by first | assumption | exact Nat.le_of_ble_eq_true rfl) (by first | assumption | rfl) (by omega) (by omega) ?_
      try simp (disch := omega) only [ua_same, ua_ne, uf_same, uf_ne]
      first | refine go_bnz (tgt := 35) dX10_ask_28 rfl (fun h28 => ?_) (fun h28 => ?_) | refine go_if_ne (tgt := 35) dX10_ask_28 rfl (fun h28 => ?_) (fun h28 => ?_)
      ·
        refine go_aload_n dX10_ask_35 rfl ?_
        refine go_getR dX10_ask_36 fl_X10_28 (by first | assumption | exact Nat.le_of_ble_eq_true rfl) (by first | assumption | rfl) rfl (by first | assumption | rfl) ?_
        refine go_iload_n dX10_ask_39 rfl ?_
        refine go_iaload dX10_ask_40 (by first | assumption | exact Nat.le_of_ble_eq_true rfl) (by first | assumption | rfl) (by omega) (by omega) ?_
        try simp (disch := omega) only [ua_same, ua_ne, uf_same, uf_ne]
        refine go_iconst dX10_ask_41 rfl ?_
        refine go_icmp_ne (tgt := 67) dX10_ask_42 rfl (fun h42 => ?_) (fun h42 => ?_)
        ·
          refine go_ldc dX10_ask_67 kc_X10_144 rfl ?_
          exact go_ri dX10_ask_69 tyI ⟨Nat.le_refl _, Nat.le_refl _⟩ (⟨by rw [if_pos (by omega), if_neg (by omega), if_neg (fun h => h42 h.1)], rfl⟩)
        ·
          refine go_aload_n dX10_ask_45 rfl ?_
          refine go_getR dX10_ask_46 fl_X10_31 (by first | assumption | exact Nat.le_of_ble_eq_true rfl) (by first | assumption | rfl) rfl (by first | assumption | rfl) ?_
          refine go_iload_n dX10_ask_49 rfl ?_
          refine go_iaload dX10_ask_50 (by first | assumption | exact Nat.le_of_ble_eq_true rfl) (by first | assumption | rfl) (by omega) (by omega) ?_
          try simp (disch := omega) only [ua_same, ua_ne, uf_same, uf_ne]
          refine go_iload_n dX10_ask_51 rfl ?_
          refine go_sI dX10_ask_52 (ct_X10_isOf _ _) ml_X10_140 mc_X10_isOf ms_X10_isOf ⟨rfl, rfl⟩ ⟨Nat.le_refl _, Nat.le_refl _⟩ rfl rfl rfl (fun x52 μ52 hc52 => ?_)
          obtain ⟨rfl, hm52⟩ := hc52
          rw [hm52]
          first | refine go_bz (tgt := 67) dX10_ask_55 rfl (fun h55 => ?_) (fun h55 => ?_) | refine go_if_eq (tgt := 67) dX10_ask_55 rfl (fun h55 => ?_) (fun h55 => ?_)
          ·
            refine go_ldc dX10_ask_67 kc_X10_144 rfl ?_
            exact go_ri dX10_ask_69 tyI ⟨Nat.le_refl _, Nat.le_refl _⟩ (⟨by rw [if_pos (by omega), if_neg (by omega), if_neg (fun h => h55 h.2)], rfl⟩)
          ·
            refine go_aload_n dX10_ask_58 rfl ?_
            refine go_getR dX10_ask_59 fl_X10_34 (by first | assumption | exact Nat.le_of_ble_eq_true rfl) (by first | assumption | rfl) rfl (by first | assumption | rfl) ?_
            refine go_iload_n dX10_ask_62 rfl ?_
            refine go_iaload dX10_ask_63 (by first | assumption | exact Nat.le_of_ble_eq_true rfl) (by first | assumption | rfl) (by omega) (by omega) ?_
            try simp (disch := omega) only [ua_same, ua_ne, uf_same, uf_ne]
            refine go_goto (tgt := 69) dX10_ask_64 rfl ?_
            exact go_ri dX10_ask_69 tyI ⟨Nat.le_refl _, Nat.le_refl _⟩ (⟨by rw [if_pos (by omega), if_neg (by omega), if_pos ⟨by omega, h55⟩], rfl⟩)
      ·
        refine go_ldcw dX10_ask_31 kc_X10_329 rfl ?_
        exact go_ri dX10_ask_34 tyI ⟨Nat.le_refl _, Nat.le_refl _⟩ (⟨by rw [if_pos (by omega), if_pos (by omega)], rfl⟩)
    ·
      refine go_ldc dX10_ask_19 kc_X10_126 rfl ?_
      exact go_ri dX10_ask_21 tyI ⟨Nat.le_refl _, Nat.le_refl _⟩ (⟨by rw [if_neg (by omega)], rfl⟩)

set_option maxRecDepth 100000 in
set_option maxHeartbeats 4000000 in
theorem ct_X10_item {l : Launch} {D : va_G} {cA : Nat → ClassId} {μ : Mem} (hL : slM μ) (sl q : Int) : CtN l D cA yX10_item cX10_item 4 (some .int) 3 [vr 87, vi sl, vi q] μ (Pi (fun x μ' => x = (if 0 ≤ sl ∧ sl ≤ 4 then (if μ 94 sl = 0 then -1000000011 else if μ 94 sl = 2 then (if 0 ≤ q ∧ q ≤ μ 97 sl - 1 then (if μ 98 (24 * sl + q) = -1000000005 then -1000000012 else μ 98 (24 * sl + q)) else -1000000013) else -1000000012) else -1000000001) ∧ μ' = μ)) := by
  refine Ct.of (own := RX10) (by decide +kernel) rfl (fun σ => Nat.le_of_ble_eq_true rfl) (fun hM hP ha => ?_)
  obtain ⟨m87, r88, s88, r89, s89, r90, s90, r91, s91, r92, s92, r93, s93, r94, s94, r95, s95, r96, s96, r97, s97, r98, s98, r99, s99, r100, s100, r101, s101, r102, s102, r103, s103, r104, s104, r105, s105, r106, s106, r107, s107, r108, s108, r109, s109, r110, s110, r111, s111, r112, s112⟩ := md_f
  refine go_iload_n dX10_item_0 rfl ?_
  refine go_sI dX10_item_1 (ct_X10_isSlot _) ml_X10_333 mc_X10_isSlot ms_X10_isSlot ⟨rfl, rfl⟩ ⟨Nat.le_refl _, Nat.le_refl _⟩ rfl rfl rfl (fun x1 μ1 hc1 => ?_)
  obtain ⟨rfl, hm1⟩ := hc1
  rw [hm1]
  first | refine go_bnz (tgt := 10) dX10_item_4 rfl (fun h4 => ?_) (fun h4 => ?_) | refine go_if_ne (tgt := 10) dX10_item_4 rfl (fun h4 => ?_) (fun h4 => ?_)
  ·
    have hs := hL sl (by omega) (by omega)
    refine go_aload_n dX10_item_10 rfl ?_
    refine go_getR dX10_item_11 fl_X10_28 (by first | assumption | exact Nat.le_of_ble_eq_true rfl) (by first | assumption | rfl) rfl (by first | assumption | rfl) ?_
    refine go_iload_n dX10_item_14 rfl ?_
    refine go_iaload dX10_item_15 (by first | assumption | exact Nat.le_of_ble_eq_true rfl) (by first | assumption | rfl) (by omega) (by omega) ?_
    try simp (disch := omega) only [ua_same, ua_ne, uf_same, uf_ne]
    refine go_iconst dX10_item_16 rfl ?_
    refine go_icmp_eq (tgt := 38) dX10_item_17 rfl (fun h17 => ?_) (fun h17 => ?_)
    ·
      refine go_iload_n dX10_item_38 rfl ?_
      refine go_i2l dX10_item_39 ?_
      refine go_lconst dX10_item_40 ?_
      refine go_aload_n dX10_item_41 rfl ?_
      refine go_getR dX10_item_42 fl_X10_37 (by first | assumption | exact Nat.le_of_ble_eq_true rfl) (by first | assumption | rfl) rfl (by first | assumption | rfl) ?_
      refine go_iload_n dX10_item_45 rfl ?_
      refine go_iaload dX10_item_46 (by first | assumption | exact Nat.le_of_ble_eq_true rfl) (by first | assumption | rfl) (by omega) (by omega) ?_
      try simp (disch := omega) only [ua_same, ua_ne, uf_same, uf_ne]
      refine go_iconst dX10_item_47 rfl ?_
      refine go_isub dX10_item_48 ⟨by omega, by omega⟩ ?_
      refine go_i2l dX10_item_49 ?_
      refine go_sI dX10_item_50 (ct_X10_isIn _ _ _) ml_X10_87 mc_X10_isIn ms_X10_isIn ⟨rfl, rfl⟩ ⟨Nat.le_refl _, Nat.le_refl _⟩ rfl rfl rfl (fun x50 μ50 hc50 => ?_)
      obtain ⟨rfl, hm50⟩ := hc50
      rw [hm50]
      first | refine go_bnz (tgt := 60) dX10_item_53 rfl (fun h53 => ?_) (fun h53 => ?_) | refine go_if_ne (tgt := 60) dX10_item_53 rfl (fun h53 => ?_) (fun h53 => ?_)
      ·
        refine go_aload_n dX10_item_60 rfl ?_
        refine go_getR dX10_item_61 fl_X10_40 (by first | assumption | exact Nat.le_of_ble_eq_true rfl) (by first | assumption | rfl) rfl (by first | assumption | rfl) ?_
        refine go_bipush dX10_item_64 rfl (by decide) ?_
        refine go_iload_n dX10_item_66 rfl ?_
        refine go_imul dX10_item_67 ⟨by omega, by omega⟩ ?_
        refine go_iload_n dX10_item_68 rfl ?_
        refine go_iadd dX10_item_69 ⟨by omega, by omega⟩ ?_
        refine go_iaload dX10_item_70 (by first | assumption | exact Nat.le_of_ble_eq_true rfl) (by first | assumption | rfl) (by omega) (by omega) ?_
        try simp (disch := omega) only [ua_same, ua_ne, uf_same, uf_ne]
        refine go_istore_n dX10_item_71 rfl ?_
        refine go_iload_n dX10_item_72 rfl ?_
        refine go_ldc dX10_item_73 kc_X10_86 rfl ?_
        refine go_icmp_ne (tgt := 83) dX10_item_75 rfl (fun h75 => ?_) (fun h75 => ?_)
        ·
          refine go_iload_n dX10_item_83 rfl ?_
          exact go_ri dX10_item_84 tyI ⟨Nat.le_refl _, Nat.le_refl _⟩ (⟨by (repeat (first | rw [if_pos (by omega)] | rw [if_neg (by omega)])), rfl⟩)
        ·
          refine go_ldc dX10_item_78 kc_X10_144 rfl ?_
          refine go_goto (tgt := 84) dX10_item_80 rfl ?_
          exact go_ri dX10_item_84 tyI ⟨Nat.le_refl _, Nat.le_refl _⟩ (⟨by (repeat (first | rw [if_pos (by omega)] | rw [if_neg (by omega)])), rfl⟩)
      ·
        refine go_ldcw dX10_item_56 kc_X10_330 rfl ?_
        exact go_ri dX10_item_59 tyI ⟨Nat.le_refl _, Nat.le_refl _⟩ (⟨by (repeat (first | rw [if_pos (by omega)] | rw [if_neg (by omega)])), rfl⟩)
    ·
      refine go_aload_n dX10_item_20 rfl ?_
      refine go_getR dX10_item_21 fl_X10_28 (by first | assumption | exact Nat.le_of_ble_eq_true rfl) (by first | assumption | rfl) rfl (by first | assumption | rfl) ?_
      refine go_iload_n dX10_item_24 rfl ?_
      refine go_iaload dX10_item_25 (by first | assumption | exact Nat.le_of_ble_eq_true rfl) (by first | assumption | rfl) (by omega) (by omega) ?_
      try simp (disch := omega) only [ua_same, ua_ne, uf_same, uf_ne]
      first | refine go_bnz (tgt := 35) dX10_item_26 rfl (fun h26 => ?_) (fun h26 => ?_) | refine go_if_ne (tgt := 35) dX10_item_26 rfl (fun h26 => ?_) (fun h26 => ?_)
      ·
        refine go_ldc dX10_item_35 kc_X10_144 rfl ?_
        exact go_ri dX10_item_37 tyI ⟨Nat.le_refl _, Nat.le_refl _⟩ (⟨by (repeat (first | rw [if_pos (by omega)] | rw [if_neg (by omega)])), rfl⟩)
      ·
        refine go_ldcw dX10_item_29 kc_X10_329 rfl ?_
        refine go_goto (tgt := 37) dX10_item_32 rfl ?_
        exact go_ri dX10_item_37 tyI ⟨Nat.le_refl _, Nat.le_refl _⟩ (⟨by (repeat (first | rw [if_pos (by omega)] | rw [if_neg (by omega)])), rfl⟩)
  ·
    refine go_ldc dX10_item_7 kc_X10_126 rfl ?_
    exact go_ri dX10_item_9 tyI ⟨Nat.le_refl _, Nat.le_refl _⟩ (⟨by (repeat (first | rw [if_pos (by omega)] | rw [if_neg (by omega)])), rfl⟩)

set_option maxRecDepth 100000 in
set_option maxHeartbeats 4000000 in
theorem ct_X10_rest {l : Launch} {D : va_G} {cA : Nat → ClassId} {μ : Mem} (hL : slM μ) (sl n : Int) : CtN l D cA yX10_rest cX10_rest 3 (some .int) 3 [vr 87, vi sl, vi n] μ (Pi (fun x μ' => x = (if 0 ≤ sl ∧ sl ≤ 4 then (if μ 94 sl = 0 then -1000000011 else if μ 94 sl = 3 then (if n = 0 then -1000000002 else wr (Int.tmod (μ 95 sl) n)) else -1000000012) else -1000000001) ∧ μ' = μ)) := by
  refine Ct.of (own := RX10) (by decide +kernel) rfl (fun σ => Nat.le_of_ble_eq_true rfl) (fun hM hP ha => ?_)
  obtain ⟨m87, r88, s88, r89, s89, r90, s90, r91, s91, r92, s92, r93, s93, r94, s94, r95, s95, r96, s96, r97, s97, r98, s98, r99, s99, r100, s100, r101, s101, r102, s102, r103, s103, r104, s104, r105, s105, r106, s106, r107, s107, r108, s108, r109, s109, r110, s110, r111, s111, r112, s112⟩ := md_f
  refine go_iload_n dX10_rest_0 rfl ?_
  refine go_sI dX10_rest_1 (ct_X10_isSlot _) ml_X10_333 mc_X10_isSlot ms_X10_isSlot ⟨rfl, rfl⟩ ⟨Nat.le_refl _, Nat.le_refl _⟩ rfl rfl rfl (fun x1 μ1 hc1 => ?_)
  obtain ⟨rfl, hm1⟩ := hc1
  rw [hm1]
  first | refine go_bnz (tgt := 10) dX10_rest_4 rfl (fun h4 => ?_) (fun h4 => ?_) | refine go_if_ne (tgt := 10) dX10_rest_4 rfl (fun h4 => ?_) (fun h4 => ?_)
  ·
    have hs := hL sl (by omega) (by omega)
    refine go_aload_n dX10_rest_10 rfl ?_
    refine go_getR dX10_rest_11 fl_X10_28 (by first | assumption | exact Nat.le_of_ble_eq_true rfl) (by first | assumption | rfl) rfl (by first | assumption | rfl) ?_
    refine go_iload_n dX10_rest_14 rfl ?_
    refine go_iaload dX10_rest_15 (by first | assumption | exact Nat.le_of_ble_eq_true rfl) (by first | assumption | rfl) (by omega) (by omega) ?_
    try simp (disch := omega) only [ua_same, ua_ne, uf_same, uf_ne]
    refine go_iconst dX10_rest_16 rfl ?_
    refine go_icmp_eq (tgt := 38) dX10_rest_17 rfl (fun h17 => ?_) (fun h17 => ?_)
    ·
      refine go_iload_n dX10_rest_38 rfl ?_
      first | refine go_bnz (tgt := 47) dX10_rest_39 rfl (fun h39 => ?_) (fun h39 => ?_) | refine go_if_ne (tgt := 47) dX10_rest_39 rfl (fun h39 => ?_) (fun h39 => ?_)
      ·
        refine go_aload_n dX10_rest_47 rfl ?_
        refine go_getR dX10_rest_48 fl_X10_31 (by first | assumption | exact Nat.le_of_ble_eq_true rfl) (by first | assumption | rfl) rfl (by first | assumption | rfl) ?_
        refine go_iload_n dX10_rest_51 rfl ?_
        refine go_iaload dX10_rest_52 (by first | assumption | exact Nat.le_of_ble_eq_true rfl) (by first | assumption | rfl) (by omega) (by omega) ?_
        try simp (disch := omega) only [ua_same, ua_ne, uf_same, uf_ne]
        refine go_iload_n dX10_rest_53 rfl ?_
        refine go_iremw dX10_rest_54 (by omega) ?_
        exact go_ri dX10_rest_55 tyI ⟨Nat.le_refl _, Nat.le_refl _⟩ (⟨by (repeat (first | rw [if_pos (by omega)] | rw [if_neg (by omega)])), rfl⟩)
      ·
        refine go_ldc dX10_rest_42 kc_X10_188 rfl ?_
        refine go_goto (tgt := 55) dX10_rest_44 rfl ?_
        exact go_ri dX10_rest_55 tyI ⟨Nat.le_refl _, Nat.le_refl _⟩ (⟨by (repeat (first | rw [if_pos (by omega)] | rw [if_neg (by omega)])), rfl⟩)
    ·
      refine go_aload_n dX10_rest_20 rfl ?_
      refine go_getR dX10_rest_21 fl_X10_28 (by first | assumption | exact Nat.le_of_ble_eq_true rfl) (by first | assumption | rfl) rfl (by first | assumption | rfl) ?_
      refine go_iload_n dX10_rest_24 rfl ?_
      refine go_iaload dX10_rest_25 (by first | assumption | exact Nat.le_of_ble_eq_true rfl) (by first | assumption | rfl) (by omega) (by omega) ?_
      try simp (disch := omega) only [ua_same, ua_ne, uf_same, uf_ne]
      first | refine go_bnz (tgt := 35) dX10_rest_26 rfl (fun h26 => ?_) (fun h26 => ?_) | refine go_if_ne (tgt := 35) dX10_rest_26 rfl (fun h26 => ?_) (fun h26 => ?_)
      ·
        refine go_ldc dX10_rest_35 kc_X10_144 rfl ?_
        exact go_ri dX10_rest_37 tyI ⟨Nat.le_refl _, Nat.le_refl _⟩ (⟨by (repeat (first | rw [if_pos (by omega)] | rw [if_neg (by omega)])), rfl⟩)
      ·
        refine go_ldcw dX10_rest_29 kc_X10_329 rfl ?_
        refine go_goto (tgt := 37) dX10_rest_32 rfl ?_
        exact go_ri dX10_rest_37 tyI ⟨Nat.le_refl _, Nat.le_refl _⟩ (⟨by (repeat (first | rw [if_pos (by omega)] | rw [if_neg (by omega)])), rfl⟩)
  ·
    refine go_ldc dX10_rest_7 kc_X10_126 rfl ?_
    exact go_ri dX10_rest_9 tyI ⟨Nat.le_refl _, Nat.le_refl _⟩ (⟨by (repeat (first | rw [if_pos (by omega)] | rw [if_neg (by omega)])), rfl⟩)

set_option maxRecDepth 100000 in
set_option maxHeartbeats 4000000 in
theorem ct_X10_lay {l : Launch} {D : va_G} {cA : Nat → ClassId} {μ : Mem} (hI : mdI (μ 88)) (hS : shM μ) (sl th k : Int) : CtN l D cA yX10_lay cX10_lay 7 (some .int) 3 [vr 87, vi sl, vi th, vi k] μ (Pi (fun x μ' => (¬ ((0 ≤ sl ∧ sl ≤ 4) ∧ (0 ≤ th ∧ th ≤ 3) ∧ (th = 1 → 0 ≤ k ∧ k ≤ 29) ∧ (th = 2 → 0 ≤ k ∧ k ≤ 3)) → x = -1000000001 ∧ μ' = μ) ∧ (((0 ≤ sl ∧ sl ≤ 4) ∧ (0 ≤ th ∧ th ≤ 3) ∧ (th = 1 → 0 ≤ k ∧ k ≤ 29) ∧ (th = 2 → 0 ≤ k ∧ k ≤ 3)) → ((th = 2 ∧ μ 91 k = -1) → x = -1000000011 ∧ μ' = μ) ∧ (¬ (th = 2 ∧ μ 91 k = -1) → x = μ 94 sl ∧ μ' 94 = uf (μ 94) sl th ∧ μ' 95 = uf (μ 95) sl (if th = 1 then vm (μ 88) 33 k else k) ∧ μ' 96 = uf (μ 96) sl (if th = 1 then kWorth (vm (μ 88) 33 k) (vm (μ 88) 34 k) (vm (μ 88) 35 k) else 0) ∧ (th = 2 → μ' 97 = uf (μ 97) sl (μ 92 k) ∧ ∀ q, μ' 98 q = if 24 * sl ≤ q ∧ q < 24 * sl + 24 then μ 93 (24 * k + (q - 24 * sl)) else μ 98 q) ∧ (th ≠ 2 → μ' 97 = μ 97 ∧ μ' 98 = μ 98) ∧ ∀ q, q ≠ 94 → q ≠ 95 → q ≠ 96 → q ≠ 97 → q ≠ 98 → μ' q = μ q)))) := by
  refine Ct.of (own := RX10) (by decide +kernel) rfl (fun σ => Nat.le_of_ble_eq_true rfl) (fun hM hP ha => ?_)
  obtain ⟨m87, r88, s88, r89, s89, r90, s90, r91, s91, r92, s92, r93, s93, r94, s94, r95, s95, r96, s96, r97, s97, r98, s98, r99, s99, r100, s100, r101, s101, r102, s102, r103, s103, r104, s104, r105, s105, r106, s106, r107, s107, r108, s108, r109, s109, r110, s110, r111, s111, r112, s112⟩ := md_f
  have loop : ∀ (m : Nat) (i : Int) (go : Int) (μ1 : Mem), 24 - i = (m : Nat) → 0 ≤ i → ((0 ≤ sl ∧ sl ≤ 4) ∧ (0 ≤ th ∧ th ≤ 3) ∧ (th = 1 → 0 ≤ k ∧ k ≤ 29) ∧ (th = 2 → 0 ≤ k ∧ k ≤ 3)) → (¬ (th = 2 ∧ μ 91 k = -1)) → (th = 2) → (μ1 94 = uf (μ 94) sl th) → (μ1 95 = uf (μ 95) sl k) → (μ1 96 = uf (μ 96) sl 0) → (μ1 97 = uf (μ 97) sl (μ 92 k)) → (∀ q, μ1 98 q = if 24 * sl ≤ q ∧ q < 24 * sl + i then μ 93 (24 * k + (q - 24 * sl)) else μ 98 q) → (∀ q, q ≠ 94 → q ≠ 95 → q ≠ 96 → q ≠ 97 → q ≠ 98 → μ1 q = μ q) → Go l D cA none RX10 cX10_lay 7 (some .int) (3, 0, 0) (QN (Pi (fun x μ' => (¬ ((0 ≤ sl ∧ sl ≤ 4) ∧ (0 ≤ th ∧ th ≤ 3) ∧ (th = 1 → 0 ≤ k ∧ k ≤ 29) ∧ (th = 2 → 0 ≤ k ∧ k ≤ 3)) → x = -1000000001 ∧ μ' = μ) ∧ (((0 ≤ sl ∧ sl ≤ 4) ∧ (0 ≤ th ∧ th ≤ 3) ∧ (th = 1 → 0 ≤ k ∧ k ≤ 29) ∧ (th = 2 → 0 ≤ k ∧ k ≤ 3)) → ((th = 2 ∧ μ 91 k = -1) → x = -1000000011 ∧ μ' = μ) ∧ (¬ (th = 2 ∧ μ 91 k = -1) → x = μ 94 sl ∧ μ' 94 = uf (μ 94) sl th ∧ μ' 95 = uf (μ 95) sl (if th = 1 then vm (μ 88) 33 k else k) ∧ μ' 96 = uf (μ 96) sl (if th = 1 then kWorth (vm (μ 88) 33 k) (vm (μ 88) 34 k) (vm (μ 88) 35 k) else 0) ∧ (th = 2 → μ' 97 = uf (μ 97) sl (μ 92 k) ∧ ∀ q, μ' 98 q = if 24 * sl ≤ q ∧ q < 24 * sl + 24 then μ 93 (24 * k + (q - 24 * sl)) else μ 98 q) ∧ (th ≠ 2 → μ' 97 = μ 97 ∧ μ' 98 = μ 98) ∧ ∀ q, q ≠ 94 → q ≠ 95 → q ≠ 96 → q ≠ 97 → q ≠ 98 → μ' q = μ q))))) 113 ρ0 0 0 149 [(0, vr 87), (1, vi sl), (2, vi th), (3, vi k), (4, vi go), (5, vi (μ 94 sl)), (6, vi i)] [] μ1 := by
    intro m
    induction m with
    | zero =>
      intro i go μ1 hm hv hV hM ht h94 h95 h96 h97 h98 hf
      refine go_iload dX10_lay_149 rfl ?_
      refine go_bipush dX10_lay_151 rfl (by decide) ?_
      refine go_icmp_ge (tgt := 186) dX10_lay_153 rfl (fun h153 => ?_) (fun h153 => ?_)
      ·
        rw [show i = 24 by omega] at h98
        refine go_iload dX10_lay_186 rfl ?_
        exact go_ri dX10_lay_188 tyI ⟨Nat.le_refl _, Nat.le_refl _⟩ (⟨fun h => absurd hV h, fun _ => ⟨fun h => absurd h hM, fun _ => ⟨rfl, h94, by rw [h95, if_neg (by omega)], by rw [h96, if_neg (by omega)], fun _ => ⟨h97, h98⟩, fun h => absurd ht h, hf⟩⟩⟩)
      ·
        exact absurd h153 (by omega)
    | succ m ih =>
      intro i go μ1 hm hv hV hM ht h94 h95 h96 h97 h98 hf
      refine go_iload dX10_lay_149 rfl ?_
      refine go_bipush dX10_lay_151 rfl (by decide) ?_
      refine go_icmp_ge (tgt := 186) dX10_lay_153 rfl (fun h153 => ?_) (fun h153 => ?_)
      ·
        exact absurd h153 (by omega)
      ·
        have hk := hV.2.2.2 ht
        refine go_aload_n dX10_lay_156 rfl ?_
        refine go_getR dX10_lay_157 fl_X10_40 (by first | assumption | exact Nat.le_of_ble_eq_true rfl) (by first | assumption | rfl) rfl (by first | assumption | rfl) ?_
        refine go_bipush dX10_lay_160 rfl (by decide) ?_
        refine go_iload_n dX10_lay_162 rfl ?_
        refine go_imul dX10_lay_163 ⟨by omega, by omega⟩ ?_
        refine go_iload dX10_lay_164 rfl ?_
        refine go_iadd dX10_lay_166 ⟨by omega, by omega⟩ ?_
        refine go_aload_n dX10_lay_167 rfl ?_
        refine go_getR dX10_lay_168 fl_X10_25 (by first | assumption | exact Nat.le_of_ble_eq_true rfl) (by first | assumption | rfl) rfl (by first | assumption | rfl) ?_
        refine go_bipush dX10_lay_171 rfl (by decide) ?_
        refine go_iload_n dX10_lay_173 rfl ?_
        refine go_imul dX10_lay_174 ⟨by omega, by omega⟩ ?_
        refine go_iload dX10_lay_175 rfl ?_
        refine go_iadd dX10_lay_177 ⟨by omega, by omega⟩ ?_
        refine go_iaload dX10_lay_178 (by first | assumption | exact Nat.le_of_ble_eq_true rfl) (by first | assumption | rfl) (by omega) (by omega) ?_
        rw [hf 93 (by decide) (by decide) (by decide) (by decide) (by decide)]
        refine go_iastore dX10_lay_179 (by first | assumption | exact Nat.le_of_ble_eq_true rfl) (by first | assumption | rfl) (by omega) (by omega) ?_
        refine go_iinc dX10_lay_180 rfl rfl ⟨by omega, by omega⟩ ?_
        refine go_goto (tgt := 149) dX10_lay_183 rfl ?_
        refine go_drop (ih _ _ _ (by omega) (by omega) hV hM ht ?_ ?_ ?_ ?_ ?_ ?_) rfl
        · rw [ud_n (by decide)]; exact h94
        · rw [ud_n (by decide)]; exact h95
        · rw [ud_n (by decide)]; exact h96
        · rw [ud_n (by decide)]; exact h97
        · intro q
          rw [ud_s]
          by_cases e : q = 24 * sl + i
          · rw [e, uf_same, if_pos (by omega), show 24 * sl + i - 24 * sl = i by omega]
          · rw [uf_ne e, h98]
            by_cases e2 : 24 * sl ≤ q ∧ q < 24 * sl + i
            · rw [if_pos e2, if_pos (by omega)]
            · rw [if_neg e2, if_neg (by omega)]
        · intro q b c d e f; rw [ud_n f]; exact hf q b c d e f
  refine go_iload_n dX10_lay_0 rfl ?_
  first | refine go_bz (tgt := 33) dX10_lay_1 rfl (fun h1 => ?_) (fun h1 => ?_) | refine go_if_eq (tgt := 33) dX10_lay_1 rfl (fun h1 => ?_) (fun h1 => ?_)
  ·
    refine go_iconst dX10_lay_33 rfl ?_
    refine go_goto (tgt := 38) dX10_lay_34 rfl ?_
    refine go_istore dX10_lay_38 rfl ?_
    refine go_iload_n dX10_lay_40 rfl ?_
    refine go_sI dX10_lay_41 (ct_X10_isSlot _) ml_X10_333 mc_X10_isSlot ms_X10_isSlot ⟨rfl, rfl⟩ ⟨Nat.le_refl _, Nat.le_refl _⟩ rfl rfl rfl (fun x41 μ41 hc41 => ?_)
    obtain ⟨rfl, hm41⟩ := hc41
    rw [hm41]
    first | refine go_bz (tgt := 52) dX10_lay_44 rfl (fun h44 => ?_) (fun h44 => ?_) | refine go_if_eq (tgt := 52) dX10_lay_44 rfl (fun h44 => ?_) (fun h44 => ?_)
    ·
      refine go_ldc dX10_lay_52 kc_X10_126 rfl ?_
      exact go_ri dX10_lay_54 tyI ⟨Nat.le_refl _, Nat.le_refl _⟩ (⟨fun _ => ⟨rfl, rfl⟩, fun h => absurd h (by omega)⟩)
    ·
      refine go_iload dX10_lay_47 rfl ?_
      first | refine go_bnz (tgt := 55) dX10_lay_49 rfl (fun h49 => ?_) (fun h49 => ?_) | refine go_if_ne (tgt := 55) dX10_lay_49 rfl (fun h49 => ?_) (fun h49 => ?_)
      ·
        refine go_iload_n dX10_lay_55 rfl ?_
        refine go_iconst dX10_lay_56 rfl ?_
        refine go_icmp_ne (tgt := 73) dX10_lay_57 rfl (fun h57 => ?_) (fun h57 => ?_)
        ·
          refine go_aload_n dX10_lay_73 rfl ?_
          refine go_getR dX10_lay_74 fl_X10_28 (by first | assumption | exact Nat.le_of_ble_eq_true rfl) (by first | assumption | rfl) rfl (by first | assumption | rfl) ?_
          refine go_iload_n dX10_lay_77 rfl ?_
          refine go_iaload dX10_lay_78 (by first | assumption | exact Nat.le_of_ble_eq_true rfl) (by first | assumption | rfl) (by omega) (by omega) ?_
          try simp (disch := omega) only [ua_same, ua_ne, uf_same, uf_ne]
          refine go_istore dX10_lay_79 rfl ?_
          refine go_aload_n dX10_lay_81 rfl ?_
          refine go_getR dX10_lay_82 fl_X10_28 (by first | assumption | exact Nat.le_of_ble_eq_true rfl) (by first | assumption | rfl) rfl (by first | assumption | rfl) ?_
          refine go_iload_n dX10_lay_85 rfl ?_
          refine go_iload_n dX10_lay_86 rfl ?_
          refine go_iastore dX10_lay_87 (by first | assumption | exact Nat.le_of_ble_eq_true rfl) (by first | assumption | rfl) (by omega) (by omega) ?_
          refine go_aload_n dX10_lay_88 rfl ?_
          refine go_getR dX10_lay_89 fl_X10_31 (by first | assumption | exact Nat.le_of_ble_eq_true rfl) (by first | assumption | rfl) rfl (by first | assumption | rfl) ?_
          refine go_iload_n dX10_lay_92 rfl ?_
          refine go_iload_n dX10_lay_93 rfl ?_
          refine go_iconst dX10_lay_94 rfl ?_
          refine go_icmp_ne (tgt := 107) dX10_lay_95 rfl (fun h95 => ?_) (fun h95 => ?_)
          ·
            refine go_iload_n dX10_lay_107 rfl ?_
            refine go_iastore dX10_lay_108 (by first | assumption | exact Nat.le_of_ble_eq_true rfl) (by first | assumption | rfl) (by omega) (by omega) ?_
            refine go_aload_n dX10_lay_109 rfl ?_
            refine go_getR dX10_lay_110 fl_X10_34 (by first | assumption | exact Nat.le_of_ble_eq_true rfl) (by first | assumption | rfl) rfl (by first | assumption | rfl) ?_
            refine go_iload_n dX10_lay_113 rfl ?_
            refine go_iload_n dX10_lay_114 rfl ?_
            refine go_iconst dX10_lay_115 rfl ?_
            refine go_icmp_ne (tgt := 127) dX10_lay_116 rfl (fun h116 => ?_) (fun h116 => ?_)
            ·
              refine go_iconst dX10_lay_127 rfl ?_
              refine go_iastore dX10_lay_128 (by first | assumption | exact Nat.le_of_ble_eq_true rfl) (by first | assumption | rfl) (by omega) (by omega) ?_
              refine go_iload_n dX10_lay_129 rfl ?_
              refine go_iconst dX10_lay_130 rfl ?_
              refine go_icmp_ne (tgt := 186) dX10_lay_131 rfl (fun h131 => ?_) (fun h131 => ?_)
              ·
                refine go_iload dX10_lay_186 rfl ?_
                exact go_ri dX10_lay_188 tyI ⟨Nat.le_refl _, Nat.le_refl _⟩ (⟨fun h => absurd (by omega) h, fun _ => ⟨fun h => absurd h (by omega), fun _ => ⟨rfl, by simp (disch := omega) only [ud, ua_same, ua_ne, uf_same, uf_ne], by rw [if_neg (by omega)]; simp (disch := omega) only [ud, ua_same, ua_ne, uf_same, uf_ne], by rw [if_neg (by omega)]; simp (disch := omega) only [ud, ua_same, ua_ne, uf_same, uf_ne], fun h => absurd h (by omega), fun _ => ⟨by simp (disch := omega) only [ud, ua_same, ua_ne, uf_same, uf_ne], by simp (disch := omega) only [ud, ua_same, ua_ne, uf_same, uf_ne]⟩, fun q a b c d e => by simp (disch := omega) only [ud, ua_ne]⟩⟩⟩)
              ·
                exact absurd h131 (by omega)
            ·
              exact absurd h116 (by omega)
          ·
            exact absurd h95 (by omega)
        ·
          exact absurd h57 (by omega)
      ·
        exact absurd h49 (by omega)
  ·
    refine go_iload_n dX10_lay_4 rfl ?_
    refine go_iconst dX10_lay_5 rfl ?_
    refine go_icmp_eq (tgt := 33) dX10_lay_6 rfl (fun h6 => ?_) (fun h6 => ?_)
    ·
      refine go_iconst dX10_lay_33 rfl ?_
      refine go_goto (tgt := 38) dX10_lay_34 rfl ?_
      refine go_istore dX10_lay_38 rfl ?_
      refine go_iload_n dX10_lay_40 rfl ?_
      refine go_sI dX10_lay_41 (ct_X10_isSlot _) ml_X10_333 mc_X10_isSlot ms_X10_isSlot ⟨rfl, rfl⟩ ⟨Nat.le_refl _, Nat.le_refl _⟩ rfl rfl rfl (fun x41 μ41 hc41 => ?_)
      obtain ⟨rfl, hm41⟩ := hc41
      rw [hm41]
      first | refine go_bz (tgt := 52) dX10_lay_44 rfl (fun h44 => ?_) (fun h44 => ?_) | refine go_if_eq (tgt := 52) dX10_lay_44 rfl (fun h44 => ?_) (fun h44 => ?_)
      ·
        refine go_ldc dX10_lay_52 kc_X10_126 rfl ?_
        exact go_ri dX10_lay_54 tyI ⟨Nat.le_refl _, Nat.le_refl _⟩ (⟨fun _ => ⟨rfl, rfl⟩, fun h => absurd h (by omega)⟩)
      ·
        refine go_iload dX10_lay_47 rfl ?_
        first | refine go_bnz (tgt := 55) dX10_lay_49 rfl (fun h49 => ?_) (fun h49 => ?_) | refine go_if_ne (tgt := 55) dX10_lay_49 rfl (fun h49 => ?_) (fun h49 => ?_)
        ·
          refine go_iload_n dX10_lay_55 rfl ?_
          refine go_iconst dX10_lay_56 rfl ?_
          refine go_icmp_ne (tgt := 73) dX10_lay_57 rfl (fun h57 => ?_) (fun h57 => ?_)
          ·
            refine go_aload_n dX10_lay_73 rfl ?_
            refine go_getR dX10_lay_74 fl_X10_28 (by first | assumption | exact Nat.le_of_ble_eq_true rfl) (by first | assumption | rfl) rfl (by first | assumption | rfl) ?_
            refine go_iload_n dX10_lay_77 rfl ?_
            refine go_iaload dX10_lay_78 (by first | assumption | exact Nat.le_of_ble_eq_true rfl) (by first | assumption | rfl) (by omega) (by omega) ?_
            try simp (disch := omega) only [ua_same, ua_ne, uf_same, uf_ne]
            refine go_istore dX10_lay_79 rfl ?_
            refine go_aload_n dX10_lay_81 rfl ?_
            refine go_getR dX10_lay_82 fl_X10_28 (by first | assumption | exact Nat.le_of_ble_eq_true rfl) (by first | assumption | rfl) rfl (by first | assumption | rfl) ?_
            refine go_iload_n dX10_lay_85 rfl ?_
            refine go_iload_n dX10_lay_86 rfl ?_
            refine go_iastore dX10_lay_87 (by first | assumption | exact Nat.le_of_ble_eq_true rfl) (by first | assumption | rfl) (by omega) (by omega) ?_
            refine go_aload_n dX10_lay_88 rfl ?_
            refine go_getR dX10_lay_89 fl_X10_31 (by first | assumption | exact Nat.le_of_ble_eq_true rfl) (by first | assumption | rfl) rfl (by first | assumption | rfl) ?_
            refine go_iload_n dX10_lay_92 rfl ?_
            refine go_iload_n dX10_lay_93 rfl ?_
            refine go_iconst dX10_lay_94 rfl ?_
            refine go_icmp_ne (tgt := 107) dX10_lay_95 rfl (fun h95 => ?_) (fun h95 => ?_)
            ·
              refine go_iload_n dX10_lay_107 rfl ?_
              refine go_iastore dX10_lay_108 (by first | assumption | exact Nat.le_of_ble_eq_true rfl) (by first | assumption | rfl) (by omega) (by omega) ?_
              refine go_aload_n dX10_lay_109 rfl ?_
              refine go_getR dX10_lay_110 fl_X10_34 (by first | assumption | exact Nat.le_of_ble_eq_true rfl) (by first | assumption | rfl) rfl (by first | assumption | rfl) ?_
              refine go_iload_n dX10_lay_113 rfl ?_
              refine go_iload_n dX10_lay_114 rfl ?_
              refine go_iconst dX10_lay_115 rfl ?_
              refine go_icmp_ne (tgt := 127) dX10_lay_116 rfl (fun h116 => ?_) (fun h116 => ?_)
              ·
                refine go_iconst dX10_lay_127 rfl ?_
                refine go_iastore dX10_lay_128 (by first | assumption | exact Nat.le_of_ble_eq_true rfl) (by first | assumption | rfl) (by omega) (by omega) ?_
                refine go_iload_n dX10_lay_129 rfl ?_
                refine go_iconst dX10_lay_130 rfl ?_
                refine go_icmp_ne (tgt := 186) dX10_lay_131 rfl (fun h131 => ?_) (fun h131 => ?_)
                ·
                  refine go_iload dX10_lay_186 rfl ?_
                  exact go_ri dX10_lay_188 tyI ⟨Nat.le_refl _, Nat.le_refl _⟩ (⟨fun h => absurd (by omega) h, fun _ => ⟨fun h => absurd h (by omega), fun _ => ⟨rfl, by simp (disch := omega) only [ud, ua_same, ua_ne, uf_same, uf_ne], by rw [if_neg (by omega)]; simp (disch := omega) only [ud, ua_same, ua_ne, uf_same, uf_ne], by rw [if_neg (by omega)]; simp (disch := omega) only [ud, ua_same, ua_ne, uf_same, uf_ne], fun h => absurd h (by omega), fun _ => ⟨by simp (disch := omega) only [ud, ua_same, ua_ne, uf_same, uf_ne], by simp (disch := omega) only [ud, ua_same, ua_ne, uf_same, uf_ne]⟩, fun q a b c d e => by simp (disch := omega) only [ud, ua_ne]⟩⟩⟩)
                ·
                  exact absurd h131 (by omega)
              ·
                exact absurd h116 (by omega)
            ·
              exact absurd h95 (by omega)
          ·
            exact absurd h57 (by omega)
        ·
          exact absurd h49 (by omega)
    ·
      refine go_iload_n dX10_lay_9 rfl ?_
      refine go_iconst dX10_lay_10 rfl ?_
      refine go_icmp_ne (tgt := 21) dX10_lay_11 rfl (fun h11 => ?_) (fun h11 => ?_)
      ·
        refine go_iload_n dX10_lay_21 rfl ?_
        refine go_iconst dX10_lay_22 rfl ?_
        refine go_icmp_ne (tgt := 37) dX10_lay_23 rfl (fun h23 => ?_) (fun h23 => ?_)
        ·
          refine go_iconst dX10_lay_37 rfl ?_
          refine go_istore dX10_lay_38 rfl ?_
          refine go_iload_n dX10_lay_40 rfl ?_
          refine go_sI dX10_lay_41 (ct_X10_isSlot _) ml_X10_333 mc_X10_isSlot ms_X10_isSlot ⟨rfl, rfl⟩ ⟨Nat.le_refl _, Nat.le_refl _⟩ rfl rfl rfl (fun x41 μ41 hc41 => ?_)
          obtain ⟨rfl, hm41⟩ := hc41
          rw [hm41]
          first | refine go_bz (tgt := 52) dX10_lay_44 rfl (fun h44 => ?_) (fun h44 => ?_) | refine go_if_eq (tgt := 52) dX10_lay_44 rfl (fun h44 => ?_) (fun h44 => ?_)
          ·
            refine go_ldc dX10_lay_52 kc_X10_126 rfl ?_
            exact go_ri dX10_lay_54 tyI ⟨Nat.le_refl _, Nat.le_refl _⟩ (⟨fun _ => ⟨rfl, rfl⟩, fun h => absurd h (by omega)⟩)
          ·
            refine go_iload dX10_lay_47 rfl ?_
            first | refine go_bnz (tgt := 55) dX10_lay_49 rfl (fun h49 => ?_) (fun h49 => ?_) | refine go_if_ne (tgt := 55) dX10_lay_49 rfl (fun h49 => ?_) (fun h49 => ?_)
            ·
              exact absurd h49 (by omega)
            ·
              refine go_ldc dX10_lay_52 kc_X10_126 rfl ?_
              exact go_ri dX10_lay_54 tyI ⟨Nat.le_refl _, Nat.le_refl _⟩ (⟨fun _ => ⟨rfl, rfl⟩, fun h => absurd h (by omega)⟩)
        ·
          refine go_iload_n dX10_lay_26 rfl ?_
          refine go_sI dX10_lay_27 (ct_X10_isSheet _) ml_X10_323 mc_X10_isSheet ms_X10_isSheet ⟨rfl, rfl⟩ ⟨Nat.le_refl _, Nat.le_refl _⟩ rfl rfl rfl (fun x27 μ27 hc27 => ?_)
          obtain ⟨rfl, hm27⟩ := hc27
          rw [hm27]
          first | refine go_bz (tgt := 37) dX10_lay_30 rfl (fun h30 => ?_) (fun h30 => ?_) | refine go_if_eq (tgt := 37) dX10_lay_30 rfl (fun h30 => ?_) (fun h30 => ?_)
          ·
            refine go_iconst dX10_lay_37 rfl ?_
            refine go_istore dX10_lay_38 rfl ?_
            refine go_iload_n dX10_lay_40 rfl ?_
            refine go_sI dX10_lay_41 (ct_X10_isSlot _) ml_X10_333 mc_X10_isSlot ms_X10_isSlot ⟨rfl, rfl⟩ ⟨Nat.le_refl _, Nat.le_refl _⟩ rfl rfl rfl (fun x41 μ41 hc41 => ?_)
            obtain ⟨rfl, hm41⟩ := hc41
            rw [hm41]
            first | refine go_bz (tgt := 52) dX10_lay_44 rfl (fun h44 => ?_) (fun h44 => ?_) | refine go_if_eq (tgt := 52) dX10_lay_44 rfl (fun h44 => ?_) (fun h44 => ?_)
            ·
              refine go_ldc dX10_lay_52 kc_X10_126 rfl ?_
              exact go_ri dX10_lay_54 tyI ⟨Nat.le_refl _, Nat.le_refl _⟩ (⟨fun _ => ⟨rfl, rfl⟩, fun h => absurd h (by omega)⟩)
            ·
              refine go_iload dX10_lay_47 rfl ?_
              first | refine go_bnz (tgt := 55) dX10_lay_49 rfl (fun h49 => ?_) (fun h49 => ?_) | refine go_if_ne (tgt := 55) dX10_lay_49 rfl (fun h49 => ?_) (fun h49 => ?_)
              ·
                exact absurd h49 (by omega)
              ·
                refine go_ldc dX10_lay_52 kc_X10_126 rfl ?_
                exact go_ri dX10_lay_54 tyI ⟨Nat.le_refl _, Nat.le_refl _⟩ (⟨fun _ => ⟨rfl, rfl⟩, fun h => absurd h (by omega)⟩)
          ·
            refine go_iconst dX10_lay_33 rfl ?_
            refine go_goto (tgt := 38) dX10_lay_34 rfl ?_
            refine go_istore dX10_lay_38 rfl ?_
            refine go_iload_n dX10_lay_40 rfl ?_
            refine go_sI dX10_lay_41 (ct_X10_isSlot _) ml_X10_333 mc_X10_isSlot ms_X10_isSlot ⟨rfl, rfl⟩ ⟨Nat.le_refl _, Nat.le_refl _⟩ rfl rfl rfl (fun x41 μ41 hc41 => ?_)
            obtain ⟨rfl, hm41⟩ := hc41
            rw [hm41]
            first | refine go_bz (tgt := 52) dX10_lay_44 rfl (fun h44 => ?_) (fun h44 => ?_) | refine go_if_eq (tgt := 52) dX10_lay_44 rfl (fun h44 => ?_) (fun h44 => ?_)
            ·
              refine go_ldc dX10_lay_52 kc_X10_126 rfl ?_
              exact go_ri dX10_lay_54 tyI ⟨Nat.le_refl _, Nat.le_refl _⟩ (⟨fun _ => ⟨rfl, rfl⟩, fun h => absurd h (by omega)⟩)
            ·
              refine go_iload dX10_lay_47 rfl ?_
              first | refine go_bnz (tgt := 55) dX10_lay_49 rfl (fun h49 => ?_) (fun h49 => ?_) | refine go_if_ne (tgt := 55) dX10_lay_49 rfl (fun h49 => ?_) (fun h49 => ?_)
              ·
                refine go_iload_n dX10_lay_55 rfl ?_
                refine go_iconst dX10_lay_56 rfl ?_
                refine go_icmp_ne (tgt := 73) dX10_lay_57 rfl (fun h57 => ?_) (fun h57 => ?_)
                ·
                  exact absurd h57 (by omega)
                ·
                  have hs := hS k (by omega) (by omega)
                  refine go_aload_n dX10_lay_60 rfl ?_
                  refine go_getR dX10_lay_61 fl_X10_19 (by first | assumption | exact Nat.le_of_ble_eq_true rfl) (by first | assumption | rfl) rfl (by first | assumption | rfl) ?_
                  refine go_iload_n dX10_lay_64 rfl ?_
                  refine go_iaload dX10_lay_65 (by first | assumption | exact Nat.le_of_ble_eq_true rfl) (by first | assumption | rfl) (by omega) (by omega) ?_
                  try simp (disch := omega) only [ua_same, ua_ne, uf_same, uf_ne]
                  refine go_if_ge (tgt := 73) dX10_lay_66 rfl (fun h66 => ?_) (fun h66 => ?_)
                  ·
                    refine go_aload_n dX10_lay_73 rfl ?_
                    refine go_getR dX10_lay_74 fl_X10_28 (by first | assumption | exact Nat.le_of_ble_eq_true rfl) (by first | assumption | rfl) rfl (by first | assumption | rfl) ?_
                    refine go_iload_n dX10_lay_77 rfl ?_
                    refine go_iaload dX10_lay_78 (by first | assumption | exact Nat.le_of_ble_eq_true rfl) (by first | assumption | rfl) (by omega) (by omega) ?_
                    try simp (disch := omega) only [ua_same, ua_ne, uf_same, uf_ne]
                    refine go_istore dX10_lay_79 rfl ?_
                    refine go_aload_n dX10_lay_81 rfl ?_
                    refine go_getR dX10_lay_82 fl_X10_28 (by first | assumption | exact Nat.le_of_ble_eq_true rfl) (by first | assumption | rfl) rfl (by first | assumption | rfl) ?_
                    refine go_iload_n dX10_lay_85 rfl ?_
                    refine go_iload_n dX10_lay_86 rfl ?_
                    refine go_iastore dX10_lay_87 (by first | assumption | exact Nat.le_of_ble_eq_true rfl) (by first | assumption | rfl) (by omega) (by omega) ?_
                    refine go_aload_n dX10_lay_88 rfl ?_
                    refine go_getR dX10_lay_89 fl_X10_31 (by first | assumption | exact Nat.le_of_ble_eq_true rfl) (by first | assumption | rfl) rfl (by first | assumption | rfl) ?_
                    refine go_iload_n dX10_lay_92 rfl ?_
                    refine go_iload_n dX10_lay_93 rfl ?_
                    refine go_iconst dX10_lay_94 rfl ?_
                    refine go_icmp_ne (tgt := 107) dX10_lay_95 rfl (fun h95 => ?_) (fun h95 => ?_)
                    ·
                      refine go_iload_n dX10_lay_107 rfl ?_
                      refine go_iastore dX10_lay_108 (by first | assumption | exact Nat.le_of_ble_eq_true rfl) (by first | assumption | rfl) (by omega) (by omega) ?_
                      refine go_aload_n dX10_lay_109 rfl ?_
                      refine go_getR dX10_lay_110 fl_X10_34 (by first | assumption | exact Nat.le_of_ble_eq_true rfl) (by first | assumption | rfl) rfl (by first | assumption | rfl) ?_
                      refine go_iload_n dX10_lay_113 rfl ?_
                      refine go_iload_n dX10_lay_114 rfl ?_
                      refine go_iconst dX10_lay_115 rfl ?_
                      refine go_icmp_ne (tgt := 127) dX10_lay_116 rfl (fun h116 => ?_) (fun h116 => ?_)
                      ·
                        refine go_iconst dX10_lay_127 rfl ?_
                        refine go_iastore dX10_lay_128 (by first | assumption | exact Nat.le_of_ble_eq_true rfl) (by first | assumption | rfl) (by omega) (by omega) ?_
                        refine go_iload_n dX10_lay_129 rfl ?_
                        refine go_iconst dX10_lay_130 rfl ?_
                        refine go_icmp_ne (tgt := 186) dX10_lay_131 rfl (fun h131 => ?_) (fun h131 => ?_)
                        ·
                          exact absurd h131 (by omega)
                        ·
                          refine go_aload_n dX10_lay_134 rfl ?_
                          refine go_getR dX10_lay_135 fl_X10_37 (by first | assumption | exact Nat.le_of_ble_eq_true rfl) (by first | assumption | rfl) rfl (by first | assumption | rfl) ?_
                          refine go_iload_n dX10_lay_138 rfl ?_
                          refine go_aload_n dX10_lay_139 rfl ?_
                          refine go_getR dX10_lay_140 fl_X10_22 (by first | assumption | exact Nat.le_of_ble_eq_true rfl) (by first | assumption | rfl) rfl (by first | assumption | rfl) ?_
                          refine go_iload_n dX10_lay_143 rfl ?_
                          refine go_iaload dX10_lay_144 (by first | assumption | exact Nat.le_of_ble_eq_true rfl) (by first | assumption | rfl) (by omega) (by omega) ?_
                          try simp (disch := omega) only [ua_same, ua_ne, uf_same, uf_ne]
                          refine go_iastore dX10_lay_145 (by first | assumption | exact Nat.le_of_ble_eq_true rfl) (by first | assumption | rfl) (by omega) (by omega) ?_
                          refine go_iconst dX10_lay_146 rfl ?_
                          refine go_istore dX10_lay_147 rfl ?_
                          refine go_drop (loop 24 0 _ _ (by omega) (by omega) (by omega) (by omega) (by omega) ?_ ?_ ?_ ?_ ?_ ?_) rfl
                          · simp (disch := omega) only [ud, ua_same, ua_ne, uf_same, uf_ne]
                          · simp (disch := omega) only [ud, ua_same, ua_ne, uf_same, uf_ne]
                          · simp (disch := omega) only [ud, ua_same, ua_ne, uf_same, uf_ne]
                          · simp (disch := omega) only [ud, ua_same, ua_ne, uf_same, uf_ne]
                          · intro q; rw [if_neg (by omega)]; simp (disch := omega) only [ud, ua_same, ua_ne, uf_same, uf_ne]
                          · intro q b c d e f; rw [ud_n e, ud_n d, ud_n c, ud_n b]
                      ·
                        exact absurd h116 (by omega)
                    ·
                      exact absurd h95 (by omega)
                  ·
                    refine go_ldcw dX10_lay_69 kc_X10_329 rfl ?_
                    exact go_ri dX10_lay_72 tyI ⟨Nat.le_refl _, Nat.le_refl _⟩ (⟨fun h => absurd (by omega) h, fun _ => ⟨fun _ => ⟨rfl, rfl⟩, fun h => absurd (by omega) h⟩⟩)
              ·
                exact absurd h49 (by omega)
      ·
        refine go_iload_n dX10_lay_14 rfl ?_
        refine go_sI dX10_lay_15 (ct_X10_isCell _) ml_X10_116 mc_X10_isCell ms_X10_isCell ⟨rfl, rfl⟩ ⟨Nat.le_refl _, Nat.le_refl _⟩ rfl rfl rfl (fun x15 μ15 hc15 => ?_)
        obtain ⟨rfl, hm15⟩ := hc15
        rw [hm15]
        first | refine go_bnz (tgt := 33) dX10_lay_18 rfl (fun h18 => ?_) (fun h18 => ?_) | refine go_if_ne (tgt := 33) dX10_lay_18 rfl (fun h18 => ?_) (fun h18 => ?_)
        ·
          refine go_iconst dX10_lay_33 rfl ?_
          refine go_goto (tgt := 38) dX10_lay_34 rfl ?_
          refine go_istore dX10_lay_38 rfl ?_
          refine go_iload_n dX10_lay_40 rfl ?_
          refine go_sI dX10_lay_41 (ct_X10_isSlot _) ml_X10_333 mc_X10_isSlot ms_X10_isSlot ⟨rfl, rfl⟩ ⟨Nat.le_refl _, Nat.le_refl _⟩ rfl rfl rfl (fun x41 μ41 hc41 => ?_)
          obtain ⟨rfl, hm41⟩ := hc41
          rw [hm41]
          first | refine go_bz (tgt := 52) dX10_lay_44 rfl (fun h44 => ?_) (fun h44 => ?_) | refine go_if_eq (tgt := 52) dX10_lay_44 rfl (fun h44 => ?_) (fun h44 => ?_)
          ·
            refine go_ldc dX10_lay_52 kc_X10_126 rfl ?_
            exact go_ri dX10_lay_54 tyI ⟨Nat.le_refl _, Nat.le_refl _⟩ (⟨fun _ => ⟨rfl, rfl⟩, fun h => absurd h (by omega)⟩)
          ·
            refine go_iload dX10_lay_47 rfl ?_
            first | refine go_bnz (tgt := 55) dX10_lay_49 rfl (fun h49 => ?_) (fun h49 => ?_) | refine go_if_ne (tgt := 55) dX10_lay_49 rfl (fun h49 => ?_) (fun h49 => ?_)
            ·
              refine go_iload_n dX10_lay_55 rfl ?_
              refine go_iconst dX10_lay_56 rfl ?_
              refine go_icmp_ne (tgt := 73) dX10_lay_57 rfl (fun h57 => ?_) (fun h57 => ?_)
              ·
                refine go_aload_n dX10_lay_73 rfl ?_
                refine go_getR dX10_lay_74 fl_X10_28 (by first | assumption | exact Nat.le_of_ble_eq_true rfl) (by first | assumption | rfl) rfl (by first | assumption | rfl) ?_
                refine go_iload_n dX10_lay_77 rfl ?_
                refine go_iaload dX10_lay_78 (by first | assumption | exact Nat.le_of_ble_eq_true rfl) (by first | assumption | rfl) (by omega) (by omega) ?_
                try simp (disch := omega) only [ua_same, ua_ne, uf_same, uf_ne]
                refine go_istore dX10_lay_79 rfl ?_
                refine go_aload_n dX10_lay_81 rfl ?_
                refine go_getR dX10_lay_82 fl_X10_28 (by first | assumption | exact Nat.le_of_ble_eq_true rfl) (by first | assumption | rfl) rfl (by first | assumption | rfl) ?_
                refine go_iload_n dX10_lay_85 rfl ?_
                refine go_iload_n dX10_lay_86 rfl ?_
                refine go_iastore dX10_lay_87 (by first | assumption | exact Nat.le_of_ble_eq_true rfl) (by first | assumption | rfl) (by omega) (by omega) ?_
                refine go_aload_n dX10_lay_88 rfl ?_
                refine go_getR dX10_lay_89 fl_X10_31 (by first | assumption | exact Nat.le_of_ble_eq_true rfl) (by first | assumption | rfl) rfl (by first | assumption | rfl) ?_
                refine go_iload_n dX10_lay_92 rfl ?_
                refine go_iload_n dX10_lay_93 rfl ?_
                refine go_iconst dX10_lay_94 rfl ?_
                refine go_icmp_ne (tgt := 107) dX10_lay_95 rfl (fun h95 => ?_) (fun h95 => ?_)
                ·
                  exact absurd h95 (by omega)
                ·
                  refine go_aload_n dX10_lay_98 rfl ?_
                  refine go_iload_n dX10_lay_99 rfl ?_
                  refine go_iconst dX10_lay_100 rfl ?_
                  refine go_vI (ci := 9) dX10_lay_101 (ct_X10_of _ _ (by omega) (by omega) (by omega) (by omega)) ml_X10_92 mc_X10_of mv_X10_of rfl (by first | assumption | exact Nat.le_of_ble_eq_true rfl) (by first | assumption | rfl) rfl ⟨rfl, rfl⟩ ⟨Nat.le_refl _, Nat.le_refl _⟩ rfl rfl rfl (fun x101 μ101 hc101 => ?_)
                  simp (disch := omega) only [ud, ua_ne] at hc101
                  obtain ⟨rfl, hm101⟩ := hc101
                  rw [hm101]
                  refine go_goto (tgt := 108) dX10_lay_104 rfl ?_
                  refine go_iastore dX10_lay_108 (by first | assumption | exact Nat.le_of_ble_eq_true rfl) (by first | assumption | rfl) (by omega) (by omega) ?_
                  refine go_aload_n dX10_lay_109 rfl ?_
                  refine go_getR dX10_lay_110 fl_X10_34 (by first | assumption | exact Nat.le_of_ble_eq_true rfl) (by first | assumption | rfl) rfl (by first | assumption | rfl) ?_
                  refine go_iload_n dX10_lay_113 rfl ?_
                  refine go_iload_n dX10_lay_114 rfl ?_
                  refine go_iconst dX10_lay_115 rfl ?_
                  refine go_icmp_ne (tgt := 127) dX10_lay_116 rfl (fun h116 => ?_) (fun h116 => ?_)
                  ·
                    exact absurd h116 (by omega)
                  ·
                    refine go_aload_n dX10_lay_119 rfl ?_
                    refine go_iload_n dX10_lay_120 rfl ?_
                    refine go_vI (ci := 9) dX10_lay_121 (ct_X10_worth (by simp (disch := omega) only [ud, ua_ne]; exact hI) _ (by omega) (by omega)) ml_X10_137 mc_X10_worth mv_X10_worth rfl (by first | assumption | exact Nat.le_of_ble_eq_true rfl) (by first | assumption | rfl) rfl ⟨rfl, rfl⟩ ⟨Nat.le_refl _, Nat.le_refl _⟩ rfl rfl rfl (fun x121 μ121 hc121 => ?_)
                    simp (disch := omega) only [ud, ua_ne] at hc121
                    obtain ⟨rfl, hm121⟩ := hc121
                    rw [hm121]
                    refine go_goto (tgt := 128) dX10_lay_124 rfl ?_
                    refine go_iastore dX10_lay_128 (by first | assumption | exact Nat.le_of_ble_eq_true rfl) (by first | assumption | rfl) (by omega) (by omega) ?_
                    refine go_iload_n dX10_lay_129 rfl ?_
                    refine go_iconst dX10_lay_130 rfl ?_
                    refine go_icmp_ne (tgt := 186) dX10_lay_131 rfl (fun h131 => ?_) (fun h131 => ?_)
                    ·
                      refine go_iload dX10_lay_186 rfl ?_
                      exact go_ri dX10_lay_188 tyI ⟨Nat.le_refl _, Nat.le_refl _⟩ (⟨fun h => absurd (by omega) h, fun _ => ⟨fun h => absurd h (by omega), fun _ => ⟨rfl, by simp (disch := omega) only [ud, ua_same, ua_ne, uf_same, uf_ne], by rw [if_pos (by omega), vm_33 (by omega) (by omega)]; simp (disch := omega) only [ud, ua_same, ua_ne, uf_same, uf_ne], by rw [if_pos (by omega)]; simp (disch := omega) only [ud, ua_same, ua_ne, uf_same, uf_ne], fun h => absurd h (by omega), fun _ => ⟨by simp (disch := omega) only [ud, ua_same, ua_ne, uf_same, uf_ne], by simp (disch := omega) only [ud, ua_same, ua_ne, uf_same, uf_ne]⟩, fun q a b c d e => by simp (disch := omega) only [ud, ua_ne]⟩⟩⟩)
                    ·
                      exact absurd h131 (by omega)
              ·
                exact absurd h57 (by omega)
            ·
              exact absurd h49 (by omega)
        ·
          refine go_iload_n dX10_lay_21 rfl ?_
          refine go_iconst dX10_lay_22 rfl ?_
          refine go_icmp_ne (tgt := 37) dX10_lay_23 rfl (fun h23 => ?_) (fun h23 => ?_)
          ·
            refine go_iconst dX10_lay_37 rfl ?_
            refine go_istore dX10_lay_38 rfl ?_
            refine go_iload_n dX10_lay_40 rfl ?_
            refine go_sI dX10_lay_41 (ct_X10_isSlot _) ml_X10_333 mc_X10_isSlot ms_X10_isSlot ⟨rfl, rfl⟩ ⟨Nat.le_refl _, Nat.le_refl _⟩ rfl rfl rfl (fun x41 μ41 hc41 => ?_)
            obtain ⟨rfl, hm41⟩ := hc41
            rw [hm41]
            first | refine go_bz (tgt := 52) dX10_lay_44 rfl (fun h44 => ?_) (fun h44 => ?_) | refine go_if_eq (tgt := 52) dX10_lay_44 rfl (fun h44 => ?_) (fun h44 => ?_)
            ·
              refine go_ldc dX10_lay_52 kc_X10_126 rfl ?_
              exact go_ri dX10_lay_54 tyI ⟨Nat.le_refl _, Nat.le_refl _⟩ (⟨fun _ => ⟨rfl, rfl⟩, fun h => absurd h (by omega)⟩)
            ·
              refine go_iload dX10_lay_47 rfl ?_
              first | refine go_bnz (tgt := 55) dX10_lay_49 rfl (fun h49 => ?_) (fun h49 => ?_) | refine go_if_ne (tgt := 55) dX10_lay_49 rfl (fun h49 => ?_) (fun h49 => ?_)
              ·
                exact absurd h49 (by omega)
              ·
                refine go_ldc dX10_lay_52 kc_X10_126 rfl ?_
                exact go_ri dX10_lay_54 tyI ⟨Nat.le_refl _, Nat.le_refl _⟩ (⟨fun _ => ⟨rfl, rfl⟩, fun h => absurd h (by omega)⟩)
          ·
            exact absurd h23 (by omega)

set_option maxRecDepth 100000 in
set_option maxHeartbeats 4000000 in
theorem ct_X10_feed {l : Launch} {D : va_G} {cA : Nat → ClassId} {μ : Mem} (hT : 0 ≤ μ 87 21 ∧ μ 87 21 ≤ 96) (a b c : Int) : CtN l D cA yX10_feed cX10_feed 6 (some .int) 1 [vr 87, vi a, vi b, vi c] μ (Pi (fun x μ' => (96 < μ 87 21 + 12 → x = -1000000003 ∧ μ' = μ) ∧ (μ 87 21 + 12 ≤ 96 → x = μ 87 21 + 12 ∧ μ' 87 = uf (μ 87) 21 (μ 87 21 + 12) ∧ (∀ q, μ' 107 q = if μ 87 21 ≤ q ∧ q < μ 87 21 + 12 then byI (if q - μ 87 21 < 4 then a else if q - μ 87 21 < 8 then b else c) (24 - 8 * ((q - μ 87 21) % 4)) else μ 107 q) ∧ ∀ q, q ≠ 87 → q ≠ 107 → μ' q = μ q))) := by
  refine Ct.of (own := RX10) (by decide +kernel) rfl (fun σ => Nat.le_of_ble_eq_true rfl) (fun hM hP ha => ?_)
  obtain ⟨m87, r88, s88, r89, s89, r90, s90, r91, s91, r92, s92, r93, s93, r94, s94, r95, s95, r96, s96, r97, s97, r98, s98, r99, s99, r100, s100, r101, s101, r102, s102, r103, s103, r104, s104, r105, s105, r106, s106, r107, s107, r108, s108, r109, s109, r110, s110, r111, s111, r112, s112⟩ := md_f
  have loop : ∀ (m : Nat) (i : Int) (μ1 : Mem), 12 - i = (m : Nat) → 0 ≤ i → (μ 87 21 + 12 ≤ 96) → (μ1 87 = uf (μ 87) 21 (μ 87 21 + i)) → (∀ q, μ1 107 q = if μ 87 21 ≤ q ∧ q < μ 87 21 + i then byI (if q - μ 87 21 < 4 then a else if q - μ 87 21 < 8 then b else c) (24 - 8 * ((q - μ 87 21) % 4)) else μ 107 q) → (∀ q, q ≠ 87 → q ≠ 107 → μ1 q = μ q) → Go l D cA none RX10 cX10_feed 6 (some .int) (1, 0, 0) (QN (Pi (fun x μ' => (96 < μ 87 21 + 12 → x = -1000000003 ∧ μ' = μ) ∧ (μ 87 21 + 12 ≤ 96 → x = μ 87 21 + 12 ∧ μ' 87 = uf (μ 87) 21 (μ 87 21 + 12) ∧ (∀ q, μ' 107 q = if μ 87 21 ≤ q ∧ q < μ 87 21 + 12 then byI (if q - μ 87 21 < 4 then a else if q - μ 87 21 < 8 then b else c) (24 - 8 * ((q - μ 87 21) % 4)) else μ 107 q) ∧ ∀ q, q ≠ 87 → q ≠ 107 → μ' q = μ q)))) 113 ρ0 0 0 18 [(0, vr 87), (1, vi a), (2, vi b), (3, vi c), (4, vi i)] [] μ1 := by
    intro m
    induction m with
    | zero =>
      intro i μ1 hm hv hr h87 h107 hf
      refine go_iload dX10_feed_18 rfl ?_
      refine go_bipush dX10_feed_20 rfl (by decide) ?_
      refine go_icmp_ge (tgt := 91) dX10_feed_22 rfl (fun h22 => ?_) (fun h22 => ?_)
      ·
        rw [show i = 12 by omega] at h87 h107
        refine go_aload_n dX10_feed_91 rfl ?_
        refine go_getI 21 dX10_feed_92 fl_X10_223 (by first | assumption | exact Nat.le_of_ble_eq_true rfl) (by first | assumption | rfl) rfl rfl ?_
        rw [h87, uf_same]
        exact go_ri dX10_feed_95 tyI ⟨Nat.le_refl _, Nat.le_refl _⟩ (⟨fun h => absurd h (by omega), fun _ => ⟨rfl, h87, h107, hf⟩⟩)
      ·
        exact absurd h22 (by omega)
    | succ m ih =>
      intro i μ1 hm hv hr h87 h107 hf
      refine go_iload dX10_feed_18 rfl ?_
      refine go_bipush dX10_feed_20 rfl (by decide) ?_
      refine go_icmp_ge (tgt := 91) dX10_feed_22 rfl (fun h22 => ?_) (fun h22 => ?_)
      ·
        exact absurd h22 (by omega)
      ·
        have e21 : μ1 87 21 = μ 87 21 + i := by rw [h87, uf_same]
        refine go_iload dX10_feed_25 rfl ?_
        refine go_iconst dX10_feed_27 rfl ?_
        refine go_icmp_ge (tgt := 35) dX10_feed_28 rfl (fun h28 => ?_) (fun h28 => ?_)
        ·
          refine go_iload dX10_feed_35 rfl ?_
          refine go_bipush dX10_feed_37 rfl (by decide) ?_
          refine go_icmp_ge (tgt := 46) dX10_feed_39 rfl (fun h39 => ?_) (fun h39 => ?_)
          ·
            refine go_iload_n dX10_feed_46 rfl ?_
            refine go_istore dX10_feed_47 rfl ?_
            refine go_aload_n dX10_feed_49 rfl ?_
            refine go_getR dX10_feed_50 fl_X10_68 (by first | assumption | exact Nat.le_of_ble_eq_true rfl) (by first | assumption | rfl) rfl (by first | assumption | rfl) ?_
            refine go_aload_n dX10_feed_53 rfl ?_
            refine go_getI 21 dX10_feed_54 fl_X10_223 (by first | assumption | exact Nat.le_of_ble_eq_true rfl) (by first | assumption | rfl) rfl rfl ?_
            refine go_iload dX10_feed_57 rfl ?_
            refine go_bipush dX10_feed_59 rfl (by decide) ?_
            refine go_bipush dX10_feed_61 rfl (by decide) ?_
            refine go_iload dX10_feed_63 rfl ?_
            refine go_iconst dX10_feed_65 rfl ?_
            refine go_irem dX10_feed_66 (by omega) (by omega) ?_
            refine go_imul dX10_feed_67 ⟨by omega, by omega⟩ ?_
            refine go_isub dX10_feed_68 ⟨by omega, by omega⟩ ?_
            refine go_ishr dX10_feed_69 ?_
            refine go_sipush dX10_feed_70 rfl (by decide) ?_
            refine go_iand dX10_feed_73 ?_
            rw [by_s (by omega)]
            refine go_iastore dX10_feed_74 (by first | assumption | exact Nat.le_of_ble_eq_true rfl) (by first | assumption | rfl) (by omega) (by omega) ?_
            refine go_aload_n dX10_feed_75 rfl ?_
            refine go_dup dX10_feed_76 rfl ?_
            refine go_getI 21 dX10_feed_77 fl_X10_223 (by first | assumption | exact Nat.le_of_ble_eq_true rfl) (by first | assumption | rfl) rfl rfl ?_
            try simp (disch := omega) only [ua_same, ua_ne, uf_same, uf_ne]
            refine go_iconst dX10_feed_80 rfl ?_
            refine go_iadd dX10_feed_81 ⟨by omega, by omega⟩ ?_
            refine go_putI 21 dX10_feed_82 pl_X10_223 (by first | assumption | exact Nat.le_of_ble_eq_true rfl) (by first | assumption | rfl) rfl rfl ?_
            refine go_iinc dX10_feed_85 rfl rfl ⟨by omega, by omega⟩ ?_
            refine go_goto (tgt := 18) dX10_feed_88 rfl ?_
            refine go_drop (ih _ _ (by omega) (by omega) hr ?_ ?_ ?_) rfl
            · rw [ud_s, ud_n (by decide), h87, uf_uf, uf_same, show μ 87 21 + (i + 1) = μ 87 21 + i + 1 by omega]
            · intro q
              rw [ud_n (by decide), ud_s, e21]
              by_cases e : q = μ 87 21 + i
              · rw [e, uf_same, if_pos (by omega), show μ 87 21 + i - μ 87 21 = i by omega, if_neg (by omega), if_neg (by omega)]
              · rw [uf_ne e, h107]
                by_cases e2 : μ 87 21 ≤ q ∧ q < μ 87 21 + i
                · rw [if_pos e2, if_pos (show μ 87 21 ≤ q ∧ q < μ 87 21 + (i + 1) by omega)]
                · rw [if_neg e2, if_neg (show ¬ (μ 87 21 ≤ q ∧ q < μ 87 21 + (i + 1)) by omega)]
            · intro q x y; rw [ud_n x, ud_n y]; exact hf q x y
          ·
            refine go_iload_n dX10_feed_42 rfl ?_
            refine go_goto (tgt := 47) dX10_feed_43 rfl ?_
            refine go_istore dX10_feed_47 rfl ?_
            refine go_aload_n dX10_feed_49 rfl ?_
            refine go_getR dX10_feed_50 fl_X10_68 (by first | assumption | exact Nat.le_of_ble_eq_true rfl) (by first | assumption | rfl) rfl (by first | assumption | rfl) ?_
            refine go_aload_n dX10_feed_53 rfl ?_
            refine go_getI 21 dX10_feed_54 fl_X10_223 (by first | assumption | exact Nat.le_of_ble_eq_true rfl) (by first | assumption | rfl) rfl rfl ?_
            refine go_iload dX10_feed_57 rfl ?_
            refine go_bipush dX10_feed_59 rfl (by decide) ?_
            refine go_bipush dX10_feed_61 rfl (by decide) ?_
            refine go_iload dX10_feed_63 rfl ?_
            refine go_iconst dX10_feed_65 rfl ?_
            refine go_irem dX10_feed_66 (by omega) (by omega) ?_
            refine go_imul dX10_feed_67 ⟨by omega, by omega⟩ ?_
            refine go_isub dX10_feed_68 ⟨by omega, by omega⟩ ?_
            refine go_ishr dX10_feed_69 ?_
            refine go_sipush dX10_feed_70 rfl (by decide) ?_
            refine go_iand dX10_feed_73 ?_
            rw [by_s (by omega)]
            refine go_iastore dX10_feed_74 (by first | assumption | exact Nat.le_of_ble_eq_true rfl) (by first | assumption | rfl) (by omega) (by omega) ?_
            refine go_aload_n dX10_feed_75 rfl ?_
            refine go_dup dX10_feed_76 rfl ?_
            refine go_getI 21 dX10_feed_77 fl_X10_223 (by first | assumption | exact Nat.le_of_ble_eq_true rfl) (by first | assumption | rfl) rfl rfl ?_
            try simp (disch := omega) only [ua_same, ua_ne, uf_same, uf_ne]
            refine go_iconst dX10_feed_80 rfl ?_
            refine go_iadd dX10_feed_81 ⟨by omega, by omega⟩ ?_
            refine go_putI 21 dX10_feed_82 pl_X10_223 (by first | assumption | exact Nat.le_of_ble_eq_true rfl) (by first | assumption | rfl) rfl rfl ?_
            refine go_iinc dX10_feed_85 rfl rfl ⟨by omega, by omega⟩ ?_
            refine go_goto (tgt := 18) dX10_feed_88 rfl ?_
            refine go_drop (ih _ _ (by omega) (by omega) hr ?_ ?_ ?_) rfl
            · rw [ud_s, ud_n (by decide), h87, uf_uf, uf_same, show μ 87 21 + (i + 1) = μ 87 21 + i + 1 by omega]
            · intro q
              rw [ud_n (by decide), ud_s, e21]
              by_cases e : q = μ 87 21 + i
              · rw [e, uf_same, if_pos (by omega), show μ 87 21 + i - μ 87 21 = i by omega, if_neg (by omega), if_pos (by omega)]
              · rw [uf_ne e, h107]
                by_cases e2 : μ 87 21 ≤ q ∧ q < μ 87 21 + i
                · rw [if_pos e2, if_pos (show μ 87 21 ≤ q ∧ q < μ 87 21 + (i + 1) by omega)]
                · rw [if_neg e2, if_neg (show ¬ (μ 87 21 ≤ q ∧ q < μ 87 21 + (i + 1)) by omega)]
            · intro q x y; rw [ud_n x, ud_n y]; exact hf q x y
        ·
          refine go_iload_n dX10_feed_31 rfl ?_
          refine go_goto (tgt := 47) dX10_feed_32 rfl ?_
          refine go_istore dX10_feed_47 rfl ?_
          refine go_aload_n dX10_feed_49 rfl ?_
          refine go_getR dX10_feed_50 fl_X10_68 (by first | assumption | exact Nat.le_of_ble_eq_true rfl) (by first | assumption | rfl) rfl (by first | assumption | rfl) ?_
          refine go_aload_n dX10_feed_53 rfl ?_
          refine go_getI 21 dX10_feed_54 fl_X10_223 (by first | assumption | exact Nat.le_of_ble_eq_true rfl) (by first | assumption | rfl) rfl rfl ?_
          refine go_iload dX10_feed_57 rfl ?_
          refine go_bipush dX10_feed_59 rfl (by decide) ?_
          refine go_bipush dX10_feed_61 rfl (by decide) ?_
          refine go_iload dX10_feed_63 rfl ?_
          refine go_iconst dX10_feed_65 rfl ?_
          refine go_irem dX10_feed_66 (by omega) (by omega) ?_
          refine go_imul dX10_feed_67 ⟨by omega, by omega⟩ ?_
          refine go_isub dX10_feed_68 ⟨by omega, by omega⟩ ?_
          refine go_ishr dX10_feed_69 ?_
          refine go_sipush dX10_feed_70 rfl (by decide) ?_
          refine go_iand dX10_feed_73 ?_
          rw [by_s (by omega)]
          refine go_iastore dX10_feed_74 (by first | assumption | exact Nat.le_of_ble_eq_true rfl) (by first | assumption | rfl) (by omega) (by omega) ?_
          refine go_aload_n dX10_feed_75 rfl ?_
          refine go_dup dX10_feed_76 rfl ?_
          refine go_getI 21 dX10_feed_77 fl_X10_223 (by first | assumption | exact Nat.le_of_ble_eq_true rfl) (by first | assumption | rfl) rfl rfl ?_
          try simp (disch := omega) only [ua_same, ua_ne, uf_same, uf_ne]
          refine go_iconst dX10_feed_80 rfl ?_
          refine go_iadd dX10_feed_81 ⟨by omega, by omega⟩ ?_
          refine go_putI 21 dX10_feed_82 pl_X10_223 (by first | assumption | exact Nat.le_of_ble_eq_true rfl) (by first | assumption | rfl) rfl rfl ?_
          refine go_iinc dX10_feed_85 rfl rfl ⟨by omega, by omega⟩ ?_
          refine go_goto (tgt := 18) dX10_feed_88 rfl ?_
          refine go_drop (ih _ _ (by omega) (by omega) hr ?_ ?_ ?_) rfl
          · rw [ud_s, ud_n (by decide), h87, uf_uf, uf_same, show μ 87 21 + (i + 1) = μ 87 21 + i + 1 by omega]
          · intro q
            rw [ud_n (by decide), ud_s, e21]
            by_cases e : q = μ 87 21 + i
            · rw [e, uf_same, if_pos (by omega), show μ 87 21 + i - μ 87 21 = i by omega, if_pos (by omega)]
            · rw [uf_ne e, h107]
              by_cases e2 : μ 87 21 ≤ q ∧ q < μ 87 21 + i
              · rw [if_pos e2, if_pos (show μ 87 21 ≤ q ∧ q < μ 87 21 + (i + 1) by omega)]
              · rw [if_neg e2, if_neg (show ¬ (μ 87 21 ≤ q ∧ q < μ 87 21 + (i + 1)) by omega)]
          · intro q x y; rw [ud_n x, ud_n y]; exact hf q x y
  refine go_aload_n dX10_feed_0 rfl ?_
  refine go_getI 21 dX10_feed_1 fl_X10_223 (by first | assumption | exact Nat.le_of_ble_eq_true rfl) (by first | assumption | rfl) rfl rfl ?_
  refine go_bipush dX10_feed_4 rfl (by decide) ?_
  refine go_iadd dX10_feed_6 ⟨by omega, by omega⟩ ?_
  refine go_bipush dX10_feed_7 rfl (by decide) ?_
  refine go_icmp_le (tgt := 15) dX10_feed_9 rfl (fun h9 => ?_) (fun h9 => ?_)
  ·
    refine go_iconst dX10_feed_15 rfl ?_
    refine go_istore dX10_feed_16 rfl ?_
    exact go_drop (loop 12 0 μ (by omega) (by omega) (by omega) (by rw [Int.add_zero]; exact uf_id.symm) (fun q => by rw [if_neg (by omega)]) (fun _ _ _ => rfl)) rfl
  ·
    refine go_ldc dX10_feed_12 kc_X10_189 rfl ?_
    exact go_ri dX10_feed_14 tyI ⟨Nat.le_refl _, Nat.le_refl _⟩ (⟨fun _ => ⟨rfl, rfl⟩, fun h => absurd h (by omega)⟩)

theorem pw3_0 : ∀ n : Nat, pw3 0 n = 0
  | 0 => rfl
  | n + 1 => by show pw3 0 n * 3 = 0; rw [pw3_0 n]; rfl
theorem od_0 {m : Nat} {part : Int} (h : part = 0 ∨ part = 1) : odV 0 m part = part := by
  unfold odV
  rw [pw3_0]
  rcases h with h | h <;> subst h <;> decide

theorem odg {u v : Int} (hu : 0 ≤ u) (hv : 0 < v) : Nat.gcd v.toNat (u % v).toNat = Nat.gcd u.toNat v.toNat := by
  rw [gcd_st u.toNat v.toNat]
  congr 1
  have h1 : ((u.toNat % v.toNat : Nat) : Int) = u % v := by
    rw [Int.natCast_emod, show ((u.toNat : Nat) : Int) = u by omega, show ((v.toNat : Nat) : Int) = v by omega]
  omega

set_option maxRecDepth 100000 in
set_option maxHeartbeats 4000000 in
theorem ct_X10_odds {l : Launch} {D : va_G} {cA : Nat → ClassId} {μ : Mem} (p m part : Int) : CtN l D cA yX10_odds cX10_odds 14 (some .long) 3 [vr 87, vi p, vi m, vi part] μ (Pl (fun x μ' => x = (if (0 ≤ p ∧ p ≤ 100) ∧ (0 ≤ m ∧ m ≤ 12) ∧ 0 ≤ part ∧ part ≤ 1 then odV p m.toNat part else -1000000001) ∧ μ' = μ)) := by
  refine Ct.of (own := RX10) (by decide +kernel) rfl (fun σ => Nat.le_of_ble_eq_true rfl) (fun hM hP ha => ?_)
  obtain ⟨m87, r88, s88, r89, s89, r90, s90, r91, s91, r92, s92, r93, s93, r94, s94, r95, s95, r96, s96, r97, s97, r98, s98, r99, s99, r100, s100, r101, s101, r102, s102, r103, s103, r104, s104, r105, s105, r106, s106, r107, s107, r108, s108, r109, s109, r110, s110, r111, s111, r112, s112⟩ := md_f
  refine go_iload_n dX10_odds_0 rfl ?_
  refine go_i2l dX10_odds_1 ?_
  refine go_lconst dX10_odds_2 ?_
  refine go_ldc2 dX10_odds_3 kl_X10_217 rfl ?_
  refine go_sI dX10_odds_6 (ct_X10_isIn _ _ _) ml_X10_87 mc_X10_isIn ms_X10_isIn ⟨rfl, rfl⟩ ⟨Nat.le_refl _, Nat.le_refl _⟩ rfl rfl rfl (fun x6 μ6 hc6 => ?_)
  obtain ⟨rfl, hm6⟩ := hc6
  rw [hm6]
  first | refine go_bz (tgt := 34) dX10_odds_9 rfl (fun h9 => ?_) (fun h9 => ?_) | refine go_if_eq (tgt := 34) dX10_odds_9 rfl (fun h9 => ?_) (fun h9 => ?_)
  ·
    refine go_ldc2 dX10_odds_34 kl_X10_221 rfl ?_
    exact go_rl dX10_odds_37 rfl ⟨Nat.le_refl _, Nat.le_refl _⟩ (⟨by rw [if_neg (by omega)], rfl⟩)
  ·
    refine go_iload_n dX10_odds_12 rfl ?_
    refine go_i2l dX10_odds_13 ?_
    refine go_lconst dX10_odds_14 ?_
    refine go_ldc2 dX10_odds_15 kl_X10_219 rfl ?_
    refine go_sI dX10_odds_18 (ct_X10_isIn _ _ _) ml_X10_87 mc_X10_isIn ms_X10_isIn ⟨rfl, rfl⟩ ⟨Nat.le_refl _, Nat.le_refl _⟩ rfl rfl rfl (fun x18 μ18 hc18 => ?_)
    obtain ⟨rfl, hm18⟩ := hc18
    rw [hm18]
    first | refine go_bz (tgt := 34) dX10_odds_21 rfl (fun h21 => ?_) (fun h21 => ?_) | refine go_if_eq (tgt := 34) dX10_odds_21 rfl (fun h21 => ?_) (fun h21 => ?_)
    ·
      refine go_ldc2 dX10_odds_34 kl_X10_221 rfl ?_
      exact go_rl dX10_odds_37 rfl ⟨Nat.le_refl _, Nat.le_refl _⟩ (⟨by rw [if_neg (by omega)], rfl⟩)
    ·
      refine go_iload_n dX10_odds_24 rfl ?_
      refine go_i2l dX10_odds_25 ?_
      refine go_lconst dX10_odds_26 ?_
      refine go_lconst dX10_odds_27 ?_
      refine go_sI dX10_odds_28 (ct_X10_isIn _ _ _) ml_X10_87 mc_X10_isIn ms_X10_isIn ⟨rfl, rfl⟩ ⟨Nat.le_refl _, Nat.le_refl _⟩ rfl rfl rfl (fun x28 μ28 hc28 => ?_)
      obtain ⟨rfl, hm28⟩ := hc28
      rw [hm28]
      first | refine go_bnz (tgt := 38) dX10_odds_31 rfl (fun h31 => ?_) (fun h31 => ?_) | refine go_if_ne (tgt := 38) dX10_odds_31 rfl (fun h31 => ?_) (fun h31 => ?_)
      ·
        refine go_iload_n dX10_odds_38 rfl ?_
        first | refine go_bnz (tgt := 45) dX10_odds_39 rfl (fun h39 => ?_) (fun h39 => ?_) | refine go_if_ne (tgt := 45) dX10_odds_39 rfl (fun h39 => ?_) (fun h39 => ?_)
        ·
          refine go_iload_n dX10_odds_45 rfl ?_
          refine go_i2l dX10_odds_46 ?_
          refine go_lstore dX10_odds_47 rfl ?_
          refine go_iconst dX10_odds_49 rfl ?_
          refine go_istore dX10_odds_50 rfl ?_
          have hC : (0 ≤ p ∧ p ≤ 100) ∧ (0 ≤ m ∧ m ≤ 12) ∧ 0 ≤ part ∧ part ≤ 1 := by omega
          have h0p : 0 ≤ p := by omega
          have h1p : p ≤ 100 := by omega
          have loop : ∀ (k : Nat) (i ab : Int), m - i = (k : Nat) → 0 ≤ i → ab = pw3 p i.toNat → Go l D cA none RX10 cX10_odds 14 (some .long) (3, 0, 0) (QN (Pl (fun x μ' => x = (if (0 ≤ p ∧ p ≤ 100) ∧ (0 ≤ m ∧ m ≤ 12) ∧ 0 ≤ part ∧ part ≤ 1 then odV p m.toNat part else -1000000001) ∧ μ' = μ))) 113 ρ0 0 0 52 [(0, vr 87), (1, vi p), (2, vi m), (3, vi part), (4, vl ab), (6, vi i)] [] μ := by
            intro k
            induction k with
            | zero =>
              intro i ab hm hi hab
              refine go_iload dX10_odds_52 rfl ?_
              refine go_iload_n dX10_odds_54 rfl ?_
              refine go_icmp_ge (tgt := 72) dX10_odds_55 rfl (fun h55 => ?_) (fun h55 => ?_)
              ·
                have hpb := pw3_b h0p h1p m.toNat (by omega)
                have h3b := p3_b m.toNat (by omega)
                rw [show i.toNat = m.toNat by omega] at hab
                subst hab
                have hgp : 1 ≤ Nat.gcd (pw3 p m.toNat).toNat (pw3 p m.toNat + 100 - p).toNat := Nat.gcd_pos_of_pos_right _ (by omega)
                refine go_lload dX10_odds_72 rfl ?_
                refine go_ldc2 dX10_odds_74 kl_X10_217 rfl ?_
                refine go_ladd dX10_odds_77 ⟨by omega, by omega⟩ ?_
                refine go_iload_n dX10_odds_78 rfl ?_
                refine go_i2l dX10_odds_79 ?_
                refine go_lsub dX10_odds_80 ⟨by omega, by omega⟩ ?_
                refine go_lstore dX10_odds_81 rfl ?_
                refine go_lload dX10_odds_83 rfl ?_
                refine go_lstore dX10_odds_85 rfl ?_
                refine go_lload dX10_odds_87 rfl ?_
                refine go_lstore dX10_odds_89 rfl ?_
                have gl : ∀ (f : Nat) (u v : Int), v.toNat ≤ f → 0 ≤ u → u ≤ 99999999 → 0 ≤ v → v ≤ 99999999 → Nat.gcd u.toNat v.toNat = Nat.gcd (pw3 p m.toNat).toNat (pw3 p m.toNat + 100 - p).toNat → Go l D cA none RX10 cX10_odds 14 (some .long) (3, 0, 0) (QN (Pl (fun x μ' => x = (if (0 ≤ p ∧ p ≤ 100) ∧ (0 ≤ m ∧ m ≤ 12) ∧ 0 ≤ part ∧ part ≤ 1 then odV p m.toNat part else -1000000001) ∧ μ' = μ))) 113 ρ0 0 0 91 [(0, vr 87), (1, vi p), (2, vi m), (3, vi part), (4, vl (pw3 p m.toNat)), (6, vl (pw3 p m.toNat + 100 - p)), (8, vl u), (10, vl v)] [] μ := by
                  intro f
                  induction f with
                  | zero =>
                    intro u v hf hu hu1 hv hv1 hg
                    have hv00 : v = 0 := by omega
                    have hgu : ((Nat.gcd (pw3 p m.toNat).toNat (pw3 p m.toNat + 100 - p).toNat : Nat) : Int) = u := by rw [← hg, hv00]; show ((Nat.gcd u.toNat 0 : Nat) : Int) = u; rw [Nat.gcd_zero_right]; omega
                    have hup : 0 < u := by rw [← hgu]; omega
                    refine go_lload dX10_odds_91 rfl ?_
                    refine go_lconst dX10_odds_93 ?_
                    refine go_lcmp dX10_odds_94 ?_
                    refine go_if_le (tgt := 116) dX10_odds_95 rfl (fun h95 => ?_) (fun h95 => ?_)
                    ·
                      refine go_iload_n dX10_odds_116 rfl ?_
                      first | refine go_bnz (tgt := 128) dX10_odds_117 rfl (fun h117 => ?_) (fun h117 => ?_) | refine go_if_ne (tgt := 128) dX10_odds_117 rfl (fun h117 => ?_) (fun h117 => ?_)
                      ·
                        refine go_lload dX10_odds_128 rfl ?_
                        refine go_lload dX10_odds_130 rfl ?_
                        refine go_ldiv dX10_odds_132 (by omega) (by omega) ?_
                        exact go_rl dX10_odds_133 rfl ⟨Nat.le_refl _, Nat.le_refl _⟩ (⟨by unfold odV; rw [if_pos hC, if_neg h117, hgu], rfl⟩)
                      ·
                        refine go_lload dX10_odds_120 rfl ?_
                        refine go_lload dX10_odds_122 rfl ?_
                        refine go_ldiv dX10_odds_124 (by omega) (by omega) ?_
                        refine go_goto (tgt := 133) dX10_odds_125 rfl ?_
                        exact go_rl dX10_odds_133 rfl ⟨Nat.le_refl _, Nat.le_refl _⟩ (⟨by unfold odV; rw [if_pos hC, if_pos h117, hgu], rfl⟩)
                    ·
                      exact absurd h95 (by rw [lcI_le]; omega)
                  | succ f ihg =>
                    intro u v hf hu hu1 hv hv1 hg
                    by_cases hv0 : 0 < v
                    ·
                      have hm1 : 0 ≤ u % v := Int.emod_nonneg _ (by omega)
                      have hm2 : u % v < v := Int.emod_lt_of_pos _ hv0
                      refine go_lload dX10_odds_91 rfl ?_
                      refine go_lconst dX10_odds_93 ?_
                      refine go_lcmp dX10_odds_94 ?_
                      refine go_if_le (tgt := 116) dX10_odds_95 rfl (fun h95 => ?_) (fun h95 => ?_)
                      ·
                        exact absurd h95 (by rw [lcI_le]; omega)
                      ·
                        refine go_lload dX10_odds_98 rfl ?_
                        refine go_lload dX10_odds_100 rfl ?_
                        refine go_lrem dX10_odds_102 (by omega) (by omega) ?_
                        refine go_lstore dX10_odds_103 rfl ?_
                        refine go_lload dX10_odds_105 rfl ?_
                        refine go_lstore dX10_odds_107 rfl ?_
                        refine go_lload dX10_odds_109 rfl ?_
                        refine go_lstore dX10_odds_111 rfl ?_
                        refine go_goto (tgt := 91) dX10_odds_113 rfl ?_
                        refine go_drop (ihg _ _ (by omega) (by omega) (by omega) (by omega) (by omega) ?_) rfl
                        rw [← hg]
                        exact odg hu hv0
                    ·
                      have hv00 : v = 0 := by omega
                      have hgu : ((Nat.gcd (pw3 p m.toNat).toNat (pw3 p m.toNat + 100 - p).toNat : Nat) : Int) = u := by rw [← hg, hv00]; show ((Nat.gcd u.toNat 0 : Nat) : Int) = u; rw [Nat.gcd_zero_right]; omega
                      have hup : 0 < u := by rw [← hgu]; omega
                      refine go_lload dX10_odds_91 rfl ?_
                      refine go_lconst dX10_odds_93 ?_
                      refine go_lcmp dX10_odds_94 ?_
                      refine go_if_le (tgt := 116) dX10_odds_95 rfl (fun h95 => ?_) (fun h95 => ?_)
                      ·
                        refine go_iload_n dX10_odds_116 rfl ?_
                        first | refine go_bnz (tgt := 128) dX10_odds_117 rfl (fun h117 => ?_) (fun h117 => ?_) | refine go_if_ne (tgt := 128) dX10_odds_117 rfl (fun h117 => ?_) (fun h117 => ?_)
                        ·
                          refine go_lload dX10_odds_128 rfl ?_
                          refine go_lload dX10_odds_130 rfl ?_
                          refine go_ldiv dX10_odds_132 (by omega) (by omega) ?_
                          exact go_rl dX10_odds_133 rfl ⟨Nat.le_refl _, Nat.le_refl _⟩ (⟨by unfold odV; rw [if_pos hC, if_neg h117, hgu], rfl⟩)
                        ·
                          refine go_lload dX10_odds_120 rfl ?_
                          refine go_lload dX10_odds_122 rfl ?_
                          refine go_ldiv dX10_odds_124 (by omega) (by omega) ?_
                          refine go_goto (tgt := 133) dX10_odds_125 rfl ?_
                          exact go_rl dX10_odds_133 rfl ⟨Nat.le_refl _, Nat.le_refl _⟩ (⟨by unfold odV; rw [if_pos hC, if_pos h117, hgu], rfl⟩)
                      ·
                        exact absurd h95 (by rw [lcI_le]; omega)
                exact go_drop (gl (pw3 p m.toNat + 100 - p).toNat _ _ (by omega) (by omega) (by omega) (by omega) (by omega) rfl) rfl
              ·
                exact absurd h55 (by omega)
            | succ k ih =>
              intro i ab hm hi hab
              refine go_iload dX10_odds_52 rfl ?_
              refine go_iload_n dX10_odds_54 rfl ?_
              refine go_icmp_ge (tgt := 72) dX10_odds_55 rfl (fun h55 => ?_) (fun h55 => ?_)
              ·
                exact absurd h55 (by omega)
              ·
                have hpb := pw3_b h0p h1p i.toNat (by omega)
                have h3b := p3_b i.toNat (by omega)
                refine go_lload dX10_odds_58 rfl ?_
                refine go_ldc2 dX10_odds_60 kl_X10_171 rfl ?_
                refine go_lmul dX10_odds_63 ⟨by omega, by omega⟩ ?_
                refine go_lstore dX10_odds_64 rfl ?_
                refine go_iinc dX10_odds_66 rfl rfl ⟨by omega, by omega⟩ ?_
                refine go_goto (tgt := 52) dX10_odds_69 rfl ?_
                exact go_drop (ih _ _ (by omega) (by omega) (by rw [show (i + 1).toNat = i.toNat + 1 by omega, hab]; rfl)) rfl
          exact go_drop (loop m.toNat 0 p (by omega) (by omega) rfl) rfl
        ·
          refine go_iload_n dX10_odds_42 rfl ?_
          refine go_i2l dX10_odds_43 ?_
          exact go_rl dX10_odds_44 rfl ⟨Nat.le_refl _, Nat.le_refl _⟩ (⟨by rw [if_pos (by omega), h39, od_0 (by omega)], rfl⟩)
      ·
        refine go_ldc2 dX10_odds_34 kl_X10_221 rfl ?_
        exact go_rl dX10_odds_37 rfl ⟨Nat.le_refl _, Nat.le_refl _⟩ (⟨by rw [if_neg (by omega)], rfl⟩)

