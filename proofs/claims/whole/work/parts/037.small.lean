/-! THE CLASS: kinds under one another, cells beside, the tape, sheets -/
theorem fl_OVER : Cond.fieldLink RX0 19 "WhiteSlope$Kinds" "OVER" "[I" ∈ TB := tb_of (tm2 (List.mem_of_getElem? (i := 121) (by decide +kernel))) (by decide +kernel)
def ovI (a : Int) : Int := if a = 0 then -1000000005 else if a = 3 then 1 else if a = 4 then 2 else 0
section Over
variable {l : Launch} {D : va_G} {cA : Nat → ClassId} {X : XT} {own : String} {cc : ByteArray} {nL : Nat} {rt : Option FieldType} {B : Nat × Nat × Nat} {Qa : QT} {n : Nat} {ρ : RefM} {k z pc : Nat} {L : List (Nat × AV)} {st : List AV} {μ : Mem}
theorem go_over {index : Nat} (d : decode cc pc = .ok (.getstatic index, 3)) (hlk : Cond.fieldLink own index "WhiteSlope$Kinds" "OVER" "[I" ∈ TB) (kk : Go l D cA X own cc nL rt B Qa n ρ k z (pc + 3) L (vr 1000 :: st) μ) : Go l D cA X own cc nL rt B Qa n ρ k z pc L st μ := by
  intro p e R s m args below meth c Q A n0 σ0 σ H locs ls hC hR hn hσ hW hl hL hst
  obtain ⟨hx, hb, hml, hown, hts, hK, hA, hE, hB, hX⟩ := id hC
  have hE2 : Ev σ A s s.heap := hE.ext (fun j hj => hσ j (Or.inr hj))
  exact va_gets hx hb hE2.2.2.1.1 hW.2.2.1 hown (hts _ hlk) (fun x h => h) d (kk p e R s m args below meth c Q A n0 σ0 σ H locs ls hC hR hn hσ hW hl hL (ok_cons (Or.inr (Nat.le_refl _)) hst))
theorem go_overat {a : Int} (d : decode cc pc = .ok (.iaload, 1)) (h0 : 0 ≤ a) (h1 : a < 6) (kk : Go l D cA X own cc nL rt B Qa n ρ k z (pc + 1) L (vi (ovI a) :: st) μ) : Go l D cA X own cc nL rt B Qa n ρ k z pc L (vi a :: vr 1000 :: st) μ := by
  intro p e R s m args below meth c Q A n0 σ0 σ H locs ls hC hR hn hσ hW hl hL hst
  obtain ⟨hx, hb, hml, hown, hts, hK, hA, hE, hB, hX⟩ := id hC
  have hE2 : Ev σ A s s.heap := hE.ext (fun j hj => hσ j (Or.inr hj))
  have ha : iR a := ok_hd hst
  have hov : iR (ovI a) := by unfold ovI iR; split <;> (try split) <;> (try split) <;> omega
  refine va_ti hx hb hE2.2.2.1.2 hW.2.2.1 (oi_in h0 (by omega) ha) (v := cv σ (vi (ovI a))) ?_ d (kk p e R s m args below meth c Q A n0 σ0 σ H locs ls hC hR hn hσ hW hl hL (ok_cons hov (ok_tl (ok_tl hst))))
  rw [oi_nat ha]
  rcases (by omega : a = 0 ∨ a = 1 ∨ a = 2 ∨ a = 3 ∨ a = 4 ∨ a = 5) with rfl | rfl | rfl | rfl | rfl | rfl <;> rfl
end Over
def isU (k a : Int) : Prop := k = a ∨ a = 0 ∨ (a = 1 ∧ k = 3) ∨ (a = 2 ∧ k = 4)
def isUb (k a : Int) : Bool := decide (k = a) || decide (a = 0) || (decide (a = 1) && decide (k = 3)) || (decide (a = 2) && decide (k = 4))
theorem isUb_iff {k a : Int} : isUb k a = true ↔ isU k a := by
  unfold isUb isU
  simp only [Bool.or_eq_true, Bool.and_eq_true, decide_eq_true_eq]
  omega

set_option maxRecDepth 100000 in
set_option maxHeartbeats 4000000 in
theorem ct_X0_isUnder {l : Launch} {D : va_G} {cA : Nat → ClassId} {μ : Mem} (k a : Int) (hk0 : 0 ≤ k) (hk1 : k ≤ 5) (ha0 : 0 ≤ a) (ha1 : a ≤ 5) : CtN l D cA yX0_isUnder cX0_isUnder 4 (some .boolean) 3 [vi k, vi a] μ (Pi (fun x μ' => x = tv (isUb k a = true) inferInstance ∧ μ' = μ)) := by
  refine Ct.of (own := RX0) (by decide +kernel) rfl (fun σ => Nat.le_of_ble_eq_true rfl) (fun hM hP ha => ?_)
  have loop : ∀ (m : Nat) (i : Int) (one : Int), 6 - i = (m : Nat) → 0 ≤ i → (one = -1000000005 ∨ (one = 0 ∧ i ≤ 5) ∨ ((one = 1 ∨ one = 2 ∨ one = 5) ∧ i ≤ 4) ∨ ((one = 3 ∨ one = 4) ∧ i ≤ 3)) → (isU k a ↔ ((0 ≤ one ∧ one ≤ 5) ∧ isU one a)) → Go l D cA none RX0 cX0_isUnder 4 (some .boolean) (3, 0, 0) (QN (Pi (fun x μ' => x = tv (isUb k a = true) inferInstance ∧ μ' = μ))) 113 ρ0 0 0 4 [(0, vi k), (1, vi a), (2, vi one), (3, vi i)] [] μ := by
    intro m
    induction m with
    | zero =>
      intro i one hm hv hrk hinv
      refine go_iload_n dX0_isUnder_4 rfl ?_
      refine go_bipush dX0_isUnder_5 rfl (by decide) ?_
      refine go_icmp_ge (tgt := 36) dX0_isUnder_7 rfl (fun h7 => ?_) (fun h7 => ?_)
      ·
        refine go_iconst dX0_isUnder_36 rfl ?_
        exact go_ri dX0_isUnder_37 (tyZ (by first | exact Or.inl rfl | exact Or.inr rfl | exact tv_01)) ⟨Nat.le_refl _, Nat.le_refl _⟩ (⟨(tv_n (by rw [isUb_iff]; intro e; have := hinv.mp e; omega)).symm, rfl⟩)
      ·
        exact absurd h7 (by omega)
    | succ m ih =>
      intro i one hm hv hrk hinv
      refine go_iload_n dX0_isUnder_4 rfl ?_
      refine go_bipush dX0_isUnder_5 rfl (by decide) ?_
      refine go_icmp_ge (tgt := 36) dX0_isUnder_7 rfl (fun h7 => ?_) (fun h7 => ?_)
      ·
        exact absurd h7 (by omega)
      ·
        refine go_iload_n dX0_isUnder_10 rfl ?_
        refine go_sI dX0_isUnder_11 (ct_X0_isKind _) ml_X0_15 mc_X0_isKind ms_X0_isKind ⟨rfl, rfl⟩ ⟨Nat.le_refl _, Nat.le_refl _⟩ rfl rfl rfl (fun x11 μ11 hc11 => ?_)
        obtain ⟨rfl, hm11⟩ := hc11
        rw [hm11]
        first | refine go_bz (tgt := 36) dX0_isUnder_14 rfl (fun h14 => ?_) (fun h14 => ?_) | refine go_if_eq (tgt := 36) dX0_isUnder_14 rfl (fun h14 => ?_) (fun h14 => ?_)
        ·
          refine go_iconst dX0_isUnder_36 rfl ?_
          exact go_ri dX0_isUnder_37 (tyZ (by first | exact Or.inl rfl | exact Or.inr rfl | exact tv_01)) ⟨Nat.le_refl _, Nat.le_refl _⟩ (⟨(tv_n (by rw [isUb_iff]; intro e; have := hinv.mp e; omega)).symm, rfl⟩)
        ·
          refine go_iload_n dX0_isUnder_17 rfl ?_
          refine go_iload_n dX0_isUnder_18 rfl ?_
          refine go_icmp_ne (tgt := 24) dX0_isUnder_19 rfl (fun h19 => ?_) (fun h19 => ?_)
          ·
            refine go_over dX0_isUnder_24 fl_OVER ?_
            refine go_iload_n dX0_isUnder_27 rfl ?_
            refine go_overat dX0_isUnder_28 (by omega) (by omega) ?_
            refine go_istore_n dX0_isUnder_29 rfl ?_
            refine go_iinc dX0_isUnder_30 rfl rfl ⟨by omega, by omega⟩ ?_
            refine go_goto (tgt := 4) dX0_isUnder_33 rfl ?_
            refine go_drop (ih _ _ (by omega) (by omega) ?_ ?_) rfl
            · unfold ovI; split
              · omega
              · split
                · omega
                · split <;> omega
            · rw [hinv]; unfold isU ovI; split
              · omega
              · split
                · omega
                · split <;> omega
          ·
            refine go_iconst dX0_isUnder_22 rfl ?_
            exact go_ri dX0_isUnder_23 (tyZ (by first | exact Or.inl rfl | exact Or.inr rfl | exact tv_01)) ⟨Nat.le_refl _, Nat.le_refl _⟩ (⟨(tv_1 (by rw [isUb_iff]; exact hinv.mpr ⟨h14, Or.inl h19⟩)).symm, rfl⟩)
  refine go_iload_n dX0_isUnder_0 rfl ?_
  refine go_istore_n dX0_isUnder_1 rfl ?_
  refine go_iconst dX0_isUnder_2 rfl ?_
  refine go_istore_n dX0_isUnder_3 rfl ?_
  refine go_drop (loop 6 0 k (by omega) (by omega) (by omega) ?_) rfl
  exact ⟨fun h => ⟨⟨hk0, hk1⟩, h⟩, fun h => h.2⟩

def bsd (c t : Int) : Prop := nb c 0 = t ∨ nb c 1 = t ∨ nb c 2 = t ∨ nb c 3 = t
def bsdb (c t : Int) : Bool := decide (nb c 0 = t) || decide (nb c 1 = t) || decide (nb c 2 = t) || decide (nb c 3 = t)
theorem bsdb_iff {c t : Int} : bsdb c t = true ↔ bsd c t := by
  unfold bsdb bsd
  simp only [Bool.or_eq_true, decide_eq_true_eq]
  omega

set_option maxRecDepth 100000 in
set_option maxHeartbeats 4000000 in
theorem ct_X9_isBeside {l : Launch} {D : va_G} {cA : Nat → ClassId} {μ : Mem} (c t : Int) (hc0 : 0 ≤ c) (hc1 : c < 30) : CtN l D cA yX9_isBeside cX9_isBeside 3 (some .boolean) 2 [vi c, vi t] μ (Pi (fun x μ' => x = tv (bsdb c t = true) inferInstance ∧ μ' = μ)) := by
  refine Ct.of (own := RX9) (by decide +kernel) rfl (fun σ => Nat.le_of_ble_eq_true rfl) (fun hM hP ha => ?_)
  have loop : ∀ (m : Nat) (i : Int), 4 - i = (m : Nat) → 0 ≤ i → (∀ d, 0 ≤ d → d < i → ¬ nb c d = t) → Go l D cA none RX9 cX9_isBeside 3 (some .boolean) (2, 0, 0) (QN (Pi (fun x μ' => x = tv (bsdb c t = true) inferInstance ∧ μ' = μ))) 113 ρ0 0 0 2 [(0, vi c), (1, vi t), (2, vi i)] [] μ := by
    intro m
    induction m with
    | zero =>
      intro i  hm hv hno
      refine go_iload_n dX9_isBeside_2 rfl ?_
      refine go_iconst dX9_isBeside_3 rfl ?_
      refine go_icmp_ge (tgt := 24) dX9_isBeside_4 rfl (fun h4 => ?_) (fun h4 => ?_)
      ·
        refine go_iconst dX9_isBeside_24 rfl ?_
        exact go_ri dX9_isBeside_25 (tyZ (by first | exact Or.inl rfl | exact Or.inr rfl | exact tv_01)) ⟨Nat.le_refl _, Nat.le_refl _⟩ (⟨(tv_n (by rw [bsdb_iff]; unfold bsd; have a0 := hno 0 (by omega) (by omega); have a1 := hno 1 (by omega) (by omega); have a2 := hno 2 (by omega) (by omega); have a3 := hno 3 (by omega) (by omega); omega)).symm, rfl⟩)
      ·
        exact absurd h4 (by omega)
    | succ m ih =>
      intro i  hm hv hno
      refine go_iload_n dX9_isBeside_2 rfl ?_
      refine go_iconst dX9_isBeside_3 rfl ?_
      refine go_icmp_ge (tgt := 24) dX9_isBeside_4 rfl (fun h4 => ?_) (fun h4 => ?_)
      ·
        exact absurd h4 (by omega)
      ·
        refine go_iload_n dX9_isBeside_7 rfl ?_
        refine go_iload_n dX9_isBeside_8 rfl ?_
        refine go_sI dX9_isBeside_9 (ct_X9_neighbour _ _ hc0 hc1) ml_X9_349 mc_X9_neighbour ms_X9_neighbour ⟨rfl, rfl⟩ ⟨Nat.le_refl _, Nat.le_refl _⟩ rfl rfl rfl (fun x9 μ9 hc9 => ?_)
        obtain ⟨rfl, hm9⟩ := hc9
        rw [hm9]
        refine go_iload_n dX9_isBeside_12 rfl ?_
        refine go_icmp_ne (tgt := 18) dX9_isBeside_13 rfl (fun h13 => ?_) (fun h13 => ?_)
        ·
          refine go_iinc dX9_isBeside_18 rfl rfl ⟨by omega, by omega⟩ ?_
          refine go_goto (tgt := 2) dX9_isBeside_21 rfl ?_
          exact go_drop (ih _ (by omega) (by omega) (fun d d0 d1 => by
            by_cases e : d = i
            · rw [e]; exact h13
            · exact hno d d0 (by omega))) rfl
        ·
          refine go_iconst dX9_isBeside_16 rfl ?_
          exact go_ri dX9_isBeside_17 (tyZ (by first | exact Or.inl rfl | exact Or.inr rfl | exact tv_01)) ⟨Nat.le_refl _, Nat.le_refl _⟩ (⟨(tv_1 (by rw [bsdb_iff]; unfold bsd; rcases (by omega : i = 0 ∨ i = 1 ∨ i = 2 ∨ i = 3) with rfl | rfl | rfl | rfl <;> omega)).symm, rfl⟩)
  refine go_iconst dX9_isBeside_0 rfl ?_
  refine go_istore_n dX9_isBeside_1 rfl ?_
  exact go_drop (loop 4 0 (by omega) (by omega) (fun d d0 d1 => absurd d1 (by omega))) rfl

set_option maxRecDepth 100000 in
set_option maxHeartbeats 4000000 in
theorem ct_X7_hasRoomFor {l : Launch} {D : va_G} {cA : Nat → ClassId} {μ : Mem} (n : Int) (h0 : 0 ≤ μ 56 1 ∧ μ 56 1 ≤ 96) (h1 : 0 ≤ n ∧ n ≤ 99) : CtN l D cA yX7_hasRoomFor cX7_hasRoomFor 2 (some .boolean) 1 [vr 56, vi n] μ (Pi (fun x μ' => x = tv (μ 56 1 + n ≤ 96) inferInstance ∧ μ' = μ)) := by
  refine Ct.of (own := RX7) (by decide +kernel) rfl (fun σ => Nat.le_of_ble_eq_true rfl) (fun hM hP ha => ?_)
  refine go_aload_n dX7_hasRoomFor_0 rfl ?_
  refine go_getI 1 dX7_hasRoomFor_1 fl_X7_15 (by first | assumption | exact Nat.le_of_ble_eq_true rfl) (by first | assumption | rfl) rfl rfl ?_
  refine go_iload_n dX7_hasRoomFor_4 rfl ?_
  refine go_iadd dX7_hasRoomFor_5 ⟨by omega, by omega⟩ ?_
  refine go_bipush dX7_hasRoomFor_6 rfl (by decide) ?_
  refine go_icmp_gt (tgt := 15) dX7_hasRoomFor_8 rfl (fun h8 => ?_) (fun h8 => ?_)
  ·
    refine go_iconst dX7_hasRoomFor_15 rfl ?_
    exact go_ri dX7_hasRoomFor_16 (tyZ (by first | exact Or.inl rfl | exact Or.inr rfl | exact tv_01)) ⟨Nat.le_refl _, Nat.le_refl _⟩ (by first | exact ⟨(tv_n (by omega)).symm, rfl⟩ | exact ⟨(tv_1 (by omega)).symm, rfl⟩)
  ·
    refine go_iconst dX7_hasRoomFor_11 rfl ?_
    refine go_goto (tgt := 16) dX7_hasRoomFor_12 rfl ?_
    exact go_ri dX7_hasRoomFor_16 (tyZ (by first | exact Or.inl rfl | exact Or.inr rfl | exact tv_01)) ⟨Nat.le_refl _, Nat.le_refl _⟩ (by first | exact ⟨(tv_n (by omega)).symm, rfl⟩ | exact ⟨(tv_1 (by omega)).symm, rfl⟩)

def byI (v sh : Int) : Int := andI (ushrI v sh) 255
theorem andI_b (a : Int) : 0 ≤ andI a 255 ∧ andI a 255 ≤ 255 := by
  unfold andI
  obtain ⟨j, hj, e⟩ := pk_andE (Int32.ofInt a) (m := 255) 8 (by decide)
  have e2 : Int32.ofInt 255 = 255 := by decide
  rw [e2, e, nI_toInt (by omega)]
  omega

set_option maxRecDepth 100000 in
set_option maxHeartbeats 4000000 in
theorem ct_X7_takeInt {l : Launch} {D : va_G} {cA : Nat → ClassId} {μ : Mem} (v L0 : Int) (hl0 : μ 56 1 = L0) (h0 : 0 ≤ L0 ∧ L0 ≤ 92) : CtN l D cA yX7_takeInt cX7_takeInt 3 none 1 [vr 56, vi v] μ (Pv (fun μ' => (∀ q, μ' 57 q = if L0 ≤ q ∧ q < L0 + 4 then byI v (24 - 8 * (q - L0)) else μ 57 q) ∧ μ' 56 1 = L0 + 4 ∧ ∀ q, q ≠ 56 → q ≠ 57 → μ' q = μ q)) := by
  refine Ct.of (own := RX7) (by decide +kernel) rfl (fun σ => Nat.le_of_ble_eq_true rfl) (fun hM hP ha => ?_)
  have loop : ∀ (m : Nat) (sh w : Int) (μ1 : Mem), 4 - w = (m : Nat) → 0 ≤ w → sh = 24 - 8 * w → (∀ q, μ1 57 q = if L0 ≤ q ∧ q < L0 + w then byI v (24 - 8 * (q - L0)) else μ 57 q) → μ1 56 1 = L0 + w → (∀ q, q ≠ 56 → q ≠ 57 → μ1 q = μ q) → Go l D cA none RX7 cX7_takeInt 3 none (1, 0, 0) (QN (Pv (fun μ' => (∀ q, μ' 57 q = if L0 ≤ q ∧ q < L0 + 4 then byI v (24 - 8 * (q - L0)) else μ 57 q) ∧ μ' 56 1 = L0 + 4 ∧ ∀ q, q ≠ 56 → q ≠ 57 → μ' q = μ q))) 113 ρ0 0 0 3 [(0, vr 56), (1, vi v), (2, vi sh)] [] μ1 := by
    intro m
    induction m with
    | zero =>
      intro sh w μ1 hm hw0 hsh hb hl hf
      refine go_iload_n dX7_takeInt_3 rfl ?_
      refine go_if_lt (tgt := 48) dX7_takeInt_4 rfl (fun h4 => ?_) (fun h4 => ?_)
      ·
        exact go_rv dX7_takeInt_48 rfl ⟨Nat.le_refl _, Nat.le_refl _⟩ (⟨fun q => by rw [hb q, show L0 + w = L0 + 4 by omega], by omega, hf⟩)
      ·
        exact absurd h4 (by omega)
    | succ m ih =>
      intro sh w μ1 hm hw0 hsh hb hl hf
      refine go_iload_n dX7_takeInt_3 rfl ?_
      refine go_if_lt (tgt := 48) dX7_takeInt_4 rfl (fun h4 => ?_) (fun h4 => ?_)
      ·
        exact absurd h4 (by omega)
      ·
        refine go_aload_n dX7_takeInt_7 rfl ?_
        refine go_getI 1 dX7_takeInt_8 fl_X7_15 (by first | assumption | exact Nat.le_of_ble_eq_true rfl) (by first | assumption | rfl) rfl rfl ?_
        refine go_bipush dX7_takeInt_11 rfl (by decide) ?_
        refine go_icmp_ge (tgt := 48) dX7_takeInt_13 rfl (fun h13 => ?_) (fun h13 => ?_)
        ·
          exact absurd h13 (by omega)
        ·
          refine go_aload_n dX7_takeInt_16 rfl ?_
          refine go_getR dX7_takeInt_17 fl_X7_9 (by first | assumption | exact Nat.le_of_ble_eq_true rfl) (by first | assumption | rfl) rfl (by first | assumption | rfl) ?_
          refine go_aload_n dX7_takeInt_20 rfl ?_
          refine go_getI 1 dX7_takeInt_21 fl_X7_15 (by first | assumption | exact Nat.le_of_ble_eq_true rfl) (by first | assumption | rfl) rfl rfl ?_
          refine go_iload_n dX7_takeInt_24 rfl ?_
          refine go_iload_n dX7_takeInt_25 rfl ?_
          refine go_iushr dX7_takeInt_26 ?_
          refine go_sipush dX7_takeInt_27 rfl (by decide) ?_
          refine go_iand dX7_takeInt_30 ?_
          refine go_iastore dX7_takeInt_31 (by first | assumption | exact Nat.le_of_ble_eq_true rfl) (by first | assumption | rfl) (by omega) (by omega) ?_
          refine go_aload_n dX7_takeInt_32 rfl ?_
          refine go_dup dX7_takeInt_33 rfl ?_
          refine go_getI 1 dX7_takeInt_34 fl_X7_15 (by first | assumption | exact Nat.le_of_ble_eq_true rfl) (by first | assumption | rfl) rfl rfl ?_
          try simp (disch := omega) only [ud, ua_same, ua_ne, uf_same, uf_ne]
          refine go_iconst dX7_takeInt_37 rfl ?_
          refine go_iadd dX7_takeInt_38 ⟨by omega, by omega⟩ ?_
          refine go_putI 1 dX7_takeInt_39 pl_X7_15 (by first | assumption | exact Nat.le_of_ble_eq_true rfl) (by first | assumption | rfl) rfl rfl ?_
          refine go_iinc dX7_takeInt_42 rfl rfl ⟨by omega, by omega⟩ ?_
          refine go_goto (tgt := 3) dX7_takeInt_45 rfl ?_
          refine go_drop (ih _ (w + 1) _ (by omega) (by omega) (by omega) ?_ ?_ ?_) rfl
          · intro q
            simp (disch := omega) only [ud, ua_ne, ua_same]
            unfold uf
            by_cases e : q = μ1 56 1
            · rw [if_pos e, if_pos (by omega), show 24 - 8 * (q - L0) = sh by omega]
              rfl
            · rw [if_neg e, hb q]
              by_cases e2 : L0 ≤ q ∧ q < L0 + w
              · rw [if_pos e2, if_pos (by omega)]
              · rw [if_neg e2, if_neg (by omega)]
          · simp (disch := omega) only [ud, ua_same, ua_ne, uf_same, uf_ne]
            omega
          · intro q a b
            simp (disch := omega) only [ud, ua_same, ua_ne, uf_same, uf_ne]
            exact hf q a b
  refine go_bipush dX7_takeInt_0 rfl (by decide) ?_
  refine go_istore_n dX7_takeInt_2 rfl ?_
  refine go_drop (loop 4 24 0 μ (by omega) (by omega) (by omega) (fun q => ?_) (by omega) (fun _ _ _ => rfl)) rfl
  rw [if_neg (by omega)]

set_option maxRecDepth 100000 in
set_option maxHeartbeats 4000000 in
theorem ct_X5_hasPlace {l : Launch} {D : va_G} {cA : Nat → ClassId} {μ : Mem} {j : Nat} (hj : isSh j) (q : Int) (h0 : 0 ≤ μ j 1 ∧ μ j 1 ≤ 24) : CtN l D cA yX5_hasPlace cX5_hasPlace 2 (some .boolean) 2 [vr j, vi q] μ (Pi (fun x μ' => x = tv (0 ≤ q ∧ q ≤ μ j 1 - 1) inferInstance ∧ μ' = μ)) := by
  refine Ct.of (own := RX5) (by decide +kernel) rfl (fun σ => Nat.le_of_ble_eq_true rfl) (fun hM hP ha => ?_)
  obtain ⟨hj62, hj86, hJ0, hJ1, hJ2, hJ3, hJ4⟩ := sh_f hj
  refine go_iload_n dX5_hasPlace_0 rfl ?_
  refine go_iconst dX5_hasPlace_1 rfl ?_
  refine go_aload_n dX5_hasPlace_2 rfl ?_
  refine go_getI 1 dX5_hasPlace_3 fl_X5_19 (by first | assumption | exact Nat.le_of_ble_eq_true rfl) (by first | assumption | rfl) rfl rfl ?_
  refine go_iconst dX5_hasPlace_6 rfl ?_
  refine go_isub dX5_hasPlace_7 ⟨by omega, by omega⟩ ?_
  refine go_sI dX5_hasPlace_8 (ct_X9_isWithin _ _ _) ml_X5_28 mc_X9_isWithin ms_X9_isWithin ⟨rfl, rfl⟩ ⟨Nat.le_refl _, Nat.le_refl _⟩ rfl rfl rfl (fun x8 μ8 hc8 => ?_)
  obtain ⟨rfl, hm8⟩ := hc8
  rw [hm8]
  exact go_ri dX5_hasPlace_11 (tyZ (by first | exact Or.inl rfl | exact Or.inr rfl | exact tv_01)) ⟨Nat.le_refl _, Nat.le_refl _⟩ (⟨rfl, rfl⟩)

set_option maxRecDepth 100000 in
set_option maxHeartbeats 4000000 in
theorem ct_X5_hasPlaces {l : Launch} {D : va_G} {cA : Nat → ClassId} {μ : Mem} {j : Nat} (hj : isSh j) (q m : Int) (h0 : 0 ≤ μ j 1 ∧ μ j 1 ≤ 24) : CtN l D cA yX5_hasPlaces cX5_hasPlaces 3 (some .boolean) 2 [vr j, vi q, vi m] μ (Pi (fun x μ' => x = tv (0 ≤ m ∧ (0 ≤ q ∧ q ≤ μ j 1) ∧ m ≤ μ j 1 - q) inferInstance ∧ μ' = μ)) := by
  refine Ct.of (own := RX5) (by decide +kernel) rfl (fun σ => Nat.le_of_ble_eq_true rfl) (fun hM hP ha => ?_)
  obtain ⟨hj62, hj86, hJ0, hJ1, hJ2, hJ3, hJ4⟩ := sh_f hj
  refine go_iload_n dX5_hasPlaces_0 rfl ?_
  refine go_if_lt (tgt := 30) dX5_hasPlaces_1 rfl (fun h1 => ?_) (fun h1 => ?_)
  ·
    refine go_iconst dX5_hasPlaces_30 rfl ?_
    exact go_ri dX5_hasPlaces_31 (tyZ (by first | exact Or.inl rfl | exact Or.inr rfl | exact tv_01)) ⟨Nat.le_refl _, Nat.le_refl _⟩ (by first | exact ⟨(tv_n (by omega)).symm, rfl⟩ | exact ⟨(tv_1 (by omega)).symm, rfl⟩)
  ·
    refine go_iload_n dX5_hasPlaces_4 rfl ?_
    refine go_iconst dX5_hasPlaces_5 rfl ?_
    refine go_aload_n dX5_hasPlaces_6 rfl ?_
    refine go_getI 1 dX5_hasPlaces_7 fl_X5_19 (by first | assumption | exact Nat.le_of_ble_eq_true rfl) (by first | assumption | rfl) rfl rfl ?_
    refine go_sI dX5_hasPlaces_10 (ct_X9_isWithin _ _ _) ml_X5_28 mc_X9_isWithin ms_X9_isWithin ⟨rfl, rfl⟩ ⟨Nat.le_refl _, Nat.le_refl _⟩ rfl rfl rfl (fun x10 μ10 hc10 => ?_)
    obtain ⟨rfl, hm10⟩ := hc10
    rw [hm10]
    first | refine go_bz (tgt := 30) dX5_hasPlaces_13 rfl (fun h13 => ?_) (fun h13 => ?_) | refine go_if_eq (tgt := 30) dX5_hasPlaces_13 rfl (fun h13 => ?_) (fun h13 => ?_)
    ·
      refine go_iconst dX5_hasPlaces_30 rfl ?_
      exact go_ri dX5_hasPlaces_31 (tyZ (by first | exact Or.inl rfl | exact Or.inr rfl | exact tv_01)) ⟨Nat.le_refl _, Nat.le_refl _⟩ (by first | exact ⟨(tv_n (by omega)).symm, rfl⟩ | exact ⟨(tv_1 (by omega)).symm, rfl⟩)
    ·
      refine go_iload_n dX5_hasPlaces_16 rfl ?_
      refine go_aload_n dX5_hasPlaces_17 rfl ?_
      refine go_getI 1 dX5_hasPlaces_18 fl_X5_19 (by first | assumption | exact Nat.le_of_ble_eq_true rfl) (by first | assumption | rfl) rfl rfl ?_
      try simp (disch := omega) only [ud, ua_same, ua_ne, uf_same, uf_ne]
      refine go_iload_n dX5_hasPlaces_21 rfl ?_
      refine go_isub dX5_hasPlaces_22 ⟨by omega, by omega⟩ ?_
      refine go_icmp_gt (tgt := 30) dX5_hasPlaces_23 rfl (fun h23 => ?_) (fun h23 => ?_)
      ·
        refine go_iconst dX5_hasPlaces_30 rfl ?_
        exact go_ri dX5_hasPlaces_31 (tyZ (by first | exact Or.inl rfl | exact Or.inr rfl | exact tv_01)) ⟨Nat.le_refl _, Nat.le_refl _⟩ (by first | exact ⟨(tv_n (by omega)).symm, rfl⟩ | exact ⟨(tv_1 (by omega)).symm, rfl⟩)
      ·
        refine go_iconst dX5_hasPlaces_26 rfl ?_
        refine go_goto (tgt := 31) dX5_hasPlaces_27 rfl ?_
        exact go_ri dX5_hasPlaces_31 (tyZ (by first | exact Or.inl rfl | exact Or.inr rfl | exact tv_01)) ⟨Nat.le_refl _, Nat.le_refl _⟩ (by first | exact ⟨(tv_n (by omega)).symm, rfl⟩ | exact ⟨(tv_1 (by omega)).symm, rfl⟩)

set_option maxRecDepth 100000 in
set_option maxHeartbeats 4000000 in
theorem ct_X5_isNumber {l : Launch} {D : va_G} {cA : Nat → ClassId} {μ : Mem} {j : Nat} (hj : isSh j) (q : Int) (h0 : 0 ≤ q ∧ q < 24) : CtN l D cA yX5_isNumber cX5_isNumber 2 (some .boolean) 1 [vr j, vi q] μ (Pi (fun x μ' => x = tv (¬ μ (j + 1) q = -1000000005) inferInstance ∧ μ' = μ)) := by
  refine Ct.of (own := RX5) (by decide +kernel) rfl (fun σ => Nat.le_of_ble_eq_true rfl) (fun hM hP ha => ?_)
  obtain ⟨hj62, hj86, hJ0, hJ1, hJ2, hJ3, hJ4⟩ := sh_f hj
  refine go_aload_n dX5_isNumber_0 rfl ?_
  refine go_getR dX5_isNumber_1 fl_X5_15 (by first | assumption | exact Nat.le_of_ble_eq_true rfl) (by first | assumption | rfl) rfl (by first | assumption | rfl) ?_
  refine go_iload_n dX5_isNumber_4 rfl ?_
  refine go_iaload dX5_isNumber_5 (by first | assumption | exact Nat.le_of_ble_eq_true rfl) (by first | assumption | rfl) (by omega) (by omega) ?_
  refine go_ldc dX5_isNumber_6 kc_X5_32 rfl ?_
  refine go_icmp_eq (tgt := 15) dX5_isNumber_8 rfl (fun h8 => ?_) (fun h8 => ?_)
  ·
    refine go_iconst dX5_isNumber_15 rfl ?_
    exact go_ri dX5_isNumber_16 (tyZ (by first | exact Or.inl rfl | exact Or.inr rfl | exact tv_01)) ⟨Nat.le_refl _, Nat.le_refl _⟩ (by first | exact ⟨(tv_n (by omega)).symm, rfl⟩ | exact ⟨(tv_1 (by omega)).symm, rfl⟩)
  ·
    refine go_iconst dX5_isNumber_11 rfl ?_
    refine go_goto (tgt := 16) dX5_isNumber_12 rfl ?_
    exact go_ri dX5_isNumber_16 (tyZ (by first | exact Or.inl rfl | exact Or.inr rfl | exact tv_01)) ⟨Nat.le_refl _, Nat.le_refl _⟩ (by first | exact ⟨(tv_n (by omega)).symm, rfl⟩ | exact ⟨(tv_1 (by omega)).symm, rfl⟩)

set_option maxRecDepth 100000 in
set_option maxHeartbeats 4000000 in
theorem ct_X5_become {l : Launch} {D : va_G} {cA : Nat → ClassId} {μ : Mem} {j i : Nat} (hj : isSh j) (hi : isSh i) (hij : i ≠ j) (hij2 : i ≠ j + 1) (hij3 : i + 1 ≠ j) : CtN l D cA yX5_become cX5_become 2 none 2 [vr j, vr i] μ (Pv (fun μ' => μ' j 0 = μ i 0 ∧ μ' j 1 = μ i 1 ∧ (∀ q, 0 ≤ q → q < 24 → μ' (j + 1) q = μ (i + 1) q) ∧ ∀ q, q ≠ j → q ≠ j + 1 → μ' q = μ q)) := by
  refine Ct.of (own := RX5) (by decide +kernel) rfl (fun σ => Nat.le_of_ble_eq_true rfl) (fun hM hP ha => ?_)
  obtain ⟨hj62, hj86, hJ0, hJ1, hJ2, hJ3, hJ4⟩ := sh_f hj
  obtain ⟨hi62, hi86, hI0, hI1, hI2, hI3, hI4⟩ := sh_f hi
  refine go_aload_n dX5_become_0 rfl ?_
  refine go_aload_n dX5_become_1 rfl ?_
  refine go_getI 0 dX5_become_2 fl_X5_9 (by first | assumption | exact Nat.le_of_ble_eq_true rfl) (by first | assumption | rfl) rfl rfl ?_
  refine go_putI 0 dX5_become_5 pl_X5_9 (by first | assumption | exact Nat.le_of_ble_eq_true rfl) (by first | assumption | rfl) rfl rfl ?_
  refine go_aload_n dX5_become_8 rfl ?_
  refine go_aload_n dX5_become_9 rfl ?_
  refine go_getI 1 dX5_become_10 fl_X5_19 (by first | assumption | exact Nat.le_of_ble_eq_true rfl) (by first | assumption | rfl) rfl rfl ?_
  try simp (disch := omega) only [ud, ua_same, ua_ne, uf_same, uf_ne]
  refine go_putI 1 dX5_become_13 pl_X5_19 (by first | assumption | exact Nat.le_of_ble_eq_true rfl) (by first | assumption | rfl) rfl rfl ?_
  refine go_aload_n dX5_become_16 rfl ?_
  refine go_getR dX5_become_17 fl_X5_15 (by first | assumption | exact Nat.le_of_ble_eq_true rfl) (by first | assumption | rfl) rfl (by first | assumption | rfl) ?_
  refine go_iconst dX5_become_20 rfl ?_
  refine go_aload_n dX5_become_21 rfl ?_
  refine go_getR dX5_become_22 fl_X5_15 (by first | assumption | exact Nat.le_of_ble_eq_true rfl) (by first | assumption | rfl) rfl (by first | assumption | rfl) ?_
  refine go_iconst dX5_become_25 rfl ?_
  refine go_bipush dX5_become_26 rfl (by decide) ?_
  refine go_copy dX5_become_28 aw_X5_22 rfl rfl (by first | assumption | exact Nat.le_of_ble_eq_true rfl) (by first | assumption | exact Nat.le_of_ble_eq_true rfl) (by first | assumption | rfl) (by first | assumption | rfl) (by omega) (by omega) (by omega) (by omega) (by omega) ?_
  refine go_rv dX5_become_31 rfl ⟨Nat.le_refl _, Nat.le_refl _⟩ (?_)
  refine ⟨?_, ?_, fun q h1 h2 => ?_, fun q h1 h2 => ?_⟩
  · simp (disch := omega) only [ud, ua_same, ua_ne, uf_same, uf_ne]
  · simp (disch := omega) only [ud, ua_same, ua_ne, uf_same, uf_ne]
  · simp (disch := omega) only [ud, ua_same, ua_ne, uf_same, uf_ne]
    unfold cpI
    rw [if_pos (by omega), show (0 : Int) + (q - 0) = q by omega]
  · simp (disch := omega) only [ud, ua_same, ua_ne, uf_same, uf_ne]

set_option maxRecDepth 100000 in
set_option maxHeartbeats 4000000 in
theorem ct_X5_renew {l : Launch} {D : va_G} {cA : Nat → ClassId} {μ : Mem} {j : Nat} (hj : isSh j) (so n : Int) : CtN l D cA yX5_renew cX5_renew 4 none 1 [vr j, vi so, vi n] μ (Pv (fun μ' => μ' j 0 = so ∧ μ' j 1 = n ∧ (∀ q, 0 ≤ q → q < 24 → μ' (j + 1) q = 0) ∧ ∀ q, q ≠ j → q ≠ j + 1 → μ' q = μ q)) := by
  refine Ct.of (own := RX5) (by decide +kernel) rfl (fun σ => Nat.le_of_ble_eq_true rfl) (fun hM hP ha => ?_)
  obtain ⟨hj62, hj86, hJ0, hJ1, hJ2, hJ3, hJ4⟩ := sh_f hj
  have loop : ∀ (m : Nat) (i : Int) (μ1 : Mem), 24 - i = (m : Nat) → 0 ≤ i → (μ1 j 0 = so ∧ μ1 j 1 = n) → (∀ q, 0 ≤ q → q < i → μ1 (j + 1) q = 0) → (∀ q, q ≠ j → q ≠ j + 1 → μ1 q = μ q) → Go l D cA none RX5 cX5_renew 4 none (1, 0, 0) (QN (Pv (fun μ' => μ' j 0 = so ∧ μ' j 1 = n ∧ (∀ q, 0 ≤ q → q < 24 → μ' (j + 1) q = 0) ∧ ∀ q, q ≠ j → q ≠ j + 1 → μ' q = μ q))) 113 ρ0 0 0 12 [(0, vr j), (1, vi so), (2, vi n), (3, vi i)] [] μ1 := by
    intro m
    induction m with
    | zero =>
      intro i μ1 hm hv hs hz hf
      refine go_iload_n dX5_renew_12 rfl ?_
      refine go_bipush dX5_renew_13 rfl (by decide) ?_
      refine go_icmp_ge (tgt := 31) dX5_renew_15 rfl (fun h15 => ?_) (fun h15 => ?_)
      ·
        exact go_rv dX5_renew_31 rfl ⟨Nat.le_refl _, Nat.le_refl _⟩ (⟨hs.1, hs.2, fun q a b => hz q a (by omega), hf⟩)
      ·
        exact absurd h15 (by omega)
    | succ m ih =>
      intro i μ1 hm hv hs hz hf
      refine go_iload_n dX5_renew_12 rfl ?_
      refine go_bipush dX5_renew_13 rfl (by decide) ?_
      refine go_icmp_ge (tgt := 31) dX5_renew_15 rfl (fun h15 => ?_) (fun h15 => ?_)
      ·
        exact absurd h15 (by omega)
      ·
        refine go_aload_n dX5_renew_18 rfl ?_
        refine go_getR dX5_renew_19 fl_X5_15 (by first | assumption | exact Nat.le_of_ble_eq_true rfl) (by first | assumption | rfl) rfl (by first | assumption | rfl) ?_
        refine go_iload_n dX5_renew_22 rfl ?_
        refine go_iconst dX5_renew_23 rfl ?_
        refine go_iastore dX5_renew_24 (by first | assumption | exact Nat.le_of_ble_eq_true rfl) (by first | assumption | rfl) (by omega) (by omega) ?_
        refine go_iinc dX5_renew_25 rfl rfl ⟨by omega, by omega⟩ ?_
        refine go_goto (tgt := 12) dX5_renew_28 rfl ?_
        refine go_drop (ih _ _ (by omega) (by omega) ?_ ?_ ?_) rfl
        · rw [ud_n (by omega)]; exact hs
        · intro q a b
          rw [ud_s]
          by_cases e : q = i
          · rw [e, uf_same]
          · rw [uf_ne e]; exact hz q a (by omega)
        · intro q a b
          rw [ud_n b]; exact hf q a b
  refine go_aload_n dX5_renew_0 rfl ?_
  refine go_iload_n dX5_renew_1 rfl ?_
  refine go_putI 0 dX5_renew_2 pl_X5_9 (by first | assumption | exact Nat.le_of_ble_eq_true rfl) (by first | assumption | rfl) rfl rfl ?_
  refine go_aload_n dX5_renew_5 rfl ?_
  refine go_iload_n dX5_renew_6 rfl ?_
  refine go_putI 1 dX5_renew_7 pl_X5_19 (by first | assumption | exact Nat.le_of_ble_eq_true rfl) (by first | assumption | rfl) rfl rfl ?_
  refine go_iconst dX5_renew_10 rfl ?_
  refine go_istore_n dX5_renew_11 rfl ?_
  refine go_drop (loop 24 0 _ (by omega) (by omega) ?_ (fun q a b => absurd b (by omega)) ?_) rfl
  · constructor <;> simp (disch := omega) only [ud, ua_same, ua_ne, uf_same, uf_ne]
  · intro q a b
    simp (disch := omega) only [ud, ua_same, ua_ne, uf_same, uf_ne]

