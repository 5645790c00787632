/-! THE CLASS: the tape's bytes and words, the reader's small steps -/
def bA (B : Int → Int) (N p : Int) : Int := if p < N then B p else -1000000005
def qDg (B : Int → Int) (N p : Int) : Bool := decide (48 ≤ bA B N p ∧ bA B N p ≤ 57)
def qLt (B : Int → Int) (N p : Int) : Bool := decide (97 ≤ bA B N p ∧ bA B N p ≤ 122)
theorem qDg_t {B : Int → Int} {N p : Int} (h : 48 ≤ bA B N p ∧ bA B N p ≤ 57) : qDg B N p = true := decide_eq_true h
theorem qDg_f {B : Int → Int} {N p : Int} (h : ¬ (48 ≤ bA B N p ∧ bA B N p ≤ 57)) : ¬ qDg B N p = true := fun e => h (of_decide_eq_true e)
theorem qLt_t {B : Int → Int} {N p : Int} (h : 97 ≤ bA B N p ∧ bA B N p ≤ 122) : qLt B N p = true := decide_eq_true h
theorem qLt_f {B : Int → Int} {N p : Int} (h : ¬ (97 ≤ bA B N p ∧ bA B N p ≤ 122)) : ¬ qLt B N p = true := fun e => h (of_decide_eq_true e)
def wE1 (q : Int → Bool) : Nat → Int → Int
  | 0, p => p
  | n + 1, p => if q p = true then wE1 q n (p + 1) else p
def wEd (B : Int → Int) (N p : Int) : Int := if qDg B N p = true then wE1 (qDg B N) (N - p).toNat p else wE1 (qLt B N) (N - p).toNat p
theorem wE1_r {q : Int → Bool} : ∀ (n : Nat) (p : Int), p ≤ wE1 q n p ∧ wE1 q n p ≤ p + (n : Nat)
  | 0, p => by unfold wE1; omega
  | n + 1, p => by
    have := wE1_r (q := q) n (p + 1)
    unfold wE1
    split <;> omega
theorem wE1_in {q : Int → Bool} : ∀ (n : Nat) (p i : Int), p ≤ i → i < wE1 q n p → q i = true
  | 0, p, i, h0, h1 => absurd h1 (by unfold wE1; omega)
  | n + 1, p, i, h0, h1 => by
    unfold wE1 at h1
    by_cases e : q p = true
    · rw [if_pos e] at h1
      by_cases e2 : i = p
      · rw [e2]; exact e
      · exact wE1_in n (p + 1) i (by omega) h1
    · rw [if_neg e] at h1; omega
theorem wEd_r {B : Int → Int} {N p : Int} (h : p ≤ N) : p ≤ wEd B N p ∧ wEd B N p ≤ N := by
  unfold wEd
  split
  · have := wE1_r (q := qDg B N) (N - p).toNat p
    omega
  · have := wE1_r (q := qLt B N) (N - p).toNat p
    omega
def skN (B : Int → Int) : Nat → Int → Int
  | 0, p => p
  | n + 1, p => if B p = 32 then skN B n (p + 1) else p
def skp (B : Int → Int) (N p : Int) : Int := skN B (N - p).toNat p
theorem skN_r {B : Int → Int} : ∀ (n : Nat) (p : Int), p ≤ skN B n p ∧ skN B n p ≤ p + (n : Nat)
  | 0, p => by unfold skN; omega
  | n + 1, p => by
    have := skN_r (B := B) n (p + 1)
    unfold skN
    split <;> omega
theorem skp_r {B : Int → Int} {N p : Int} (h : p ≤ N) : p ≤ skp B N p ∧ skp B N p ≤ N := by
  have := skN_r (B := B) (N - p).toNat p
  unfold skp
  omega
theorem ud_self {μ : Mem} {a : Nat} {i : Int} : ud μ a i (μ a i) = μ := by
  funext q
  by_cases e : q = a
  · subst e
    rw [ud_s]
    funext j
    by_cases e2 : j = i
    · subst e2; rw [uf_same]
    · rw [uf_ne e2]
  · rw [ud_n e]
theorem ud_ud {μ : Mem} {a : Nat} {i v w : Int} : ud (ud μ a i v) a i w = ud μ a i w := by
  funext q
  by_cases e : q = a
  · subst e
    rw [ud_s, ud_s, ud_s]
    funext j
    by_cases e2 : j = i
    · subst e2; rw [uf_same, uf_same]
    · rw [uf_ne e2, uf_ne e2, uf_ne e2]
  · rw [ud_n e, ud_n e, ud_n e]
def lvO (s : Int) : Int := if s = 124 then 0 else if s = 38 then 1 else if s = 60 ∨ s = 61 ∨ s = 62 then 2 else if s = 43 ∨ s = 45 then 3 else if s = 42 ∨ s = 47 then 4 else -1000000005
def nmO (k c : Int) : Prop := c = 115 ∨ ((c = 108 ∨ c = 100) ∧ k = 0) ∨ (c = 114 ∧ k = 1) ∨ (c = 117 ∧ k = 2)
def nmO_d (k c : Int) : Decidable (nmO k c) := by unfold nmO; exact inferInstance

set_option maxRecDepth 100000 in
set_option maxHeartbeats 4000000 in
theorem ct_X7_byteAt {l : Launch} {D : va_G} {cA : Nat → ClassId} {μ : Mem} (hN0 : 0 ≤ μ 56 1) (hN1 : μ 56 1 ≤ 96) (p : Int) (hp : 0 ≤ p) : CtN l D cA yX7_byteAt cX7_byteAt 2 (some .int) 0 [vr 56, vi p] μ (Pi (fun x μ' => x = bA (μ 57) (μ 56 1) p ∧ μ' = μ)) := by
  refine Ct.of (own := RX7) (by decide +kernel) rfl (fun σ => Nat.le_of_ble_eq_true rfl) (fun hM hP ha => ?_)
  refine go_iload_n dX7_byteAt_0 rfl ?_
  refine go_aload_n dX7_byteAt_1 rfl ?_
  refine go_getI 1 dX7_byteAt_2 fl_X7_15 (by first | assumption | exact Nat.le_of_ble_eq_true rfl) (by first | assumption | rfl) rfl rfl ?_
  refine go_icmp_ge (tgt := 17) dX7_byteAt_5 rfl (fun h5 => ?_) (fun h5 => ?_)
  ·
    refine go_ldc dX7_byteAt_17 kc_X7_19 rfl ?_
    exact go_ri dX7_byteAt_19 tyI ⟨Nat.le_refl _, Nat.le_refl _⟩ (⟨by unfold bA; rw [if_neg (by omega)], rfl⟩)
  ·
    refine go_aload_n dX7_byteAt_8 rfl ?_
    refine go_getR dX7_byteAt_9 fl_X7_9 (by first | assumption | exact Nat.le_of_ble_eq_true rfl) (by first | assumption | rfl) rfl (by first | assumption | rfl) ?_
    refine go_iload_n dX7_byteAt_12 rfl ?_
    refine go_iaload dX7_byteAt_13 (by first | assumption | exact Nat.le_of_ble_eq_true rfl) (by first | assumption | rfl) (by omega) (by omega) ?_
    refine go_goto (tgt := 19) dX7_byteAt_14 rfl ?_
    exact go_ri dX7_byteAt_19 tyI ⟨Nat.le_refl _, Nat.le_refl _⟩ (⟨by unfold bA; rw [if_pos (by omega)], rfl⟩)

set_option maxRecDepth 100000 in
set_option maxHeartbeats 4000000 in
theorem ct_X7_isLetterAt {l : Launch} {D : va_G} {cA : Nat → ClassId} {μ : Mem} (hN0 : 0 ≤ μ 56 1) (hN1 : μ 56 1 ≤ 96) (p : Int) (hp : 0 ≤ p) : CtN l D cA yX7_isLetterAt cX7_isLetterAt 3 (some .boolean) 1 [vr 56, vi p] μ (Pi (fun x μ' => x = tv (97 ≤ bA (μ 57) (μ 56 1) p ∧ bA (μ 57) (μ 56 1) p ≤ 122) inferInstance ∧ μ' = μ)) := by
  refine Ct.of (own := RX7) (by decide +kernel) rfl (fun σ => Nat.le_of_ble_eq_true rfl) (fun hM hP ha => ?_)
  refine go_aload_n dX7_isLetterAt_0 rfl ?_
  refine go_iload_n dX7_isLetterAt_1 rfl ?_
  refine go_vI (ci := 6) dX7_isLetterAt_2 (ct_X7_byteAt hN0 hN1 _ (by omega)) ml_X7_20 mc_X7_byteAt mv_X7_byteAt rfl (by first | assumption | exact Nat.le_of_ble_eq_true rfl) (by first | assumption | rfl) rfl ⟨rfl, rfl⟩ ⟨Nat.le_refl _, Nat.le_refl _⟩ rfl rfl rfl (fun x2 μ2 hc2 => ?_)
  obtain ⟨rfl, hm2⟩ := hc2
  rw [hm2]
  refine go_istore_n dX7_isLetterAt_5 rfl ?_
  refine go_iload_n dX7_isLetterAt_6 rfl ?_
  refine go_bipush dX7_isLetterAt_7 rfl (by decide) ?_
  refine go_icmp_lt (tgt := 22) dX7_isLetterAt_9 rfl (fun h9 => ?_) (fun h9 => ?_)
  ·
    refine go_iconst dX7_isLetterAt_22 rfl ?_
    exact go_ri dX7_isLetterAt_23 (tyZ (by first | exact Or.inl rfl | exact Or.inr rfl | exact tv_01)) ⟨Nat.le_refl _, Nat.le_refl _⟩ (by first | exact ⟨(tv_n (by omega)).symm, rfl⟩ | exact ⟨(tv_1 (by omega)).symm, rfl⟩)
  ·
    refine go_iload_n dX7_isLetterAt_12 rfl ?_
    refine go_bipush dX7_isLetterAt_13 rfl (by decide) ?_
    refine go_icmp_gt (tgt := 22) dX7_isLetterAt_15 rfl (fun h15 => ?_) (fun h15 => ?_)
    ·
      refine go_iconst dX7_isLetterAt_22 rfl ?_
      exact go_ri dX7_isLetterAt_23 (tyZ (by first | exact Or.inl rfl | exact Or.inr rfl | exact tv_01)) ⟨Nat.le_refl _, Nat.le_refl _⟩ (by first | exact ⟨(tv_n (by omega)).symm, rfl⟩ | exact ⟨(tv_1 (by omega)).symm, rfl⟩)
    ·
      refine go_iconst dX7_isLetterAt_18 rfl ?_
      refine go_goto (tgt := 23) dX7_isLetterAt_19 rfl ?_
      exact go_ri dX7_isLetterAt_23 (tyZ (by first | exact Or.inl rfl | exact Or.inr rfl | exact tv_01)) ⟨Nat.le_refl _, Nat.le_refl _⟩ (by first | exact ⟨(tv_n (by omega)).symm, rfl⟩ | exact ⟨(tv_1 (by omega)).symm, rfl⟩)

set_option maxRecDepth 100000 in
set_option maxHeartbeats 4000000 in
theorem ct_X7_isDigitAt {l : Launch} {D : va_G} {cA : Nat → ClassId} {μ : Mem} (hN0 : 0 ≤ μ 56 1) (hN1 : μ 56 1 ≤ 96) (p : Int) (hp : 0 ≤ p) : CtN l D cA yX7_isDigitAt cX7_isDigitAt 3 (some .boolean) 1 [vr 56, vi p] μ (Pi (fun x μ' => x = tv (48 ≤ bA (μ 57) (μ 56 1) p ∧ bA (μ 57) (μ 56 1) p ≤ 57) inferInstance ∧ μ' = μ)) := by
  refine Ct.of (own := RX7) (by decide +kernel) rfl (fun σ => Nat.le_of_ble_eq_true rfl) (fun hM hP ha => ?_)
  refine go_aload_n dX7_isDigitAt_0 rfl ?_
  refine go_iload_n dX7_isDigitAt_1 rfl ?_
  refine go_vI (ci := 6) dX7_isDigitAt_2 (ct_X7_byteAt hN0 hN1 _ (by omega)) ml_X7_20 mc_X7_byteAt mv_X7_byteAt rfl (by first | assumption | exact Nat.le_of_ble_eq_true rfl) (by first | assumption | rfl) rfl ⟨rfl, rfl⟩ ⟨Nat.le_refl _, Nat.le_refl _⟩ rfl rfl rfl (fun x2 μ2 hc2 => ?_)
  obtain ⟨rfl, hm2⟩ := hc2
  rw [hm2]
  refine go_istore_n dX7_isDigitAt_5 rfl ?_
  refine go_iload_n dX7_isDigitAt_6 rfl ?_
  refine go_bipush dX7_isDigitAt_7 rfl (by decide) ?_
  refine go_icmp_lt (tgt := 22) dX7_isDigitAt_9 rfl (fun h9 => ?_) (fun h9 => ?_)
  ·
    refine go_iconst dX7_isDigitAt_22 rfl ?_
    exact go_ri dX7_isDigitAt_23 (tyZ (by first | exact Or.inl rfl | exact Or.inr rfl | exact tv_01)) ⟨Nat.le_refl _, Nat.le_refl _⟩ (by first | exact ⟨(tv_n (by omega)).symm, rfl⟩ | exact ⟨(tv_1 (by omega)).symm, rfl⟩)
  ·
    refine go_iload_n dX7_isDigitAt_12 rfl ?_
    refine go_bipush dX7_isDigitAt_13 rfl (by decide) ?_
    refine go_icmp_gt (tgt := 22) dX7_isDigitAt_15 rfl (fun h15 => ?_) (fun h15 => ?_)
    ·
      refine go_iconst dX7_isDigitAt_22 rfl ?_
      exact go_ri dX7_isDigitAt_23 (tyZ (by first | exact Or.inl rfl | exact Or.inr rfl | exact tv_01)) ⟨Nat.le_refl _, Nat.le_refl _⟩ (by first | exact ⟨(tv_n (by omega)).symm, rfl⟩ | exact ⟨(tv_1 (by omega)).symm, rfl⟩)
    ·
      refine go_iconst dX7_isDigitAt_18 rfl ?_
      refine go_goto (tgt := 23) dX7_isDigitAt_19 rfl ?_
      exact go_ri dX7_isDigitAt_23 (tyZ (by first | exact Or.inl rfl | exact Or.inr rfl | exact tv_01)) ⟨Nat.le_refl _, Nat.le_refl _⟩ (by first | exact ⟨(tv_n (by omega)).symm, rfl⟩ | exact ⟨(tv_1 (by omega)).symm, rfl⟩)

set_option maxRecDepth 100000 in
set_option maxHeartbeats 4000000 in
theorem ct_X7_wordEnd {l : Launch} {D : va_G} {cA : Nat → ClassId} {μ : Mem} (hN0 : 0 ≤ μ 56 1) (hN1 : μ 56 1 ≤ 96) (p : Int) (hp : 0 ≤ p) (hp1 : p ≤ μ 56 1) : CtN l D cA yX7_wordEnd cX7_wordEnd 4 (some .int) 2 [vr 56, vi p] μ (Pi (fun x μ' => x = wEd (μ 57) (μ 56 1) p ∧ μ' = μ)) := by
  refine Ct.of (own := RX7) (by decide +kernel) rfl (fun σ => Nat.le_of_ble_eq_true rfl) (fun hM hP ha => ?_)
  have loop : ∀ (m : Nat) (e : Int), (μ 56 1) - e = (m : Nat) → 0 ≤ e → (wEd (μ 57) (μ 56 1) p = if qDg (μ 57) (μ 56 1) p = true then wE1 (qDg (μ 57) (μ 56 1)) (μ 56 1 - e).toNat e else wE1 (qLt (μ 57) (μ 56 1)) (μ 56 1 - e).toNat e) → Go l D cA none RX7 cX7_wordEnd 4 (some .int) (2, 0, 0) (QN (Pi (fun x μ' => x = wEd (μ 57) (μ 56 1) p ∧ μ' = μ))) 113 ρ0 0 0 8 [(0, vr 56), (1, vi p), (2, vi (tv (48 ≤ bA (μ 57) (μ 56 1) p ∧ bA (μ 57) (μ 56 1) p ≤ 57) inferInstance)), (3, vi e)] [] μ := by
    intro m
    induction m with
    | zero =>
      intro e  hm hv hx
      refine go_iload_n dX7_wordEnd_8 rfl ?_
      refine go_aload_n dX7_wordEnd_9 rfl ?_
      refine go_getI 1 dX7_wordEnd_10 fl_X7_15 (by first | assumption | exact Nat.le_of_ble_eq_true rfl) (by first | assumption | rfl) rfl rfl ?_
      refine go_icmp_ge (tgt := 45) dX7_wordEnd_13 rfl (fun h13 => ?_) (fun h13 => ?_)
      ·
        refine go_iload_n dX7_wordEnd_45 rfl ?_
        exact go_ri dX7_wordEnd_46 tyI ⟨Nat.le_refl _, Nat.le_refl _⟩ (⟨by rw [hx, show (μ 56 1 - e).toNat = 0 by omega]; unfold wE1; split <;> rfl, rfl⟩)
      ·
        exact absurd h13 (by omega)
    | succ m ih =>
      intro e  hm hv hx
      refine go_iload_n dX7_wordEnd_8 rfl ?_
      refine go_aload_n dX7_wordEnd_9 rfl ?_
      refine go_getI 1 dX7_wordEnd_10 fl_X7_15 (by first | assumption | exact Nat.le_of_ble_eq_true rfl) (by first | assumption | rfl) rfl rfl ?_
      refine go_icmp_ge (tgt := 45) dX7_wordEnd_13 rfl (fun h13 => ?_) (fun h13 => ?_)
      ·
        exact absurd h13 (by omega)
      ·
        rw [show (μ 56 1 - e).toNat = (μ 56 1 - (e + 1)).toNat + 1 by omega] at hx
        unfold wE1 at hx
        refine go_iload_n dX7_wordEnd_16 rfl ?_
        first | refine go_bz (tgt := 31) dX7_wordEnd_17 rfl (fun h17 => ?_) (fun h17 => ?_) | refine go_if_eq (tgt := 31) dX7_wordEnd_17 rfl (fun h17 => ?_) (fun h17 => ?_)
        ·
          refine go_aload_n dX7_wordEnd_31 rfl ?_
          refine go_iload_n dX7_wordEnd_32 rfl ?_
          refine go_vI (ci := 6) dX7_wordEnd_33 (ct_X7_isLetterAt hN0 hN1 _ (by omega)) ml_X7_28 mc_X7_isLetterAt mv_X7_isLetterAt rfl (by first | assumption | exact Nat.le_of_ble_eq_true rfl) (by first | assumption | rfl) rfl ⟨rfl, rfl⟩ ⟨Nat.le_refl _, Nat.le_refl _⟩ rfl rfl rfl (fun x33 μ33 hc33 => ?_)
          obtain ⟨rfl, hm33⟩ := hc33
          rw [hm33]
          first | refine go_bz (tgt := 45) dX7_wordEnd_36 rfl (fun h36 => ?_) (fun h36 => ?_) | refine go_if_eq (tgt := 45) dX7_wordEnd_36 rfl (fun h36 => ?_) (fun h36 => ?_)
          ·
            refine go_iload_n dX7_wordEnd_45 rfl ?_
            exact go_ri dX7_wordEnd_46 tyI ⟨Nat.le_refl _, Nat.le_refl _⟩ (⟨by rw [hx, if_neg (qDg_f h17), if_neg (qLt_f h36)], rfl⟩)
          ·
            refine go_iinc dX7_wordEnd_39 rfl rfl ⟨by omega, by omega⟩ ?_
            refine go_goto (tgt := 8) dX7_wordEnd_42 rfl ?_
            exact go_drop (ih _ (by omega) (by omega) (by rw [hx, if_neg (qDg_f h17), if_neg (qDg_f h17), if_pos (qLt_t h36)])) rfl
        ·
          refine go_aload_n dX7_wordEnd_20 rfl ?_
          refine go_iload_n dX7_wordEnd_21 rfl ?_
          refine go_vI (ci := 6) dX7_wordEnd_22 (ct_X7_isDigitAt hN0 hN1 _ (by omega)) ml_X7_24 mc_X7_isDigitAt mv_X7_isDigitAt rfl (by first | assumption | exact Nat.le_of_ble_eq_true rfl) (by first | assumption | rfl) rfl ⟨rfl, rfl⟩ ⟨Nat.le_refl _, Nat.le_refl _⟩ rfl rfl rfl (fun x22 μ22 hc22 => ?_)
          obtain ⟨rfl, hm22⟩ := hc22
          rw [hm22]
          first | refine go_bz (tgt := 45) dX7_wordEnd_25 rfl (fun h25 => ?_) (fun h25 => ?_) | refine go_if_eq (tgt := 45) dX7_wordEnd_25 rfl (fun h25 => ?_) (fun h25 => ?_)
          ·
            refine go_iload_n dX7_wordEnd_45 rfl ?_
            exact go_ri dX7_wordEnd_46 tyI ⟨Nat.le_refl _, Nat.le_refl _⟩ (⟨by rw [hx, if_pos (qDg_t h17), if_neg (qDg_f h25)], rfl⟩)
          ·
            refine go_goto (tgt := 39) dX7_wordEnd_28 rfl ?_
            refine go_iinc dX7_wordEnd_39 rfl rfl ⟨by omega, by omega⟩ ?_
            refine go_goto (tgt := 8) dX7_wordEnd_42 rfl ?_
            exact go_drop (ih _ (by omega) (by omega) (by rw [hx, if_pos (qDg_t h17), if_pos (qDg_t h17), if_pos (qDg_t h25)])) rfl
  refine go_aload_n dX7_wordEnd_0 rfl ?_
  refine go_iload_n dX7_wordEnd_1 rfl ?_
  refine go_vI (ci := 6) dX7_wordEnd_2 (ct_X7_isDigitAt hN0 hN1 _ (by omega)) ml_X7_24 mc_X7_isDigitAt mv_X7_isDigitAt rfl (by first | assumption | exact Nat.le_of_ble_eq_true rfl) (by first | assumption | rfl) rfl ⟨rfl, rfl⟩ ⟨Nat.le_refl _, Nat.le_refl _⟩ rfl rfl rfl (fun x2 μ2 hc2 => ?_)
  obtain ⟨rfl, hm2⟩ := hc2
  rw [hm2]
  refine go_istore_n dX7_wordEnd_5 rfl ?_
  refine go_iload_n dX7_wordEnd_6 rfl ?_
  refine go_istore_n dX7_wordEnd_7 rfl ?_
  exact go_drop (loop (μ 56 1 - p).toNat p (by omega) (by omega) rfl) rfl

set_option maxRecDepth 100000 in
set_option maxHeartbeats 4000000 in
theorem ct_X4_nextByte {l : Launch} {D : va_G} {cA : Nat → ClassId} {μ : Mem} (hN0 : 0 ≤ μ 56 1) (hN1 : μ 56 1 ≤ 96) (ha0 : 0 ≤ μ 58 2) (ha1 : μ 58 2 ≤ μ 56 1) : CtN l D cA yX4_nextByte cX4_nextByte 1 (some .int) 1 [vr 58] μ (Pi (fun x μ' => x = bA (μ 57) (μ 56 1) (skp (μ 57) (μ 56 1) (μ 58 2)) ∧ μ' = ud μ 58 2 (skp (μ 57) (μ 56 1) (μ 58 2)))) := by
  refine Ct.of (own := RX4) (by decide +kernel) rfl (fun σ => Nat.le_of_ble_eq_true rfl) (fun hM hP ha => ?_)
  have w58_0 : ρ0 58 (0 : Nat) = some 56 := by decide +kernel
  have w58_1 : ρ0 58 (1 : Nat) = some 59 := by decide +kernel
  have w56_0 : ρ0 56 (0 : Nat) = some 57 := by decide +kernel
  have loop : ∀ (m : Nat) (e : Int), (μ 56 1) - e = (m : Nat) → 0 ≤ e → (skp (μ 57) (μ 56 1) (μ 58 2) = skN (μ 57) (μ 56 1 - e).toNat e) → Go l D cA none RX4 cX4_nextByte 1 (some .int) (1, 0, 0) (QN (Pi (fun x μ' => x = bA (μ 57) (μ 56 1) (skp (μ 57) (μ 56 1) (μ 58 2)) ∧ μ' = ud μ 58 2 (skp (μ 57) (μ 56 1) (μ 58 2))))) 113 ρ0 0 0 0 [(0, vr 58)] [] (ud μ 58 2 e) := by
    intro m
    induction m with
    | zero =>
      intro e  hm hv hx
      refine go_aload_n dX4_nextByte_0 rfl ?_
      refine go_getI 2 dX4_nextByte_1 fl_X4_25 (by first | assumption | exact Nat.le_of_ble_eq_true rfl) (by first | assumption | rfl) rfl rfl ?_
      try simp (disch := omega) only [ud, ua_same, ua_ne, uf_same, uf_ne]
      refine go_aload_n dX4_nextByte_4 rfl ?_
      refine go_getR dX4_nextByte_5 fl_X4_18 (by first | assumption | exact Nat.le_of_ble_eq_true rfl) (by first | assumption | rfl) rfl (by first | assumption | rfl) ?_
      refine go_getI 1 dX4_nextByte_8 fl_X4_44 (by first | assumption | exact Nat.le_of_ble_eq_true rfl) (by first | assumption | rfl) rfl rfl ?_
      try simp (disch := omega) only [ud, ua_same, ua_ne, uf_same, uf_ne]
      refine go_icmp_ge (tgt := 44) dX4_nextByte_11 rfl (fun h11 => ?_) (fun h11 => ?_)
      ·
        refine go_aload_n dX4_nextByte_44 rfl ?_
        refine go_getR dX4_nextByte_45 fl_X4_18 (by first | assumption | exact Nat.le_of_ble_eq_true rfl) (by first | assumption | rfl) rfl (by first | assumption | rfl) ?_
        refine go_aload_n dX4_nextByte_48 rfl ?_
        refine go_getI 2 dX4_nextByte_49 fl_X4_25 (by first | assumption | exact Nat.le_of_ble_eq_true rfl) (by first | assumption | rfl) rfl rfl ?_
        try simp (disch := omega) only [ud, ua_same, ua_ne, uf_same, uf_ne]
        refine go_vI (ci := 6) dX4_nextByte_52 (ct_X7_byteAt (μ := ud μ 58 2 e) (by simpa (disch := omega) only [ud, ua_ne] using hN0) (by simpa (disch := omega) only [ud, ua_ne] using hN1) _ (by omega)) ml_X4_53 mc_X7_byteAt mv_X7_byteAt rfl (by first | assumption | exact Nat.le_of_ble_eq_true rfl) (by first | assumption | rfl) rfl ⟨rfl, rfl⟩ ⟨Nat.le_refl _, Nat.le_refl _⟩ rfl rfl rfl (fun x52 μ52 hc52 => ?_)
        obtain ⟨rfl, hm52⟩ := hc52
        rw [hm52, ud_n (by decide), ud_n (by decide)]
        exact go_ri dX4_nextByte_55 tyI ⟨Nat.le_refl _, Nat.le_refl _⟩ (⟨by rw [hx, show (μ 56 1 - e).toNat = 0 by omega]; rfl, by rw [hx, show (μ 56 1 - e).toNat = 0 by omega]; rfl⟩)
      ·
        exact absurd h11 (by omega)
    | succ m ih =>
      intro e  hm hv hx
      refine go_aload_n dX4_nextByte_0 rfl ?_
      refine go_getI 2 dX4_nextByte_1 fl_X4_25 (by first | assumption | exact Nat.le_of_ble_eq_true rfl) (by first | assumption | rfl) rfl rfl ?_
      try simp (disch := omega) only [ud, ua_same, ua_ne, uf_same, uf_ne]
      refine go_aload_n dX4_nextByte_4 rfl ?_
      refine go_getR dX4_nextByte_5 fl_X4_18 (by first | assumption | exact Nat.le_of_ble_eq_true rfl) (by first | assumption | rfl) rfl (by first | assumption | rfl) ?_
      refine go_getI 1 dX4_nextByte_8 fl_X4_44 (by first | assumption | exact Nat.le_of_ble_eq_true rfl) (by first | assumption | rfl) rfl rfl ?_
      try simp (disch := omega) only [ud, ua_same, ua_ne, uf_same, uf_ne]
      refine go_icmp_ge (tgt := 44) dX4_nextByte_11 rfl (fun h11 => ?_) (fun h11 => ?_)
      ·
        exact absurd h11 (by omega)
      ·
        rw [show (μ 56 1 - e).toNat = (μ 56 1 - (e + 1)).toNat + 1 by omega] at hx
        unfold skN at hx
        refine go_aload_n dX4_nextByte_14 rfl ?_
        refine go_getR dX4_nextByte_15 fl_X4_18 (by first | assumption | exact Nat.le_of_ble_eq_true rfl) (by first | assumption | rfl) rfl (by first | assumption | rfl) ?_
        refine go_getR dX4_nextByte_18 fl_X4_49 (by first | assumption | exact Nat.le_of_ble_eq_true rfl) (by first | assumption | rfl) rfl (by first | assumption | rfl) ?_
        refine go_aload_n dX4_nextByte_21 rfl ?_
        refine go_getI 2 dX4_nextByte_22 fl_X4_25 (by first | assumption | exact Nat.le_of_ble_eq_true rfl) (by first | assumption | rfl) rfl rfl ?_
        try simp (disch := omega) only [ud, ua_same, ua_ne, uf_same, uf_ne]
        refine go_iaload dX4_nextByte_25 (by first | assumption | exact Nat.le_of_ble_eq_true rfl) (by first | assumption | rfl) (by omega) (by omega) ?_
        try simp (disch := omega) only [ud, ua_same, ua_ne, uf_same, uf_ne]
        refine go_bipush dX4_nextByte_26 rfl (by decide) ?_
        refine go_icmp_ne (tgt := 44) dX4_nextByte_28 rfl (fun h28 => ?_) (fun h28 => ?_)
        ·
          refine go_aload_n dX4_nextByte_44 rfl ?_
          refine go_getR dX4_nextByte_45 fl_X4_18 (by first | assumption | exact Nat.le_of_ble_eq_true rfl) (by first | assumption | rfl) rfl (by first | assumption | rfl) ?_
          refine go_aload_n dX4_nextByte_48 rfl ?_
          refine go_getI 2 dX4_nextByte_49 fl_X4_25 (by first | assumption | exact Nat.le_of_ble_eq_true rfl) (by first | assumption | rfl) rfl rfl ?_
          try simp (disch := omega) only [ud, ua_same, ua_ne, uf_same, uf_ne]
          refine go_vI (ci := 6) dX4_nextByte_52 (ct_X7_byteAt (μ := ud μ 58 2 e) (by simpa (disch := omega) only [ud, ua_ne] using hN0) (by simpa (disch := omega) only [ud, ua_ne] using hN1) _ (by omega)) ml_X4_53 mc_X7_byteAt mv_X7_byteAt rfl (by first | assumption | exact Nat.le_of_ble_eq_true rfl) (by first | assumption | rfl) rfl ⟨rfl, rfl⟩ ⟨Nat.le_refl _, Nat.le_refl _⟩ rfl rfl rfl (fun x52 μ52 hc52 => ?_)
          obtain ⟨rfl, hm52⟩ := hc52
          rw [hm52, ud_n (by decide), ud_n (by decide)]
          exact go_ri dX4_nextByte_55 tyI ⟨Nat.le_refl _, Nat.le_refl _⟩ (⟨by rw [hx, if_neg h28], by rw [hx, if_neg h28]⟩)
        ·
          refine go_aload_n dX4_nextByte_31 rfl ?_
          refine go_dup dX4_nextByte_32 rfl ?_
          refine go_getI 2 dX4_nextByte_33 fl_X4_25 (by first | assumption | exact Nat.le_of_ble_eq_true rfl) (by first | assumption | rfl) rfl rfl ?_
          try simp (disch := omega) only [ud, ua_same, ua_ne, uf_same, uf_ne]
          refine go_iconst dX4_nextByte_36 rfl ?_
          refine go_iadd dX4_nextByte_37 ⟨by omega, by omega⟩ ?_
          refine go_putI 2 dX4_nextByte_38 pl_X4_25 (by first | assumption | exact Nat.le_of_ble_eq_true rfl) (by first | assumption | rfl) rfl rfl ?_
          refine go_goto (tgt := 0) dX4_nextByte_41 rfl ?_
          rw [show ud (ud μ 58 2 e) 58 2 (e + 1) = ud μ 58 2 (e + 1) from ud_ud]
          exact go_drop (ih _ (by omega) (by omega) (by rw [hx, if_pos (by omega)])) rfl
  have h := loop (μ 56 1 - μ 58 2).toNat (μ 58 2) (by omega) (by omega) rfl
  rw [ud_self] at h
  exact go_drop h rfl

set_option maxRecDepth 100000 in
set_option maxHeartbeats 4000000 in
theorem ct_X4_levelOf {l : Launch} {D : va_G} {cA : Nat → ClassId} {μ : Mem} (s : Int) : CtN l D cA yX4_levelOf cX4_levelOf 1 (some .int) 0 [vi s] μ (Pi (fun x μ' => x = lvO s ∧ μ' = μ)) := by
  refine Ct.of (own := RX4) (by decide +kernel) rfl (fun σ => Nat.le_of_ble_eq_true rfl) (fun hM hP ha => ?_)
  refine go_iload_n dX4_levelOf_0 rfl ?_
  refine go_case (38) (fun h1_38 => ?_) (fun h1_38 => ?_)
  ·
    refine go_lookup (tgt := 86) dX4_levelOf_1 rfl (by rw [h1_38]; try rfl) rfl ?_
    refine go_iconst dX4_levelOf_86 rfl ?_
    exact go_ri dX4_levelOf_87 tyI ⟨Nat.le_refl _, Nat.le_refl _⟩ (⟨by unfold lvO; (repeat (first | rw [if_pos (by omega)] | rw [if_neg (by omega)])), rfl⟩)
  refine go_case (42) (fun h1_42 => ?_) (fun h1_42 => ?_)
  ·
    refine go_lookup (tgt := 92) dX4_levelOf_1 rfl (by rw [h1_42]; try rfl) rfl ?_
    refine go_iconst dX4_levelOf_92 rfl ?_
    exact go_ri dX4_levelOf_93 tyI ⟨Nat.le_refl _, Nat.le_refl _⟩ (⟨by unfold lvO; (repeat (first | rw [if_pos (by omega)] | rw [if_neg (by omega)])), rfl⟩)
  refine go_case (43) (fun h1_43 => ?_) (fun h1_43 => ?_)
  ·
    refine go_lookup (tgt := 90) dX4_levelOf_1 rfl (by rw [h1_43]; try rfl) rfl ?_
    refine go_iconst dX4_levelOf_90 rfl ?_
    exact go_ri dX4_levelOf_91 tyI ⟨Nat.le_refl _, Nat.le_refl _⟩ (⟨by unfold lvO; (repeat (first | rw [if_pos (by omega)] | rw [if_neg (by omega)])), rfl⟩)
  refine go_case (45) (fun h1_45 => ?_) (fun h1_45 => ?_)
  ·
    refine go_lookup (tgt := 90) dX4_levelOf_1 rfl (by rw [h1_45]; try rfl) rfl ?_
    refine go_iconst dX4_levelOf_90 rfl ?_
    exact go_ri dX4_levelOf_91 tyI ⟨Nat.le_refl _, Nat.le_refl _⟩ (⟨by unfold lvO; (repeat (first | rw [if_pos (by omega)] | rw [if_neg (by omega)])), rfl⟩)
  refine go_case (47) (fun h1_47 => ?_) (fun h1_47 => ?_)
  ·
    refine go_lookup (tgt := 92) dX4_levelOf_1 rfl (by rw [h1_47]; try rfl) rfl ?_
    refine go_iconst dX4_levelOf_92 rfl ?_
    exact go_ri dX4_levelOf_93 tyI ⟨Nat.le_refl _, Nat.le_refl _⟩ (⟨by unfold lvO; (repeat (first | rw [if_pos (by omega)] | rw [if_neg (by omega)])), rfl⟩)
  refine go_case (60) (fun h1_60 => ?_) (fun h1_60 => ?_)
  ·
    refine go_lookup (tgt := 88) dX4_levelOf_1 rfl (by rw [h1_60]; try rfl) rfl ?_
    refine go_iconst dX4_levelOf_88 rfl ?_
    exact go_ri dX4_levelOf_89 tyI ⟨Nat.le_refl _, Nat.le_refl _⟩ (⟨by unfold lvO; (repeat (first | rw [if_pos (by omega)] | rw [if_neg (by omega)])), rfl⟩)
  refine go_case (61) (fun h1_61 => ?_) (fun h1_61 => ?_)
  ·
    refine go_lookup (tgt := 88) dX4_levelOf_1 rfl (by rw [h1_61]; try rfl) rfl ?_
    refine go_iconst dX4_levelOf_88 rfl ?_
    exact go_ri dX4_levelOf_89 tyI ⟨Nat.le_refl _, Nat.le_refl _⟩ (⟨by unfold lvO; (repeat (first | rw [if_pos (by omega)] | rw [if_neg (by omega)])), rfl⟩)
  refine go_case (62) (fun h1_62 => ?_) (fun h1_62 => ?_)
  ·
    refine go_lookup (tgt := 88) dX4_levelOf_1 rfl (by rw [h1_62]; try rfl) rfl ?_
    refine go_iconst dX4_levelOf_88 rfl ?_
    exact go_ri dX4_levelOf_89 tyI ⟨Nat.le_refl _, Nat.le_refl _⟩ (⟨by unfold lvO; (repeat (first | rw [if_pos (by omega)] | rw [if_neg (by omega)])), rfl⟩)
  refine go_case (124) (fun h1_124 => ?_) (fun h1_124 => ?_)
  ·
    refine go_lookup (tgt := 84) dX4_levelOf_1 rfl (by rw [h1_124]; try rfl) rfl ?_
    refine go_iconst dX4_levelOf_84 rfl ?_
    exact go_ri dX4_levelOf_85 tyI ⟨Nat.le_refl _, Nat.le_refl _⟩ (⟨by unfold lvO; (repeat (first | rw [if_pos (by omega)] | rw [if_neg (by omega)])), rfl⟩)
  refine go_lookup (tgt := 94) (off := 93) dX4_levelOf_1 rfl (by simp [Op.lookupswitch.offset, Ne.symm h1_38, Ne.symm h1_42, Ne.symm h1_43, Ne.symm h1_45, Ne.symm h1_47, Ne.symm h1_60, Ne.symm h1_61, Ne.symm h1_62, Ne.symm h1_124]) rfl ?_
  refine go_ldc dX4_levelOf_94 kc_X4_29 rfl ?_
  exact go_ri dX4_levelOf_96 tyI ⟨Nat.le_refl _, Nat.le_refl _⟩ (⟨by unfold lvO; (repeat (first | rw [if_pos (by omega)] | rw [if_neg (by omega)])), rfl⟩)

set_option maxRecDepth 100000 in
set_option maxHeartbeats 4000000 in
theorem ct_X4_isName {l : Launch} {D : va_G} {cA : Nat → ClassId} {μ : Mem} (c : Int) : CtN l D cA yX4_isName cX4_isName 2 (some .boolean) 0 [vr 58, vi c] μ (Pi (fun x μ' => x = tv (nmO (μ 59 0) c) (nmO_d _ _) ∧ μ' = μ)) := by
  refine Ct.of (own := RX4) (by decide +kernel) rfl (fun σ => Nat.le_of_ble_eq_true rfl) (fun hM hP ha => ?_)
  have w58_0 : ρ0 58 (0 : Nat) = some 56 := by decide +kernel
  have w58_1 : ρ0 58 (1 : Nat) = some 59 := by decide +kernel
  have w56_0 : ρ0 56 (0 : Nat) = some 57 := by decide +kernel
  refine go_iload_n dX4_isName_0 rfl ?_
  refine go_case (100) (fun h1_100 => ?_) (fun h1_100 => ?_)
  ·
    refine go_lookup (tgt := 54) dX4_isName_1 rfl (by rw [h1_100]; try rfl) rfl ?_
    refine go_aload_n dX4_isName_54 rfl ?_
    refine go_getR dX4_isName_55 fl_X4_12 (by first | assumption | exact Nat.le_of_ble_eq_true rfl) (by first | assumption | rfl) rfl (by first | assumption | rfl) ?_
    refine go_getI 0 dX4_isName_58 fl_X4_69 (by first | assumption | exact Nat.le_of_ble_eq_true rfl) (by first | assumption | rfl) rfl rfl ?_
    first | refine go_bnz (tgt := 68) dX4_isName_61 rfl (fun h61 => ?_) (fun h61 => ?_) | refine go_if_ne (tgt := 68) dX4_isName_61 rfl (fun h61 => ?_) (fun h61 => ?_)
    ·
      refine go_iconst dX4_isName_68 rfl ?_
      exact go_ri dX4_isName_69 (tyZ (by first | exact Or.inl rfl | exact Or.inr rfl | exact tv_01)) ⟨Nat.le_refl _, Nat.le_refl _⟩ (by first | exact ⟨(tv_n (by unfold nmO; omega)).symm, rfl⟩ | exact ⟨(tv_1 (by unfold nmO; omega)).symm, rfl⟩)
    ·
      refine go_iconst dX4_isName_64 rfl ?_
      refine go_goto (tgt := 69) dX4_isName_65 rfl ?_
      exact go_ri dX4_isName_69 (tyZ (by first | exact Or.inl rfl | exact Or.inr rfl | exact tv_01)) ⟨Nat.le_refl _, Nat.le_refl _⟩ (by first | exact ⟨(tv_n (by unfold nmO; omega)).symm, rfl⟩ | exact ⟨(tv_1 (by unfold nmO; omega)).symm, rfl⟩)
  refine go_case (108) (fun h1_108 => ?_) (fun h1_108 => ?_)
  ·
    refine go_lookup (tgt := 54) dX4_isName_1 rfl (by rw [h1_108]; try rfl) rfl ?_
    refine go_aload_n dX4_isName_54 rfl ?_
    refine go_getR dX4_isName_55 fl_X4_12 (by first | assumption | exact Nat.le_of_ble_eq_true rfl) (by first | assumption | rfl) rfl (by first | assumption | rfl) ?_
    refine go_getI 0 dX4_isName_58 fl_X4_69 (by first | assumption | exact Nat.le_of_ble_eq_true rfl) (by first | assumption | rfl) rfl rfl ?_
    first | refine go_bnz (tgt := 68) dX4_isName_61 rfl (fun h61 => ?_) (fun h61 => ?_) | refine go_if_ne (tgt := 68) dX4_isName_61 rfl (fun h61 => ?_) (fun h61 => ?_)
    ·
      refine go_iconst dX4_isName_68 rfl ?_
      exact go_ri dX4_isName_69 (tyZ (by first | exact Or.inl rfl | exact Or.inr rfl | exact tv_01)) ⟨Nat.le_refl _, Nat.le_refl _⟩ (by first | exact ⟨(tv_n (by unfold nmO; omega)).symm, rfl⟩ | exact ⟨(tv_1 (by unfold nmO; omega)).symm, rfl⟩)
    ·
      refine go_iconst dX4_isName_64 rfl ?_
      refine go_goto (tgt := 69) dX4_isName_65 rfl ?_
      exact go_ri dX4_isName_69 (tyZ (by first | exact Or.inl rfl | exact Or.inr rfl | exact tv_01)) ⟨Nat.le_refl _, Nat.le_refl _⟩ (by first | exact ⟨(tv_n (by unfold nmO; omega)).symm, rfl⟩ | exact ⟨(tv_1 (by unfold nmO; omega)).symm, rfl⟩)
  refine go_case (114) (fun h1_114 => ?_) (fun h1_114 => ?_)
  ·
    refine go_lookup (tgt := 70) dX4_isName_1 rfl (by rw [h1_114]; try rfl) rfl ?_
    refine go_aload_n dX4_isName_70 rfl ?_
    refine go_getR dX4_isName_71 fl_X4_12 (by first | assumption | exact Nat.le_of_ble_eq_true rfl) (by first | assumption | rfl) rfl (by first | assumption | rfl) ?_
    refine go_getI 0 dX4_isName_74 fl_X4_69 (by first | assumption | exact Nat.le_of_ble_eq_true rfl) (by first | assumption | rfl) rfl rfl ?_
    refine go_iconst dX4_isName_77 rfl ?_
    refine go_icmp_ne (tgt := 85) dX4_isName_78 rfl (fun h78 => ?_) (fun h78 => ?_)
    ·
      refine go_iconst dX4_isName_85 rfl ?_
      exact go_ri dX4_isName_86 (tyZ (by first | exact Or.inl rfl | exact Or.inr rfl | exact tv_01)) ⟨Nat.le_refl _, Nat.le_refl _⟩ (by first | exact ⟨(tv_n (by unfold nmO; omega)).symm, rfl⟩ | exact ⟨(tv_1 (by unfold nmO; omega)).symm, rfl⟩)
    ·
      refine go_iconst dX4_isName_81 rfl ?_
      refine go_goto (tgt := 86) dX4_isName_82 rfl ?_
      exact go_ri dX4_isName_86 (tyZ (by first | exact Or.inl rfl | exact Or.inr rfl | exact tv_01)) ⟨Nat.le_refl _, Nat.le_refl _⟩ (by first | exact ⟨(tv_n (by unfold nmO; omega)).symm, rfl⟩ | exact ⟨(tv_1 (by unfold nmO; omega)).symm, rfl⟩)
  refine go_case (115) (fun h1_115 => ?_) (fun h1_115 => ?_)
  ·
    refine go_lookup (tgt := 52) dX4_isName_1 rfl (by rw [h1_115]; try rfl) rfl ?_
    refine go_iconst dX4_isName_52 rfl ?_
    exact go_ri dX4_isName_53 (tyZ (by first | exact Or.inl rfl | exact Or.inr rfl | exact tv_01)) ⟨Nat.le_refl _, Nat.le_refl _⟩ (by first | exact ⟨(tv_n (by unfold nmO; omega)).symm, rfl⟩ | exact ⟨(tv_1 (by unfold nmO; omega)).symm, rfl⟩)
  refine go_case (117) (fun h1_117 => ?_) (fun h1_117 => ?_)
  ·
    refine go_lookup (tgt := 87) dX4_isName_1 rfl (by rw [h1_117]; try rfl) rfl ?_
    refine go_aload_n dX4_isName_87 rfl ?_
    refine go_getR dX4_isName_88 fl_X4_12 (by first | assumption | exact Nat.le_of_ble_eq_true rfl) (by first | assumption | rfl) rfl (by first | assumption | rfl) ?_
    refine go_getI 0 dX4_isName_91 fl_X4_69 (by first | assumption | exact Nat.le_of_ble_eq_true rfl) (by first | assumption | rfl) rfl rfl ?_
    refine go_iconst dX4_isName_94 rfl ?_
    refine go_icmp_ne (tgt := 102) dX4_isName_95 rfl (fun h95 => ?_) (fun h95 => ?_)
    ·
      refine go_iconst dX4_isName_102 rfl ?_
      exact go_ri dX4_isName_103 (tyZ (by first | exact Or.inl rfl | exact Or.inr rfl | exact tv_01)) ⟨Nat.le_refl _, Nat.le_refl _⟩ (by first | exact ⟨(tv_n (by unfold nmO; omega)).symm, rfl⟩ | exact ⟨(tv_1 (by unfold nmO; omega)).symm, rfl⟩)
    ·
      refine go_iconst dX4_isName_98 rfl ?_
      refine go_goto (tgt := 103) dX4_isName_99 rfl ?_
      exact go_ri dX4_isName_103 (tyZ (by first | exact Or.inl rfl | exact Or.inr rfl | exact tv_01)) ⟨Nat.le_refl _, Nat.le_refl _⟩ (by first | exact ⟨(tv_n (by unfold nmO; omega)).symm, rfl⟩ | exact ⟨(tv_1 (by unfold nmO; omega)).symm, rfl⟩)
  refine go_lookup (tgt := 104) (off := 103) dX4_isName_1 rfl (by simp [Op.lookupswitch.offset, Ne.symm h1_100, Ne.symm h1_108, Ne.symm h1_114, Ne.symm h1_115, Ne.symm h1_117]) rfl ?_
  refine go_iconst dX4_isName_104 rfl ?_
  exact go_ri dX4_isName_105 (tyZ (by first | exact Or.inl rfl | exact Or.inr rfl | exact tv_01)) ⟨Nat.le_refl _, Nat.le_refl _⟩ (by first | exact ⟨(tv_n (by unfold nmO; omega)).symm, rfl⟩ | exact ⟨(tv_1 (by unfold nmO; omega)).symm, rfl⟩)

