/-! THE CLASS: odds -/
theorem gcd_st (a b : Nat) : Nat.gcd a b = Nat.gcd b (a % b) := by rw [Nat.gcd_comm a b, Nat.gcd_rec, Nat.gcd_comm]
theorem mod_half {a b : Nat} (h0 : 0 < b) (h1 : 0 < a % b) : 2 * (b % (a % b)) < b := by
  have h2 := Nat.mod_lt b h1
  have h3 := Nat.mod_lt a h0
  have h4 : a % b + b % (a % b) ≤ b := by
    have h5 := Nat.div_add_mod b (a % b)
    have h6 : 1 ≤ b / (a % b) := Nat.div_pos (Nat.le_of_lt h3) h1
    have h7 : a % b * 1 ≤ a % b * (b / (a % b)) := Nat.mul_le_mul_left _ h6
    omega
  omega

set_option maxRecDepth 100000 in
set_option maxHeartbeats 4000000 in
theorem ct_X9_commonDivisor {l : Launch} {D : va_G} {cA : Nat → ClassId} {μ : Mem} (a b : Nat) (u v : Int) (hu : u = (a : Nat)) (hv : v = (b : Nat)) (hb : b < 2147483648) : CtN l D cA yX9_commonDivisor cX9_commonDivisor 6 (some .int) 1 [vi u, vi v] μ (Pi (fun x μ' => x = (Nat.gcd a b : Nat) ∧ μ' = μ)) := by
  refine Ct.of (own := RX9) (by decide +kernel) rfl (fun σ => Nat.le_of_ble_eq_true rfl) (fun hM hP ha => ?_)
  have loop : ∀ (k : Nat) (x0 y0 : Nat) (x y i : Int), x = (x0 : Nat) → y = (y0 : Nat) → y0 < 2 ^ k → 0 ≤ i → i + 2 * (k : Nat) + 1 ≤ 100 → Nat.gcd a b = Nat.gcd x0 y0 → Go l D cA none RX9 cX9_commonDivisor 6 (some .int) (1, 0, 0) (QN (Pi (fun x μ' => x = (Nat.gcd a b : Nat) ∧ μ' = μ))) 113 ρ0 0 0 7 [(0, vi u), (1, vi v), (2, vi x), (3, vi y), (4, vi i)] [] μ := by
    intro k
    induction k with
    | zero =>
      intro x0 y0 x y i hx hy hlt hi hi2 hg
      have hy1 : y0 = 0 := by simpa using hlt
      refine go_iload dX9_commonDivisor_7 rfl ?_
      refine go_bipush dX9_commonDivisor_9 rfl (by decide) ?_
      refine go_icmp_ge (tgt := 34) dX9_commonDivisor_11 rfl (fun h11 => ?_) (fun h11 => ?_)
      ·
        exact absurd h11 (by omega)
      ·
        refine go_iload_n dX9_commonDivisor_14 rfl ?_
        first | refine go_bz (tgt := 34) dX9_commonDivisor_15 rfl (fun h15 => ?_) (fun h15 => ?_) | refine go_if_eq (tgt := 34) dX9_commonDivisor_15 rfl (fun h15 => ?_) (fun h15 => ?_)
        ·
          refine go_iload_n dX9_commonDivisor_34 rfl ?_
          exact go_ri dX9_commonDivisor_35 tyI ⟨Nat.le_refl _, Nat.le_refl _⟩ (⟨by rw [hg, hx, show y0 = 0 by omega, Nat.gcd_zero_right], rfl⟩)
        ·
          exact absurd (by omega) h15
    | succ k ih =>
      intro x0 y0 x y i hx hy hlt hi hi2 hg
      by_cases hy0 : y0 = 0
      ·
        refine go_iload dX9_commonDivisor_7 rfl ?_
        refine go_bipush dX9_commonDivisor_9 rfl (by decide) ?_
        refine go_icmp_ge (tgt := 34) dX9_commonDivisor_11 rfl (fun h11 => ?_) (fun h11 => ?_)
        ·
          exact absurd h11 (by omega)
        ·
          refine go_iload_n dX9_commonDivisor_14 rfl ?_
          first | refine go_bz (tgt := 34) dX9_commonDivisor_15 rfl (fun h15 => ?_) (fun h15 => ?_) | refine go_if_eq (tgt := 34) dX9_commonDivisor_15 rfl (fun h15 => ?_) (fun h15 => ?_)
          ·
            refine go_iload_n dX9_commonDivisor_34 rfl ?_
            exact go_ri dX9_commonDivisor_35 tyI ⟨Nat.le_refl _, Nat.le_refl _⟩ (⟨by rw [hg, hx, show y0 = 0 by omega, Nat.gcd_zero_right], rfl⟩)
          ·
            exact absurd (by omega) h15
      ·
        have hyp := Nat.pos_of_ne_zero hy0
        refine go_iload dX9_commonDivisor_7 rfl ?_
        refine go_bipush dX9_commonDivisor_9 rfl (by decide) ?_
        refine go_icmp_ge (tgt := 34) dX9_commonDivisor_11 rfl (fun h11 => ?_) (fun h11 => ?_)
        ·
          exact absurd h11 (by omega)
        ·
          refine go_iload_n dX9_commonDivisor_14 rfl ?_
          first | refine go_bz (tgt := 34) dX9_commonDivisor_15 rfl (fun h15 => ?_) (fun h15 => ?_) | refine go_if_eq (tgt := 34) dX9_commonDivisor_15 rfl (fun h15 => ?_) (fun h15 => ?_)
          ·
            exact absurd h15 (by omega)
          ·
            refine go_iload_n dX9_commonDivisor_18 rfl ?_
            refine go_iload_n dX9_commonDivisor_19 rfl ?_
            refine go_irem dX9_commonDivisor_20 (by omega) (by omega) ?_
            refine go_istore dX9_commonDivisor_21 rfl ?_
            refine go_iload_n dX9_commonDivisor_23 rfl ?_
            refine go_istore_n dX9_commonDivisor_24 rfl ?_
            refine go_iload dX9_commonDivisor_25 rfl ?_
            refine go_istore_n dX9_commonDivisor_27 rfl ?_
            refine go_iinc dX9_commonDivisor_28 rfl rfl ⟨by omega, by omega⟩ ?_
            refine go_goto (tgt := 7) dX9_commonDivisor_31 rfl ?_
            refine go_drop (L' := [(0, vi u), (1, vi v), (2, vi y), (3, vi (x % y)), (4, vi (i + 1))]) ?_ rfl
            have hmd : x % y = ((x0 % y0 : Nat) : Int) := by rw [hx, hy]; exact (Int.natCast_emod _ _).symm
            by_cases hr : x0 % y0 = 0
            ·
              refine go_iload dX9_commonDivisor_7 rfl ?_
              refine go_bipush dX9_commonDivisor_9 rfl (by decide) ?_
              refine go_icmp_ge (tgt := 34) dX9_commonDivisor_11 rfl (fun h11 => ?_) (fun h11 => ?_)
              ·
                exact absurd h11 (by omega)
              ·
                refine go_iload_n dX9_commonDivisor_14 rfl ?_
                first | refine go_bz (tgt := 34) dX9_commonDivisor_15 rfl (fun h15 => ?_) (fun h15 => ?_) | refine go_if_eq (tgt := 34) dX9_commonDivisor_15 rfl (fun h15 => ?_) (fun h15 => ?_)
                ·
                  refine go_iload_n dX9_commonDivisor_34 rfl ?_
                  exact go_ri dX9_commonDivisor_35 tyI ⟨Nat.le_refl _, Nat.le_refl _⟩ (⟨by rw [hg, gcd_st, hr, Nat.gcd_zero_right, hy], rfl⟩)
                ·
                  exact absurd (by rw [hmd, hr]; rfl) h15
            ·
              have hrp := Nat.pos_of_ne_zero hr
              refine go_iload dX9_commonDivisor_7 rfl ?_
              refine go_bipush dX9_commonDivisor_9 rfl (by decide) ?_
              refine go_icmp_ge (tgt := 34) dX9_commonDivisor_11 rfl (fun h11 => ?_) (fun h11 => ?_)
              ·
                exact absurd h11 (by omega)
              ·
                refine go_iload_n dX9_commonDivisor_14 rfl ?_
                first | refine go_bz (tgt := 34) dX9_commonDivisor_15 rfl (fun h15 => ?_) (fun h15 => ?_) | refine go_if_eq (tgt := 34) dX9_commonDivisor_15 rfl (fun h15 => ?_) (fun h15 => ?_)
                ·
                  exact absurd h15 (by rw [hmd]; omega)
                ·
                  refine go_iload_n dX9_commonDivisor_18 rfl ?_
                  refine go_iload_n dX9_commonDivisor_19 rfl ?_
                  refine go_irem dX9_commonDivisor_20 (by omega) (by omega) ?_
                  refine go_istore dX9_commonDivisor_21 rfl ?_
                  refine go_iload_n dX9_commonDivisor_23 rfl ?_
                  refine go_istore_n dX9_commonDivisor_24 rfl ?_
                  refine go_iload dX9_commonDivisor_25 rfl ?_
                  refine go_istore_n dX9_commonDivisor_27 rfl ?_
                  refine go_iinc dX9_commonDivisor_28 rfl rfl ⟨by omega, by omega⟩ ?_
                  refine go_goto (tgt := 7) dX9_commonDivisor_31 rfl ?_
                  have hlt2 : y0 % (x0 % y0) < 2 ^ k := by
                    have h1 := mod_half (a := x0) hyp hrp
                    have h2 : (2 : Nat) ^ (k + 1) = 2 ^ k * 2 := by rw [Nat.pow_succ]
                    omega
                  have hg2 : Nat.gcd a b = Nat.gcd (x0 % y0) (y0 % (x0 % y0)) := hg.trans ((gcd_st x0 y0).trans (gcd_st y0 (x0 % y0)))
                  have e2 : y % (x % y) = ((y0 % (x0 % y0) : Nat) : Int) := by rw [hmd, hy]; exact (Int.natCast_emod _ _).symm
                  exact go_drop (ih (x0 % y0) (y0 % (x0 % y0)) _ _ _ hmd e2 hlt2 (by omega) (by omega) hg2) rfl
  refine go_iload_n dX9_commonDivisor_0 rfl ?_
  refine go_istore_n dX9_commonDivisor_1 rfl ?_
  refine go_iload_n dX9_commonDivisor_2 rfl ?_
  refine go_istore_n dX9_commonDivisor_3 rfl ?_
  refine go_iconst dX9_commonDivisor_4 rfl ?_
  refine go_istore dX9_commonDivisor_5 rfl ?_
  exact go_drop (loop 31 a b _ _ _ hu hv (by omega) (by omega) (by omega) rfl) rfl

def pw3 (p : Int) : Nat → Int
  | 0 => p
  | n + 1 => pw3 p n * 3
theorem pw3_b {p : Int} (h0 : 0 ≤ p) (h1 : p ≤ 100) : ∀ n : Nat, n ≤ 12 → p ≤ pw3 p n ∧ 0 ≤ pw3 p n ∧ pw3 p n ≤ 100 * 3 ^ n
  | 0, _ => by unfold pw3; omega
  | n + 1, hn => by
    have := pw3_b h0 h1 n (by omega)
    have e : (3 : Int) ^ (n + 1) = 3 ^ n * 3 := Int.pow_succ 3 n
    unfold pw3
    rw [e]
    omega
theorem p3_b : ∀ n : Nat, n ≤ 12 → (3 : Int) ^ n ≤ 531441 := by decide
def odV (p : Int) (m : Nat) (part : Int) : Int := if part = 0 then pw3 p m / (Nat.gcd (pw3 p m).toNat (pw3 p m + 100 - p).toNat : Nat) else (pw3 p m + 100 - p) / (Nat.gcd (pw3 p m).toNat (pw3 p m + 100 - p).toNat : Nat)

set_option maxRecDepth 100000 in
set_option maxHeartbeats 4000000 in
theorem ct_X9_odds {l : Launch} {D : va_G} {cA : Nat → ClassId} {μ : Mem} (p m part : Int) : CtN l D cA yX9_odds cX9_odds 7 (some .long) 4 [vr 0, vi p, vi m, vi part] μ (Pl (fun x μ' => x = (if (0 ≤ p ∧ p ≤ 100) ∧ (0 ≤ m ∧ m ≤ 12) ∧ 0 ≤ part ∧ part ≤ 1 then odV p m.toNat part else -1000000001) ∧ μ' = μ)) := by
  refine Ct.of (own := RX9) (by decide +kernel) rfl (fun σ => Nat.le_of_ble_eq_true rfl) (fun hM hP ha => ?_)
  obtain ⟨w0_0, w0_1, w0_2, w0_3, w0_4, w0_5, w0_6, w0_7, w0_8, w0_9, w1_0, w1_1, w32_1, w32_2, w32_3, w32_4, w32_5, w32_6, w39_1, w39_2, w39_3, w39_4, w39_5, w39_6, w46_1, w46_2, w46_3, w46_4, w46_5, w46_6, w56_0, w58_0, w58_1, w53_0, w53_1⟩ := ws_f
  refine go_iload_n dX9_odds_0 rfl ?_
  refine go_iconst dX9_odds_1 rfl ?_
  refine go_bipush dX9_odds_2 rfl (by decide) ?_
  refine go_sI dX9_odds_4 (ct_X9_isWithin _ _ _) ml_X9_81 mc_X9_isWithin ms_X9_isWithin ⟨rfl, rfl⟩ ⟨Nat.le_refl _, Nat.le_refl _⟩ rfl rfl rfl (fun x4 μ4 hc4 => ?_)
  obtain ⟨rfl, hm4⟩ := hc4
  rw [hm4]
  first | refine go_bz (tgt := 29) dX9_odds_7 rfl (fun h7 => ?_) (fun h7 => ?_) | refine go_if_eq (tgt := 29) dX9_odds_7 rfl (fun h7 => ?_) (fun h7 => ?_)
  ·
    refine go_ldc2 dX9_odds_29 kl_X9_221 rfl ?_
    exact go_rl dX9_odds_32 rfl ⟨Nat.le_refl _, Nat.le_refl _⟩ (⟨by rw [if_neg (by omega)], rfl⟩)
  ·
    refine go_iload_n dX9_odds_10 rfl ?_
    refine go_iconst dX9_odds_11 rfl ?_
    refine go_bipush dX9_odds_12 rfl (by decide) ?_
    refine go_sI dX9_odds_14 (ct_X9_isWithin _ _ _) ml_X9_81 mc_X9_isWithin ms_X9_isWithin ⟨rfl, rfl⟩ ⟨Nat.le_refl _, Nat.le_refl _⟩ rfl rfl rfl (fun x14 μ14 hc14 => ?_)
    obtain ⟨rfl, hm14⟩ := hc14
    rw [hm14]
    first | refine go_bz (tgt := 29) dX9_odds_17 rfl (fun h17 => ?_) (fun h17 => ?_) | refine go_if_eq (tgt := 29) dX9_odds_17 rfl (fun h17 => ?_) (fun h17 => ?_)
    ·
      refine go_ldc2 dX9_odds_29 kl_X9_221 rfl ?_
      exact go_rl dX9_odds_32 rfl ⟨Nat.le_refl _, Nat.le_refl _⟩ (⟨by rw [if_neg (by omega)], rfl⟩)
    ·
      refine go_iload_n dX9_odds_20 rfl ?_
      refine go_iconst dX9_odds_21 rfl ?_
      refine go_iconst dX9_odds_22 rfl ?_
      refine go_sI dX9_odds_23 (ct_X9_isWithin _ _ _) ml_X9_81 mc_X9_isWithin ms_X9_isWithin ⟨rfl, rfl⟩ ⟨Nat.le_refl _, Nat.le_refl _⟩ rfl rfl rfl (fun x23 μ23 hc23 => ?_)
      obtain ⟨rfl, hm23⟩ := hc23
      rw [hm23]
      first | refine go_bnz (tgt := 33) dX9_odds_26 rfl (fun h26 => ?_) (fun h26 => ?_) | refine go_if_ne (tgt := 33) dX9_odds_26 rfl (fun h26 => ?_) (fun h26 => ?_)
      ·
        refine go_iload_n dX9_odds_33 rfl ?_
        refine go_istore dX9_odds_34 rfl ?_
        refine go_iconst dX9_odds_36 rfl ?_
        refine go_istore dX9_odds_37 rfl ?_
        have h0p : 0 ≤ p := by omega
        have h1p : p ≤ 100 := by omega
        have loop : ∀ (k : Nat) (i ab : Int), m - i = (k : Nat) → 0 ≤ i → ab = pw3 p i.toNat → Go l D cA none RX9 cX9_odds 7 (some .long) (4, 0, 0) (QN (Pl (fun x μ' => x = (if (0 ≤ p ∧ p ≤ 100) ∧ (0 ≤ m ∧ m ≤ 12) ∧ 0 ≤ part ∧ part ≤ 1 then odV p m.toNat part else -1000000001) ∧ μ' = μ))) 113 ρ0 0 0 39 [(0, vr 0), (1, vi p), (2, vi m), (3, vi part), (4, vi ab), (5, vi i)] [] μ := by
          intro k
          induction k with
          | zero =>
            intro i ab hm hi hab
            refine go_iload dX9_odds_39 rfl ?_
            refine go_iload_n dX9_odds_41 rfl ?_
            refine go_icmp_ge (tgt := 57) dX9_odds_42 rfl (fun h42 => ?_) (fun h42 => ?_)
            ·
              have hpb := pw3_b h0p h1p m.toNat (by omega)
              have h3b := p3_b m.toNat (by omega)
              rw [show i.toNat = m.toNat by omega] at hab
              subst hab
              have hgp : 1 ≤ (Nat.gcd (pw3 p m.toNat).toNat (pw3 p m.toNat + 100 - p).toNat) := Nat.gcd_pos_of_pos_right _ (by omega)
              refine go_iload dX9_odds_57 rfl ?_
              refine go_bipush dX9_odds_59 rfl (by decide) ?_
              refine go_iadd dX9_odds_61 ⟨by omega, by omega⟩ ?_
              refine go_iload_n dX9_odds_62 rfl ?_
              refine go_isub dX9_odds_63 ⟨by omega, by omega⟩ ?_
              refine go_istore dX9_odds_64 rfl ?_
              refine go_iload dX9_odds_66 rfl ?_
              refine go_iload dX9_odds_68 rfl ?_
              refine go_sI dX9_odds_70 (ct_X9_commonDivisor (pw3 p m.toNat).toNat (pw3 p m.toNat + 100 - p).toNat _ _ (by omega) (by omega) (by omega)) ml_X9_223 mc_X9_commonDivisor ms_X9_commonDivisor ⟨rfl, rfl⟩ ⟨Nat.le_refl _, Nat.le_refl _⟩ rfl rfl rfl (fun x70 μ70 hc70 => ?_)
              obtain ⟨rfl, hm70⟩ := hc70
              rw [hm70]
              refine go_istore dX9_odds_73 rfl ?_
              refine go_iload dX9_odds_75 rfl ?_
              refine go_iconst dX9_odds_77 rfl ?_
              refine go_icmp_ge (tgt := 85) dX9_odds_78 rfl (fun h78 => ?_) (fun h78 => ?_)
              ·
                refine go_iload_n dX9_odds_85 rfl ?_
                first | refine go_bnz (tgt := 98) dX9_odds_86 rfl (fun h86 => ?_) (fun h86 => ?_) | refine go_if_ne (tgt := 98) dX9_odds_86 rfl (fun h86 => ?_) (fun h86 => ?_)
                ·
                  refine go_iload dX9_odds_98 rfl ?_
                  refine go_iload dX9_odds_100 rfl ?_
                  refine go_idiv dX9_odds_102 (by omega) (by omega) ?_
                  refine go_i2l dX9_odds_103 ?_
                  exact go_rl dX9_odds_104 rfl ⟨Nat.le_refl _, Nat.le_refl _⟩ (⟨by unfold odV; rw [if_pos (by omega), if_neg h86], rfl⟩)
                ·
                  refine go_iload dX9_odds_89 rfl ?_
                  refine go_iload dX9_odds_91 rfl ?_
                  refine go_idiv dX9_odds_93 (by omega) (by omega) ?_
                  refine go_i2l dX9_odds_94 ?_
                  refine go_goto (tgt := 104) dX9_odds_95 rfl ?_
                  exact go_rl dX9_odds_104 rfl ⟨Nat.le_refl _, Nat.le_refl _⟩ (⟨by unfold odV; rw [if_pos (by omega), if_pos h86], rfl⟩)
              ·
                exact absurd h78 (by omega)
            ·
              exact absurd h42 (by omega)
          | succ k ih =>
            intro i ab hm hi hab
            refine go_iload dX9_odds_39 rfl ?_
            refine go_iload_n dX9_odds_41 rfl ?_
            refine go_icmp_ge (tgt := 57) dX9_odds_42 rfl (fun h42 => ?_) (fun h42 => ?_)
            ·
              exact absurd h42 (by omega)
            ·
              have hpb := pw3_b h0p h1p i.toNat (by omega)
              have h3b := p3_b i.toNat (by omega)
              refine go_iload dX9_odds_45 rfl ?_
              refine go_iconst dX9_odds_47 rfl ?_
              refine go_imul dX9_odds_48 ⟨by omega, by omega⟩ ?_
              refine go_istore dX9_odds_49 rfl ?_
              refine go_iinc dX9_odds_51 rfl rfl ⟨by omega, by omega⟩ ?_
              refine go_goto (tgt := 39) dX9_odds_54 rfl ?_
              exact go_drop (ih _ _ (by omega) (by omega) (by rw [show (i + 1).toNat = i.toNat + 1 by omega, hab]; rfl)) rfl
        exact go_drop (loop m.toNat 0 p (by omega) (by omega) rfl) rfl
      ·
        refine go_ldc2 dX9_odds_29 kl_X9_221 rfl ?_
        exact go_rl dX9_odds_32 rfl ⟨Nat.le_refl _, Nat.le_refl _⟩ (⟨by rw [if_neg (by omega)], rfl⟩)

