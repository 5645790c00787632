/-! THE REFERENCE: its reader: pieces and levels, against the class's reading -/
def cdM (f : Int → Int) (la : Int) (s : RS) : Prop := ∀ k, 0 ≤ k → k < rLn s → cdV (f (la + 2 * k)) (f (la + 2 * k + 1)) = rCo s k ∧ stOK (f (la + 2 * k)) (f (la + 2 * k + 1))
def MSo (B : Int → Int) (N : Int) (μ : Mem) (s : RS) (p n la : Int) : Prop := μ 107 = B ∧ μ 87 21 = N ∧ okR N s ∧ rFl s = -1000000005 ∧ μ 87 27 = p ∧ μ 87 28 = n ∧ μ 87 29 = rLn s ∧ μ 87 31 = rPc s ∧ μ 87 30 = la ∧ cdM (μ 88) la s
def MS (B : Int → Int) (N : Int) (μ : Mem) (s : RS) (tg : Prop) (p n la : Int) : Prop := MSo B N μ s p n la ∧ tokR B N tg (skp B N (rAt s)) (μ 87)
def PF (μ μ' : Mem) (la : Int) : Prop := (∀ q, q ≠ 87 → q ≠ 88 → μ' q = μ q) ∧ (∀ k, (k < 22 ∨ 31 < k ∨ k = 30) → μ' 87 k = μ 87 k) ∧ ∀ j, (j < la ∨ la + 192 ≤ j) → μ' 88 j = μ 88 j
def PR (B : Int → Int) (N : Int) (μ : Mem) (s' : RS) (p n la : Int) (x : Int) (μ' : Mem) : Prop := (rFl s' = -1000000005 → x = 1 ∧ ∃ tg : Prop, MS B N μ' s' tg p n la) ∧ (rFl s' ≠ -1000000005 → x = 0 ∧ μ' 87 22 = rFl s') ∧ PF μ μ' la
theorem PF.rf {μ : Mem} {la : Int} : PF μ μ la := ⟨fun _ _ _ => rfl, fun _ _ => rfl, fun _ _ => rfl⟩
theorem PF.tr {a b c : Mem} {la : Int} (h1 : PF a b la) (h2 : PF b c la) : PF a c la := ⟨fun q x y => (h2.1 q x y).trans (h1.1 q x y), fun k x => (h2.2.1 k x).trans (h1.2.1 k x), fun j x => (h2.2.2 j x).trans (h1.2.2 j x)⟩
theorem PR.fr {B : Int → Int} {N : Int} {μ μ1 μ' : Mem} {s' : RS} {p n la x : Int} (hf : PF μ μ1 la) (h : PR B N μ1 s' p n la x μ') : PR B N μ s' p n la x μ' := ⟨h.1, h.2.1, hf.tr h.2.2⟩
theorem tk_2 {B : Int → Int} {N : Int} {tg : Prop} {b : Int} {r : Int → Int} (h : tokR B N tg b r) (hb : b ≤ N) (h2 : r 24 = 2) : b < N ∧ qDg B N b = true ∧ ¬ tg ∧ wEd B N b - b ≤ 4 ∧ r 23 = wEd B N b ∧ r 25 = nuV B b (wEd B N b - b).toNat := by
  obtain ⟨h22, hE, hL, hD, hS⟩ := h
  by_cases e : b = N
  · exact absurd (hE e).1 (by omega)
  · by_cases eL : qLt B N b = true
    · obtain ⟨_, t1, t2, _⟩ := hL (by omega) eL
      exfalso
      by_cases ht : tg
      · have := t1 ht; omega
      · have := t2 ht; omega
    · by_cases eD : qDg B N b = true
      · obtain ⟨d1, d2, d3⟩ := hD (by omega) eD
        by_cases ht : tg ∨ 4 < wEd B N b - b
        · have := d2 ht; omega
        · have ht1 : ¬ tg := fun q => ht (Or.inl q)
          have ht2 : wEd B N b - b ≤ 4 := by have : ¬ 4 < wEd B N b - b := fun q => ht (Or.inr q); omega
          exact ⟨by omega, eD, ht1, ht2, d1, (d3 ⟨ht1, ht2⟩).2⟩
      · have := (hS (by omega) eL eD).1; omega
theorem tk_1 {B : Int → Int} {N : Int} {tg : Prop} {b : Int} {r : Int → Int} (h : tokR B N tg b r) (hb : b ≤ N) (h2 : r 24 = 1) : b < N ∧ qLt B N b = true ∧ ¬ tg ∧ r 23 = wEd B N b ∧ r 26 = if wEd B N b - b = 1 then B b else 0 := by
  obtain ⟨h22, hE, hL, hD, hS⟩ := h
  by_cases e : b = N
  · exact absurd (hE e).1 (by omega)
  · by_cases eL : qLt B N b = true
    · obtain ⟨a1, t1, t2, a4⟩ := hL (by omega) eL
      by_cases ht : tg
      · have := t1 ht; omega
      · exact ⟨by omega, eL, ht, a1, a4⟩
    · by_cases eD : qDg B N b = true
      · obtain ⟨d1, d2, d3⟩ := hD (by omega) eD
        by_cases ht : tg ∨ 4 < wEd B N b - b
        · have := d2 ht; omega
        · have ht1 : ¬ tg := fun q => ht (Or.inl q)
          have ht2 : wEd B N b - b ≤ 4 := by have : ¬ 4 < wEd B N b - b := fun q => ht (Or.inr q); omega
          have := (d3 ⟨ht1, ht2⟩).1; omega
      · have := (hS (by omega) eL eD).1; omega
theorem tk_3 {B : Int → Int} {N : Int} {tg : Prop} {b : Int} {r : Int → Int} (h : tokR B N tg b r) (hb : b ≤ N) (h2 : r 24 = 3) : b < N ∧ ¬ qLt B N b = true ∧ ¬ qDg B N b = true ∧ r 26 = B b ∧ r 23 = b + 1 := by
  obtain ⟨h22, hE, hL, hD, hS⟩ := h
  by_cases e : b = N
  · exact absurd (hE e).1 (by omega)
  · by_cases eL : qLt B N b = true
    · obtain ⟨a1, t1, t2, a4⟩ := hL (by omega) eL
      exfalso
      by_cases ht : tg
      · have := t1 ht; omega
      · have := t2 ht; omega
    · by_cases eD : qDg B N b = true
      · obtain ⟨d1, d2, d3⟩ := hD (by omega) eD
        exfalso
        by_cases ht : tg ∨ 4 < wEd B N b - b
        · have := d2 ht; omega
        · have ht1 : ¬ tg := fun q => ht (Or.inl q)
          have ht2 : wEd B N b - b ≤ 4 := by have : ¬ 4 < wEd B N b - b := fun q => ht (Or.inr q); omega
          have := (d3 ⟨ht1, ht2⟩).1; omega
      · obtain ⟨s1, s2, s3⟩ := hS (by omega) eL eD
        exact ⟨by omega, eL, eD, s2, s3⟩
/-- a sign, by its byte -/
theorem tk_s {B : Int → Int} {N : Int} {tg : Prop} {b c : Int} {r : Int → Int} (h : tokR B N tg b r) (hb : b ≤ N) (hc : 0 ≤ c) (hl : ¬ (97 ≤ c ∧ c ≤ 122)) (hd : ¬ (48 ≤ c ∧ c ≤ 57)) : (r 24 = 3 ∧ r 26 = c) ↔ bA B N b = c := by
  constructor
  · rintro ⟨h1, h2⟩
    obtain ⟨q1, _, _, q4, _⟩ := tk_3 h hb h1
    unfold bA; rw [if_pos q1]; omega
  · intro e
    have hlt : b < N := bA_lt (B := B) (by omega)
    have e2 : bA B N b = B b := if_pos hlt
    obtain ⟨s1, s2, _⟩ := h.2.2.2.2 hlt (qLt_f (by rw [e]; exact hl)) (qDg_f (by rw [e]; exact hd))
    exact ⟨s1, by omega⟩
theorem ms_at {B : Int → Int} {N : Int} {μ : Mem} {s : RS} {tg : Prop} {p n la : Int} (h : MS B N μ s tg p n la) : MS B N μ (sAt s (skp B N (rAt s))) tg p n la := by
  obtain ⟨⟨a1, a2, a3, a4, a5, a6, a7, a8, a9, a10⟩, ht⟩ := h
  have hr := skp_r (B := B) a3.2.1
  refine ⟨⟨a1, a2, (gw_at a3 hr.1 hr.2).1, a4, a5, a6, a7, a8, a9, a10⟩, ?_⟩
  show tokR B N tg (skp B N (skp B N (rAt s))) (μ 87)
  rw [skp_skp a3.2.1]; exact ht
/-- what nextToken makes of a state -/
theorem ms_nt {B : Int → Int} {N : Int} {μ μ' : Mem} {s : RS} {p n la : Int} {T : Prop} (h : MSo B N μ s p n la) (he : μ 87 23 = rAt s) (ht : tokR (μ 107) (μ 87 21) T (skp (μ 107) (μ 87 21) (μ 87 23)) (μ' 87)) (hf : (∀ q, q ≠ 87 → μ' q = μ q) ∧ ∀ k, (k < 22 ∨ 26 < k) → μ' 87 k = μ 87 k) : MS B N μ' s T p n la ∧ PF μ μ' la := by
  obtain ⟨a1, a2, a3, a4, a5, a6, a7, a8, a9, a10⟩ := h
  rw [a1, a2, he] at ht
  refine ⟨⟨⟨(hf.1 107 (by decide)).trans a1, (hf.2 21 (by omega)).trans a2, a3, a4, (hf.2 27 (by omega)).trans a5, (hf.2 28 (by omega)).trans a6, (hf.2 29 (by omega)).trans a7, (hf.2 31 (by omega)).trans a8, (hf.2 30 (by omega)).trans a9, by rw [hf.1 88 (by decide)]; exact a10⟩, ht⟩, fun q x _ => hf.1 q x, fun k x => hf.2 k (by omega), fun j _ => by rw [hf.1 88 (by decide)]⟩
theorem cd_ad {f : Int → Int} {la w v c : Int} {s : RS} (h : cdM f la s) (h0 : 0 ≤ rLn s) (hc : cdV w v = c) (ho : stOK w v) : cdM (uf (uf f (la + 2 * rLn s) w) (la + 2 * rLn s + 1) v) la (adC s c) := by
  intro k k0 k1
  have k1b : k < rLn s + 1 := k1
  have hco : rCo (adC s c) = uf (rCo s) (rLn s) c := rfl
  by_cases e : k = rLn s
  · rw [e, uf_ne (by omega), uf_same, uf_same, hco, uf_same]; exact ⟨hc, ho⟩
  · rw [uf_ne (by omega), uf_ne (by omega), uf_ne (by omega), uf_ne (by omega), hco, uf_ne e]
    exact h k k0 (by omega)
/-! a step of the class's reading -/
section Piece
variable {B : Int → Int} {N ke ky : Int} {d : Nat} {p n : Int} {s : RS}
theorem rp_num (h : rFl s = -1000000005) (hq : qDg B N (skp B N (rAt s)) = true) (hk : skp B N (rAt s) ≠ ke) (hl : wEd B N (skp B N (rAt s)) - skp B N (rAt s) ≤ 4) : rdL B N ke ky (d + 1) 6 p n s = sAt (adP (sAt s (skp B N (rAt s))) (nuV B (skp B N (rAt s)) (wEd B N (skp B N (rAt s)) - skp B N (rAt s)).toNat)) (wEd B N (skp B N (rAt s))) := by
  have hd : 48 ≤ bA B N (skp B N (rAt s)) ∧ bA B N (skp B N (rAt s)) ≤ 57 := of_decide_eq_true hq
  rw [rdL_6]; unfold pcS
  rw [if_pos h, if_neg (by omega), if_neg (by omega), if_pos hq]
  unfold nuS
  rw [if_neg (by rw [rAt_sAt]; omega)]
  rfl
theorem rp_bad (h : rFl s = -1000000005) (h1 : ¬ (bA B N (skp B N (rAt s)) = 40 ∧ p < 8)) (h2 : ¬ (bA B N (skp B N (rAt s)) = 33 ∧ n < 8)) (h3 : qDg B N (skp B N (rAt s)) = true → skp B N (rAt s) = ke ∨ 4 < wEd B N (skp B N (rAt s)) - skp B N (rAt s)) (h4 : ¬ qDg B N (skp B N (rAt s)) = true → ¬ (nmO ky (bA B N (skp B N (rAt s))) ∧ wEd B N (skp B N (rAt s)) = skp B N (rAt s) + 1)) : rdL B N ke ky (d + 1) 6 p n s = sFl (sAt s (skp B N (rAt s))) (skp B N (rAt s)) := by
  rw [rdL_6]; unfold pcS
  rw [if_pos h, if_neg h1, if_neg h2]
  by_cases hq : qDg B N (skp B N (rAt s)) = true
  · rw [if_pos hq]
    unfold nuS
    rw [if_pos (by rw [rAt_sAt]; exact h3 hq)]
    rfl
  · rw [if_neg hq, naS_n (by rw [rAt_sAt]; exact h4 hq)]
    rfl
theorem rp_name (h : rFl s = -1000000005) (hq : qLt B N (skp B N (rAt s)) = true) (hn : nmO ky (bA B N (skp B N (rAt s)))) (hw : wEd B N (skp B N (rAt s)) = skp B N (rAt s) + 1) : rdL B N ke ky (d + 1) 6 p n s = sAt (adP (sAt s (skp B N (rAt s))) (-(bA B N (skp B N (rAt s))))) (skp B N (rAt s) + 1) := by
  have hd : 97 ≤ bA B N (skp B N (rAt s)) ∧ bA B N (skp B N (rAt s)) ≤ 122 := of_decide_eq_true hq
  rw [rdL_6]; unfold pcS
  rw [if_pos h, if_neg (by omega), if_neg (by omega), if_neg (dg_lt hq), naS_y hn (by rw [rAt_sAt]; exact hw)]
  rfl
theorem rp_not (h : rFl s = -1000000005) (hb : bA B N (skp B N (rAt s)) = 33) (hn : n < 8) : rdL B N ke ky (d + 1) 6 p n s = adC (rdL B N ke ky d 6 p (n + 1) (sAt s (skp B N (rAt s) + 1))) (-33) := by
  rw [rdL_6]; unfold pcS
  rw [if_pos h, if_neg (by omega), if_pos ⟨hb, hn⟩]
theorem rp_par (h : rFl s = -1000000005) (hb : bA B N (skp B N (rAt s)) = 40) (hn : p < 8) : rdL B N ke ky (d + 1) 6 p n s = clS B N (rdL B N ke ky d 0 (p + 1) n (sAt s (skp B N (rAt s) + 1))) := by
  rw [rdL_6]; unfold pcS
  rw [if_pos h, if_pos ⟨hb, hn⟩]
theorem lp_f {lv : Int} {F : RS → RS} {k : Nat} (h : rFl s ≠ -1000000005) : lpS B N lv F k s = s := by
  cases k with
  | zero => rfl
  | succ k => rw [lpS_s, if_neg h]
end Piece
/-- a level's contract -/
def HL (l : Launch) (D : va_G) (cA : Nat → ClassId) (y : MethodName) (cc : ByteArray) (nl : Nat) (B : Int → Int) (N ke ky la : Int) (d : Nat) (lv : Int) : Prop :=
  ∀ (p n : Int) (s : RS) (tg : Prop) (μ : Mem), 0 ≤ p → p ≤ 8 → 0 ≤ n → n ≤ 8 → (8 - p) * 7 + (8 - n) + (6 - lv) + 1 ≤ (d : Nat) → MS B N μ s tg p n la → (tg ↔ skp B N (rAt s) = ke) → ke ≤ rAt s → CtN l D cA y cc nl (some .boolean) (d + 4) [vr 87, vi ky] μ (Pi (PR B N μ (rdL B N ke ky d lv p n s) p n la))

theorem tok_29 {B : Int → Int} {N : Int} {tg : Prop} {b v : Int} {r : Int → Int} (h : tokR B N tg b r) : tokR B N tg b (uf r 29 v) := by
  unfold tokR at *
  simp (disch := omega) only [uf_ne]
  exact h
theorem pf_st {μ : Mem} {la k w v x : Int} (h0 : 0 ≤ k) (h1 : k < 96) : PF μ (ud (ud (ud μ 88 (la + 2 * k) w) 88 (la + 2 * k + 1) v) 87 29 x) la := by
  refine ⟨fun q a b => by rw [ud_n a, ud_n b, ud_n b], fun q hq => by rw [ud_s, uf_ne (by omega), ud_n (by decide), ud_n (by decide)], fun j hj => by rw [ud_n (by decide), ud_s, uf_ne (by omega), ud_s, uf_ne (by omega)]⟩

set_option maxRecDepth 100000 in
set_option maxHeartbeats 4000000 in
theorem pm_either {l : Launch} {D : va_G} {cA : Nat → ClassId} {B : Int → Int} {N ke ky la : Int} (hN0 : 0 ≤ N) (hN1 : N ≤ 96) (hla : 0 ≤ la ∧ la ≤ 2922) (hky : 0 ≤ ky ∧ ky ≤ 2) {d : Nat} (hsub : HL l D cA yX10_both cX10_both 2 B N ke ky la d 1) : HL l D cA yX10_either cX10_either 2 B N ke ky la (d + 1) 0 := by
  intro p n s tg μ hp0 hp8 hn0 hn8 hd hM hop hke
  refine Ct.of (own := RX10) (by decide +kernel) rfl (fun σ => Nat.le_of_ble_eq_true rfl) (fun hM0 hP0 ha0 => ?_)
  obtain ⟨m87, r88, s88, r89, s89, r90, s90, r91, s91, r92, s92, r93, s93, r94, s94, r95, s95, r96, s96, r97, s97, r98, s98, r99, s99, r100, s100, r101, s101, r102, s102, r103, s103, r104, s104, r105, s105, r106, s106, r107, s107, r108, s108, r109, s109, r110, s110, r111, s111, r112, s112⟩ := md_f
  obtain ⟨⟨hB, hNN, hok, hfl, h27, h28, h29, h31, h30, hcd⟩, htk⟩ := id hM
  have hsk := skp_r (B := B) hok.2.1
  have loop : ∀ (m : Nat) (t : RS) (tg : Prop) (μ1 : Mem) (kf : Nat), N - rAt t ≤ (m : Nat) → N - rAt t ≤ (kf : Nat) → rdL B N ke ky (d + 1) 0 p n s = lpS B N 0 (rdL B N ke ky d 1 p n) kf t → MS B N μ1 t tg p n la → PF μ μ1 la → ke ≤ rAt t → Go l D cA none RX10 cX10_either 2 (some .boolean) (d + 1 + 4, 0, 0) (QN (Pi (PR B N μ (rdL B N ke ky (d + 1) 0 p n s) p n la))) 113 ρ0 0 0 10 [(0, vr 87), (1, vi ky)] [] μ1 := by
    intro m
    induction m with
    | zero =>
      intro t tg μ1 kf hm hkf hx hMt hPF hkt
      obtain ⟨⟨hB1, hN1e, hok1, hfl1, h27b, h28b, h29b, h31b, h30b, hcd1⟩, htt⟩ := id hMt
      have hsk1 := skp_r (B := B) hok1.2.1
      have hbN := hsk1.2
      have hr1 := hok1.1
      refine go_aload_n dX10_either_10 rfl ?_
      refine go_bipush dX10_either_11 rfl (by decide) ?_
      refine go_vI (ci := 9) dX10_either_13 (ct_X10_isSign _) ml_X10_267 mc_X10_isSign mv_X10_isSign rfl (by first | assumption | exact Nat.le_of_ble_eq_true rfl) (by first | assumption | rfl) rfl ⟨Nat.ble_eq_true_of_le (by dsimp only; omega), rfl⟩ ⟨Nat.le_refl _, Nat.le_refl _⟩ rfl rfl rfl (fun x13 μ13 hc13 => ?_)
      obtain ⟨rfl, hm13⟩ := hc13
      rw [hm13]
      first | refine go_bz (tgt := 43) dX10_either_16 rfl (fun h16 => ?_) (fun h16 => ?_) | refine go_if_eq (tgt := 43) dX10_either_16 rfl (fun h16 => ?_) (fun h16 => ?_)
      ·
        refine go_iconst dX10_either_43 rfl ?_
        refine go_ri dX10_either_44 (tyZ (by first | exact Or.inl rfl | exact Or.inr rfl | exact tv_01 | assumption)) ⟨Nat.le_refl _, Nat.le_refl _⟩ (?_)
        have hnl : lvO (bA B N (skp B N (rAt t))) ≠ 0 := fun e => by
          have hcs : bA B N (skp B N (rAt t)) = 124 := by unfold lvO at e; split at e <;> (try split at e) <;> (try split at e) <;> (try split at e) <;> (try split at e) <;> omega
          exact h16 ((tk_s (c := 124) htt hbN (by decide) (by decide) (by decide)).mpr hcs)
        cases kf with
        | zero =>
          rw [show (rdL B N ke ky (d + 1) 0 p n s) = t from hx]
          exact ⟨fun _ => ⟨rfl, tg, hMt⟩, fun h => absurd hfl1 h, hPF⟩
        | succ kf =>
          have hrx : (rdL B N ke ky (d + 1) 0 p n s) = sAt t (skp B N (rAt t)) := by rw [hx, lpS_s, if_pos hfl1, if_neg hnl]
          rw [hrx]
          exact ⟨fun _ => ⟨rfl, tg, ms_at hMt⟩, fun h => absurd hfl1 h, hPF⟩
      ·
        exact absurd (tk_3 htt hbN h16.1).1 (by omega)
    | succ m ih =>
      intro t tg μ1 kf hm hkf hx hMt hPF hkt
      obtain ⟨⟨hB1, hN1e, hok1, hfl1, h27b, h28b, h29b, h31b, h30b, hcd1⟩, htt⟩ := id hMt
      have hsk1 := skp_r (B := B) hok1.2.1
      have hbN := hsk1.2
      have hr1 := hok1.1
      refine go_aload_n dX10_either_10 rfl ?_
      refine go_bipush dX10_either_11 rfl (by decide) ?_
      refine go_vI (ci := 9) dX10_either_13 (ct_X10_isSign _) ml_X10_267 mc_X10_isSign mv_X10_isSign rfl (by first | assumption | exact Nat.le_of_ble_eq_true rfl) (by first | assumption | rfl) rfl ⟨Nat.ble_eq_true_of_le (by dsimp only; omega), rfl⟩ ⟨Nat.le_refl _, Nat.le_refl _⟩ rfl rfl rfl (fun x13 μ13 hc13 => ?_)
      obtain ⟨rfl, hm13⟩ := hc13
      rw [hm13]
      first | refine go_bz (tgt := 43) dX10_either_16 rfl (fun h16 => ?_) (fun h16 => ?_) | refine go_if_eq (tgt := 43) dX10_either_16 rfl (fun h16 => ?_) (fun h16 => ?_)
      ·
        refine go_iconst dX10_either_43 rfl ?_
        refine go_ri dX10_either_44 (tyZ (by first | exact Or.inl rfl | exact Or.inr rfl | exact tv_01 | assumption)) ⟨Nat.le_refl _, Nat.le_refl _⟩ (?_)
        have hnl : lvO (bA B N (skp B N (rAt t))) ≠ 0 := fun e => by
          have hcs : bA B N (skp B N (rAt t)) = 124 := by unfold lvO at e; split at e <;> (try split at e) <;> (try split at e) <;> (try split at e) <;> (try split at e) <;> omega
          exact h16 ((tk_s (c := 124) htt hbN (by decide) (by decide) (by decide)).mpr hcs)
        cases kf with
        | zero =>
          rw [show (rdL B N ke ky (d + 1) 0 p n s) = t from hx]
          exact ⟨fun _ => ⟨rfl, tg, hMt⟩, fun h => absurd hfl1 h, hPF⟩
        | succ kf =>
          have hrx : (rdL B N ke ky (d + 1) 0 p n s) = sAt t (skp B N (rAt t)) := by rw [hx, lpS_s, if_pos hfl1, if_neg hnl]
          rw [hrx]
          exact ⟨fun _ => ⟨rfl, tg, ms_at hMt⟩, fun h => absurd hfl1 h, hPF⟩
      ·
        have hs24 : μ1 87 24 = 3 := h16.1
        have hsg : bA B N (skp B N (rAt t)) = 124 := (tk_s (c := 124) htt hbN (by decide) (by decide) (by decide)).mp h16
        have hlv : lvO (bA B N (skp B N (rAt t))) = 0 := by rw [hsg]; decide
        have hcq := hsg
        have hlt : (skp B N (rAt t)) < N := bA_lt (B := B) (by omega)
        have hbe : μ1 87 23 = (skp B N (rAt t)) + 1 := by
          have := (tk_3 htt hbN hs24).2.2.2.2; exact this
        have hMo : MSo B N μ1 (sAt t ((skp B N (rAt t)) + 1)) p n la := ⟨hB1, hN1e, (gw_at hok1 (by omega) (by omega)).1, hfl1, h27b, h28b, h29b, h31b, h30b, hcd1⟩
        refine go_aload_n dX10_either_19 rfl ?_
        refine go_vV (ci := 9) dX10_either_20 (ct_X10_nextToken (by rw [hN1e]; exact hN0) (by rw [hN1e]; exact hN1) (by rw [hbe]; omega) (by rw [hbe, hN1e]; omega)) ml_X10_270 mc_X10_nextToken mv_X10_nextToken rfl (by first | assumption | exact Nat.le_of_ble_eq_true rfl) (by first | assumption | rfl) rfl ⟨Nat.ble_eq_true_of_le (by dsimp only; omega), rfl⟩ ⟨Nat.le_refl _, Nat.le_refl _⟩ rfl rfl rfl (fun μ20 hc20 => ?_)
        obtain ⟨htk20, hf20⟩ := hc20
        obtain ⟨hM20, hP20⟩ := ms_nt hMo (by rw [hbe]; rfl) htk20 hf20
        refine go_aload_n dX10_either_23 rfl ?_
        refine go_iload_n dX10_either_24 rfl ?_
        refine go_vI (ci := 9) dX10_either_25 (hsub p n (sAt t ((skp B N (rAt t)) + 1)) _ μ20 hp0 hp8 hn0 hn8 (by omega) hM20 ⟨fun h => absurd h.1.2 (by omega), fun h => absurd h (by have := (skp_r (B := B) (p := (skp B N (rAt t)) + 1) (show (skp B N (rAt t)) + 1 ≤ N by omega)).1; show ¬ (skp B N ((skp B N (rAt t)) + 1) = ke); omega)⟩ (by show ke ≤ (skp B N (rAt t)) + 1; omega)) ml_X10_264 mc_X10_both mv_X10_both rfl (by first | assumption | exact Nat.le_of_ble_eq_true rfl) (by first | assumption | rfl) rfl ⟨Nat.ble_eq_true_of_le (by dsimp only; omega), rfl⟩ ⟨Nat.le_refl _, Nat.le_refl _⟩ rfl rfl rfl (fun x25 μ25 hc25 => ?_)
        first | refine go_bnz (tgt := 33) dX10_either_28 rfl (fun h28 => ?_) (fun h28 => ?_) | refine go_if_ne (tgt := 33) dX10_either_28 rfl (fun h28 => ?_) (fun h28 => ?_)
        ·
          have hnf : rFl (rdL B N ke ky d 1 p n (sAt t ((skp B N (rAt t)) + 1))) = -1000000005 := Decidable.byContradiction (fun h => h28 (hc25.2.1 h).1)
          obtain ⟨_, tg2, hMs⟩ := hc25.1 hnf
          obtain ⟨⟨hBc, hNc, hokc, _, h27c, h28c, h29c, h31c, h30c, hcdc⟩, htkc⟩ := id hMs
          have hl0 := hokc.2.2.1
          have hg3 := gw_rd (B := B) (N := N) (ke := ke) (ky := ky) d 1 p n (sAt t ((skp B N (rAt t)) + 1)) (by decide) (gw_at hok1 (by omega) (by omega)).1
          have hln : rLn (rdL B N ke ky d 1 p n (sAt t ((skp B N (rAt t)) + 1))) < 96 := by
            obtain ⟨⟨g1, g2, g3, g4, g5, g6⟩, e2, e3, e4⟩ := hg3
            simp only [rAt_sAt, rLn_sAt] at e2 e3 e4
            have := hok1.2.2.2.1
            omega
          refine go_aload_n dX10_either_33 rfl ?_
          refine go_iconst dX10_either_34 rfl ?_
          refine go_bipush dX10_either_35 rfl (by decide) ?_
          refine go_vV (ci := 9) dX10_either_37 (ct_X10_step _ _ ⟨by rw [h30c]; omega, by rw [h30c]; omega⟩ ⟨by rw [h29c]; omega, by rw [h29c]; omega⟩) ml_X10_273 mc_X10_step mv_X10_step rfl (by first | assumption | exact Nat.le_of_ble_eq_true rfl) (by first | assumption | rfl) rfl ⟨Nat.ble_eq_true_of_le (by dsimp only; omega), rfl⟩ ⟨Nat.le_refl _, Nat.le_refl _⟩ rfl rfl rfl (fun μ37 hc37 => ?_)
          rw [h30c, h29c] at hc37
          subst hc37
          refine go_goto (tgt := 10) dX10_either_40 rfl ?_
          have hgs := gw_s1 (c := -(bA B N (skp B N (rAt t)))) hok1 hsk1.1 hlt hg3
          have hMn : MS B N (ud (ud (ud μ25 88 (la + 2 * rLn (rdL B N ke ky d 1 p n (sAt t ((skp B N (rAt t)) + 1)))) 2) 88 (la + 2 * rLn (rdL B N ke ky d 1 p n (sAt t ((skp B N (rAt t)) + 1))) + 1) (124)) 87 29 (rLn (rdL B N ke ky d 1 p n (sAt t ((skp B N (rAt t)) + 1))) + 1)) (adC (rdL B N ke ky d 1 p n (sAt t ((skp B N (rAt t)) + 1))) (-(bA B N (skp B N (rAt t))))) tg2 p n la := by
            refine ⟨⟨hBc, ?_, hgs.1, hnf, ?_, ?_, ?_, ?_, ?_, ?_⟩, ?_⟩
            · simp (disch := omega) only [ua_same, ua_ne, uf_same, uf_ne]; exact hNc
            · simp (disch := omega) only [ua_same, ua_ne, uf_same, uf_ne]; exact h27c
            · simp (disch := omega) only [ua_same, ua_ne, uf_same, uf_ne]; exact h28c
            · simp (disch := omega) only [ua_same, ua_ne, uf_same, uf_ne]; rfl
            · simp (disch := omega) only [ua_same, ua_ne, uf_same, uf_ne]; exact h31c
            · simp (disch := omega) only [ua_same, ua_ne, uf_same, uf_ne]; exact h30c
            · have e88 : (ud (ud (ud μ25 88 (la + 2 * rLn (rdL B N ke ky d 1 p n (sAt t ((skp B N (rAt t)) + 1)))) 2) 88 (la + 2 * rLn (rdL B N ke ky d 1 p n (sAt t ((skp B N (rAt t)) + 1))) + 1) (124)) 87 29 (rLn (rdL B N ke ky d 1 p n (sAt t ((skp B N (rAt t)) + 1))) + 1)) 88 = uf (uf (μ25 88) (la + 2 * rLn (rdL B N ke ky d 1 p n (sAt t ((skp B N (rAt t)) + 1)))) 2) (la + 2 * rLn (rdL B N ke ky d 1 p n (sAt t ((skp B N (rAt t)) + 1))) + 1) (124) := by simp (disch := omega) only [ua_same, ua_ne, uf_same, uf_ne]
              rw [e88]; exact cd_ad hcdc hokc.2.2.1 (by rw [hsg]; rfl) (Or.inr (Or.inr ⟨rfl, by unfold sgN; omega⟩))
            · show tokR B N tg2 (skp B N (rAt (rdL B N ke ky d 1 p n (sAt t ((skp B N (rAt t)) + 1))))) ((ud (ud (ud μ25 88 (la + 2 * rLn (rdL B N ke ky d 1 p n (sAt t ((skp B N (rAt t)) + 1)))) 2) 88 (la + 2 * rLn (rdL B N ke ky d 1 p n (sAt t ((skp B N (rAt t)) + 1))) + 1) (124)) 87 29 (rLn (rdL B N ke ky d 1 p n (sAt t ((skp B N (rAt t)) + 1))) + 1)) 87)
              exact tok_29 htkc
          have hPn : PF μ (ud (ud (ud μ25 88 (la + 2 * rLn (rdL B N ke ky d 1 p n (sAt t ((skp B N (rAt t)) + 1)))) 2) 88 (la + 2 * rLn (rdL B N ke ky d 1 p n (sAt t ((skp B N (rAt t)) + 1))) + 1) (124)) 87 29 (rLn (rdL B N ke ky d 1 p n (sAt t ((skp B N (rAt t)) + 1))) + 1)) la := hPF.tr (hP20.tr (hc25.2.2.tr (pf_st (by omega) (by omega))))
          exact go_drop (ih (adC (rdL B N ke ky d 1 p n (sAt t ((skp B N (rAt t)) + 1))) (-(bA B N (skp B N (rAt t))))) tg2 _ (kf - 1) (by have := hgs.2.1; have e9 : rAt (adC (rdL B N ke ky d 1 p n (sAt t ((skp B N (rAt t)) + 1))) (-(bA B N (skp B N (rAt t))))) = rAt (rdL B N ke ky d 1 p n (sAt t ((skp B N (rAt t)) + 1))) := rfl; have e8 := hg3.2.1; simp only [rAt_sAt] at e8; omega) (by have e9 : rAt (adC (rdL B N ke ky d 1 p n (sAt t ((skp B N (rAt t)) + 1))) (-(bA B N (skp B N (rAt t))))) = rAt (rdL B N ke ky d 1 p n (sAt t ((skp B N (rAt t)) + 1))) := rfl; have e8 := hg3.2.1; simp only [rAt_sAt] at e8; omega) (by rw [hx, show kf = (kf - 1) + 1 by omega, lpS_s, if_pos hfl1, if_pos hlv]; rfl) hMn hPn (by have e9 : rAt (adC (rdL B N ke ky d 1 p n (sAt t ((skp B N (rAt t)) + 1))) (-(bA B N (skp B N (rAt t))))) = rAt (rdL B N ke ky d 1 p n (sAt t ((skp B N (rAt t)) + 1))) := rfl; have e8 := hg3.2.1; simp only [rAt_sAt] at e8; omega)) rfl
        ·
          refine go_iconst dX10_either_31 rfl ?_
          refine go_ri dX10_either_32 (tyZ (by first | exact Or.inl rfl | exact Or.inr rfl | exact tv_01 | assumption)) ⟨Nat.le_refl _, Nat.le_refl _⟩ (?_)
          have hnf : rFl (rdL B N ke ky d 1 p n (sAt t ((skp B N (rAt t)) + 1))) ≠ -1000000005 := fun h => by have := (hc25.1 h).1; omega
          have hrx : (rdL B N ke ky (d + 1) 0 p n s) = adC (rdL B N ke ky d 1 p n (sAt t ((skp B N (rAt t)) + 1))) (-(bA B N (skp B N (rAt t)))) := by rw [hx, show kf = (kf - 1) + 1 by omega, lpS_s, if_pos hfl1, if_pos hlv, lp_f (by exact hnf)]
          rw [hrx]
          exact ⟨fun h => absurd h hnf, fun _ => ⟨rfl, (hc25.2.1 hnf).2⟩, hPF.tr (hP20.tr hc25.2.2)⟩
  refine go_aload_n dX10_either_0 rfl ?_
  refine go_iload_n dX10_either_1 rfl ?_
  refine go_vI (ci := 9) dX10_either_2 (hsub p n s tg μ hp0 hp8 hn0 hn8 (by omega) hM hop hke) ml_X10_264 mc_X10_both mv_X10_both rfl (by first | assumption | exact Nat.le_of_ble_eq_true rfl) (by first | assumption | rfl) rfl ⟨Nat.ble_eq_true_of_le (by dsimp only; omega), rfl⟩ ⟨Nat.le_refl _, Nat.le_refl _⟩ rfl rfl rfl (fun x2 μ2 hc2 => ?_)
  first | refine go_bnz (tgt := 10) dX10_either_5 rfl (fun h5 => ?_) (fun h5 => ?_) | refine go_if_ne (tgt := 10) dX10_either_5 rfl (fun h5 => ?_) (fun h5 => ?_)
  ·
    have hnf : rFl (rdL B N ke ky d 1 p n s) = -1000000005 := Decidable.byContradiction (fun h => h5 (hc2.2.1 h).1)
    obtain ⟨_, tg2, hMs⟩ := hc2.1 hnf
    exact go_drop (loop (N - rAt (rdL B N ke ky d 1 p n s)).toNat _ _ μ2 96 (by omega) (by have := hok.1; have := (gw_rd (B := B) (N := N) (ke := ke) (ky := ky) d 1 p n s (by decide) hok).2.1; omega) (by rw [rdL_l (by decide)]; rfl) hMs hc2.2.2 (by have := (gw_rd (B := B) (N := N) (ke := ke) (ky := ky) d 1 p n s (by decide) hok).2.1; omega)) rfl
  ·
    refine go_iconst dX10_either_8 rfl ?_
    refine go_ri dX10_either_9 (tyZ (by first | exact Or.inl rfl | exact Or.inr rfl | exact tv_01 | assumption)) ⟨Nat.le_refl _, Nat.le_refl _⟩ (?_)
    have hnf : rFl (rdL B N ke ky d 1 p n s) ≠ -1000000005 := fun h => by have := (hc2.1 h).1; omega
    have hrx : (rdL B N ke ky (d + 1) 0 p n s) = (rdL B N ke ky d 1 p n s) := by rw [rdL_l (by decide)]; exact lp_f hnf
    rw [hrx]
    exact ⟨fun h => absurd h hnf, fun _ => ⟨rfl, (hc2.2.1 hnf).2⟩, hc2.2.2⟩

set_option maxRecDepth 100000 in
set_option maxHeartbeats 4000000 in
theorem pm_both {l : Launch} {D : va_G} {cA : Nat → ClassId} {B : Int → Int} {N ke ky la : Int} (hN0 : 0 ≤ N) (hN1 : N ≤ 96) (hla : 0 ≤ la ∧ la ≤ 2922) (hky : 0 ≤ ky ∧ ky ≤ 2) {d : Nat} (hsub : HL l D cA yX10_test cX10_test 3 B N ke ky la d 2) : HL l D cA yX10_both cX10_both 2 B N ke ky la (d + 1) 1 := by
  intro p n s tg μ hp0 hp8 hn0 hn8 hd hM hop hke
  refine Ct.of (own := RX10) (by decide +kernel) rfl (fun σ => Nat.le_of_ble_eq_true rfl) (fun hM0 hP0 ha0 => ?_)
  obtain ⟨m87, r88, s88, r89, s89, r90, s90, r91, s91, r92, s92, r93, s93, r94, s94, r95, s95, r96, s96, r97, s97, r98, s98, r99, s99, r100, s100, r101, s101, r102, s102, r103, s103, r104, s104, r105, s105, r106, s106, r107, s107, r108, s108, r109, s109, r110, s110, r111, s111, r112, s112⟩ := md_f
  obtain ⟨⟨hB, hNN, hok, hfl, h27, h28, h29, h31, h30, hcd⟩, htk⟩ := id hM
  have hsk := skp_r (B := B) hok.2.1
  have loop : ∀ (m : Nat) (t : RS) (tg : Prop) (μ1 : Mem) (kf : Nat), N - rAt t ≤ (m : Nat) → N - rAt t ≤ (kf : Nat) → rdL B N ke ky (d + 1) 1 p n s = lpS B N 1 (rdL B N ke ky d 2 p n) kf t → MS B N μ1 t tg p n la → PF μ μ1 la → ke ≤ rAt t → Go l D cA none RX10 cX10_both 2 (some .boolean) (d + 1 + 4, 0, 0) (QN (Pi (PR B N μ (rdL B N ke ky (d + 1) 1 p n s) p n la))) 113 ρ0 0 0 10 [(0, vr 87), (1, vi ky)] [] μ1 := by
    intro m
    induction m with
    | zero =>
      intro t tg μ1 kf hm hkf hx hMt hPF hkt
      obtain ⟨⟨hB1, hN1e, hok1, hfl1, h27b, h28b, h29b, h31b, h30b, hcd1⟩, htt⟩ := id hMt
      have hsk1 := skp_r (B := B) hok1.2.1
      have hbN := hsk1.2
      have hr1 := hok1.1
      refine go_aload_n dX10_both_10 rfl ?_
      refine go_bipush dX10_both_11 rfl (by decide) ?_
      refine go_vI (ci := 9) dX10_both_13 (ct_X10_isSign _) ml_X10_267 mc_X10_isSign mv_X10_isSign rfl (by first | assumption | exact Nat.le_of_ble_eq_true rfl) (by first | assumption | rfl) rfl ⟨Nat.ble_eq_true_of_le (by dsimp only; omega), rfl⟩ ⟨Nat.le_refl _, Nat.le_refl _⟩ rfl rfl rfl (fun x13 μ13 hc13 => ?_)
      obtain ⟨rfl, hm13⟩ := hc13
      rw [hm13]
      first | refine go_bz (tgt := 43) dX10_both_16 rfl (fun h16 => ?_) (fun h16 => ?_) | refine go_if_eq (tgt := 43) dX10_both_16 rfl (fun h16 => ?_) (fun h16 => ?_)
      ·
        refine go_iconst dX10_both_43 rfl ?_
        refine go_ri dX10_both_44 (tyZ (by first | exact Or.inl rfl | exact Or.inr rfl | exact tv_01 | assumption)) ⟨Nat.le_refl _, Nat.le_refl _⟩ (?_)
        have hnl : lvO (bA B N (skp B N (rAt t))) ≠ 1 := fun e => by
          have hcs : bA B N (skp B N (rAt t)) = 38 := by unfold lvO at e; split at e <;> (try split at e) <;> (try split at e) <;> (try split at e) <;> (try split at e) <;> omega
          exact h16 ((tk_s (c := 38) htt hbN (by decide) (by decide) (by decide)).mpr hcs)
        cases kf with
        | zero =>
          rw [show (rdL B N ke ky (d + 1) 1 p n s) = t from hx]
          exact ⟨fun _ => ⟨rfl, tg, hMt⟩, fun h => absurd hfl1 h, hPF⟩
        | succ kf =>
          have hrx : (rdL B N ke ky (d + 1) 1 p n s) = sAt t (skp B N (rAt t)) := by rw [hx, lpS_s, if_pos hfl1, if_neg hnl]
          rw [hrx]
          exact ⟨fun _ => ⟨rfl, tg, ms_at hMt⟩, fun h => absurd hfl1 h, hPF⟩
      ·
        exact absurd (tk_3 htt hbN h16.1).1 (by omega)
    | succ m ih =>
      intro t tg μ1 kf hm hkf hx hMt hPF hkt
      obtain ⟨⟨hB1, hN1e, hok1, hfl1, h27b, h28b, h29b, h31b, h30b, hcd1⟩, htt⟩ := id hMt
      have hsk1 := skp_r (B := B) hok1.2.1
      have hbN := hsk1.2
      have hr1 := hok1.1
      refine go_aload_n dX10_both_10 rfl ?_
      refine go_bipush dX10_both_11 rfl (by decide) ?_
      refine go_vI (ci := 9) dX10_both_13 (ct_X10_isSign _) ml_X10_267 mc_X10_isSign mv_X10_isSign rfl (by first | assumption | exact Nat.le_of_ble_eq_true rfl) (by first | assumption | rfl) rfl ⟨Nat.ble_eq_true_of_le (by dsimp only; omega), rfl⟩ ⟨Nat.le_refl _, Nat.le_refl _⟩ rfl rfl rfl (fun x13 μ13 hc13 => ?_)
      obtain ⟨rfl, hm13⟩ := hc13
      rw [hm13]
      first | refine go_bz (tgt := 43) dX10_both_16 rfl (fun h16 => ?_) (fun h16 => ?_) | refine go_if_eq (tgt := 43) dX10_both_16 rfl (fun h16 => ?_) (fun h16 => ?_)
      ·
        refine go_iconst dX10_both_43 rfl ?_
        refine go_ri dX10_both_44 (tyZ (by first | exact Or.inl rfl | exact Or.inr rfl | exact tv_01 | assumption)) ⟨Nat.le_refl _, Nat.le_refl _⟩ (?_)
        have hnl : lvO (bA B N (skp B N (rAt t))) ≠ 1 := fun e => by
          have hcs : bA B N (skp B N (rAt t)) = 38 := by unfold lvO at e; split at e <;> (try split at e) <;> (try split at e) <;> (try split at e) <;> (try split at e) <;> omega
          exact h16 ((tk_s (c := 38) htt hbN (by decide) (by decide) (by decide)).mpr hcs)
        cases kf with
        | zero =>
          rw [show (rdL B N ke ky (d + 1) 1 p n s) = t from hx]
          exact ⟨fun _ => ⟨rfl, tg, hMt⟩, fun h => absurd hfl1 h, hPF⟩
        | succ kf =>
          have hrx : (rdL B N ke ky (d + 1) 1 p n s) = sAt t (skp B N (rAt t)) := by rw [hx, lpS_s, if_pos hfl1, if_neg hnl]
          rw [hrx]
          exact ⟨fun _ => ⟨rfl, tg, ms_at hMt⟩, fun h => absurd hfl1 h, hPF⟩
      ·
        have hs24 : μ1 87 24 = 3 := h16.1
        have hsg : bA B N (skp B N (rAt t)) = 38 := (tk_s (c := 38) htt hbN (by decide) (by decide) (by decide)).mp h16
        have hlv : lvO (bA B N (skp B N (rAt t))) = 1 := by rw [hsg]; decide
        have hcq := hsg
        have hlt : (skp B N (rAt t)) < N := bA_lt (B := B) (by omega)
        have hbe : μ1 87 23 = (skp B N (rAt t)) + 1 := by
          have := (tk_3 htt hbN hs24).2.2.2.2; exact this
        have hMo : MSo B N μ1 (sAt t ((skp B N (rAt t)) + 1)) p n la := ⟨hB1, hN1e, (gw_at hok1 (by omega) (by omega)).1, hfl1, h27b, h28b, h29b, h31b, h30b, hcd1⟩
        refine go_aload_n dX10_both_19 rfl ?_
        refine go_vV (ci := 9) dX10_both_20 (ct_X10_nextToken (by rw [hN1e]; exact hN0) (by rw [hN1e]; exact hN1) (by rw [hbe]; omega) (by rw [hbe, hN1e]; omega)) ml_X10_270 mc_X10_nextToken mv_X10_nextToken rfl (by first | assumption | exact Nat.le_of_ble_eq_true rfl) (by first | assumption | rfl) rfl ⟨Nat.ble_eq_true_of_le (by dsimp only; omega), rfl⟩ ⟨Nat.le_refl _, Nat.le_refl _⟩ rfl rfl rfl (fun μ20 hc20 => ?_)
        obtain ⟨htk20, hf20⟩ := hc20
        obtain ⟨hM20, hP20⟩ := ms_nt hMo (by rw [hbe]; rfl) htk20 hf20
        refine go_aload_n dX10_both_23 rfl ?_
        refine go_iload_n dX10_both_24 rfl ?_
        refine go_vI (ci := 9) dX10_both_25 (hsub p n (sAt t ((skp B N (rAt t)) + 1)) _ μ20 hp0 hp8 hn0 hn8 (by omega) hM20 ⟨fun h => absurd h.1.2 (by omega), fun h => absurd h (by have := (skp_r (B := B) (p := (skp B N (rAt t)) + 1) (show (skp B N (rAt t)) + 1 ≤ N by omega)).1; show ¬ (skp B N ((skp B N (rAt t)) + 1) = ke); omega)⟩ (by show ke ≤ (skp B N (rAt t)) + 1; omega)) ml_X10_277 mc_X10_test mv_X10_test rfl (by first | assumption | exact Nat.le_of_ble_eq_true rfl) (by first | assumption | rfl) rfl ⟨Nat.ble_eq_true_of_le (by dsimp only; omega), rfl⟩ ⟨Nat.le_refl _, Nat.le_refl _⟩ rfl rfl rfl (fun x25 μ25 hc25 => ?_)
        first | refine go_bnz (tgt := 33) dX10_both_28 rfl (fun h28 => ?_) (fun h28 => ?_) | refine go_if_ne (tgt := 33) dX10_both_28 rfl (fun h28 => ?_) (fun h28 => ?_)
        ·
          have hnf : rFl (rdL B N ke ky d 2 p n (sAt t ((skp B N (rAt t)) + 1))) = -1000000005 := Decidable.byContradiction (fun h => h28 (hc25.2.1 h).1)
          obtain ⟨_, tg2, hMs⟩ := hc25.1 hnf
          obtain ⟨⟨hBc, hNc, hokc, _, h27c, h28c, h29c, h31c, h30c, hcdc⟩, htkc⟩ := id hMs
          have hl0 := hokc.2.2.1
          have hg3 := gw_rd (B := B) (N := N) (ke := ke) (ky := ky) d 2 p n (sAt t ((skp B N (rAt t)) + 1)) (by decide) (gw_at hok1 (by omega) (by omega)).1
          have hln : rLn (rdL B N ke ky d 2 p n (sAt t ((skp B N (rAt t)) + 1))) < 96 := by
            obtain ⟨⟨g1, g2, g3, g4, g5, g6⟩, e2, e3, e4⟩ := hg3
            simp only [rAt_sAt, rLn_sAt] at e2 e3 e4
            have := hok1.2.2.2.1
            omega
          refine go_aload_n dX10_both_33 rfl ?_
          refine go_iconst dX10_both_34 rfl ?_
          refine go_bipush dX10_both_35 rfl (by decide) ?_
          refine go_vV (ci := 9) dX10_both_37 (ct_X10_step _ _ ⟨by rw [h30c]; omega, by rw [h30c]; omega⟩ ⟨by rw [h29c]; omega, by rw [h29c]; omega⟩) ml_X10_273 mc_X10_step mv_X10_step rfl (by first | assumption | exact Nat.le_of_ble_eq_true rfl) (by first | assumption | rfl) rfl ⟨Nat.ble_eq_true_of_le (by dsimp only; omega), rfl⟩ ⟨Nat.le_refl _, Nat.le_refl _⟩ rfl rfl rfl (fun μ37 hc37 => ?_)
          rw [h30c, h29c] at hc37
          subst hc37
          refine go_goto (tgt := 10) dX10_both_40 rfl ?_
          have hgs := gw_s1 (c := -(bA B N (skp B N (rAt t)))) hok1 hsk1.1 hlt hg3
          have hMn : MS B N (ud (ud (ud μ25 88 (la + 2 * rLn (rdL B N ke ky d 2 p n (sAt t ((skp B N (rAt t)) + 1)))) 2) 88 (la + 2 * rLn (rdL B N ke ky d 2 p n (sAt t ((skp B N (rAt t)) + 1))) + 1) (38)) 87 29 (rLn (rdL B N ke ky d 2 p n (sAt t ((skp B N (rAt t)) + 1))) + 1)) (adC (rdL B N ke ky d 2 p n (sAt t ((skp B N (rAt t)) + 1))) (-(bA B N (skp B N (rAt t))))) tg2 p n la := by
            refine ⟨⟨hBc, ?_, hgs.1, hnf, ?_, ?_, ?_, ?_, ?_, ?_⟩, ?_⟩
            · simp (disch := omega) only [ua_same, ua_ne, uf_same, uf_ne]; exact hNc
            · simp (disch := omega) only [ua_same, ua_ne, uf_same, uf_ne]; exact h27c
            · simp (disch := omega) only [ua_same, ua_ne, uf_same, uf_ne]; exact h28c
            · simp (disch := omega) only [ua_same, ua_ne, uf_same, uf_ne]; rfl
            · simp (disch := omega) only [ua_same, ua_ne, uf_same, uf_ne]; exact h31c
            · simp (disch := omega) only [ua_same, ua_ne, uf_same, uf_ne]; exact h30c
            · have e88 : (ud (ud (ud μ25 88 (la + 2 * rLn (rdL B N ke ky d 2 p n (sAt t ((skp B N (rAt t)) + 1)))) 2) 88 (la + 2 * rLn (rdL B N ke ky d 2 p n (sAt t ((skp B N (rAt t)) + 1))) + 1) (38)) 87 29 (rLn (rdL B N ke ky d 2 p n (sAt t ((skp B N (rAt t)) + 1))) + 1)) 88 = uf (uf (μ25 88) (la + 2 * rLn (rdL B N ke ky d 2 p n (sAt t ((skp B N (rAt t)) + 1)))) 2) (la + 2 * rLn (rdL B N ke ky d 2 p n (sAt t ((skp B N (rAt t)) + 1))) + 1) (38) := by simp (disch := omega) only [ua_same, ua_ne, uf_same, uf_ne]
              rw [e88]; exact cd_ad hcdc hokc.2.2.1 (by rw [hsg]; rfl) (Or.inr (Or.inr ⟨rfl, by unfold sgN; omega⟩))
            · show tokR B N tg2 (skp B N (rAt (rdL B N ke ky d 2 p n (sAt t ((skp B N (rAt t)) + 1))))) ((ud (ud (ud μ25 88 (la + 2 * rLn (rdL B N ke ky d 2 p n (sAt t ((skp B N (rAt t)) + 1)))) 2) 88 (la + 2 * rLn (rdL B N ke ky d 2 p n (sAt t ((skp B N (rAt t)) + 1))) + 1) (38)) 87 29 (rLn (rdL B N ke ky d 2 p n (sAt t ((skp B N (rAt t)) + 1))) + 1)) 87)
              exact tok_29 htkc
          have hPn : PF μ (ud (ud (ud μ25 88 (la + 2 * rLn (rdL B N ke ky d 2 p n (sAt t ((skp B N (rAt t)) + 1)))) 2) 88 (la + 2 * rLn (rdL B N ke ky d 2 p n (sAt t ((skp B N (rAt t)) + 1))) + 1) (38)) 87 29 (rLn (rdL B N ke ky d 2 p n (sAt t ((skp B N (rAt t)) + 1))) + 1)) la := hPF.tr (hP20.tr (hc25.2.2.tr (pf_st (by omega) (by omega))))
          exact go_drop (ih (adC (rdL B N ke ky d 2 p n (sAt t ((skp B N (rAt t)) + 1))) (-(bA B N (skp B N (rAt t))))) tg2 _ (kf - 1) (by have := hgs.2.1; have e9 : rAt (adC (rdL B N ke ky d 2 p n (sAt t ((skp B N (rAt t)) + 1))) (-(bA B N (skp B N (rAt t))))) = rAt (rdL B N ke ky d 2 p n (sAt t ((skp B N (rAt t)) + 1))) := rfl; have e8 := hg3.2.1; simp only [rAt_sAt] at e8; omega) (by have e9 : rAt (adC (rdL B N ke ky d 2 p n (sAt t ((skp B N (rAt t)) + 1))) (-(bA B N (skp B N (rAt t))))) = rAt (rdL B N ke ky d 2 p n (sAt t ((skp B N (rAt t)) + 1))) := rfl; have e8 := hg3.2.1; simp only [rAt_sAt] at e8; omega) (by rw [hx, show kf = (kf - 1) + 1 by omega, lpS_s, if_pos hfl1, if_pos hlv]; rfl) hMn hPn (by have e9 : rAt (adC (rdL B N ke ky d 2 p n (sAt t ((skp B N (rAt t)) + 1))) (-(bA B N (skp B N (rAt t))))) = rAt (rdL B N ke ky d 2 p n (sAt t ((skp B N (rAt t)) + 1))) := rfl; have e8 := hg3.2.1; simp only [rAt_sAt] at e8; omega)) rfl
        ·
          refine go_iconst dX10_both_31 rfl ?_
          refine go_ri dX10_both_32 (tyZ (by first | exact Or.inl rfl | exact Or.inr rfl | exact tv_01 | assumption)) ⟨Nat.le_refl _, Nat.le_refl _⟩ (?_)
          have hnf : rFl (rdL B N ke ky d 2 p n (sAt t ((skp B N (rAt t)) + 1))) ≠ -1000000005 := fun h => by have := (hc25.1 h).1; omega
          have hrx : (rdL B N ke ky (d + 1) 1 p n s) = adC (rdL B N ke ky d 2 p n (sAt t ((skp B N (rAt t)) + 1))) (-(bA B N (skp B N (rAt t)))) := by rw [hx, show kf = (kf - 1) + 1 by omega, lpS_s, if_pos hfl1, if_pos hlv, lp_f (by exact hnf)]
          rw [hrx]
          exact ⟨fun h => absurd h hnf, fun _ => ⟨rfl, (hc25.2.1 hnf).2⟩, hPF.tr (hP20.tr hc25.2.2)⟩
  refine go_aload_n dX10_both_0 rfl ?_
  refine go_iload_n dX10_both_1 rfl ?_
  refine go_vI (ci := 9) dX10_both_2 (hsub p n s tg μ hp0 hp8 hn0 hn8 (by omega) hM hop hke) ml_X10_277 mc_X10_test mv_X10_test rfl (by first | assumption | exact Nat.le_of_ble_eq_true rfl) (by first | assumption | rfl) rfl ⟨Nat.ble_eq_true_of_le (by dsimp only; omega), rfl⟩ ⟨Nat.le_refl _, Nat.le_refl _⟩ rfl rfl rfl (fun x2 μ2 hc2 => ?_)
  first | refine go_bnz (tgt := 10) dX10_both_5 rfl (fun h5 => ?_) (fun h5 => ?_) | refine go_if_ne (tgt := 10) dX10_both_5 rfl (fun h5 => ?_) (fun h5 => ?_)
  ·
    have hnf : rFl (rdL B N ke ky d 2 p n s) = -1000000005 := Decidable.byContradiction (fun h => h5 (hc2.2.1 h).1)
    obtain ⟨_, tg2, hMs⟩ := hc2.1 hnf
    exact go_drop (loop (N - rAt (rdL B N ke ky d 2 p n s)).toNat _ _ μ2 96 (by omega) (by have := hok.1; have := (gw_rd (B := B) (N := N) (ke := ke) (ky := ky) d 2 p n s (by decide) hok).2.1; omega) (by rw [rdL_l (by decide)]; rfl) hMs hc2.2.2 (by have := (gw_rd (B := B) (N := N) (ke := ke) (ky := ky) d 2 p n s (by decide) hok).2.1; omega)) rfl
  ·
    refine go_iconst dX10_both_8 rfl ?_
    refine go_ri dX10_both_9 (tyZ (by first | exact Or.inl rfl | exact Or.inr rfl | exact tv_01 | assumption)) ⟨Nat.le_refl _, Nat.le_refl _⟩ (?_)
    have hnf : rFl (rdL B N ke ky d 2 p n s) ≠ -1000000005 := fun h => by have := (hc2.1 h).1; omega
    have hrx : (rdL B N ke ky (d + 1) 1 p n s) = (rdL B N ke ky d 2 p n s) := by rw [rdL_l (by decide)]; exact lp_f hnf
    rw [hrx]
    exact ⟨fun h => absurd h hnf, fun _ => ⟨rfl, (hc2.2.1 hnf).2⟩, hc2.2.2⟩

set_option maxRecDepth 100000 in
set_option maxHeartbeats 4000000 in
theorem pm_test {l : Launch} {D : va_G} {cA : Nat → ClassId} {B : Int → Int} {N ke ky la : Int} (hN0 : 0 ≤ N) (hN1 : N ≤ 96) (hla : 0 ≤ la ∧ la ≤ 2922) (hky : 0 ≤ ky ∧ ky ≤ 2) {d : Nat} (hsub : HL l D cA yX10_sum cX10_sum 3 B N ke ky la d 3) : HL l D cA yX10_test cX10_test 3 B N ke ky la (d + 1) 2 := by
  intro p n s tg μ hp0 hp8 hn0 hn8 hd hM hop hke
  refine Ct.of (own := RX10) (by decide +kernel) rfl (fun σ => Nat.le_of_ble_eq_true rfl) (fun hM0 hP0 ha0 => ?_)
  obtain ⟨m87, r88, s88, r89, s89, r90, s90, r91, s91, r92, s92, r93, s93, r94, s94, r95, s95, r96, s96, r97, s97, r98, s98, r99, s99, r100, s100, r101, s101, r102, s102, r103, s103, r104, s104, r105, s105, r106, s106, r107, s107, r108, s108, r109, s109, r110, s110, r111, s111, r112, s112⟩ := md_f
  obtain ⟨⟨hB, hNN, hok, hfl, h27, h28, h29, h31, h30, hcd⟩, htk⟩ := id hM
  have hsk := skp_r (B := B) hok.2.1
  have once : ∀ (t : RS) (tg : Prop) (μ1 : Mem) (kf : Nat), kf = 1 → rdL B N ke ky (d + 1) 2 p n s = lpS B N 2 (rdL B N ke ky d 3 p n) kf t → MS B N μ1 t tg p n la → PF μ μ1 la → ke ≤ rAt t → Go l D cA none RX10 cX10_test 3 (some .boolean) (d + 1 + 4, 0, 0) (QN (Pi (PR B N μ (rdL B N ke ky (d + 1) 2 p n s) p n la))) 113 ρ0 0 0 10 [(0, vr 87), (1, vi ky)] [] μ1 := by
    intro t tg μ1 kf hk1 hx hMt hPF hkt
    obtain ⟨⟨hB1, hN1e, hok1, hfl1, h27b, h28b, h29b, h31b, h30b, hcd1⟩, htt⟩ := id hMt
    have hsk1 := skp_r (B := B) hok1.2.1
    have hbN := hsk1.2
    have hr1 := hok1.1
    refine go_aload_n dX10_test_10 rfl ?_
    refine go_bipush dX10_test_11 rfl (by decide) ?_
    refine go_vI (ci := 9) dX10_test_13 (ct_X10_isSign _) ml_X10_267 mc_X10_isSign mv_X10_isSign rfl (by first | assumption | exact Nat.le_of_ble_eq_true rfl) (by first | assumption | rfl) rfl ⟨Nat.ble_eq_true_of_le (by dsimp only; omega), rfl⟩ ⟨Nat.le_refl _, Nat.le_refl _⟩ rfl rfl rfl (fun x13 μ13 hc13 => ?_)
    obtain ⟨rfl, hm13⟩ := hc13
    rw [hm13]
    first | refine go_bnz (tgt := 37) dX10_test_16 rfl (fun h16 => ?_) (fun h16 => ?_) | refine go_if_ne (tgt := 37) dX10_test_16 rfl (fun h16 => ?_) (fun h16 => ?_)
    ·
      have hs24 : μ1 87 24 = 3 := h16.1
      have hsg : bA B N (skp B N (rAt t)) = 60 := (tk_s (c := 60) htt hbN (by decide) (by decide) (by decide)).mp h16
      have hlv : lvO (bA B N (skp B N (rAt t))) = 2 := by rw [hsg]; decide
      have hcq := hsg
      have hlt : (skp B N (rAt t)) < N := bA_lt (B := B) (by omega)
      have hbe : μ1 87 23 = (skp B N (rAt t)) + 1 := by
        have := (tk_3 htt hbN hs24).2.2.2.2; exact this
      have hMo : MSo B N μ1 (sAt t ((skp B N (rAt t)) + 1)) p n la := ⟨hB1, hN1e, (gw_at hok1 (by omega) (by omega)).1, hfl1, h27b, h28b, h29b, h31b, h30b, hcd1⟩
      refine go_aload_n dX10_test_37 rfl ?_
      refine go_getI 26 dX10_test_38 fl_X10_245 (by first | assumption | exact Nat.le_of_ble_eq_true rfl) (by first | assumption | rfl) rfl rfl ?_
      try simp (disch := omega) only [ua_same, ua_ne, uf_same, uf_ne]
      rw [show μ1 87 26 = 60 from h16.2]
      refine go_istore_n dX10_test_41 rfl ?_
      refine go_aload_n dX10_test_42 rfl ?_
      refine go_vV (ci := 9) dX10_test_43 (ct_X10_nextToken (by rw [hN1e]; exact hN0) (by rw [hN1e]; exact hN1) (by rw [hbe]; omega) (by rw [hbe, hN1e]; omega)) ml_X10_270 mc_X10_nextToken mv_X10_nextToken rfl (by first | assumption | exact Nat.le_of_ble_eq_true rfl) (by first | assumption | rfl) rfl ⟨Nat.ble_eq_true_of_le (by dsimp only; omega), rfl⟩ ⟨Nat.le_refl _, Nat.le_refl _⟩ rfl rfl rfl (fun μ43 hc43 => ?_)
      obtain ⟨htk43, hf43⟩ := hc43
      obtain ⟨hM43, hP43⟩ := ms_nt hMo (by rw [hbe]; rfl) htk43 hf43
      refine go_aload_n dX10_test_46 rfl ?_
      refine go_iload_n dX10_test_47 rfl ?_
      refine go_vI (ci := 9) dX10_test_48 (hsub p n (sAt t ((skp B N (rAt t)) + 1)) _ μ43 hp0 hp8 hn0 hn8 (by omega) hM43 ⟨fun h => absurd h.1.2 (by omega), fun h => absurd h (by have := (skp_r (B := B) (p := (skp B N (rAt t)) + 1) (show (skp B N (rAt t)) + 1 ≤ N by omega)).1; show ¬ (skp B N ((skp B N (rAt t)) + 1) = ke); omega)⟩ (by show ke ≤ (skp B N (rAt t)) + 1; omega)) ml_X10_280 mc_X10_sum mv_X10_sum rfl (by first | assumption | exact Nat.le_of_ble_eq_true rfl) (by first | assumption | rfl) rfl ⟨Nat.ble_eq_true_of_le (by dsimp only; omega), rfl⟩ ⟨Nat.le_refl _, Nat.le_refl _⟩ rfl rfl rfl (fun x48 μ48 hc48 => ?_)
      first | refine go_bnz (tgt := 56) dX10_test_51 rfl (fun h51 => ?_) (fun h51 => ?_) | refine go_if_ne (tgt := 56) dX10_test_51 rfl (fun h51 => ?_) (fun h51 => ?_)
      ·
        have hnf : rFl (rdL B N ke ky d 3 p n (sAt t ((skp B N (rAt t)) + 1))) = -1000000005 := Decidable.byContradiction (fun h => h51 (hc48.2.1 h).1)
        obtain ⟨_, tg2, hMs⟩ := hc48.1 hnf
        obtain ⟨⟨hBc, hNc, hokc, _, h27c, h28c, h29c, h31c, h30c, hcdc⟩, htkc⟩ := id hMs
        have hl0 := hokc.2.2.1
        have hg3 := gw_rd (B := B) (N := N) (ke := ke) (ky := ky) d 3 p n (sAt t ((skp B N (rAt t)) + 1)) (by decide) (gw_at hok1 (by omega) (by omega)).1
        have hln : rLn (rdL B N ke ky d 3 p n (sAt t ((skp B N (rAt t)) + 1))) < 96 := by
          obtain ⟨⟨g1, g2, g3, g4, g5, g6⟩, e2, e3, e4⟩ := hg3
          simp only [rAt_sAt, rLn_sAt] at e2 e3 e4
          have := hok1.2.2.2.1
          omega
        refine go_aload_n dX10_test_56 rfl ?_
        refine go_iconst dX10_test_57 rfl ?_
        refine go_iload_n dX10_test_58 rfl ?_
        refine go_vV (ci := 9) dX10_test_59 (ct_X10_step _ _ ⟨by rw [h30c]; omega, by rw [h30c]; omega⟩ ⟨by rw [h29c]; omega, by rw [h29c]; omega⟩) ml_X10_273 mc_X10_step mv_X10_step rfl (by first | assumption | exact Nat.le_of_ble_eq_true rfl) (by first | assumption | rfl) rfl ⟨Nat.ble_eq_true_of_le (by dsimp only; omega), rfl⟩ ⟨Nat.le_refl _, Nat.le_refl _⟩ rfl rfl rfl (fun μ59 hc59 => ?_)
        rw [h30c, h29c] at hc59
        subst hc59
        refine go_iconst dX10_test_62 rfl ?_
        refine go_ri dX10_test_63 (tyZ (by first | exact Or.inl rfl | exact Or.inr rfl | exact tv_01 | assumption)) ⟨Nat.le_refl _, Nat.le_refl _⟩ (?_)
        have hgs := gw_s1 (c := -(bA B N (skp B N (rAt t)))) hok1 hsk1.1 hlt hg3
        have hMn : MS B N (ud (ud (ud μ48 88 (la + 2 * rLn (rdL B N ke ky d 3 p n (sAt t ((skp B N (rAt t)) + 1)))) 2) 88 (la + 2 * rLn (rdL B N ke ky d 3 p n (sAt t ((skp B N (rAt t)) + 1))) + 1) (60)) 87 29 (rLn (rdL B N ke ky d 3 p n (sAt t ((skp B N (rAt t)) + 1))) + 1)) (adC (rdL B N ke ky d 3 p n (sAt t ((skp B N (rAt t)) + 1))) (-(bA B N (skp B N (rAt t))))) tg2 p n la := by
          refine ⟨⟨hBc, ?_, hgs.1, hnf, ?_, ?_, ?_, ?_, ?_, ?_⟩, ?_⟩
          · simp (disch := omega) only [ua_same, ua_ne, uf_same, uf_ne]; exact hNc
          · simp (disch := omega) only [ua_same, ua_ne, uf_same, uf_ne]; exact h27c
          · simp (disch := omega) only [ua_same, ua_ne, uf_same, uf_ne]; exact h28c
          · simp (disch := omega) only [ua_same, ua_ne, uf_same, uf_ne]; rfl
          · simp (disch := omega) only [ua_same, ua_ne, uf_same, uf_ne]; exact h31c
          · simp (disch := omega) only [ua_same, ua_ne, uf_same, uf_ne]; exact h30c
          · have e88 : (ud (ud (ud μ48 88 (la + 2 * rLn (rdL B N ke ky d 3 p n (sAt t ((skp B N (rAt t)) + 1)))) 2) 88 (la + 2 * rLn (rdL B N ke ky d 3 p n (sAt t ((skp B N (rAt t)) + 1))) + 1) (60)) 87 29 (rLn (rdL B N ke ky d 3 p n (sAt t ((skp B N (rAt t)) + 1))) + 1)) 88 = uf (uf (μ48 88) (la + 2 * rLn (rdL B N ke ky d 3 p n (sAt t ((skp B N (rAt t)) + 1)))) 2) (la + 2 * rLn (rdL B N ke ky d 3 p n (sAt t ((skp B N (rAt t)) + 1))) + 1) (60) := by simp (disch := omega) only [ua_same, ua_ne, uf_same, uf_ne]
            rw [e88]; exact cd_ad hcdc hokc.2.2.1 (by rw [hsg]; rfl) (Or.inr (Or.inr ⟨rfl, by unfold sgN; omega⟩))
          · show tokR B N tg2 (skp B N (rAt (rdL B N ke ky d 3 p n (sAt t ((skp B N (rAt t)) + 1))))) ((ud (ud (ud μ48 88 (la + 2 * rLn (rdL B N ke ky d 3 p n (sAt t ((skp B N (rAt t)) + 1)))) 2) 88 (la + 2 * rLn (rdL B N ke ky d 3 p n (sAt t ((skp B N (rAt t)) + 1))) + 1) (60)) 87 29 (rLn (rdL B N ke ky d 3 p n (sAt t ((skp B N (rAt t)) + 1))) + 1)) 87)
            exact tok_29 htkc
        have hPn : PF μ (ud (ud (ud μ48 88 (la + 2 * rLn (rdL B N ke ky d 3 p n (sAt t ((skp B N (rAt t)) + 1)))) 2) 88 (la + 2 * rLn (rdL B N ke ky d 3 p n (sAt t ((skp B N (rAt t)) + 1))) + 1) (60)) 87 29 (rLn (rdL B N ke ky d 3 p n (sAt t ((skp B N (rAt t)) + 1))) + 1)) la := hPF.tr (hP43.tr (hc48.2.2.tr (pf_st (by omega) (by omega))))
        have hrx : (rdL B N ke ky (d + 1) 2 p n s) = (adC (rdL B N ke ky d 3 p n (sAt t ((skp B N (rAt t)) + 1))) (-(bA B N (skp B N (rAt t))))) := by rw [hx, show kf = 0 + 1 from hk1, lpS_s, if_pos hfl1, if_pos hlv]; rfl
        rw [hrx]
        exact ⟨fun _ => ⟨rfl, tg2, hMn⟩, fun h => absurd hnf h, hPn⟩
      ·
        refine go_iconst dX10_test_54 rfl ?_
        refine go_ri dX10_test_55 (tyZ (by first | exact Or.inl rfl | exact Or.inr rfl | exact tv_01 | assumption)) ⟨Nat.le_refl _, Nat.le_refl _⟩ (?_)
        have hnf : rFl (rdL B N ke ky d 3 p n (sAt t ((skp B N (rAt t)) + 1))) ≠ -1000000005 := fun h => by have := (hc48.1 h).1; omega
        have hrx : (rdL B N ke ky (d + 1) 2 p n s) = adC (rdL B N ke ky d 3 p n (sAt t ((skp B N (rAt t)) + 1))) (-(bA B N (skp B N (rAt t)))) := by rw [hx, show kf = (kf - 1) + 1 by omega, lpS_s, if_pos hfl1, if_pos hlv, lp_f (by exact hnf)]
        rw [hrx]
        exact ⟨fun h => absurd h hnf, fun _ => ⟨rfl, (hc48.2.1 hnf).2⟩, hPF.tr (hP43.tr hc48.2.2)⟩
    ·
      refine go_aload_n dX10_test_19 rfl ?_
      refine go_bipush dX10_test_20 rfl (by decide) ?_
      refine go_vI (ci := 9) dX10_test_22 (ct_X10_isSign _) ml_X10_267 mc_X10_isSign mv_X10_isSign rfl (by first | assumption | exact Nat.le_of_ble_eq_true rfl) (by first | assumption | rfl) rfl ⟨Nat.ble_eq_true_of_le (by dsimp only; omega), rfl⟩ ⟨Nat.le_refl _, Nat.le_refl _⟩ rfl rfl rfl (fun x22 μ22 hc22 => ?_)
      obtain ⟨rfl, hm22⟩ := hc22
      rw [hm22]
      first | refine go_bnz (tgt := 37) dX10_test_25 rfl (fun h25 => ?_) (fun h25 => ?_) | refine go_if_ne (tgt := 37) dX10_test_25 rfl (fun h25 => ?_) (fun h25 => ?_)
      ·
        have hs24 : μ1 87 24 = 3 := h25.1
        have hsg : bA B N (skp B N (rAt t)) = 61 := (tk_s (c := 61) htt hbN (by decide) (by decide) (by decide)).mp h25
        have hlv : lvO (bA B N (skp B N (rAt t))) = 2 := by rw [hsg]; decide
        have hcq := hsg
        have hlt : (skp B N (rAt t)) < N := bA_lt (B := B) (by omega)
        have hbe : μ1 87 23 = (skp B N (rAt t)) + 1 := by
          have := (tk_3 htt hbN hs24).2.2.2.2; exact this
        have hMo : MSo B N μ1 (sAt t ((skp B N (rAt t)) + 1)) p n la := ⟨hB1, hN1e, (gw_at hok1 (by omega) (by omega)).1, hfl1, h27b, h28b, h29b, h31b, h30b, hcd1⟩
        refine go_aload_n dX10_test_37 rfl ?_
        refine go_getI 26 dX10_test_38 fl_X10_245 (by first | assumption | exact Nat.le_of_ble_eq_true rfl) (by first | assumption | rfl) rfl rfl ?_
        try simp (disch := omega) only [ua_same, ua_ne, uf_same, uf_ne]
        rw [show μ1 87 26 = 61 from h25.2]
        refine go_istore_n dX10_test_41 rfl ?_
        refine go_aload_n dX10_test_42 rfl ?_
        refine go_vV (ci := 9) dX10_test_43 (ct_X10_nextToken (by rw [hN1e]; exact hN0) (by rw [hN1e]; exact hN1) (by rw [hbe]; omega) (by rw [hbe, hN1e]; omega)) ml_X10_270 mc_X10_nextToken mv_X10_nextToken rfl (by first | assumption | exact Nat.le_of_ble_eq_true rfl) (by first | assumption | rfl) rfl ⟨Nat.ble_eq_true_of_le (by dsimp only; omega), rfl⟩ ⟨Nat.le_refl _, Nat.le_refl _⟩ rfl rfl rfl (fun μ43 hc43 => ?_)
        obtain ⟨htk43, hf43⟩ := hc43
        obtain ⟨hM43, hP43⟩ := ms_nt hMo (by rw [hbe]; rfl) htk43 hf43
        refine go_aload_n dX10_test_46 rfl ?_
        refine go_iload_n dX10_test_47 rfl ?_
        refine go_vI (ci := 9) dX10_test_48 (hsub p n (sAt t ((skp B N (rAt t)) + 1)) _ μ43 hp0 hp8 hn0 hn8 (by omega) hM43 ⟨fun h => absurd h.1.2 (by omega), fun h => absurd h (by have := (skp_r (B := B) (p := (skp B N (rAt t)) + 1) (show (skp B N (rAt t)) + 1 ≤ N by omega)).1; show ¬ (skp B N ((skp B N (rAt t)) + 1) = ke); omega)⟩ (by show ke ≤ (skp B N (rAt t)) + 1; omega)) ml_X10_280 mc_X10_sum mv_X10_sum rfl (by first | assumption | exact Nat.le_of_ble_eq_true rfl) (by first | assumption | rfl) rfl ⟨Nat.ble_eq_true_of_le (by dsimp only; omega), rfl⟩ ⟨Nat.le_refl _, Nat.le_refl _⟩ rfl rfl rfl (fun x48 μ48 hc48 => ?_)
        first | refine go_bnz (tgt := 56) dX10_test_51 rfl (fun h51 => ?_) (fun h51 => ?_) | refine go_if_ne (tgt := 56) dX10_test_51 rfl (fun h51 => ?_) (fun h51 => ?_)
        ·
          have hnf : rFl (rdL B N ke ky d 3 p n (sAt t ((skp B N (rAt t)) + 1))) = -1000000005 := Decidable.byContradiction (fun h => h51 (hc48.2.1 h).1)
          obtain ⟨_, tg2, hMs⟩ := hc48.1 hnf
          obtain ⟨⟨hBc, hNc, hokc, _, h27c, h28c, h29c, h31c, h30c, hcdc⟩, htkc⟩ := id hMs
          have hl0 := hokc.2.2.1
          have hg3 := gw_rd (B := B) (N := N) (ke := ke) (ky := ky) d 3 p n (sAt t ((skp B N (rAt t)) + 1)) (by decide) (gw_at hok1 (by omega) (by omega)).1
          have hln : rLn (rdL B N ke ky d 3 p n (sAt t ((skp B N (rAt t)) + 1))) < 96 := by
            obtain ⟨⟨g1, g2, g3, g4, g5, g6⟩, e2, e3, e4⟩ := hg3
            simp only [rAt_sAt, rLn_sAt] at e2 e3 e4
            have := hok1.2.2.2.1
            omega
          refine go_aload_n dX10_test_56 rfl ?_
          refine go_iconst dX10_test_57 rfl ?_
          refine go_iload_n dX10_test_58 rfl ?_
          refine go_vV (ci := 9) dX10_test_59 (ct_X10_step _ _ ⟨by rw [h30c]; omega, by rw [h30c]; omega⟩ ⟨by rw [h29c]; omega, by rw [h29c]; omega⟩) ml_X10_273 mc_X10_step mv_X10_step rfl (by first | assumption | exact Nat.le_of_ble_eq_true rfl) (by first | assumption | rfl) rfl ⟨Nat.ble_eq_true_of_le (by dsimp only; omega), rfl⟩ ⟨Nat.le_refl _, Nat.le_refl _⟩ rfl rfl rfl (fun μ59 hc59 => ?_)
          rw [h30c, h29c] at hc59
          subst hc59
          refine go_iconst dX10_test_62 rfl ?_
          refine go_ri dX10_test_63 (tyZ (by first | exact Or.inl rfl | exact Or.inr rfl | exact tv_01 | assumption)) ⟨Nat.le_refl _, Nat.le_refl _⟩ (?_)
          have hgs := gw_s1 (c := -(bA B N (skp B N (rAt t)))) hok1 hsk1.1 hlt hg3
          have hMn : MS B N (ud (ud (ud μ48 88 (la + 2 * rLn (rdL B N ke ky d 3 p n (sAt t ((skp B N (rAt t)) + 1)))) 2) 88 (la + 2 * rLn (rdL B N ke ky d 3 p n (sAt t ((skp B N (rAt t)) + 1))) + 1) (61)) 87 29 (rLn (rdL B N ke ky d 3 p n (sAt t ((skp B N (rAt t)) + 1))) + 1)) (adC (rdL B N ke ky d 3 p n (sAt t ((skp B N (rAt t)) + 1))) (-(bA B N (skp B N (rAt t))))) tg2 p n la := by
            refine ⟨⟨hBc, ?_, hgs.1, hnf, ?_, ?_, ?_, ?_, ?_, ?_⟩, ?_⟩
            · simp (disch := omega) only [ua_same, ua_ne, uf_same, uf_ne]; exact hNc
            · simp (disch := omega) only [ua_same, ua_ne, uf_same, uf_ne]; exact h27c
            · simp (disch := omega) only [ua_same, ua_ne, uf_same, uf_ne]; exact h28c
            · simp (disch := omega) only [ua_same, ua_ne, uf_same, uf_ne]; rfl
            · simp (disch := omega) only [ua_same, ua_ne, uf_same, uf_ne]; exact h31c
            · simp (disch := omega) only [ua_same, ua_ne, uf_same, uf_ne]; exact h30c
            · have e88 : (ud (ud (ud μ48 88 (la + 2 * rLn (rdL B N ke ky d 3 p n (sAt t ((skp B N (rAt t)) + 1)))) 2) 88 (la + 2 * rLn (rdL B N ke ky d 3 p n (sAt t ((skp B N (rAt t)) + 1))) + 1) (61)) 87 29 (rLn (rdL B N ke ky d 3 p n (sAt t ((skp B N (rAt t)) + 1))) + 1)) 88 = uf (uf (μ48 88) (la + 2 * rLn (rdL B N ke ky d 3 p n (sAt t ((skp B N (rAt t)) + 1)))) 2) (la + 2 * rLn (rdL B N ke ky d 3 p n (sAt t ((skp B N (rAt t)) + 1))) + 1) (61) := by simp (disch := omega) only [ua_same, ua_ne, uf_same, uf_ne]
              rw [e88]; exact cd_ad hcdc hokc.2.2.1 (by rw [hsg]; rfl) (Or.inr (Or.inr ⟨rfl, by unfold sgN; omega⟩))
            · show tokR B N tg2 (skp B N (rAt (rdL B N ke ky d 3 p n (sAt t ((skp B N (rAt t)) + 1))))) ((ud (ud (ud μ48 88 (la + 2 * rLn (rdL B N ke ky d 3 p n (sAt t ((skp B N (rAt t)) + 1)))) 2) 88 (la + 2 * rLn (rdL B N ke ky d 3 p n (sAt t ((skp B N (rAt t)) + 1))) + 1) (61)) 87 29 (rLn (rdL B N ke ky d 3 p n (sAt t ((skp B N (rAt t)) + 1))) + 1)) 87)
              exact tok_29 htkc
          have hPn : PF μ (ud (ud (ud μ48 88 (la + 2 * rLn (rdL B N ke ky d 3 p n (sAt t ((skp B N (rAt t)) + 1)))) 2) 88 (la + 2 * rLn (rdL B N ke ky d 3 p n (sAt t ((skp B N (rAt t)) + 1))) + 1) (61)) 87 29 (rLn (rdL B N ke ky d 3 p n (sAt t ((skp B N (rAt t)) + 1))) + 1)) la := hPF.tr (hP43.tr (hc48.2.2.tr (pf_st (by omega) (by omega))))
          have hrx : (rdL B N ke ky (d + 1) 2 p n s) = (adC (rdL B N ke ky d 3 p n (sAt t ((skp B N (rAt t)) + 1))) (-(bA B N (skp B N (rAt t))))) := by rw [hx, show kf = 0 + 1 from hk1, lpS_s, if_pos hfl1, if_pos hlv]; rfl
          rw [hrx]
          exact ⟨fun _ => ⟨rfl, tg2, hMn⟩, fun h => absurd hnf h, hPn⟩
        ·
          refine go_iconst dX10_test_54 rfl ?_
          refine go_ri dX10_test_55 (tyZ (by first | exact Or.inl rfl | exact Or.inr rfl | exact tv_01 | assumption)) ⟨Nat.le_refl _, Nat.le_refl _⟩ (?_)
          have hnf : rFl (rdL B N ke ky d 3 p n (sAt t ((skp B N (rAt t)) + 1))) ≠ -1000000005 := fun h => by have := (hc48.1 h).1; omega
          have hrx : (rdL B N ke ky (d + 1) 2 p n s) = adC (rdL B N ke ky d 3 p n (sAt t ((skp B N (rAt t)) + 1))) (-(bA B N (skp B N (rAt t)))) := by rw [hx, show kf = (kf - 1) + 1 by omega, lpS_s, if_pos hfl1, if_pos hlv, lp_f (by exact hnf)]
          rw [hrx]
          exact ⟨fun h => absurd h hnf, fun _ => ⟨rfl, (hc48.2.1 hnf).2⟩, hPF.tr (hP43.tr hc48.2.2)⟩
      ·
        refine go_aload_n dX10_test_28 rfl ?_
        refine go_bipush dX10_test_29 rfl (by decide) ?_
        refine go_vI (ci := 9) dX10_test_31 (ct_X10_isSign _) ml_X10_267 mc_X10_isSign mv_X10_isSign rfl (by first | assumption | exact Nat.le_of_ble_eq_true rfl) (by first | assumption | rfl) rfl ⟨Nat.ble_eq_true_of_le (by dsimp only; omega), rfl⟩ ⟨Nat.le_refl _, Nat.le_refl _⟩ rfl rfl rfl (fun x31 μ31 hc31 => ?_)
        obtain ⟨rfl, hm31⟩ := hc31
        rw [hm31]
        first | refine go_bz (tgt := 62) dX10_test_34 rfl (fun h34 => ?_) (fun h34 => ?_) | refine go_if_eq (tgt := 62) dX10_test_34 rfl (fun h34 => ?_) (fun h34 => ?_)
        ·
          refine go_iconst dX10_test_62 rfl ?_
          refine go_ri dX10_test_63 (tyZ (by first | exact Or.inl rfl | exact Or.inr rfl | exact tv_01 | assumption)) ⟨Nat.le_refl _, Nat.le_refl _⟩ (?_)
          have hnl : lvO (bA B N (skp B N (rAt t))) ≠ 2 := fun e => by
            have hcs : bA B N (skp B N (rAt t)) = 60 ∨ bA B N (skp B N (rAt t)) = 61 ∨ bA B N (skp B N (rAt t)) = 62 := by unfold lvO at e; split at e <;> (try split at e) <;> (try split at e) <;> (try split at e) <;> (try split at e) <;> omega
            rcases hcs with e2 | e2 | e2
            · exact h16 ((tk_s (c := 60) htt hbN (by decide) (by decide) (by decide)).mpr e2)
            · exact h25 ((tk_s (c := 61) htt hbN (by decide) (by decide) (by decide)).mpr e2)
            · exact h34 ((tk_s (c := 62) htt hbN (by decide) (by decide) (by decide)).mpr e2)
          cases kf with
          | zero =>
            rw [show (rdL B N ke ky (d + 1) 2 p n s) = t from hx]
            exact ⟨fun _ => ⟨rfl, tg, hMt⟩, fun h => absurd hfl1 h, hPF⟩
          | succ kf =>
            have hrx : (rdL B N ke ky (d + 1) 2 p n s) = sAt t (skp B N (rAt t)) := by rw [hx, lpS_s, if_pos hfl1, if_neg hnl]
            rw [hrx]
            exact ⟨fun _ => ⟨rfl, tg, ms_at hMt⟩, fun h => absurd hfl1 h, hPF⟩
        ·
          have hs24 : μ1 87 24 = 3 := h34.1
          have hsg : bA B N (skp B N (rAt t)) = 62 := (tk_s (c := 62) htt hbN (by decide) (by decide) (by decide)).mp h34
          have hlv : lvO (bA B N (skp B N (rAt t))) = 2 := by rw [hsg]; decide
          have hcq := hsg
          have hlt : (skp B N (rAt t)) < N := bA_lt (B := B) (by omega)
          have hbe : μ1 87 23 = (skp B N (rAt t)) + 1 := by
            have := (tk_3 htt hbN hs24).2.2.2.2; exact this
          have hMo : MSo B N μ1 (sAt t ((skp B N (rAt t)) + 1)) p n la := ⟨hB1, hN1e, (gw_at hok1 (by omega) (by omega)).1, hfl1, h27b, h28b, h29b, h31b, h30b, hcd1⟩
          refine go_aload_n dX10_test_37 rfl ?_
          refine go_getI 26 dX10_test_38 fl_X10_245 (by first | assumption | exact Nat.le_of_ble_eq_true rfl) (by first | assumption | rfl) rfl rfl ?_
          try simp (disch := omega) only [ua_same, ua_ne, uf_same, uf_ne]
          rw [show μ1 87 26 = 62 from h34.2]
          refine go_istore_n dX10_test_41 rfl ?_
          refine go_aload_n dX10_test_42 rfl ?_
          refine go_vV (ci := 9) dX10_test_43 (ct_X10_nextToken (by rw [hN1e]; exact hN0) (by rw [hN1e]; exact hN1) (by rw [hbe]; omega) (by rw [hbe, hN1e]; omega)) ml_X10_270 mc_X10_nextToken mv_X10_nextToken rfl (by first | assumption | exact Nat.le_of_ble_eq_true rfl) (by first | assumption | rfl) rfl ⟨Nat.ble_eq_true_of_le (by dsimp only; omega), rfl⟩ ⟨Nat.le_refl _, Nat.le_refl _⟩ rfl rfl rfl (fun μ43 hc43 => ?_)
          obtain ⟨htk43, hf43⟩ := hc43
          obtain ⟨hM43, hP43⟩ := ms_nt hMo (by rw [hbe]; rfl) htk43 hf43
          refine go_aload_n dX10_test_46 rfl ?_
          refine go_iload_n dX10_test_47 rfl ?_
          refine go_vI (ci := 9) dX10_test_48 (hsub p n (sAt t ((skp B N (rAt t)) + 1)) _ μ43 hp0 hp8 hn0 hn8 (by omega) hM43 ⟨fun h => absurd h.1.2 (by omega), fun h => absurd h (by have := (skp_r (B := B) (p := (skp B N (rAt t)) + 1) (show (skp B N (rAt t)) + 1 ≤ N by omega)).1; show ¬ (skp B N ((skp B N (rAt t)) + 1) = ke); omega)⟩ (by show ke ≤ (skp B N (rAt t)) + 1; omega)) ml_X10_280 mc_X10_sum mv_X10_sum rfl (by first | assumption | exact Nat.le_of_ble_eq_true rfl) (by first | assumption | rfl) rfl ⟨Nat.ble_eq_true_of_le (by dsimp only; omega), rfl⟩ ⟨Nat.le_refl _, Nat.le_refl _⟩ rfl rfl rfl (fun x48 μ48 hc48 => ?_)
          first | refine go_bnz (tgt := 56) dX10_test_51 rfl (fun h51 => ?_) (fun h51 => ?_) | refine go_if_ne (tgt := 56) dX10_test_51 rfl (fun h51 => ?_) (fun h51 => ?_)
          ·
            have hnf : rFl (rdL B N ke ky d 3 p n (sAt t ((skp B N (rAt t)) + 1))) = -1000000005 := Decidable.byContradiction (fun h => h51 (hc48.2.1 h).1)
            obtain ⟨_, tg2, hMs⟩ := hc48.1 hnf
            obtain ⟨⟨hBc, hNc, hokc, _, h27c, h28c, h29c, h31c, h30c, hcdc⟩, htkc⟩ := id hMs
            have hl0 := hokc.2.2.1
            have hg3 := gw_rd (B := B) (N := N) (ke := ke) (ky := ky) d 3 p n (sAt t ((skp B N (rAt t)) + 1)) (by decide) (gw_at hok1 (by omega) (by omega)).1
            have hln : rLn (rdL B N ke ky d 3 p n (sAt t ((skp B N (rAt t)) + 1))) < 96 := by
              obtain ⟨⟨g1, g2, g3, g4, g5, g6⟩, e2, e3, e4⟩ := hg3
              simp only [rAt_sAt, rLn_sAt] at e2 e3 e4
              have := hok1.2.2.2.1
              omega
            refine go_aload_n dX10_test_56 rfl ?_
            refine go_iconst dX10_test_57 rfl ?_
            refine go_iload_n dX10_test_58 rfl ?_
            refine go_vV (ci := 9) dX10_test_59 (ct_X10_step _ _ ⟨by rw [h30c]; omega, by rw [h30c]; omega⟩ ⟨by rw [h29c]; omega, by rw [h29c]; omega⟩) ml_X10_273 mc_X10_step mv_X10_step rfl (by first | assumption | exact Nat.le_of_ble_eq_true rfl) (by first | assumption | rfl) rfl ⟨Nat.ble_eq_true_of_le (by dsimp only; omega), rfl⟩ ⟨Nat.le_refl _, Nat.le_refl _⟩ rfl rfl rfl (fun μ59 hc59 => ?_)
            rw [h30c, h29c] at hc59
            subst hc59
            refine go_iconst dX10_test_62 rfl ?_
            refine go_ri dX10_test_63 (tyZ (by first | exact Or.inl rfl | exact Or.inr rfl | exact tv_01 | assumption)) ⟨Nat.le_refl _, Nat.le_refl _⟩ (?_)
            have hgs := gw_s1 (c := -(bA B N (skp B N (rAt t)))) hok1 hsk1.1 hlt hg3
            have hMn : MS B N (ud (ud (ud μ48 88 (la + 2 * rLn (rdL B N ke ky d 3 p n (sAt t ((skp B N (rAt t)) + 1)))) 2) 88 (la + 2 * rLn (rdL B N ke ky d 3 p n (sAt t ((skp B N (rAt t)) + 1))) + 1) (62)) 87 29 (rLn (rdL B N ke ky d 3 p n (sAt t ((skp B N (rAt t)) + 1))) + 1)) (adC (rdL B N ke ky d 3 p n (sAt t ((skp B N (rAt t)) + 1))) (-(bA B N (skp B N (rAt t))))) tg2 p n la := by
              refine ⟨⟨hBc, ?_, hgs.1, hnf, ?_, ?_, ?_, ?_, ?_, ?_⟩, ?_⟩
              · simp (disch := omega) only [ua_same, ua_ne, uf_same, uf_ne]; exact hNc
              · simp (disch := omega) only [ua_same, ua_ne, uf_same, uf_ne]; exact h27c
              · simp (disch := omega) only [ua_same, ua_ne, uf_same, uf_ne]; exact h28c
              · simp (disch := omega) only [ua_same, ua_ne, uf_same, uf_ne]; rfl
              · simp (disch := omega) only [ua_same, ua_ne, uf_same, uf_ne]; exact h31c
              · simp (disch := omega) only [ua_same, ua_ne, uf_same, uf_ne]; exact h30c
              · have e88 : (ud (ud (ud μ48 88 (la + 2 * rLn (rdL B N ke ky d 3 p n (sAt t ((skp B N (rAt t)) + 1)))) 2) 88 (la + 2 * rLn (rdL B N ke ky d 3 p n (sAt t ((skp B N (rAt t)) + 1))) + 1) (62)) 87 29 (rLn (rdL B N ke ky d 3 p n (sAt t ((skp B N (rAt t)) + 1))) + 1)) 88 = uf (uf (μ48 88) (la + 2 * rLn (rdL B N ke ky d 3 p n (sAt t ((skp B N (rAt t)) + 1)))) 2) (la + 2 * rLn (rdL B N ke ky d 3 p n (sAt t ((skp B N (rAt t)) + 1))) + 1) (62) := by simp (disch := omega) only [ua_same, ua_ne, uf_same, uf_ne]
                rw [e88]; exact cd_ad hcdc hokc.2.2.1 (by rw [hsg]; rfl) (Or.inr (Or.inr ⟨rfl, by unfold sgN; omega⟩))
              · show tokR B N tg2 (skp B N (rAt (rdL B N ke ky d 3 p n (sAt t ((skp B N (rAt t)) + 1))))) ((ud (ud (ud μ48 88 (la + 2 * rLn (rdL B N ke ky d 3 p n (sAt t ((skp B N (rAt t)) + 1)))) 2) 88 (la + 2 * rLn (rdL B N ke ky d 3 p n (sAt t ((skp B N (rAt t)) + 1))) + 1) (62)) 87 29 (rLn (rdL B N ke ky d 3 p n (sAt t ((skp B N (rAt t)) + 1))) + 1)) 87)
                exact tok_29 htkc
            have hPn : PF μ (ud (ud (ud μ48 88 (la + 2 * rLn (rdL B N ke ky d 3 p n (sAt t ((skp B N (rAt t)) + 1)))) 2) 88 (la + 2 * rLn (rdL B N ke ky d 3 p n (sAt t ((skp B N (rAt t)) + 1))) + 1) (62)) 87 29 (rLn (rdL B N ke ky d 3 p n (sAt t ((skp B N (rAt t)) + 1))) + 1)) la := hPF.tr (hP43.tr (hc48.2.2.tr (pf_st (by omega) (by omega))))
            have hrx : (rdL B N ke ky (d + 1) 2 p n s) = (adC (rdL B N ke ky d 3 p n (sAt t ((skp B N (rAt t)) + 1))) (-(bA B N (skp B N (rAt t))))) := by rw [hx, show kf = 0 + 1 from hk1, lpS_s, if_pos hfl1, if_pos hlv]; rfl
            rw [hrx]
            exact ⟨fun _ => ⟨rfl, tg2, hMn⟩, fun h => absurd hnf h, hPn⟩
          ·
            refine go_iconst dX10_test_54 rfl ?_
            refine go_ri dX10_test_55 (tyZ (by first | exact Or.inl rfl | exact Or.inr rfl | exact tv_01 | assumption)) ⟨Nat.le_refl _, Nat.le_refl _⟩ (?_)
            have hnf : rFl (rdL B N ke ky d 3 p n (sAt t ((skp B N (rAt t)) + 1))) ≠ -1000000005 := fun h => by have := (hc48.1 h).1; omega
            have hrx : (rdL B N ke ky (d + 1) 2 p n s) = adC (rdL B N ke ky d 3 p n (sAt t ((skp B N (rAt t)) + 1))) (-(bA B N (skp B N (rAt t)))) := by rw [hx, show kf = (kf - 1) + 1 by omega, lpS_s, if_pos hfl1, if_pos hlv, lp_f (by exact hnf)]
            rw [hrx]
            exact ⟨fun h => absurd h hnf, fun _ => ⟨rfl, (hc48.2.1 hnf).2⟩, hPF.tr (hP43.tr hc48.2.2)⟩
  refine go_aload_n dX10_test_0 rfl ?_
  refine go_iload_n dX10_test_1 rfl ?_
  refine go_vI (ci := 9) dX10_test_2 (hsub p n s tg μ hp0 hp8 hn0 hn8 (by omega) hM hop hke) ml_X10_280 mc_X10_sum mv_X10_sum rfl (by first | assumption | exact Nat.le_of_ble_eq_true rfl) (by first | assumption | rfl) rfl ⟨Nat.ble_eq_true_of_le (by dsimp only; omega), rfl⟩ ⟨Nat.le_refl _, Nat.le_refl _⟩ rfl rfl rfl (fun x2 μ2 hc2 => ?_)
  first | refine go_bnz (tgt := 10) dX10_test_5 rfl (fun h5 => ?_) (fun h5 => ?_) | refine go_if_ne (tgt := 10) dX10_test_5 rfl (fun h5 => ?_) (fun h5 => ?_)
  ·
    have hnf : rFl (rdL B N ke ky d 3 p n s) = -1000000005 := Decidable.byContradiction (fun h => h5 (hc2.2.1 h).1)
    obtain ⟨_, tg2, hMs⟩ := hc2.1 hnf
    exact go_drop (once _ _ μ2 1 rfl (by rw [rdL_l (by decide)]; rfl) hMs hc2.2.2 (by have := (gw_rd (B := B) (N := N) (ke := ke) (ky := ky) d 3 p n s (by decide) hok).2.1; omega)) rfl
  ·
    refine go_iconst dX10_test_8 rfl ?_
    refine go_ri dX10_test_9 (tyZ (by first | exact Or.inl rfl | exact Or.inr rfl | exact tv_01 | assumption)) ⟨Nat.le_refl _, Nat.le_refl _⟩ (?_)
    have hnf : rFl (rdL B N ke ky d 3 p n s) ≠ -1000000005 := fun h => by have := (hc2.1 h).1; omega
    have hrx : (rdL B N ke ky (d + 1) 2 p n s) = (rdL B N ke ky d 3 p n s) := by rw [rdL_l (by decide)]; exact lp_f hnf
    rw [hrx]
    exact ⟨fun h => absurd h hnf, fun _ => ⟨rfl, (hc2.2.1 hnf).2⟩, hc2.2.2⟩

set_option maxRecDepth 100000 in
set_option maxHeartbeats 4000000 in
theorem pm_sum {l : Launch} {D : va_G} {cA : Nat → ClassId} {B : Int → Int} {N ke ky la : Int} (hN0 : 0 ≤ N) (hN1 : N ≤ 96) (hla : 0 ≤ la ∧ la ≤ 2922) (hky : 0 ≤ ky ∧ ky ≤ 2) {d : Nat} (hsub : HL l D cA yX10_term cX10_term 3 B N ke ky la d 4) : HL l D cA yX10_sum cX10_sum 3 B N ke ky la (d + 1) 3 := by
  intro p n s tg μ hp0 hp8 hn0 hn8 hd hM hop hke
  refine Ct.of (own := RX10) (by decide +kernel) rfl (fun σ => Nat.le_of_ble_eq_true rfl) (fun hM0 hP0 ha0 => ?_)
  obtain ⟨m87, r88, s88, r89, s89, r90, s90, r91, s91, r92, s92, r93, s93, r94, s94, r95, s95, r96, s96, r97, s97, r98, s98, r99, s99, r100, s100, r101, s101, r102, s102, r103, s103, r104, s104, r105, s105, r106, s106, r107, s107, r108, s108, r109, s109, r110, s110, r111, s111, r112, s112⟩ := md_f
  obtain ⟨⟨hB, hNN, hok, hfl, h27, h28, h29, h31, h30, hcd⟩, htk⟩ := id hM
  have hsk := skp_r (B := B) hok.2.1
  have loop : ∀ (m : Nat) (t : RS) (tg : Prop) (μ1 : Mem) (kf : Nat), N - rAt t ≤ (m : Nat) → N - rAt t ≤ (kf : Nat) → rdL B N ke ky (d + 1) 3 p n s = lpS B N 3 (rdL B N ke ky d 4 p n) kf t → MS B N μ1 t tg p n la → PF μ μ1 la → ke ≤ rAt t → Go l D cA none RX10 cX10_sum 3 (some .boolean) (d + 1 + 4, 0, 0) (QN (Pi (PR B N μ (rdL B N ke ky (d + 1) 3 p n s) p n la))) 113 ρ0 0 0 10 [(0, vr 87), (1, vi ky)] [] μ1 := by
    intro m
    induction m with
    | zero =>
      intro t tg μ1 kf hm hkf hx hMt hPF hkt
      obtain ⟨⟨hB1, hN1e, hok1, hfl1, h27b, h28b, h29b, h31b, h30b, hcd1⟩, htt⟩ := id hMt
      have hsk1 := skp_r (B := B) hok1.2.1
      have hbN := hsk1.2
      have hr1 := hok1.1
      refine go_aload_n dX10_sum_10 rfl ?_
      refine go_bipush dX10_sum_11 rfl (by decide) ?_
      refine go_vI (ci := 9) dX10_sum_13 (ct_X10_isSign _) ml_X10_267 mc_X10_isSign mv_X10_isSign rfl (by first | assumption | exact Nat.le_of_ble_eq_true rfl) (by first | assumption | rfl) rfl ⟨Nat.ble_eq_true_of_le (by dsimp only; omega), rfl⟩ ⟨Nat.le_refl _, Nat.le_refl _⟩ rfl rfl rfl (fun x13 μ13 hc13 => ?_)
      obtain ⟨rfl, hm13⟩ := hc13
      rw [hm13]
      first | refine go_bnz (tgt := 28) dX10_sum_16 rfl (fun h16 => ?_) (fun h16 => ?_) | refine go_if_ne (tgt := 28) dX10_sum_16 rfl (fun h16 => ?_) (fun h16 => ?_)
      ·
        exact absurd (tk_3 htt hbN h16.1).1 (by omega)
      ·
        refine go_aload_n dX10_sum_19 rfl ?_
        refine go_bipush dX10_sum_20 rfl (by decide) ?_
        refine go_vI (ci := 9) dX10_sum_22 (ct_X10_isSign _) ml_X10_267 mc_X10_isSign mv_X10_isSign rfl (by first | assumption | exact Nat.le_of_ble_eq_true rfl) (by first | assumption | rfl) rfl ⟨Nat.ble_eq_true_of_le (by dsimp only; omega), rfl⟩ ⟨Nat.le_refl _, Nat.le_refl _⟩ rfl rfl rfl (fun x22 μ22 hc22 => ?_)
        obtain ⟨rfl, hm22⟩ := hc22
        rw [hm22]
        first | refine go_bz (tgt := 56) dX10_sum_25 rfl (fun h25 => ?_) (fun h25 => ?_) | refine go_if_eq (tgt := 56) dX10_sum_25 rfl (fun h25 => ?_) (fun h25 => ?_)
        ·
          refine go_iconst dX10_sum_56 rfl ?_
          refine go_ri dX10_sum_57 (tyZ (by first | exact Or.inl rfl | exact Or.inr rfl | exact tv_01 | assumption)) ⟨Nat.le_refl _, Nat.le_refl _⟩ (?_)
          have hnl : lvO (bA B N (skp B N (rAt t))) ≠ 3 := fun e => by
            have hcs : bA B N (skp B N (rAt t)) = 43 ∨ bA B N (skp B N (rAt t)) = 45 := by unfold lvO at e; split at e <;> (try split at e) <;> (try split at e) <;> (try split at e) <;> (try split at e) <;> omega
            rcases hcs with e2 | e2
            · exact h16 ((tk_s (c := 43) htt hbN (by decide) (by decide) (by decide)).mpr e2)
            · exact h25 ((tk_s (c := 45) htt hbN (by decide) (by decide) (by decide)).mpr e2)
          cases kf with
          | zero =>
            rw [show (rdL B N ke ky (d + 1) 3 p n s) = t from hx]
            exact ⟨fun _ => ⟨rfl, tg, hMt⟩, fun h => absurd hfl1 h, hPF⟩
          | succ kf =>
            have hrx : (rdL B N ke ky (d + 1) 3 p n s) = sAt t (skp B N (rAt t)) := by rw [hx, lpS_s, if_pos hfl1, if_neg hnl]
            rw [hrx]
            exact ⟨fun _ => ⟨rfl, tg, ms_at hMt⟩, fun h => absurd hfl1 h, hPF⟩
        ·
          exact absurd (tk_3 htt hbN h25.1).1 (by omega)
    | succ m ih =>
      intro t tg μ1 kf hm hkf hx hMt hPF hkt
      obtain ⟨⟨hB1, hN1e, hok1, hfl1, h27b, h28b, h29b, h31b, h30b, hcd1⟩, htt⟩ := id hMt
      have hsk1 := skp_r (B := B) hok1.2.1
      have hbN := hsk1.2
      have hr1 := hok1.1
      refine go_aload_n dX10_sum_10 rfl ?_
      refine go_bipush dX10_sum_11 rfl (by decide) ?_
      refine go_vI (ci := 9) dX10_sum_13 (ct_X10_isSign _) ml_X10_267 mc_X10_isSign mv_X10_isSign rfl (by first | assumption | exact Nat.le_of_ble_eq_true rfl) (by first | assumption | rfl) rfl ⟨Nat.ble_eq_true_of_le (by dsimp only; omega), rfl⟩ ⟨Nat.le_refl _, Nat.le_refl _⟩ rfl rfl rfl (fun x13 μ13 hc13 => ?_)
      obtain ⟨rfl, hm13⟩ := hc13
      rw [hm13]
      first | refine go_bnz (tgt := 28) dX10_sum_16 rfl (fun h16 => ?_) (fun h16 => ?_) | refine go_if_ne (tgt := 28) dX10_sum_16 rfl (fun h16 => ?_) (fun h16 => ?_)
      ·
        have hs24 : μ1 87 24 = 3 := h16.1
        have hsg : bA B N (skp B N (rAt t)) = 43 := (tk_s (c := 43) htt hbN (by decide) (by decide) (by decide)).mp h16
        have hlv : lvO (bA B N (skp B N (rAt t))) = 3 := by rw [hsg]; decide
        have hcq := hsg
        have hlt : (skp B N (rAt t)) < N := bA_lt (B := B) (by omega)
        have hbe : μ1 87 23 = (skp B N (rAt t)) + 1 := by
          have := (tk_3 htt hbN hs24).2.2.2.2; exact this
        have hMo : MSo B N μ1 (sAt t ((skp B N (rAt t)) + 1)) p n la := ⟨hB1, hN1e, (gw_at hok1 (by omega) (by omega)).1, hfl1, h27b, h28b, h29b, h31b, h30b, hcd1⟩
        refine go_aload_n dX10_sum_28 rfl ?_
        refine go_getI 26 dX10_sum_29 fl_X10_245 (by first | assumption | exact Nat.le_of_ble_eq_true rfl) (by first | assumption | rfl) rfl rfl ?_
        try simp (disch := omega) only [ua_same, ua_ne, uf_same, uf_ne]
        rw [show μ1 87 26 = 43 from h16.2]
        refine go_istore_n dX10_sum_32 rfl ?_
        refine go_aload_n dX10_sum_33 rfl ?_
        refine go_vV (ci := 9) dX10_sum_34 (ct_X10_nextToken (by rw [hN1e]; exact hN0) (by rw [hN1e]; exact hN1) (by rw [hbe]; omega) (by rw [hbe, hN1e]; omega)) ml_X10_270 mc_X10_nextToken mv_X10_nextToken rfl (by first | assumption | exact Nat.le_of_ble_eq_true rfl) (by first | assumption | rfl) rfl ⟨Nat.ble_eq_true_of_le (by dsimp only; omega), rfl⟩ ⟨Nat.le_refl _, Nat.le_refl _⟩ rfl rfl rfl (fun μ34 hc34 => ?_)
        obtain ⟨htk34, hf34⟩ := hc34
        obtain ⟨hM34, hP34⟩ := ms_nt hMo (by rw [hbe]; rfl) htk34 hf34
        refine go_aload_n dX10_sum_37 rfl ?_
        refine go_iload_n dX10_sum_38 rfl ?_
        refine go_vI (ci := 9) dX10_sum_39 (hsub p n (sAt t ((skp B N (rAt t)) + 1)) _ μ34 hp0 hp8 hn0 hn8 (by omega) hM34 ⟨fun h => absurd h.1.2 (by omega), fun h => absurd h (by have := (skp_r (B := B) (p := (skp B N (rAt t)) + 1) (show (skp B N (rAt t)) + 1 ≤ N by omega)).1; show ¬ (skp B N ((skp B N (rAt t)) + 1) = ke); omega)⟩ (by show ke ≤ (skp B N (rAt t)) + 1; omega)) ml_X10_283 mc_X10_term mv_X10_term rfl (by first | assumption | exact Nat.le_of_ble_eq_true rfl) (by first | assumption | rfl) rfl ⟨Nat.ble_eq_true_of_le (by dsimp only; omega), rfl⟩ ⟨Nat.le_refl _, Nat.le_refl _⟩ rfl rfl rfl (fun x39 μ39 hc39 => ?_)
        first | refine go_bnz (tgt := 47) dX10_sum_42 rfl (fun h42 => ?_) (fun h42 => ?_) | refine go_if_ne (tgt := 47) dX10_sum_42 rfl (fun h42 => ?_) (fun h42 => ?_)
        ·
          have hnf : rFl (rdL B N ke ky d 4 p n (sAt t ((skp B N (rAt t)) + 1))) = -1000000005 := Decidable.byContradiction (fun h => h42 (hc39.2.1 h).1)
          obtain ⟨_, tg2, hMs⟩ := hc39.1 hnf
          obtain ⟨⟨hBc, hNc, hokc, _, h27c, h28c, h29c, h31c, h30c, hcdc⟩, htkc⟩ := id hMs
          have hl0 := hokc.2.2.1
          have hg3 := gw_rd (B := B) (N := N) (ke := ke) (ky := ky) d 4 p n (sAt t ((skp B N (rAt t)) + 1)) (by decide) (gw_at hok1 (by omega) (by omega)).1
          have hln : rLn (rdL B N ke ky d 4 p n (sAt t ((skp B N (rAt t)) + 1))) < 96 := by
            obtain ⟨⟨g1, g2, g3, g4, g5, g6⟩, e2, e3, e4⟩ := hg3
            simp only [rAt_sAt, rLn_sAt] at e2 e3 e4
            have := hok1.2.2.2.1
            omega
          refine go_aload_n dX10_sum_47 rfl ?_
          refine go_iconst dX10_sum_48 rfl ?_
          refine go_iload_n dX10_sum_49 rfl ?_
          refine go_vV (ci := 9) dX10_sum_50 (ct_X10_step _ _ ⟨by rw [h30c]; omega, by rw [h30c]; omega⟩ ⟨by rw [h29c]; omega, by rw [h29c]; omega⟩) ml_X10_273 mc_X10_step mv_X10_step rfl (by first | assumption | exact Nat.le_of_ble_eq_true rfl) (by first | assumption | rfl) rfl ⟨Nat.ble_eq_true_of_le (by dsimp only; omega), rfl⟩ ⟨Nat.le_refl _, Nat.le_refl _⟩ rfl rfl rfl (fun μ50 hc50 => ?_)
          rw [h30c, h29c] at hc50
          subst hc50
          refine go_goto (tgt := 10) dX10_sum_53 rfl ?_
          have hgs := gw_s1 (c := -(bA B N (skp B N (rAt t)))) hok1 hsk1.1 hlt hg3
          have hMn : MS B N (ud (ud (ud μ39 88 (la + 2 * rLn (rdL B N ke ky d 4 p n (sAt t ((skp B N (rAt t)) + 1)))) 2) 88 (la + 2 * rLn (rdL B N ke ky d 4 p n (sAt t ((skp B N (rAt t)) + 1))) + 1) (43)) 87 29 (rLn (rdL B N ke ky d 4 p n (sAt t ((skp B N (rAt t)) + 1))) + 1)) (adC (rdL B N ke ky d 4 p n (sAt t ((skp B N (rAt t)) + 1))) (-(bA B N (skp B N (rAt t))))) tg2 p n la := by
            refine ⟨⟨hBc, ?_, hgs.1, hnf, ?_, ?_, ?_, ?_, ?_, ?_⟩, ?_⟩
            · simp (disch := omega) only [ua_same, ua_ne, uf_same, uf_ne]; exact hNc
            · simp (disch := omega) only [ua_same, ua_ne, uf_same, uf_ne]; exact h27c
            · simp (disch := omega) only [ua_same, ua_ne, uf_same, uf_ne]; exact h28c
            · simp (disch := omega) only [ua_same, ua_ne, uf_same, uf_ne]; rfl
            · simp (disch := omega) only [ua_same, ua_ne, uf_same, uf_ne]; exact h31c
            · simp (disch := omega) only [ua_same, ua_ne, uf_same, uf_ne]; exact h30c
            · have e88 : (ud (ud (ud μ39 88 (la + 2 * rLn (rdL B N ke ky d 4 p n (sAt t ((skp B N (rAt t)) + 1)))) 2) 88 (la + 2 * rLn (rdL B N ke ky d 4 p n (sAt t ((skp B N (rAt t)) + 1))) + 1) (43)) 87 29 (rLn (rdL B N ke ky d 4 p n (sAt t ((skp B N (rAt t)) + 1))) + 1)) 88 = uf (uf (μ39 88) (la + 2 * rLn (rdL B N ke ky d 4 p n (sAt t ((skp B N (rAt t)) + 1)))) 2) (la + 2 * rLn (rdL B N ke ky d 4 p n (sAt t ((skp B N (rAt t)) + 1))) + 1) (43) := by simp (disch := omega) only [ua_same, ua_ne, uf_same, uf_ne]
              rw [e88]; exact cd_ad hcdc hokc.2.2.1 (by rw [hsg]; rfl) (Or.inr (Or.inr ⟨rfl, by unfold sgN; omega⟩))
            · show tokR B N tg2 (skp B N (rAt (rdL B N ke ky d 4 p n (sAt t ((skp B N (rAt t)) + 1))))) ((ud (ud (ud μ39 88 (la + 2 * rLn (rdL B N ke ky d 4 p n (sAt t ((skp B N (rAt t)) + 1)))) 2) 88 (la + 2 * rLn (rdL B N ke ky d 4 p n (sAt t ((skp B N (rAt t)) + 1))) + 1) (43)) 87 29 (rLn (rdL B N ke ky d 4 p n (sAt t ((skp B N (rAt t)) + 1))) + 1)) 87)
              exact tok_29 htkc
          have hPn : PF μ (ud (ud (ud μ39 88 (la + 2 * rLn (rdL B N ke ky d 4 p n (sAt t ((skp B N (rAt t)) + 1)))) 2) 88 (la + 2 * rLn (rdL B N ke ky d 4 p n (sAt t ((skp B N (rAt t)) + 1))) + 1) (43)) 87 29 (rLn (rdL B N ke ky d 4 p n (sAt t ((skp B N (rAt t)) + 1))) + 1)) la := hPF.tr (hP34.tr (hc39.2.2.tr (pf_st (by omega) (by omega))))
          exact go_drop (ih (adC (rdL B N ke ky d 4 p n (sAt t ((skp B N (rAt t)) + 1))) (-(bA B N (skp B N (rAt t))))) tg2 _ (kf - 1) (by have := hgs.2.1; have e9 : rAt (adC (rdL B N ke ky d 4 p n (sAt t ((skp B N (rAt t)) + 1))) (-(bA B N (skp B N (rAt t))))) = rAt (rdL B N ke ky d 4 p n (sAt t ((skp B N (rAt t)) + 1))) := rfl; have e8 := hg3.2.1; simp only [rAt_sAt] at e8; omega) (by have e9 : rAt (adC (rdL B N ke ky d 4 p n (sAt t ((skp B N (rAt t)) + 1))) (-(bA B N (skp B N (rAt t))))) = rAt (rdL B N ke ky d 4 p n (sAt t ((skp B N (rAt t)) + 1))) := rfl; have e8 := hg3.2.1; simp only [rAt_sAt] at e8; omega) (by rw [hx, show kf = (kf - 1) + 1 by omega, lpS_s, if_pos hfl1, if_pos hlv]; rfl) hMn hPn (by have e9 : rAt (adC (rdL B N ke ky d 4 p n (sAt t ((skp B N (rAt t)) + 1))) (-(bA B N (skp B N (rAt t))))) = rAt (rdL B N ke ky d 4 p n (sAt t ((skp B N (rAt t)) + 1))) := rfl; have e8 := hg3.2.1; simp only [rAt_sAt] at e8; omega)) rfl
        ·
          refine go_iconst dX10_sum_45 rfl ?_
          refine go_ri dX10_sum_46 (tyZ (by first | exact Or.inl rfl | exact Or.inr rfl | exact tv_01 | assumption)) ⟨Nat.le_refl _, Nat.le_refl _⟩ (?_)
          have hnf : rFl (rdL B N ke ky d 4 p n (sAt t ((skp B N (rAt t)) + 1))) ≠ -1000000005 := fun h => by have := (hc39.1 h).1; omega
          have hrx : (rdL B N ke ky (d + 1) 3 p n s) = adC (rdL B N ke ky d 4 p n (sAt t ((skp B N (rAt t)) + 1))) (-(bA B N (skp B N (rAt t)))) := by rw [hx, show kf = (kf - 1) + 1 by omega, lpS_s, if_pos hfl1, if_pos hlv, lp_f (by exact hnf)]
          rw [hrx]
          exact ⟨fun h => absurd h hnf, fun _ => ⟨rfl, (hc39.2.1 hnf).2⟩, hPF.tr (hP34.tr hc39.2.2)⟩
      ·
        refine go_aload_n dX10_sum_19 rfl ?_
        refine go_bipush dX10_sum_20 rfl (by decide) ?_
        refine go_vI (ci := 9) dX10_sum_22 (ct_X10_isSign _) ml_X10_267 mc_X10_isSign mv_X10_isSign rfl (by first | assumption | exact Nat.le_of_ble_eq_true rfl) (by first | assumption | rfl) rfl ⟨Nat.ble_eq_true_of_le (by dsimp only; omega), rfl⟩ ⟨Nat.le_refl _, Nat.le_refl _⟩ rfl rfl rfl (fun x22 μ22 hc22 => ?_)
        obtain ⟨rfl, hm22⟩ := hc22
        rw [hm22]
        first | refine go_bz (tgt := 56) dX10_sum_25 rfl (fun h25 => ?_) (fun h25 => ?_) | refine go_if_eq (tgt := 56) dX10_sum_25 rfl (fun h25 => ?_) (fun h25 => ?_)
        ·
          refine go_iconst dX10_sum_56 rfl ?_
          refine go_ri dX10_sum_57 (tyZ (by first | exact Or.inl rfl | exact Or.inr rfl | exact tv_01 | assumption)) ⟨Nat.le_refl _, Nat.le_refl _⟩ (?_)
          have hnl : lvO (bA B N (skp B N (rAt t))) ≠ 3 := fun e => by
            have hcs : bA B N (skp B N (rAt t)) = 43 ∨ bA B N (skp B N (rAt t)) = 45 := by unfold lvO at e; split at e <;> (try split at e) <;> (try split at e) <;> (try split at e) <;> (try split at e) <;> omega
            rcases hcs with e2 | e2
            · exact h16 ((tk_s (c := 43) htt hbN (by decide) (by decide) (by decide)).mpr e2)
            · exact h25 ((tk_s (c := 45) htt hbN (by decide) (by decide) (by decide)).mpr e2)
          cases kf with
          | zero =>
            rw [show (rdL B N ke ky (d + 1) 3 p n s) = t from hx]
            exact ⟨fun _ => ⟨rfl, tg, hMt⟩, fun h => absurd hfl1 h, hPF⟩
          | succ kf =>
            have hrx : (rdL B N ke ky (d + 1) 3 p n s) = sAt t (skp B N (rAt t)) := by rw [hx, lpS_s, if_pos hfl1, if_neg hnl]
            rw [hrx]
            exact ⟨fun _ => ⟨rfl, tg, ms_at hMt⟩, fun h => absurd hfl1 h, hPF⟩
        ·
          have hs24 : μ1 87 24 = 3 := h25.1
          have hsg : bA B N (skp B N (rAt t)) = 45 := (tk_s (c := 45) htt hbN (by decide) (by decide) (by decide)).mp h25
          have hlv : lvO (bA B N (skp B N (rAt t))) = 3 := by rw [hsg]; decide
          have hcq := hsg
          have hlt : (skp B N (rAt t)) < N := bA_lt (B := B) (by omega)
          have hbe : μ1 87 23 = (skp B N (rAt t)) + 1 := by
            have := (tk_3 htt hbN hs24).2.2.2.2; exact this
          have hMo : MSo B N μ1 (sAt t ((skp B N (rAt t)) + 1)) p n la := ⟨hB1, hN1e, (gw_at hok1 (by omega) (by omega)).1, hfl1, h27b, h28b, h29b, h31b, h30b, hcd1⟩
          refine go_aload_n dX10_sum_28 rfl ?_
          refine go_getI 26 dX10_sum_29 fl_X10_245 (by first | assumption | exact Nat.le_of_ble_eq_true rfl) (by first | assumption | rfl) rfl rfl ?_
          try simp (disch := omega) only [ua_same, ua_ne, uf_same, uf_ne]
          rw [show μ1 87 26 = 45 from h25.2]
          refine go_istore_n dX10_sum_32 rfl ?_
          refine go_aload_n dX10_sum_33 rfl ?_
          refine go_vV (ci := 9) dX10_sum_34 (ct_X10_nextToken (by rw [hN1e]; exact hN0) (by rw [hN1e]; exact hN1) (by rw [hbe]; omega) (by rw [hbe, hN1e]; omega)) ml_X10_270 mc_X10_nextToken mv_X10_nextToken rfl (by first | assumption | exact Nat.le_of_ble_eq_true rfl) (by first | assumption | rfl) rfl ⟨Nat.ble_eq_true_of_le (by dsimp only; omega), rfl⟩ ⟨Nat.le_refl _, Nat.le_refl _⟩ rfl rfl rfl (fun μ34 hc34 => ?_)
          obtain ⟨htk34, hf34⟩ := hc34
          obtain ⟨hM34, hP34⟩ := ms_nt hMo (by rw [hbe]; rfl) htk34 hf34
          refine go_aload_n dX10_sum_37 rfl ?_
          refine go_iload_n dX10_sum_38 rfl ?_
          refine go_vI (ci := 9) dX10_sum_39 (hsub p n (sAt t ((skp B N (rAt t)) + 1)) _ μ34 hp0 hp8 hn0 hn8 (by omega) hM34 ⟨fun h => absurd h.1.2 (by omega), fun h => absurd h (by have := (skp_r (B := B) (p := (skp B N (rAt t)) + 1) (show (skp B N (rAt t)) + 1 ≤ N by omega)).1; show ¬ (skp B N ((skp B N (rAt t)) + 1) = ke); omega)⟩ (by show ke ≤ (skp B N (rAt t)) + 1; omega)) ml_X10_283 mc_X10_term mv_X10_term rfl (by first | assumption | exact Nat.le_of_ble_eq_true rfl) (by first | assumption | rfl) rfl ⟨Nat.ble_eq_true_of_le (by dsimp only; omega), rfl⟩ ⟨Nat.le_refl _, Nat.le_refl _⟩ rfl rfl rfl (fun x39 μ39 hc39 => ?_)
          first | refine go_bnz (tgt := 47) dX10_sum_42 rfl (fun h42 => ?_) (fun h42 => ?_) | refine go_if_ne (tgt := 47) dX10_sum_42 rfl (fun h42 => ?_) (fun h42 => ?_)
          ·
            have hnf : rFl (rdL B N ke ky d 4 p n (sAt t ((skp B N (rAt t)) + 1))) = -1000000005 := Decidable.byContradiction (fun h => h42 (hc39.2.1 h).1)
            obtain ⟨_, tg2, hMs⟩ := hc39.1 hnf
            obtain ⟨⟨hBc, hNc, hokc, _, h27c, h28c, h29c, h31c, h30c, hcdc⟩, htkc⟩ := id hMs
            have hl0 := hokc.2.2.1
            have hg3 := gw_rd (B := B) (N := N) (ke := ke) (ky := ky) d 4 p n (sAt t ((skp B N (rAt t)) + 1)) (by decide) (gw_at hok1 (by omega) (by omega)).1
            have hln : rLn (rdL B N ke ky d 4 p n (sAt t ((skp B N (rAt t)) + 1))) < 96 := by
              obtain ⟨⟨g1, g2, g3, g4, g5, g6⟩, e2, e3, e4⟩ := hg3
              simp only [rAt_sAt, rLn_sAt] at e2 e3 e4
              have := hok1.2.2.2.1
              omega
            refine go_aload_n dX10_sum_47 rfl ?_
            refine go_iconst dX10_sum_48 rfl ?_
            refine go_iload_n dX10_sum_49 rfl ?_
            refine go_vV (ci := 9) dX10_sum_50 (ct_X10_step _ _ ⟨by rw [h30c]; omega, by rw [h30c]; omega⟩ ⟨by rw [h29c]; omega, by rw [h29c]; omega⟩) ml_X10_273 mc_X10_step mv_X10_step rfl (by first | assumption | exact Nat.le_of_ble_eq_true rfl) (by first | assumption | rfl) rfl ⟨Nat.ble_eq_true_of_le (by dsimp only; omega), rfl⟩ ⟨Nat.le_refl _, Nat.le_refl _⟩ rfl rfl rfl (fun μ50 hc50 => ?_)
            rw [h30c, h29c] at hc50
            subst hc50
            refine go_goto (tgt := 10) dX10_sum_53 rfl ?_
            have hgs := gw_s1 (c := -(bA B N (skp B N (rAt t)))) hok1 hsk1.1 hlt hg3
            have hMn : MS B N (ud (ud (ud μ39 88 (la + 2 * rLn (rdL B N ke ky d 4 p n (sAt t ((skp B N (rAt t)) + 1)))) 2) 88 (la + 2 * rLn (rdL B N ke ky d 4 p n (sAt t ((skp B N (rAt t)) + 1))) + 1) (45)) 87 29 (rLn (rdL B N ke ky d 4 p n (sAt t ((skp B N (rAt t)) + 1))) + 1)) (adC (rdL B N ke ky d 4 p n (sAt t ((skp B N (rAt t)) + 1))) (-(bA B N (skp B N (rAt t))))) tg2 p n la := by
              refine ⟨⟨hBc, ?_, hgs.1, hnf, ?_, ?_, ?_, ?_, ?_, ?_⟩, ?_⟩
              · simp (disch := omega) only [ua_same, ua_ne, uf_same, uf_ne]; exact hNc
              · simp (disch := omega) only [ua_same, ua_ne, uf_same, uf_ne]; exact h27c
              · simp (disch := omega) only [ua_same, ua_ne, uf_same, uf_ne]; exact h28c
              · simp (disch := omega) only [ua_same, ua_ne, uf_same, uf_ne]; rfl
              · simp (disch := omega) only [ua_same, ua_ne, uf_same, uf_ne]; exact h31c
              · simp (disch := omega) only [ua_same, ua_ne, uf_same, uf_ne]; exact h30c
              · have e88 : (ud (ud (ud μ39 88 (la + 2 * rLn (rdL B N ke ky d 4 p n (sAt t ((skp B N (rAt t)) + 1)))) 2) 88 (la + 2 * rLn (rdL B N ke ky d 4 p n (sAt t ((skp B N (rAt t)) + 1))) + 1) (45)) 87 29 (rLn (rdL B N ke ky d 4 p n (sAt t ((skp B N (rAt t)) + 1))) + 1)) 88 = uf (uf (μ39 88) (la + 2 * rLn (rdL B N ke ky d 4 p n (sAt t ((skp B N (rAt t)) + 1)))) 2) (la + 2 * rLn (rdL B N ke ky d 4 p n (sAt t ((skp B N (rAt t)) + 1))) + 1) (45) := by simp (disch := omega) only [ua_same, ua_ne, uf_same, uf_ne]
                rw [e88]; exact cd_ad hcdc hokc.2.2.1 (by rw [hsg]; rfl) (Or.inr (Or.inr ⟨rfl, by unfold sgN; omega⟩))
              · show tokR B N tg2 (skp B N (rAt (rdL B N ke ky d 4 p n (sAt t ((skp B N (rAt t)) + 1))))) ((ud (ud (ud μ39 88 (la + 2 * rLn (rdL B N ke ky d 4 p n (sAt t ((skp B N (rAt t)) + 1)))) 2) 88 (la + 2 * rLn (rdL B N ke ky d 4 p n (sAt t ((skp B N (rAt t)) + 1))) + 1) (45)) 87 29 (rLn (rdL B N ke ky d 4 p n (sAt t ((skp B N (rAt t)) + 1))) + 1)) 87)
                exact tok_29 htkc
            have hPn : PF μ (ud (ud (ud μ39 88 (la + 2 * rLn (rdL B N ke ky d 4 p n (sAt t ((skp B N (rAt t)) + 1)))) 2) 88 (la + 2 * rLn (rdL B N ke ky d 4 p n (sAt t ((skp B N (rAt t)) + 1))) + 1) (45)) 87 29 (rLn (rdL B N ke ky d 4 p n (sAt t ((skp B N (rAt t)) + 1))) + 1)) la := hPF.tr (hP34.tr (hc39.2.2.tr (pf_st (by omega) (by omega))))
            exact go_drop (ih (adC (rdL B N ke ky d 4 p n (sAt t ((skp B N (rAt t)) + 1))) (-(bA B N (skp B N (rAt t))))) tg2 _ (kf - 1) (by have := hgs.2.1; have e9 : rAt (adC (rdL B N ke ky d 4 p n (sAt t ((skp B N (rAt t)) + 1))) (-(bA B N (skp B N (rAt t))))) = rAt (rdL B N ke ky d 4 p n (sAt t ((skp B N (rAt t)) + 1))) := rfl; have e8 := hg3.2.1; simp only [rAt_sAt] at e8; omega) (by have e9 : rAt (adC (rdL B N ke ky d 4 p n (sAt t ((skp B N (rAt t)) + 1))) (-(bA B N (skp B N (rAt t))))) = rAt (rdL B N ke ky d 4 p n (sAt t ((skp B N (rAt t)) + 1))) := rfl; have e8 := hg3.2.1; simp only [rAt_sAt] at e8; omega) (by rw [hx, show kf = (kf - 1) + 1 by omega, lpS_s, if_pos hfl1, if_pos hlv]; rfl) hMn hPn (by have e9 : rAt (adC (rdL B N ke ky d 4 p n (sAt t ((skp B N (rAt t)) + 1))) (-(bA B N (skp B N (rAt t))))) = rAt (rdL B N ke ky d 4 p n (sAt t ((skp B N (rAt t)) + 1))) := rfl; have e8 := hg3.2.1; simp only [rAt_sAt] at e8; omega)) rfl
          ·
            refine go_iconst dX10_sum_45 rfl ?_
            refine go_ri dX10_sum_46 (tyZ (by first | exact Or.inl rfl | exact Or.inr rfl | exact tv_01 | assumption)) ⟨Nat.le_refl _, Nat.le_refl _⟩ (?_)
            have hnf : rFl (rdL B N ke ky d 4 p n (sAt t ((skp B N (rAt t)) + 1))) ≠ -1000000005 := fun h => by have := (hc39.1 h).1; omega
            have hrx : (rdL B N ke ky (d + 1) 3 p n s) = adC (rdL B N ke ky d 4 p n (sAt t ((skp B N (rAt t)) + 1))) (-(bA B N (skp B N (rAt t)))) := by rw [hx, show kf = (kf - 1) + 1 by omega, lpS_s, if_pos hfl1, if_pos hlv, lp_f (by exact hnf)]
            rw [hrx]
            exact ⟨fun h => absurd h hnf, fun _ => ⟨rfl, (hc39.2.1 hnf).2⟩, hPF.tr (hP34.tr hc39.2.2)⟩
  refine go_aload_n dX10_sum_0 rfl ?_
  refine go_iload_n dX10_sum_1 rfl ?_
  refine go_vI (ci := 9) dX10_sum_2 (hsub p n s tg μ hp0 hp8 hn0 hn8 (by omega) hM hop hke) ml_X10_283 mc_X10_term mv_X10_term rfl (by first | assumption | exact Nat.le_of_ble_eq_true rfl) (by first | assumption | rfl) rfl ⟨Nat.ble_eq_true_of_le (by dsimp only; omega), rfl⟩ ⟨Nat.le_refl _, Nat.le_refl _⟩ rfl rfl rfl (fun x2 μ2 hc2 => ?_)
  first | refine go_bnz (tgt := 10) dX10_sum_5 rfl (fun h5 => ?_) (fun h5 => ?_) | refine go_if_ne (tgt := 10) dX10_sum_5 rfl (fun h5 => ?_) (fun h5 => ?_)
  ·
    have hnf : rFl (rdL B N ke ky d 4 p n s) = -1000000005 := Decidable.byContradiction (fun h => h5 (hc2.2.1 h).1)
    obtain ⟨_, tg2, hMs⟩ := hc2.1 hnf
    exact go_drop (loop (N - rAt (rdL B N ke ky d 4 p n s)).toNat _ _ μ2 96 (by omega) (by have := hok.1; have := (gw_rd (B := B) (N := N) (ke := ke) (ky := ky) d 4 p n s (by decide) hok).2.1; omega) (by rw [rdL_l (by decide)]; rfl) hMs hc2.2.2 (by have := (gw_rd (B := B) (N := N) (ke := ke) (ky := ky) d 4 p n s (by decide) hok).2.1; omega)) rfl
  ·
    refine go_iconst dX10_sum_8 rfl ?_
    refine go_ri dX10_sum_9 (tyZ (by first | exact Or.inl rfl | exact Or.inr rfl | exact tv_01 | assumption)) ⟨Nat.le_refl _, Nat.le_refl _⟩ (?_)
    have hnf : rFl (rdL B N ke ky d 4 p n s) ≠ -1000000005 := fun h => by have := (hc2.1 h).1; omega
    have hrx : (rdL B N ke ky (d + 1) 3 p n s) = (rdL B N ke ky d 4 p n s) := by rw [rdL_l (by decide)]; exact lp_f hnf
    rw [hrx]
    exact ⟨fun h => absurd h hnf, fun _ => ⟨rfl, (hc2.2.1 hnf).2⟩, hc2.2.2⟩

set_option maxRecDepth 100000 in
set_option maxHeartbeats 4000000 in
theorem pm_term {l : Launch} {D : va_G} {cA : Nat → ClassId} {B : Int → Int} {N ke ky la : Int} (hN0 : 0 ≤ N) (hN1 : N ≤ 96) (hla : 0 ≤ la ∧ la ≤ 2922) (hky : 0 ≤ ky ∧ ky ≤ 2) {d : Nat} (hsub : (∀ (p n : Int) (s : RS) (tg : Prop) (μ : Mem), 0 ≤ p → p ≤ 8 → 0 ≤ n → n ≤ 8 → (8 - p) * 7 + (8 - n) + (6 - 5) + 1 ≤ (d : Nat) → MS B N μ s tg p n la → (tg ↔ skp B N (rAt s) = ke) → ke ≤ rAt s → CtN l D cA yX10_part0 cX10_part0 2 (some .boolean) (d + 3) [vr 87, vi ky] μ (Pi (PR B N μ (rdL B N ke ky d 5 p n s) p n la)))) : HL l D cA yX10_term cX10_term 3 B N ke ky la (d + 1) 4 := by
  intro p n s tg μ hp0 hp8 hn0 hn8 hd hM hop hke
  refine Ct.of (own := RX10) (by decide +kernel) rfl (fun σ => Nat.le_of_ble_eq_true rfl) (fun hM0 hP0 ha0 => ?_)
  obtain ⟨m87, r88, s88, r89, s89, r90, s90, r91, s91, r92, s92, r93, s93, r94, s94, r95, s95, r96, s96, r97, s97, r98, s98, r99, s99, r100, s100, r101, s101, r102, s102, r103, s103, r104, s104, r105, s105, r106, s106, r107, s107, r108, s108, r109, s109, r110, s110, r111, s111, r112, s112⟩ := md_f
  obtain ⟨⟨hB, hNN, hok, hfl, h27, h28, h29, h31, h30, hcd⟩, htk⟩ := id hM
  have hsk := skp_r (B := B) hok.2.1
  have loop : ∀ (m : Nat) (t : RS) (tg : Prop) (μ1 : Mem) (kf : Nat), N - rAt t ≤ (m : Nat) → N - rAt t ≤ (kf : Nat) → rdL B N ke ky (d + 1) 4 p n s = lpS B N 4 (rdL B N ke ky d 5 p n) kf t → MS B N μ1 t tg p n la → PF μ μ1 la → ke ≤ rAt t → Go l D cA none RX10 cX10_term 3 (some .boolean) (d + 1 + 4, 0, 0) (QN (Pi (PR B N μ (rdL B N ke ky (d + 1) 4 p n s) p n la))) 113 ρ0 0 0 10 [(0, vr 87), (1, vi ky)] [] μ1 := by
    intro m
    induction m with
    | zero =>
      intro t tg μ1 kf hm hkf hx hMt hPF hkt
      obtain ⟨⟨hB1, hN1e, hok1, hfl1, h27b, h28b, h29b, h31b, h30b, hcd1⟩, htt⟩ := id hMt
      have hsk1 := skp_r (B := B) hok1.2.1
      have hbN := hsk1.2
      have hr1 := hok1.1
      refine go_aload_n dX10_term_10 rfl ?_
      refine go_bipush dX10_term_11 rfl (by decide) ?_
      refine go_vI (ci := 9) dX10_term_13 (ct_X10_isSign _) ml_X10_267 mc_X10_isSign mv_X10_isSign rfl (by first | assumption | exact Nat.le_of_ble_eq_true rfl) (by first | assumption | rfl) rfl ⟨Nat.ble_eq_true_of_le (by dsimp only; omega), rfl⟩ ⟨Nat.le_refl _, Nat.le_refl _⟩ rfl rfl rfl (fun x13 μ13 hc13 => ?_)
      obtain ⟨rfl, hm13⟩ := hc13
      rw [hm13]
      first | refine go_bnz (tgt := 28) dX10_term_16 rfl (fun h16 => ?_) (fun h16 => ?_) | refine go_if_ne (tgt := 28) dX10_term_16 rfl (fun h16 => ?_) (fun h16 => ?_)
      ·
        exact absurd (tk_3 htt hbN h16.1).1 (by omega)
      ·
        refine go_aload_n dX10_term_19 rfl ?_
        refine go_bipush dX10_term_20 rfl (by decide) ?_
        refine go_vI (ci := 9) dX10_term_22 (ct_X10_isSign _) ml_X10_267 mc_X10_isSign mv_X10_isSign rfl (by first | assumption | exact Nat.le_of_ble_eq_true rfl) (by first | assumption | rfl) rfl ⟨Nat.ble_eq_true_of_le (by dsimp only; omega), rfl⟩ ⟨Nat.le_refl _, Nat.le_refl _⟩ rfl rfl rfl (fun x22 μ22 hc22 => ?_)
        obtain ⟨rfl, hm22⟩ := hc22
        rw [hm22]
        first | refine go_bz (tgt := 56) dX10_term_25 rfl (fun h25 => ?_) (fun h25 => ?_) | refine go_if_eq (tgt := 56) dX10_term_25 rfl (fun h25 => ?_) (fun h25 => ?_)
        ·
          refine go_iconst dX10_term_56 rfl ?_
          refine go_ri dX10_term_57 (tyZ (by first | exact Or.inl rfl | exact Or.inr rfl | exact tv_01 | assumption)) ⟨Nat.le_refl _, Nat.le_refl _⟩ (?_)
          have hnl : lvO (bA B N (skp B N (rAt t))) ≠ 4 := fun e => by
            have hcs : bA B N (skp B N (rAt t)) = 42 ∨ bA B N (skp B N (rAt t)) = 47 := by unfold lvO at e; split at e <;> (try split at e) <;> (try split at e) <;> (try split at e) <;> (try split at e) <;> omega
            rcases hcs with e2 | e2
            · exact h16 ((tk_s (c := 42) htt hbN (by decide) (by decide) (by decide)).mpr e2)
            · exact h25 ((tk_s (c := 47) htt hbN (by decide) (by decide) (by decide)).mpr e2)
          cases kf with
          | zero =>
            rw [show (rdL B N ke ky (d + 1) 4 p n s) = t from hx]
            exact ⟨fun _ => ⟨rfl, tg, hMt⟩, fun h => absurd hfl1 h, hPF⟩
          | succ kf =>
            have hrx : (rdL B N ke ky (d + 1) 4 p n s) = sAt t (skp B N (rAt t)) := by rw [hx, lpS_s, if_pos hfl1, if_neg hnl]
            rw [hrx]
            exact ⟨fun _ => ⟨rfl, tg, ms_at hMt⟩, fun h => absurd hfl1 h, hPF⟩
        ·
          exact absurd (tk_3 htt hbN h25.1).1 (by omega)
    | succ m ih =>
      intro t tg μ1 kf hm hkf hx hMt hPF hkt
      obtain ⟨⟨hB1, hN1e, hok1, hfl1, h27b, h28b, h29b, h31b, h30b, hcd1⟩, htt⟩ := id hMt
      have hsk1 := skp_r (B := B) hok1.2.1
      have hbN := hsk1.2
      have hr1 := hok1.1
      refine go_aload_n dX10_term_10 rfl ?_
      refine go_bipush dX10_term_11 rfl (by decide) ?_
      refine go_vI (ci := 9) dX10_term_13 (ct_X10_isSign _) ml_X10_267 mc_X10_isSign mv_X10_isSign rfl (by first | assumption | exact Nat.le_of_ble_eq_true rfl) (by first | assumption | rfl) rfl ⟨Nat.ble_eq_true_of_le (by dsimp only; omega), rfl⟩ ⟨Nat.le_refl _, Nat.le_refl _⟩ rfl rfl rfl (fun x13 μ13 hc13 => ?_)
      obtain ⟨rfl, hm13⟩ := hc13
      rw [hm13]
      first | refine go_bnz (tgt := 28) dX10_term_16 rfl (fun h16 => ?_) (fun h16 => ?_) | refine go_if_ne (tgt := 28) dX10_term_16 rfl (fun h16 => ?_) (fun h16 => ?_)
      ·
        have hs24 : μ1 87 24 = 3 := h16.1
        have hsg : bA B N (skp B N (rAt t)) = 42 := (tk_s (c := 42) htt hbN (by decide) (by decide) (by decide)).mp h16
        have hlv : lvO (bA B N (skp B N (rAt t))) = 4 := by rw [hsg]; decide
        have hcq := hsg
        have hlt : (skp B N (rAt t)) < N := bA_lt (B := B) (by omega)
        have hbe : μ1 87 23 = (skp B N (rAt t)) + 1 := by
          have := (tk_3 htt hbN hs24).2.2.2.2; exact this
        have hMo : MSo B N μ1 (sAt t ((skp B N (rAt t)) + 1)) p n la := ⟨hB1, hN1e, (gw_at hok1 (by omega) (by omega)).1, hfl1, h27b, h28b, h29b, h31b, h30b, hcd1⟩
        refine go_aload_n dX10_term_28 rfl ?_
        refine go_getI 26 dX10_term_29 fl_X10_245 (by first | assumption | exact Nat.le_of_ble_eq_true rfl) (by first | assumption | rfl) rfl rfl ?_
        try simp (disch := omega) only [ua_same, ua_ne, uf_same, uf_ne]
        rw [show μ1 87 26 = 42 from h16.2]
        refine go_istore_n dX10_term_32 rfl ?_
        refine go_aload_n dX10_term_33 rfl ?_
        refine go_vV (ci := 9) dX10_term_34 (ct_X10_nextToken (by rw [hN1e]; exact hN0) (by rw [hN1e]; exact hN1) (by rw [hbe]; omega) (by rw [hbe, hN1e]; omega)) ml_X10_270 mc_X10_nextToken mv_X10_nextToken rfl (by first | assumption | exact Nat.le_of_ble_eq_true rfl) (by first | assumption | rfl) rfl ⟨Nat.ble_eq_true_of_le (by dsimp only; omega), rfl⟩ ⟨Nat.le_refl _, Nat.le_refl _⟩ rfl rfl rfl (fun μ34 hc34 => ?_)
        obtain ⟨htk34, hf34⟩ := hc34
        obtain ⟨hM34, hP34⟩ := ms_nt hMo (by rw [hbe]; rfl) htk34 hf34
        refine go_aload_n dX10_term_37 rfl ?_
        refine go_iload_n dX10_term_38 rfl ?_
        refine go_vI (ci := 9) dX10_term_39 (hsub p n (sAt t ((skp B N (rAt t)) + 1)) _ μ34 hp0 hp8 hn0 hn8 (by omega) hM34 ⟨fun h => absurd h.1.2 (by omega), fun h => absurd h (by have := (skp_r (B := B) (p := (skp B N (rAt t)) + 1) (show (skp B N (rAt t)) + 1 ≤ N by omega)).1; show ¬ (skp B N ((skp B N (rAt t)) + 1) = ke); omega)⟩ (by show ke ≤ (skp B N (rAt t)) + 1; omega)) ml_X10_286 mc_X10_part0 mv_X10_part0 rfl (by first | assumption | exact Nat.le_of_ble_eq_true rfl) (by first | assumption | rfl) rfl ⟨Nat.ble_eq_true_of_le (by dsimp only; omega), rfl⟩ ⟨Nat.le_refl _, Nat.le_refl _⟩ rfl rfl rfl (fun x39 μ39 hc39 => ?_)
        first | refine go_bnz (tgt := 47) dX10_term_42 rfl (fun h42 => ?_) (fun h42 => ?_) | refine go_if_ne (tgt := 47) dX10_term_42 rfl (fun h42 => ?_) (fun h42 => ?_)
        ·
          have hnf : rFl (rdL B N ke ky d 5 p n (sAt t ((skp B N (rAt t)) + 1))) = -1000000005 := Decidable.byContradiction (fun h => h42 (hc39.2.1 h).1)
          obtain ⟨_, tg2, hMs⟩ := hc39.1 hnf
          obtain ⟨⟨hBc, hNc, hokc, _, h27c, h28c, h29c, h31c, h30c, hcdc⟩, htkc⟩ := id hMs
          have hl0 := hokc.2.2.1
          have hg3 := gw_rd (B := B) (N := N) (ke := ke) (ky := ky) d 5 p n (sAt t ((skp B N (rAt t)) + 1)) (by decide) (gw_at hok1 (by omega) (by omega)).1
          have hln : rLn (rdL B N ke ky d 5 p n (sAt t ((skp B N (rAt t)) + 1))) < 96 := by
            obtain ⟨⟨g1, g2, g3, g4, g5, g6⟩, e2, e3, e4⟩ := hg3
            simp only [rAt_sAt, rLn_sAt] at e2 e3 e4
            have := hok1.2.2.2.1
            omega
          refine go_aload_n dX10_term_47 rfl ?_
          refine go_iconst dX10_term_48 rfl ?_
          refine go_iload_n dX10_term_49 rfl ?_
          refine go_vV (ci := 9) dX10_term_50 (ct_X10_step _ _ ⟨by rw [h30c]; omega, by rw [h30c]; omega⟩ ⟨by rw [h29c]; omega, by rw [h29c]; omega⟩) ml_X10_273 mc_X10_step mv_X10_step rfl (by first | assumption | exact Nat.le_of_ble_eq_true rfl) (by first | assumption | rfl) rfl ⟨Nat.ble_eq_true_of_le (by dsimp only; omega), rfl⟩ ⟨Nat.le_refl _, Nat.le_refl _⟩ rfl rfl rfl (fun μ50 hc50 => ?_)
          rw [h30c, h29c] at hc50
          subst hc50
          refine go_goto (tgt := 10) dX10_term_53 rfl ?_
          have hgs := gw_s1 (c := -(bA B N (skp B N (rAt t)))) hok1 hsk1.1 hlt hg3
          have hMn : MS B N (ud (ud (ud μ39 88 (la + 2 * rLn (rdL B N ke ky d 5 p n (sAt t ((skp B N (rAt t)) + 1)))) 2) 88 (la + 2 * rLn (rdL B N ke ky d 5 p n (sAt t ((skp B N (rAt t)) + 1))) + 1) (42)) 87 29 (rLn (rdL B N ke ky d 5 p n (sAt t ((skp B N (rAt t)) + 1))) + 1)) (adC (rdL B N ke ky d 5 p n (sAt t ((skp B N (rAt t)) + 1))) (-(bA B N (skp B N (rAt t))))) tg2 p n la := by
            refine ⟨⟨hBc, ?_, hgs.1, hnf, ?_, ?_, ?_, ?_, ?_, ?_⟩, ?_⟩
            · simp (disch := omega) only [ua_same, ua_ne, uf_same, uf_ne]; exact hNc
            · simp (disch := omega) only [ua_same, ua_ne, uf_same, uf_ne]; exact h27c
            · simp (disch := omega) only [ua_same, ua_ne, uf_same, uf_ne]; exact h28c
            · simp (disch := omega) only [ua_same, ua_ne, uf_same, uf_ne]; rfl
            · simp (disch := omega) only [ua_same, ua_ne, uf_same, uf_ne]; exact h31c
            · simp (disch := omega) only [ua_same, ua_ne, uf_same, uf_ne]; exact h30c
            · have e88 : (ud (ud (ud μ39 88 (la + 2 * rLn (rdL B N ke ky d 5 p n (sAt t ((skp B N (rAt t)) + 1)))) 2) 88 (la + 2 * rLn (rdL B N ke ky d 5 p n (sAt t ((skp B N (rAt t)) + 1))) + 1) (42)) 87 29 (rLn (rdL B N ke ky d 5 p n (sAt t ((skp B N (rAt t)) + 1))) + 1)) 88 = uf (uf (μ39 88) (la + 2 * rLn (rdL B N ke ky d 5 p n (sAt t ((skp B N (rAt t)) + 1)))) 2) (la + 2 * rLn (rdL B N ke ky d 5 p n (sAt t ((skp B N (rAt t)) + 1))) + 1) (42) := by simp (disch := omega) only [ua_same, ua_ne, uf_same, uf_ne]
              rw [e88]; exact cd_ad hcdc hokc.2.2.1 (by rw [hsg]; rfl) (Or.inr (Or.inr ⟨rfl, by unfold sgN; omega⟩))
            · show tokR B N tg2 (skp B N (rAt (rdL B N ke ky d 5 p n (sAt t ((skp B N (rAt t)) + 1))))) ((ud (ud (ud μ39 88 (la + 2 * rLn (rdL B N ke ky d 5 p n (sAt t ((skp B N (rAt t)) + 1)))) 2) 88 (la + 2 * rLn (rdL B N ke ky d 5 p n (sAt t ((skp B N (rAt t)) + 1))) + 1) (42)) 87 29 (rLn (rdL B N ke ky d 5 p n (sAt t ((skp B N (rAt t)) + 1))) + 1)) 87)
              exact tok_29 htkc
          have hPn : PF μ (ud (ud (ud μ39 88 (la + 2 * rLn (rdL B N ke ky d 5 p n (sAt t ((skp B N (rAt t)) + 1)))) 2) 88 (la + 2 * rLn (rdL B N ke ky d 5 p n (sAt t ((skp B N (rAt t)) + 1))) + 1) (42)) 87 29 (rLn (rdL B N ke ky d 5 p n (sAt t ((skp B N (rAt t)) + 1))) + 1)) la := hPF.tr (hP34.tr (hc39.2.2.tr (pf_st (by omega) (by omega))))
          exact go_drop (ih (adC (rdL B N ke ky d 5 p n (sAt t ((skp B N (rAt t)) + 1))) (-(bA B N (skp B N (rAt t))))) tg2 _ (kf - 1) (by have := hgs.2.1; have e9 : rAt (adC (rdL B N ke ky d 5 p n (sAt t ((skp B N (rAt t)) + 1))) (-(bA B N (skp B N (rAt t))))) = rAt (rdL B N ke ky d 5 p n (sAt t ((skp B N (rAt t)) + 1))) := rfl; have e8 := hg3.2.1; simp only [rAt_sAt] at e8; omega) (by have e9 : rAt (adC (rdL B N ke ky d 5 p n (sAt t ((skp B N (rAt t)) + 1))) (-(bA B N (skp B N (rAt t))))) = rAt (rdL B N ke ky d 5 p n (sAt t ((skp B N (rAt t)) + 1))) := rfl; have e8 := hg3.2.1; simp only [rAt_sAt] at e8; omega) (by rw [hx, show kf = (kf - 1) + 1 by omega, lpS_s, if_pos hfl1, if_pos hlv]; rfl) hMn hPn (by have e9 : rAt (adC (rdL B N ke ky d 5 p n (sAt t ((skp B N (rAt t)) + 1))) (-(bA B N (skp B N (rAt t))))) = rAt (rdL B N ke ky d 5 p n (sAt t ((skp B N (rAt t)) + 1))) := rfl; have e8 := hg3.2.1; simp only [rAt_sAt] at e8; omega)) rfl
        ·
          refine go_iconst dX10_term_45 rfl ?_
          refine go_ri dX10_term_46 (tyZ (by first | exact Or.inl rfl | exact Or.inr rfl | exact tv_01 | assumption)) ⟨Nat.le_refl _, Nat.le_refl _⟩ (?_)
          have hnf : rFl (rdL B N ke ky d 5 p n (sAt t ((skp B N (rAt t)) + 1))) ≠ -1000000005 := fun h => by have := (hc39.1 h).1; omega
          have hrx : (rdL B N ke ky (d + 1) 4 p n s) = adC (rdL B N ke ky d 5 p n (sAt t ((skp B N (rAt t)) + 1))) (-(bA B N (skp B N (rAt t)))) := by rw [hx, show kf = (kf - 1) + 1 by omega, lpS_s, if_pos hfl1, if_pos hlv, lp_f (by exact hnf)]
          rw [hrx]
          exact ⟨fun h => absurd h hnf, fun _ => ⟨rfl, (hc39.2.1 hnf).2⟩, hPF.tr (hP34.tr hc39.2.2)⟩
      ·
        refine go_aload_n dX10_term_19 rfl ?_
        refine go_bipush dX10_term_20 rfl (by decide) ?_
        refine go_vI (ci := 9) dX10_term_22 (ct_X10_isSign _) ml_X10_267 mc_X10_isSign mv_X10_isSign rfl (by first | assumption | exact Nat.le_of_ble_eq_true rfl) (by first | assumption | rfl) rfl ⟨Nat.ble_eq_true_of_le (by dsimp only; omega), rfl⟩ ⟨Nat.le_refl _, Nat.le_refl _⟩ rfl rfl rfl (fun x22 μ22 hc22 => ?_)
        obtain ⟨rfl, hm22⟩ := hc22
        rw [hm22]
        first | refine go_bz (tgt := 56) dX10_term_25 rfl (fun h25 => ?_) (fun h25 => ?_) | refine go_if_eq (tgt := 56) dX10_term_25 rfl (fun h25 => ?_) (fun h25 => ?_)
        ·
          refine go_iconst dX10_term_56 rfl ?_
          refine go_ri dX10_term_57 (tyZ (by first | exact Or.inl rfl | exact Or.inr rfl | exact tv_01 | assumption)) ⟨Nat.le_refl _, Nat.le_refl _⟩ (?_)
          have hnl : lvO (bA B N (skp B N (rAt t))) ≠ 4 := fun e => by
            have hcs : bA B N (skp B N (rAt t)) = 42 ∨ bA B N (skp B N (rAt t)) = 47 := by unfold lvO at e; split at e <;> (try split at e) <;> (try split at e) <;> (try split at e) <;> (try split at e) <;> omega
            rcases hcs with e2 | e2
            · exact h16 ((tk_s (c := 42) htt hbN (by decide) (by decide) (by decide)).mpr e2)
            · exact h25 ((tk_s (c := 47) htt hbN (by decide) (by decide) (by decide)).mpr e2)
          cases kf with
          | zero =>
            rw [show (rdL B N ke ky (d + 1) 4 p n s) = t from hx]
            exact ⟨fun _ => ⟨rfl, tg, hMt⟩, fun h => absurd hfl1 h, hPF⟩
          | succ kf =>
            have hrx : (rdL B N ke ky (d + 1) 4 p n s) = sAt t (skp B N (rAt t)) := by rw [hx, lpS_s, if_pos hfl1, if_neg hnl]
            rw [hrx]
            exact ⟨fun _ => ⟨rfl, tg, ms_at hMt⟩, fun h => absurd hfl1 h, hPF⟩
        ·
          have hs24 : μ1 87 24 = 3 := h25.1
          have hsg : bA B N (skp B N (rAt t)) = 47 := (tk_s (c := 47) htt hbN (by decide) (by decide) (by decide)).mp h25
          have hlv : lvO (bA B N (skp B N (rAt t))) = 4 := by rw [hsg]; decide
          have hcq := hsg
          have hlt : (skp B N (rAt t)) < N := bA_lt (B := B) (by omega)
          have hbe : μ1 87 23 = (skp B N (rAt t)) + 1 := by
            have := (tk_3 htt hbN hs24).2.2.2.2; exact this
          have hMo : MSo B N μ1 (sAt t ((skp B N (rAt t)) + 1)) p n la := ⟨hB1, hN1e, (gw_at hok1 (by omega) (by omega)).1, hfl1, h27b, h28b, h29b, h31b, h30b, hcd1⟩
          refine go_aload_n dX10_term_28 rfl ?_
          refine go_getI 26 dX10_term_29 fl_X10_245 (by first | assumption | exact Nat.le_of_ble_eq_true rfl) (by first | assumption | rfl) rfl rfl ?_
          try simp (disch := omega) only [ua_same, ua_ne, uf_same, uf_ne]
          rw [show μ1 87 26 = 47 from h25.2]
          refine go_istore_n dX10_term_32 rfl ?_
          refine go_aload_n dX10_term_33 rfl ?_
          refine go_vV (ci := 9) dX10_term_34 (ct_X10_nextToken (by rw [hN1e]; exact hN0) (by rw [hN1e]; exact hN1) (by rw [hbe]; omega) (by rw [hbe, hN1e]; omega)) ml_X10_270 mc_X10_nextToken mv_X10_nextToken rfl (by first | assumption | exact Nat.le_of_ble_eq_true rfl) (by first | assumption | rfl) rfl ⟨Nat.ble_eq_true_of_le (by dsimp only; omega), rfl⟩ ⟨Nat.le_refl _, Nat.le_refl _⟩ rfl rfl rfl (fun μ34 hc34 => ?_)
          obtain ⟨htk34, hf34⟩ := hc34
          obtain ⟨hM34, hP34⟩ := ms_nt hMo (by rw [hbe]; rfl) htk34 hf34
          refine go_aload_n dX10_term_37 rfl ?_
          refine go_iload_n dX10_term_38 rfl ?_
          refine go_vI (ci := 9) dX10_term_39 (hsub p n (sAt t ((skp B N (rAt t)) + 1)) _ μ34 hp0 hp8 hn0 hn8 (by omega) hM34 ⟨fun h => absurd h.1.2 (by omega), fun h => absurd h (by have := (skp_r (B := B) (p := (skp B N (rAt t)) + 1) (show (skp B N (rAt t)) + 1 ≤ N by omega)).1; show ¬ (skp B N ((skp B N (rAt t)) + 1) = ke); omega)⟩ (by show ke ≤ (skp B N (rAt t)) + 1; omega)) ml_X10_286 mc_X10_part0 mv_X10_part0 rfl (by first | assumption | exact Nat.le_of_ble_eq_true rfl) (by first | assumption | rfl) rfl ⟨Nat.ble_eq_true_of_le (by dsimp only; omega), rfl⟩ ⟨Nat.le_refl _, Nat.le_refl _⟩ rfl rfl rfl (fun x39 μ39 hc39 => ?_)
          first | refine go_bnz (tgt := 47) dX10_term_42 rfl (fun h42 => ?_) (fun h42 => ?_) | refine go_if_ne (tgt := 47) dX10_term_42 rfl (fun h42 => ?_) (fun h42 => ?_)
          ·
            have hnf : rFl (rdL B N ke ky d 5 p n (sAt t ((skp B N (rAt t)) + 1))) = -1000000005 := Decidable.byContradiction (fun h => h42 (hc39.2.1 h).1)
            obtain ⟨_, tg2, hMs⟩ := hc39.1 hnf
            obtain ⟨⟨hBc, hNc, hokc, _, h27c, h28c, h29c, h31c, h30c, hcdc⟩, htkc⟩ := id hMs
            have hl0 := hokc.2.2.1
            have hg3 := gw_rd (B := B) (N := N) (ke := ke) (ky := ky) d 5 p n (sAt t ((skp B N (rAt t)) + 1)) (by decide) (gw_at hok1 (by omega) (by omega)).1
            have hln : rLn (rdL B N ke ky d 5 p n (sAt t ((skp B N (rAt t)) + 1))) < 96 := by
              obtain ⟨⟨g1, g2, g3, g4, g5, g6⟩, e2, e3, e4⟩ := hg3
              simp only [rAt_sAt, rLn_sAt] at e2 e3 e4
              have := hok1.2.2.2.1
              omega
            refine go_aload_n dX10_term_47 rfl ?_
            refine go_iconst dX10_term_48 rfl ?_
            refine go_iload_n dX10_term_49 rfl ?_
            refine go_vV (ci := 9) dX10_term_50 (ct_X10_step _ _ ⟨by rw [h30c]; omega, by rw [h30c]; omega⟩ ⟨by rw [h29c]; omega, by rw [h29c]; omega⟩) ml_X10_273 mc_X10_step mv_X10_step rfl (by first | assumption | exact Nat.le_of_ble_eq_true rfl) (by first | assumption | rfl) rfl ⟨Nat.ble_eq_true_of_le (by dsimp only; omega), rfl⟩ ⟨Nat.le_refl _, Nat.le_refl _⟩ rfl rfl rfl (fun μ50 hc50 => ?_)
            rw [h30c, h29c] at hc50
            subst hc50
            refine go_goto (tgt := 10) dX10_term_53 rfl ?_
            have hgs := gw_s1 (c := -(bA B N (skp B N (rAt t)))) hok1 hsk1.1 hlt hg3
            have hMn : MS B N (ud (ud (ud μ39 88 (la + 2 * rLn (rdL B N ke ky d 5 p n (sAt t ((skp B N (rAt t)) + 1)))) 2) 88 (la + 2 * rLn (rdL B N ke ky d 5 p n (sAt t ((skp B N (rAt t)) + 1))) + 1) (47)) 87 29 (rLn (rdL B N ke ky d 5 p n (sAt t ((skp B N (rAt t)) + 1))) + 1)) (adC (rdL B N ke ky d 5 p n (sAt t ((skp B N (rAt t)) + 1))) (-(bA B N (skp B N (rAt t))))) tg2 p n la := by
              refine ⟨⟨hBc, ?_, hgs.1, hnf, ?_, ?_, ?_, ?_, ?_, ?_⟩, ?_⟩
              · simp (disch := omega) only [ua_same, ua_ne, uf_same, uf_ne]; exact hNc
              · simp (disch := omega) only [ua_same, ua_ne, uf_same, uf_ne]; exact h27c
              · simp (disch := omega) only [ua_same, ua_ne, uf_same, uf_ne]; exact h28c
              · simp (disch := omega) only [ua_same, ua_ne, uf_same, uf_ne]; rfl
              · simp (disch := omega) only [ua_same, ua_ne, uf_same, uf_ne]; exact h31c
              · simp (disch := omega) only [ua_same, ua_ne, uf_same, uf_ne]; exact h30c
              · have e88 : (ud (ud (ud μ39 88 (la + 2 * rLn (rdL B N ke ky d 5 p n (sAt t ((skp B N (rAt t)) + 1)))) 2) 88 (la + 2 * rLn (rdL B N ke ky d 5 p n (sAt t ((skp B N (rAt t)) + 1))) + 1) (47)) 87 29 (rLn (rdL B N ke ky d 5 p n (sAt t ((skp B N (rAt t)) + 1))) + 1)) 88 = uf (uf (μ39 88) (la + 2 * rLn (rdL B N ke ky d 5 p n (sAt t ((skp B N (rAt t)) + 1)))) 2) (la + 2 * rLn (rdL B N ke ky d 5 p n (sAt t ((skp B N (rAt t)) + 1))) + 1) (47) := by simp (disch := omega) only [ua_same, ua_ne, uf_same, uf_ne]
                rw [e88]; exact cd_ad hcdc hokc.2.2.1 (by rw [hsg]; rfl) (Or.inr (Or.inr ⟨rfl, by unfold sgN; omega⟩))
              · show tokR B N tg2 (skp B N (rAt (rdL B N ke ky d 5 p n (sAt t ((skp B N (rAt t)) + 1))))) ((ud (ud (ud μ39 88 (la + 2 * rLn (rdL B N ke ky d 5 p n (sAt t ((skp B N (rAt t)) + 1)))) 2) 88 (la + 2 * rLn (rdL B N ke ky d 5 p n (sAt t ((skp B N (rAt t)) + 1))) + 1) (47)) 87 29 (rLn (rdL B N ke ky d 5 p n (sAt t ((skp B N (rAt t)) + 1))) + 1)) 87)
                exact tok_29 htkc
            have hPn : PF μ (ud (ud (ud μ39 88 (la + 2 * rLn (rdL B N ke ky d 5 p n (sAt t ((skp B N (rAt t)) + 1)))) 2) 88 (la + 2 * rLn (rdL B N ke ky d 5 p n (sAt t ((skp B N (rAt t)) + 1))) + 1) (47)) 87 29 (rLn (rdL B N ke ky d 5 p n (sAt t ((skp B N (rAt t)) + 1))) + 1)) la := hPF.tr (hP34.tr (hc39.2.2.tr (pf_st (by omega) (by omega))))
            exact go_drop (ih (adC (rdL B N ke ky d 5 p n (sAt t ((skp B N (rAt t)) + 1))) (-(bA B N (skp B N (rAt t))))) tg2 _ (kf - 1) (by have := hgs.2.1; have e9 : rAt (adC (rdL B N ke ky d 5 p n (sAt t ((skp B N (rAt t)) + 1))) (-(bA B N (skp B N (rAt t))))) = rAt (rdL B N ke ky d 5 p n (sAt t ((skp B N (rAt t)) + 1))) := rfl; have e8 := hg3.2.1; simp only [rAt_sAt] at e8; omega) (by have e9 : rAt (adC (rdL B N ke ky d 5 p n (sAt t ((skp B N (rAt t)) + 1))) (-(bA B N (skp B N (rAt t))))) = rAt (rdL B N ke ky d 5 p n (sAt t ((skp B N (rAt t)) + 1))) := rfl; have e8 := hg3.2.1; simp only [rAt_sAt] at e8; omega) (by rw [hx, show kf = (kf - 1) + 1 by omega, lpS_s, if_pos hfl1, if_pos hlv]; rfl) hMn hPn (by have e9 : rAt (adC (rdL B N ke ky d 5 p n (sAt t ((skp B N (rAt t)) + 1))) (-(bA B N (skp B N (rAt t))))) = rAt (rdL B N ke ky d 5 p n (sAt t ((skp B N (rAt t)) + 1))) := rfl; have e8 := hg3.2.1; simp only [rAt_sAt] at e8; omega)) rfl
          ·
            refine go_iconst dX10_term_45 rfl ?_
            refine go_ri dX10_term_46 (tyZ (by first | exact Or.inl rfl | exact Or.inr rfl | exact tv_01 | assumption)) ⟨Nat.le_refl _, Nat.le_refl _⟩ (?_)
            have hnf : rFl (rdL B N ke ky d 5 p n (sAt t ((skp B N (rAt t)) + 1))) ≠ -1000000005 := fun h => by have := (hc39.1 h).1; omega
            have hrx : (rdL B N ke ky (d + 1) 4 p n s) = adC (rdL B N ke ky d 5 p n (sAt t ((skp B N (rAt t)) + 1))) (-(bA B N (skp B N (rAt t)))) := by rw [hx, show kf = (kf - 1) + 1 by omega, lpS_s, if_pos hfl1, if_pos hlv, lp_f (by exact hnf)]
            rw [hrx]
            exact ⟨fun h => absurd h hnf, fun _ => ⟨rfl, (hc39.2.1 hnf).2⟩, hPF.tr (hP34.tr hc39.2.2)⟩
  refine go_aload_n dX10_term_0 rfl ?_
  refine go_iload_n dX10_term_1 rfl ?_
  refine go_vI (ci := 9) dX10_term_2 (hsub p n s tg μ hp0 hp8 hn0 hn8 (by omega) hM hop hke) ml_X10_286 mc_X10_part0 mv_X10_part0 rfl (by first | assumption | exact Nat.le_of_ble_eq_true rfl) (by first | assumption | rfl) rfl ⟨Nat.ble_eq_true_of_le (by dsimp only; omega), rfl⟩ ⟨Nat.le_refl _, Nat.le_refl _⟩ rfl rfl rfl (fun x2 μ2 hc2 => ?_)
  first | refine go_bnz (tgt := 10) dX10_term_5 rfl (fun h5 => ?_) (fun h5 => ?_) | refine go_if_ne (tgt := 10) dX10_term_5 rfl (fun h5 => ?_) (fun h5 => ?_)
  ·
    have hnf : rFl (rdL B N ke ky d 5 p n s) = -1000000005 := Decidable.byContradiction (fun h => h5 (hc2.2.1 h).1)
    obtain ⟨_, tg2, hMs⟩ := hc2.1 hnf
    exact go_drop (loop (N - rAt (rdL B N ke ky d 5 p n s)).toNat _ _ μ2 96 (by omega) (by have := hok.1; have := (gw_rd (B := B) (N := N) (ke := ke) (ky := ky) d 5 p n s (by decide) hok).2.1; omega) (by rw [rdL_l (by decide)]; rfl) hMs hc2.2.2 (by have := (gw_rd (B := B) (N := N) (ke := ke) (ky := ky) d 5 p n s (by decide) hok).2.1; omega)) rfl
  ·
    refine go_iconst dX10_term_8 rfl ?_
    refine go_ri dX10_term_9 (tyZ (by first | exact Or.inl rfl | exact Or.inr rfl | exact tv_01 | assumption)) ⟨Nat.le_refl _, Nat.le_refl _⟩ (?_)
    have hnf : rFl (rdL B N ke ky d 5 p n s) ≠ -1000000005 := fun h => by have := (hc2.1 h).1; omega
    have hrx : (rdL B N ke ky (d + 1) 4 p n s) = (rdL B N ke ky d 5 p n s) := by rw [rdL_l (by decide)]; exact lp_f hnf
    rw [hrx]
    exact ⟨fun h => absurd h hnf, fun _ => ⟨rfl, (hc2.2.1 hnf).2⟩, hc2.2.2⟩

