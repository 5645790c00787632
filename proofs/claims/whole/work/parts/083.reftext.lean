/-! THE REFERENCE: parse, text -/
theorem wE1_stop {q : Int → Bool} : ∀ (n : Nat) (p : Int), wE1 q n p = p + (n : Nat) ∨ ¬ q (wE1 q n p) = true
  | 0, p => Or.inl (by unfold wE1; omega)
  | n + 1, p => by
    unfold wE1
    by_cases e : q p = true
    · rw [if_pos e]
      rcases wE1_stop (q := q) n (p + 1) with h | h
      · exact Or.inl (by omega)
      · exact Or.inr h
    · rw [if_neg e]; exact Or.inr e
theorem wEd_nl {B : Int → Int} {N p : Int} (h : qLt B N p = true) (hp : p ≤ N) : ¬ qLt B N (wEd B N p) = true := by
  have e : wEd B N p = wE1 (qLt B N) (N - p).toNat p := if_neg (dg_lt h)
  rw [e]
  rcases wE1_stop (q := qLt B N) (N - p).toNat p with q | q
  · rw [q]
    refine qLt_f ?_
    have : bA B N (p + ((N - p).toNat : Nat)) = -1000000005 := if_neg (by omega)
    rw [this]; decide
  · exact q
theorem tok_23 {B : Int → Int} {N : Int} {tg : Prop} {b : Int} {r : Int → Int} (h : tokR B N tg b r) (hb : b ≤ N) : b ≤ r 23 ∧ r 23 ≤ N := by
  obtain ⟨h22, hE, hL, hD, hS⟩ := h
  have hw := wEd_r (B := B) hb
  by_cases e : b = N
  · have := (hE e).2; omega
  · by_cases eL : qLt B N b = true
    · have := (hL (by omega) eL).1; omega
    · by_cases eD : qDg B N b = true
      · have := (hD (by omega) eD).1; omega
      · have := (hS (by omega) eL eD).2.2; omega
theorem kyC_0 {B : Int → Int} {b e : Int} (h : wdP 0 B b e) : kyC B b e = 0 := if_pos h
theorem kyC_1 {B : Int → Int} {b e : Int} (h0 : ¬ wdP 0 B b e) (h : wdP 1 B b e) : kyC B b e = 1 := (if_neg h0).trans (if_pos h)
theorem kyC_2 {B : Int → Int} {b e : Int} (h0 : ¬ wdP 0 B b e) (h1 : ¬ wdP 1 B b e) (h : wdP 2 B b e) : kyC B b e = 2 := (if_neg h0).trans ((if_neg h1).trans (if_pos h))
theorem kyC_n {B : Int → Int} {b e : Int} (h0 : ¬ wdP 0 B b e) (h1 : ¬ wdP 1 B b e) (h : ¬ wdP 2 B b e) : kyC B b e = -1 := (if_neg h0).trans ((if_neg h1).trans (if_neg h))
theorem wd_0 {B : Int → Int} {b e : Int} : wdP 0 B b e ↔ e - b = 4 ∧ B b = 114 ∧ B (b + 1) = 105 ∧ B (b + 2) = 115 ∧ B (b + 3) = 107 := by
  unfold wdP
  rw [show wB 0 0 = 114 by decide, show wB 0 1 = 105 by decide, show wB 0 2 = 115 by decide, show wB 0 3 = 107 by decide, show b + 0 = b by omega]
theorem wd_1 {B : Int → Int} {b e : Int} : wdP 1 B b e ↔ e - b = 4 ∧ B b = 104 ∧ B (b + 1) = 111 ∧ B (b + 2) = 108 ∧ B (b + 3) = 100 := by
  unfold wdP
  rw [show wB 1 0 = 104 by decide, show wB 1 1 = 111 by decide, show wB 1 2 = 108 by decide, show wB 1 3 = 100 by decide, show b + 0 = b by omega]
theorem wd_2 {B : Int → Int} {b e : Int} : wdP 2 B b e ↔ e - b = 4 ∧ B b = 115 ∧ B (b + 1) = 116 ∧ B (b + 2) = 101 ∧ B (b + 3) = 112 := by
  unfold wdP
  rw [show wB 2 0 = 115 by decide, show wB 2 1 = 116 by decide, show wB 2 2 = 101 by decide, show wB 2 3 = 112 by decide, show b + 0 = b by omega]
theorem kyM_1 {B : Int → Int} {b e : Int} : kyM 1 b e B = kyC B b e := by
  unfold kyM
  by_cases h0 : wdP 0 B b e
  · rw [kyC_0 h0, if_pos ⟨rfl, wd_0.mp h0⟩]
  · rw [if_neg (fun q => h0 (wd_0.mpr q.2))]
    by_cases h1 : wdP 1 B b e
    · rw [kyC_1 h0 h1, if_pos ⟨rfl, wd_1.mp h1⟩]
    · rw [if_neg (fun q => h1 (wd_1.mpr q.2))]
      by_cases h2 : wdP 2 B b e
      · rw [kyC_2 h0 h1 h2, if_pos ⟨rfl, wd_2.mp h2⟩]
      · rw [kyC_n h0 h1 h2, if_neg (fun q => h2 (wd_2.mpr q.2))]
theorem kyM_n {B : Int → Int} {k b e : Int} (h : k ≠ 1) : kyM k b e B = -1 := by
  unfold kyM
  rw [if_neg (fun q => h q.1), if_neg (fun q => h q.1), if_neg (fun q => h q.1)]
theorem ky_eq {B : Int → Int} {N : Int} {tg : Prop} {b : Int} {r : Int → Int} (h : tokR B N tg b r) (ht : ¬ tg) (hb : b ≤ N) : kyM (r 24) (r 22) (r 23) B = kyC B b (wEd B N b) ∧ (kyC B b (wEd B N b) ≠ -1 → r 24 = 1 ∧ r 23 = wEd B N b ∧ b < N ∧ qLt B N b = true) := by
  obtain ⟨h22, hE, hL, hD, hS⟩ := h
  have hw := wEd_r (B := B) hb
  by_cases hy : b < N ∧ qLt B N b = true
  · obtain ⟨y1, _, y2, _⟩ := hL hy.1 hy.2
    have y3 := y2 ht
    rw [y3, y1, h22]
    exact ⟨kyM_1, fun _ => ⟨rfl, rfl, hy.1, hy.2⟩⟩
  · have hn : ∀ w, w < 3 → ¬ wdP w B b (wEd B N b) := by
      intro w hw3 q
      by_cases e : b < N
      · have hq := q.2.1
        rw [show b + 0 = b by omega] at hq
        have := wB_r w hw3 0 (by decide)
        have hbb : bA B N b = B b := if_pos e
        exact hy ⟨e, qLt_t (by omega)⟩
      · have := q.1; omega
    have hk := kyC_n (hn 0 (by decide)) (hn 1 (by decide)) (hn 2 (by decide))
    have h24 : r 24 ≠ 1 := by
      by_cases e : b = N
      · have := (hE e).1; omega
      · have eL : ¬ qLt B N b = true := fun q => hy ⟨by omega, q⟩
        by_cases eD : qDg B N b = true
        · obtain ⟨d1, d2, d3⟩ := hD (by omega) eD
          by_cases h4 : 4 < wEd B N b - b
          · have := d2 (Or.inr h4); omega
          · have := (d3 ⟨ht, by omega⟩).1; omega
        · have := (hS (by omega) eL eD).1; omega
    rw [hk, kyM_n h24]
    exact ⟨rfl, fun q => absurd rfl q⟩
theorem tok_0 {B : Int → Int} {N : Int} {tg : Prop} {b : Int} {r : Int → Int} (h : tokR B N tg b r) (hb : b ≤ N) : r 24 = 0 ↔ ¬ b < N := by
  obtain ⟨h22, hE, hL, hD, hS⟩ := h
  constructor
  · intro h0 e
    by_cases eL : qLt B N b = true
    · obtain ⟨a1, t1, t2, a4⟩ := hL e eL
      by_cases ht : tg
      · have := t1 ht; omega
      · have := t2 ht; omega
    · by_cases eD : qDg B N b = true
      · obtain ⟨d1, d2, d3⟩ := hD e eD
        by_cases ht : tg ∨ 4 < wEd B N b - b
        · have := d2 ht; omega
        · have ht1 : ¬ tg := fun q => ht (Or.inl q)
          have ht2 : wEd B N b - b ≤ 4 := by have : ¬ 4 < wEd B N b - b := fun q => ht (Or.inr q); omega
          have := (d3 ⟨ht1, ht2⟩).1; omega
      · have := (hS e eL eD).1; omega
  · intro e; exact (hE (by omega)).1
def lA (t : Int) : Int := if t < 14 then 122 + 200 * t + 4 else 2922
theorem lA_r {t : Int} (h0 : 0 ≤ t) (h1 : t ≤ 14) : 126 ≤ lA t ∧ lA t ≤ 2922 := by unfold lA; split <;> omega

set_option maxRecDepth 100000 in
set_option maxHeartbeats 4000000 in
theorem ct_X10_parse {l : Launch} {D : va_G} {cA : Nat → ClassId} {μ : Mem} {co : Int → Int} (hN0 : 0 ≤ μ 87 21) (hN1 : μ 87 21 ≤ 96) (ht0 : 0 ≤ μ 88 1) (ht1 : μ 88 1 ≤ 14) : CtN l D cA yX10_parse cX10_parse 3 (some .int) 77 [vr 87] μ (Pi (fun x μ' => ((ftV (μ 107) (μ 87 21) co) = -1000000005 → x = kyB (μ 107) (μ 87 21) ∧ μ' 87 31 = rPc (rdB (μ 107) (μ 87 21) co) ∧ μ' 87 29 = rLn (rdB (μ 107) (μ 87 21) co) ∧ cdM (μ' 88) (lA (μ 88 1)) (rdB (μ 107) (μ 87 21) co)) ∧ ((ftV (μ 107) (μ 87 21) co) ≠ -1000000005 → x = -1 ∧ μ' 87 22 = (ftV (μ 107) (μ 87 21) co)) ∧ μ' 87 21 = 0 ∧ (∀ q, q ≠ 87 → q ≠ 88 → μ' q = μ q) ∧ (∀ k, (k < 21 ∨ 31 < k) → μ' 87 k = μ 87 k) ∧ ∀ j, (j < (lA (μ 88 1)) ∨ (lA (μ 88 1)) + 192 ≤ j) → μ' 88 j = μ 88 j)) := by
  refine Ct.of (own := RX10) (by decide +kernel) rfl (fun σ => Nat.le_of_ble_eq_true rfl) (fun hM hP ha => ?_)
  obtain ⟨m87, r88, s88, r89, s89, r90, s90, r91, s91, r92, s92, r93, s93, r94, s94, r95, s95, r96, s96, r97, s97, r98, s98, r99, s99, r100, s100, r101, s101, r102, s102, r103, s103, r104, s104, r105, s105, r106, s106, r107, s107, r108, s108, r109, s109, r110, s110, r111, s111, r112, s112⟩ := md_f
  have hlr := lA_r ht0 ht1
  have k60 : ∀ la : Int, la = (lA (μ 88 1)) → Go l D cA none RX10 cX10_parse 3 (some .int) (77, 0, 0) (QN (Pi (fun x μ' => ((ftV (μ 107) (μ 87 21) co) = -1000000005 → x = kyB (μ 107) (μ 87 21) ∧ μ' 87 31 = rPc (rdB (μ 107) (μ 87 21) co) ∧ μ' 87 29 = rLn (rdB (μ 107) (μ 87 21) co) ∧ cdM (μ' 88) (lA (μ 88 1)) (rdB (μ 107) (μ 87 21) co)) ∧ ((ftV (μ 107) (μ 87 21) co) ≠ -1000000005 → x = -1 ∧ μ' 87 22 = (ftV (μ 107) (μ 87 21) co)) ∧ μ' 87 21 = 0 ∧ (∀ q, q ≠ 87 → q ≠ 88 → μ' q = μ q) ∧ (∀ k, (k < 21 ∨ 31 < k) → μ' 87 k = μ 87 k) ∧ ∀ j, (j < (lA (μ 88 1)) ∨ (lA (μ 88 1)) + 192 ≤ j) → μ' 88 j = μ 88 j))) 113 ρ0 0 0 60 [(0, vr 87)] [vi la, vr 87] (ud (ud (ud (ud (ud (ud μ 87 23 0) 87 24 3) 87 27 0) 87 28 0) 87 29 0) 87 31 0) := by
    intro la hla
    refine go_putI 30 dX10_parse_60 pl_X10_258 (by first | assumption | exact Nat.le_of_ble_eq_true rfl) (by first | assumption | rfl) rfl rfl ?_
    have a21 : (ud (ud (ud (ud (ud (ud (ud μ 87 23 0) 87 24 3) 87 27 0) 87 28 0) 87 29 0) 87 31 0) 87 30 la) 87 21 = μ 87 21 := by simp (disch := omega) only [ud, ua_same, ua_ne, uf_same, uf_ne]
    have a23 : (ud (ud (ud (ud (ud (ud (ud μ 87 23 0) 87 24 3) 87 27 0) 87 28 0) 87 29 0) 87 31 0) 87 30 la) 87 23 = 0 := by simp (disch := omega) only [ud, ua_same, ua_ne, uf_same, uf_ne]
    have a24 : (ud (ud (ud (ud (ud (ud (ud μ 87 23 0) 87 24 3) 87 27 0) 87 28 0) 87 29 0) 87 31 0) 87 30 la) 87 24 = 3 := by simp (disch := omega) only [ud, ua_same, ua_ne, uf_same, uf_ne]
    have a27 : (ud (ud (ud (ud (ud (ud (ud μ 87 23 0) 87 24 3) 87 27 0) 87 28 0) 87 29 0) 87 31 0) 87 30 la) 87 27 = 0 := by simp (disch := omega) only [ud, ua_same, ua_ne, uf_same, uf_ne]
    have a28 : (ud (ud (ud (ud (ud (ud (ud μ 87 23 0) 87 24 3) 87 27 0) 87 28 0) 87 29 0) 87 31 0) 87 30 la) 87 28 = 0 := by simp (disch := omega) only [ud, ua_same, ua_ne, uf_same, uf_ne]
    have a29 : (ud (ud (ud (ud (ud (ud (ud μ 87 23 0) 87 24 3) 87 27 0) 87 28 0) 87 29 0) 87 31 0) 87 30 la) 87 29 = 0 := by simp (disch := omega) only [ud, ua_same, ua_ne, uf_same, uf_ne]
    have a31 : (ud (ud (ud (ud (ud (ud (ud μ 87 23 0) 87 24 3) 87 27 0) 87 28 0) 87 29 0) 87 31 0) 87 30 la) 87 31 = 0 := by simp (disch := omega) only [ud, ua_same, ua_ne, uf_same, uf_ne]
    have a30 : (ud (ud (ud (ud (ud (ud (ud μ 87 23 0) 87 24 3) 87 27 0) 87 28 0) 87 29 0) 87 31 0) 87 30 la) 87 30 = la := by simp (disch := omega) only [ud, ua_same, ua_ne, uf_same, uf_ne]
    have aq : ∀ q, q ≠ 87 → (ud (ud (ud (ud (ud (ud (ud μ 87 23 0) 87 24 3) 87 27 0) 87 28 0) 87 29 0) 87 31 0) 87 30 la) q = μ q := fun q h => by rw [ud_n h, ud_n h, ud_n h, ud_n h, ud_n h, ud_n h, ud_n h]
    have ak : ∀ k, (k < 22 ∨ 31 < k) → (ud (ud (ud (ud (ud (ud (ud μ 87 23 0) 87 24 3) 87 27 0) 87 28 0) 87 29 0) 87 31 0) 87 30 la) 87 k = μ 87 k := fun k h => by simp (disch := omega) only [ud, ua_same, ua_ne, uf_same, uf_ne]
    generalize (ud (ud (ud (ud (ud (ud (ud μ 87 23 0) 87 24 3) 87 27 0) 87 28 0) 87 29 0) 87 31 0) 87 30 la) = μ7 at a21 a23 a24 a27 a28 a29 a31 a30 aq ak ⊢
    refine go_aload_n dX10_parse_63 rfl ?_
    refine go_vV (ci := 9) dX10_parse_64 (ct_X10_nextToken (by rw [a21]; exact hN0) (by rw [a21]; exact hN1) (by omega) (by omega)) ml_X10_270 mc_X10_nextToken mv_X10_nextToken rfl (by first | assumption | exact Nat.le_of_ble_eq_true rfl) (by first | assumption | rfl) rfl ⟨Nat.ble_eq_true_of_le (by dsimp only; omega), rfl⟩ ⟨Nat.le_refl _, Nat.le_refl _⟩ rfl rfl rfl (fun μ64 hc64 => ?_)
    obtain ⟨t64, f64, g64⟩ := hc64
    rw [aq 107 (by decide), a21, a23] at t64
    have hkr := keB_r (B := (μ 107)) hN0
    have hskN : (skp (μ 107) (μ 87 21) 0) ≤ (μ 87 21) := by omega
    have hb23 := tok_23 t64 hskN
    have hb22 := t64.1
    obtain ⟨hky1, hky2⟩ := ky_eq t64 (fun h => by have := h.1.2; omega) hskN
    have e107 : μ64 107 = μ 107 := (f64 107 (by decide)).trans (aq 107 (by decide))
    refine go_aload_n dX10_parse_67 rfl ?_
    refine go_vI (ci := 9) dX10_parse_68 (ct_X10_key ⟨by omega, by omega⟩ ⟨by omega, by omega⟩) ml_X10_307 mc_X10_key mv_X10_key rfl (by first | assumption | exact Nat.le_of_ble_eq_true rfl) (by first | assumption | rfl) rfl ⟨Nat.ble_eq_true_of_le (by dsimp only; omega), rfl⟩ ⟨Nat.le_refl _, Nat.le_refl _⟩ rfl rfl rfl (fun x68 μ68 hc68 => ?_)
    rw [e107, hky1] at hc68
    obtain ⟨hx68, hm68⟩ := hc68
    have hx68 : x68 = kyB (μ 107) (μ 87 21) := hx68
    rw [hm68]
    have hkc : kyB (μ 107) (μ 87 21) = -1 ∨ kyB (μ 107) (μ 87 21) = 0 ∨ kyB (μ 107) (μ 87 21) = 1 ∨ kyB (μ 107) (μ 87 21) = 2 := kyC_r
    refine go_istore_n dX10_parse_71 rfl ?_
    refine go_iload_n dX10_parse_72 rfl ?_
    refine go_if_lt (tgt := 80) dX10_parse_73 rfl (fun h73 => ?_) (fun h73 => ?_)
    ·
      refine go_iconst dX10_parse_80 rfl ?_
      refine go_istore_n dX10_parse_81 rfl ?_
      refine go_iload_n dX10_parse_82 rfl ?_
      first | refine go_bz (tgt := 111) dX10_parse_83 rfl (fun h83 => ?_) (fun h83 => ?_) | refine go_if_eq (tgt := 111) dX10_parse_83 rfl (fun h83 => ?_) (fun h83 => ?_)
      ·
        refine go_aload_n dX10_parse_111 rfl ?_
        refine go_iconst dX10_parse_112 rfl ?_
        refine go_putI 21 dX10_parse_113 pl_X10_223 (by first | assumption | exact Nat.le_of_ble_eq_true rfl) (by first | assumption | rfl) rfl rfl ?_
        refine go_iload_n dX10_parse_116 rfl ?_
        first | refine go_bz (tgt := 124) dX10_parse_117 rfl (fun h117 => ?_) (fun h117 => ?_) | refine go_if_eq (tgt := 124) dX10_parse_117 rfl (fun h117 => ?_) (fun h117 => ?_)
        ·
          refine go_iconst dX10_parse_124 rfl ?_
          refine go_ri dX10_parse_125 tyI ⟨Nat.le_refl _, Nat.le_refl _⟩ (?_)
          have hk1 : kyB (μ 107) (μ 87 21) = -1 := by omega
          have hft : (ftV (μ 107) (μ 87 21) co) = (skp (μ 107) (μ 87 21) 0) := if_pos hk1
          refine ⟨fun h => absurd (hft.symm.trans h) (by omega), fun _ => ⟨rfl, ?_⟩, ⟨by rw [ud_s, uf_same], fun q a b => by rw [ud_n a]; exact (f64 q a).trans (aq q a), fun k a => by rw [ud_s, uf_ne (by omega)]; exact (g64 k (by omega)).trans (ak k (by omega)), fun j a => by rw [ud_n (by decide)]; exact by rw [f64 88 (by decide), aq 88 (by decide)]⟩⟩
          rw [hft, ud_s, uf_ne (by decide)]; exact hb22
        ·
          exact absurd rfl h117
      ·
        exact absurd rfl h83
    ·
      refine go_iconst dX10_parse_76 rfl ?_
      refine go_goto (tgt := 81) dX10_parse_77 rfl ?_
      refine go_istore_n dX10_parse_81 rfl ?_
      refine go_iload_n dX10_parse_82 rfl ?_
      first | refine go_bz (tgt := 111) dX10_parse_83 rfl (fun h83 => ?_) (fun h83 => ?_) | refine go_if_eq (tgt := 111) dX10_parse_83 rfl (fun h83 => ?_) (fun h83 => ?_)
      ·
        exact absurd h83 (by decide)
      ·
        have hkn : kyB (μ 107) (μ 87 21) ≠ -1 := by omega
        obtain ⟨k1, k2, k3, k4⟩ := hky2 hkn
        have k2 : μ64 87 23 = keB (μ 107) (μ 87 21) := k2
        have hokS : okR (μ 87 21) ((keB (μ 107) (μ 87 21), -1000000005, 0, 0, co) : RS) := ⟨by show 0 ≤ keB (μ 107) (μ 87 21); omega, hkr.2.2, Int.le_refl _, by show 0 ≤ keB (μ 107) (μ 87 21); omega, Int.le_refl _, Int.le_refl _⟩
        have h21 : μ64 87 21 = (μ 87 21) := (g64 21 (by omega)).trans a21
        have hMo : MSo (μ 107) (μ 87 21) μ64 ((keB (μ 107) (μ 87 21), -1000000005, 0, 0, co) : RS) 0 0 la := ⟨e107, h21, hokS, rfl, (g64 27 (by omega)).trans a27, (g64 28 (by omega)).trans a28, (g64 29 (by omega)).trans a29, (g64 31 (by omega)).trans a31, (g64 30 (by omega)).trans a30, fun k k0 k1 => absurd (show k < 0 from k1) (by omega)⟩
        have hwp := wEd_p2 k4 k3
        refine go_aload_n dX10_parse_86 rfl ?_
        refine go_vV (ci := 9) dX10_parse_87 (ct_X10_nextToken (by rw [h21]; exact hN0) (by rw [h21]; exact hN1) (by omega) (by omega)) ml_X10_270 mc_X10_nextToken mv_X10_nextToken rfl (by first | assumption | exact Nat.le_of_ble_eq_true rfl) (by first | assumption | rfl) rfl ⟨Nat.ble_eq_true_of_le (by dsimp only; omega), rfl⟩ ⟨Nat.le_refl _, Nat.le_refl _⟩ rfl rfl rfl (fun μ87 hc87 => ?_)
        obtain ⟨t87, f87⟩ := hc87
        obtain ⟨hMs, hPs⟩ := ms_nt hMo k2 t87 f87
        have hTg : ((0 < μ64 87 23 ∧ (μ64 87 24 = 1 ∨ μ64 87 24 = 2)) ∧ skp (μ64 107) (μ64 87 21) (μ64 87 23) = μ64 87 23) ↔ skp (μ 107) (μ 87 21) (rAt ((keB (μ 107) (μ 87 21), -1000000005, 0, 0, co) : RS)) = keB (μ 107) (μ 87 21) := by
          rw [e107, h21, k2]
          exact ⟨fun h => h.2, fun h => ⟨⟨by unfold keB; omega, Or.inl k1⟩, h⟩⟩
        have hcE := (pm_all (l := l) (D := D) (cA := cA) (B := (μ 107)) (N := (μ 87 21)) (ke := keB (μ 107) (μ 87 21)) (ky := kyB (μ 107) (μ 87 21)) (la := la) hN0 hN1 ⟨by omega, by omega⟩ ⟨by omega, by omega⟩ (fun x hx => by rw [hx]; exact wEd_nl k4 (by omega)) 71 71 (Nat.le_refl _)).2.1 0 0 ((keB (μ 107) (μ 87 21), -1000000005, 0, 0, co) : RS) _ μ87 (by decide) (by decide) (by decide) (by decide) (by decide) hMs hTg (Int.le_refl _)
        rw [hx68]
        refine go_aload_n dX10_parse_90 rfl ?_
        refine go_iload_n dX10_parse_91 rfl ?_
        refine go_vI (ci := 9) dX10_parse_92 (hcE) ml_X10_301 mc_X10_either mv_X10_either rfl (by first | assumption | exact Nat.le_of_ble_eq_true rfl) (by first | assumption | rfl) rfl ⟨Nat.ble_eq_true_of_le (by dsimp only; omega), rfl⟩ ⟨Nat.le_refl _, Nat.le_refl _⟩ rfl rfl rfl (fun x92 μ92 hc92 => ?_)
        have hc92 : PR (μ 107) (μ 87 21) μ87 (rdB (μ 107) (μ 87 21) co) 0 0 la x92 μ92 := hc92
        have hokR := rdB_g (B := (μ 107)) (co := co) hN0
        have hsR := skp_r (B := μ 107) hokR.2.1
        have pq : ∀ q, q ≠ 87 → q ≠ 88 → μ92 q = μ q := fun q a b => (hc92.2.2.1 q a b).trans ((hPs.1 q a b).trans ((f64 q a).trans (aq q a)))
        have pk : ∀ k, (k < 21 ∨ 31 < k) → μ92 87 k = μ 87 k := fun k a => (hc92.2.2.2.1 k (by omega)).trans ((hPs.2.1 k (by omega)).trans ((g64 k (by omega)).trans (ak k (by omega))))
        have pj : ∀ j, (j < la ∨ la + 192 ≤ j) → μ92 88 j = μ 88 j := fun j a => (hc92.2.2.2.2 j a).trans ((hPs.2.2 j a).trans (by rw [f64 88 (by decide), aq 88 (by decide)]))
        first | refine go_bz (tgt := 109) dX10_parse_95 rfl (fun h95 => ?_) (fun h95 => ?_) | refine go_if_eq (tgt := 109) dX10_parse_95 rfl (fun h95 => ?_) (fun h95 => ?_)
        ·
          refine go_iconst dX10_parse_109 rfl ?_
          refine go_istore_n dX10_parse_110 rfl ?_
          refine go_aload_n dX10_parse_111 rfl ?_
          refine go_iconst dX10_parse_112 rfl ?_
          refine go_putI 21 dX10_parse_113 pl_X10_223 (by first | assumption | exact Nat.le_of_ble_eq_true rfl) (by first | assumption | rfl) rfl rfl ?_
          refine go_iload_n dX10_parse_116 rfl ?_
          first | refine go_bz (tgt := 124) dX10_parse_117 rfl (fun h117 => ?_) (fun h117 => ?_) | refine go_if_eq (tgt := 124) dX10_parse_117 rfl (fun h117 => ?_) (fun h117 => ?_)
          ·
            refine go_iconst dX10_parse_124 rfl ?_
            refine go_ri dX10_parse_125 tyI ⟨Nat.le_refl _, Nat.le_refl _⟩ (?_)
            have hnf : rFl (rdB (μ 107) (μ 87 21) co) ≠ -1000000005 := fun h => by have := (hc92.1 h).1; omega
            have hft : (ftV (μ 107) (μ 87 21) co) = rFl (rdB (μ 107) (μ 87 21) co) := (if_neg hkn).trans (if_pos hnf)
            refine ⟨fun h => absurd (hft.symm.trans h) hnf, fun _ => ⟨rfl, ?_⟩, ⟨by rw [ud_s, uf_same], fun q a b => by rw [ud_n a]; exact pq q a b, fun k a => by rw [ud_s, uf_ne (by omega)]; exact pk k a, fun j a => by rw [ud_n (by decide)]; exact pj j (by rw [hla]; exact a)⟩⟩
            rw [hft, ud_s, uf_ne (by decide)]; exact (hc92.2.1 hnf).2
          ·
            exact absurd rfl h117
        ·
          refine go_aload_n dX10_parse_98 rfl ?_
          refine go_getI 24 dX10_parse_99 fl_X10_236 (by first | assumption | exact Nat.le_of_ble_eq_true rfl) (by first | assumption | rfl) rfl rfl ?_
          try simp (disch := omega) only [ua_same, ua_ne, uf_same, uf_ne]
          first | refine go_bnz (tgt := 109) dX10_parse_102 rfl (fun h102 => ?_) (fun h102 => ?_) | refine go_if_ne (tgt := 109) dX10_parse_102 rfl (fun h102 => ?_) (fun h102 => ?_)
          ·
            refine go_iconst dX10_parse_109 rfl ?_
            refine go_istore_n dX10_parse_110 rfl ?_
            refine go_aload_n dX10_parse_111 rfl ?_
            refine go_iconst dX10_parse_112 rfl ?_
            refine go_putI 21 dX10_parse_113 pl_X10_223 (by first | assumption | exact Nat.le_of_ble_eq_true rfl) (by first | assumption | rfl) rfl rfl ?_
            refine go_iload_n dX10_parse_116 rfl ?_
            first | refine go_bz (tgt := 124) dX10_parse_117 rfl (fun h117 => ?_) (fun h117 => ?_) | refine go_if_eq (tgt := 124) dX10_parse_117 rfl (fun h117 => ?_) (fun h117 => ?_)
            ·
              refine go_iconst dX10_parse_124 rfl ?_
              refine go_ri dX10_parse_125 tyI ⟨Nat.le_refl _, Nat.le_refl _⟩ (?_)
              have hnf : rFl (rdB (μ 107) (μ 87 21) co) = -1000000005 := Decidable.byContradiction (fun h => h95 (hc92.2.1 h).1)
              obtain ⟨_, tg2, hMe⟩ := hc92.1 hnf
              have hte := tok_0 hMe.2 hsR.2
              have hr0 := hokR.1
              have hlt : skp (μ 107) (μ 87 21) (rAt (rdB (μ 107) (μ 87 21) co)) < (μ 87 21) := Decidable.byContradiction (fun h => h102 (hte.mpr h))
              have hft : (ftV (μ 107) (μ 87 21) co) = skp (μ 107) (μ 87 21) (rAt (rdB (μ 107) (μ 87 21) co)) := (if_neg hkn).trans ((if_neg (fun h => h hnf)).trans (if_pos hlt))
              refine ⟨fun h => absurd (hft.symm.trans h) (by omega), fun _ => ⟨rfl, ?_⟩, ⟨by rw [ud_s, uf_same], fun q a b => by rw [ud_n a]; exact pq q a b, fun k a => by rw [ud_s, uf_ne (by omega)]; exact pk k a, fun j a => by rw [ud_n (by decide)]; exact pj j (by rw [hla]; exact a)⟩⟩
              rw [hft, ud_s, uf_ne (by decide)]; exact hMe.2.1
            ·
              exact absurd rfl h117
          ·
            refine go_iconst dX10_parse_105 rfl ?_
            refine go_goto (tgt := 110) dX10_parse_106 rfl ?_
            refine go_istore_n dX10_parse_110 rfl ?_
            refine go_aload_n dX10_parse_111 rfl ?_
            refine go_iconst dX10_parse_112 rfl ?_
            refine go_putI 21 dX10_parse_113 pl_X10_223 (by first | assumption | exact Nat.le_of_ble_eq_true rfl) (by first | assumption | rfl) rfl rfl ?_
            refine go_iload_n dX10_parse_116 rfl ?_
            first | refine go_bz (tgt := 124) dX10_parse_117 rfl (fun h117 => ?_) (fun h117 => ?_) | refine go_if_eq (tgt := 124) dX10_parse_117 rfl (fun h117 => ?_) (fun h117 => ?_)
            ·
              exact absurd h117 (by decide)
            ·
              refine go_iload_n dX10_parse_120 rfl ?_
              refine go_goto (tgt := 125) dX10_parse_121 rfl ?_
              refine go_ri dX10_parse_125 tyI ⟨Nat.le_refl _, Nat.le_refl _⟩ (?_)
              have hnf : rFl (rdB (μ 107) (μ 87 21) co) = -1000000005 := Decidable.byContradiction (fun h => h95 (hc92.2.1 h).1)
              obtain ⟨_, tg2, hMe⟩ := hc92.1 hnf
              have hte := tok_0 hMe.2 hsR.2
              have hr0 := hokR.1
              have hft : (ftV (μ 107) (μ 87 21) co) = -1000000005 := (if_neg hkn).trans ((if_neg (fun h => h hnf)).trans (if_neg (hte.mp h102)))
              obtain ⟨⟨_, _, _, _, _, _, q29, q31, q30, qcd⟩, _⟩ := hMe
              refine ⟨fun _ => ⟨rfl, ?_, ?_, ?_⟩, fun h => absurd hft h, ⟨by rw [ud_s, uf_same], fun q a b => by rw [ud_n a]; exact pq q a b, fun k a => by rw [ud_s, uf_ne (by omega)]; exact pk k a, fun j a => by rw [ud_n (by decide)]; exact pj j (by rw [hla]; exact a)⟩⟩
              · rw [ud_s, uf_ne (by decide)]; exact q31
              · rw [ud_s, uf_ne (by decide)]; exact q29
              · rw [ud_n (by decide), ← hla]; exact qcd
  refine go_aload_n dX10_parse_0 rfl ?_
  refine go_iconst dX10_parse_1 rfl ?_
  refine go_putI 23 dX10_parse_2 pl_X10_233 (by first | assumption | exact Nat.le_of_ble_eq_true rfl) (by first | assumption | rfl) rfl rfl ?_
  refine go_aload_n dX10_parse_5 rfl ?_
  refine go_iconst dX10_parse_6 rfl ?_
  refine go_putI 24 dX10_parse_7 pl_X10_236 (by first | assumption | exact Nat.le_of_ble_eq_true rfl) (by first | assumption | rfl) rfl rfl ?_
  refine go_aload_n dX10_parse_10 rfl ?_
  refine go_iconst dX10_parse_11 rfl ?_
  refine go_putI 27 dX10_parse_12 pl_X10_298 (by first | assumption | exact Nat.le_of_ble_eq_true rfl) (by first | assumption | rfl) rfl rfl ?_
  refine go_aload_n dX10_parse_15 rfl ?_
  refine go_iconst dX10_parse_16 rfl ?_
  refine go_putI 28 dX10_parse_17 pl_X10_295 (by first | assumption | exact Nat.le_of_ble_eq_true rfl) (by first | assumption | rfl) rfl rfl ?_
  refine go_aload_n dX10_parse_20 rfl ?_
  refine go_iconst dX10_parse_21 rfl ?_
  refine go_putI 29 dX10_parse_22 pl_X10_261 (by first | assumption | exact Nat.le_of_ble_eq_true rfl) (by first | assumption | rfl) rfl rfl ?_
  refine go_aload_n dX10_parse_25 rfl ?_
  refine go_iconst dX10_parse_26 rfl ?_
  refine go_putI 31 dX10_parse_27 pl_X10_289 (by first | assumption | exact Nat.le_of_ble_eq_true rfl) (by first | assumption | rfl) rfl rfl ?_
  refine go_aload_n dX10_parse_30 rfl ?_
  refine go_aload_n dX10_parse_31 rfl ?_
  refine go_getR dX10_parse_32 fl_X10_7 (by first | assumption | exact Nat.le_of_ble_eq_true rfl) (by first | assumption | rfl) rfl (by first | assumption | rfl) ?_
  refine go_iconst dX10_parse_35 rfl ?_
  refine go_iaload dX10_parse_36 (by first | assumption | exact Nat.le_of_ble_eq_true rfl) (by first | assumption | rfl) (by omega) (by omega) ?_
  try simp (disch := omega) only [ua_same, ua_ne, uf_same, uf_ne]
  refine go_bipush dX10_parse_37 rfl (by decide) ?_
  refine go_icmp_ge (tgt := 57) dX10_parse_39 rfl (fun h39 => ?_) (fun h39 => ?_)
  ·
    refine go_sipush dX10_parse_57 rfl (by decide) ?_
    exact k60 _ (if_neg (by omega)).symm
  ·
    refine go_aload_n dX10_parse_42 rfl ?_
    refine go_aload_n dX10_parse_43 rfl ?_
    refine go_getR dX10_parse_44 fl_X10_7 (by first | assumption | exact Nat.le_of_ble_eq_true rfl) (by first | assumption | rfl) rfl (by first | assumption | rfl) ?_
    refine go_iconst dX10_parse_47 rfl ?_
    refine go_iaload dX10_parse_48 (by first | assumption | exact Nat.le_of_ble_eq_true rfl) (by first | assumption | rfl) (by omega) (by omega) ?_
    try simp (disch := omega) only [ua_same, ua_ne, uf_same, uf_ne]
    refine go_vI (ci := 9) dX10_parse_49 (ct_X10_textAt _ (by omega) (by omega)) ml_X10_304 mc_X10_textAt mv_X10_textAt rfl (by first | assumption | exact Nat.le_of_ble_eq_true rfl) (by first | assumption | rfl) rfl ⟨Nat.ble_eq_true_of_le (by dsimp only; omega), rfl⟩ ⟨Nat.le_refl _, Nat.le_refl _⟩ rfl rfl rfl (fun x49 μ49 hc49 => ?_)
    obtain ⟨rfl, hm49⟩ := hc49
    rw [hm49]
    refine go_iconst dX10_parse_52 rfl ?_
    refine go_iadd dX10_parse_53 ⟨by omega, by omega⟩ ?_
    refine go_goto (tgt := 60) dX10_parse_54 rfl ?_
    exact k60 _ (if_pos (by omega)).symm

set_option maxRecDepth 100000 in
set_option maxHeartbeats 4000000 in
theorem ct_X10_text {l : Launch} {D : va_G} {cA : Nat → ClassId} {μ : Mem} {co : Int → Int} (hN0 : 0 ≤ μ 87 21) (hN1 : μ 87 21 ≤ 96) (ht0 : 0 ≤ μ 88 1) (ht1 : μ 88 1 ≤ 14) : CtN l D cA yX10_text cX10_text 3 (some .int) 78 [vr 87] μ (Pi (fun x μ' => μ' 87 21 = 0 ∧ (∀ q, q ≠ 87 → q ≠ 88 → μ' q = μ q) ∧ (∀ k, (k < 21 ∨ 31 < k) → μ' 87 k = μ 87 k) ∧ ((ftV (μ 107) (μ 87 21) co) ≠ -1000000005 → x = -100 - (ftV (μ 107) (μ 87 21) co) ∧ ∀ j, (j < (lA (μ 88 1)) ∨ (lA (μ 88 1)) + 192 ≤ j) → μ' 88 j = μ 88 j) ∧ ((ftV (μ 107) (μ 87 21) co) = -1000000005 → (14 ≤ (μ 88 1) → x = -1000000003 ∧ ∀ j, (j < (lA (μ 88 1)) ∨ (lA (μ 88 1)) + 192 ≤ j) → μ' 88 j = μ 88 j) ∧ ((μ 88 1) < 14 → x = (μ 88 1) ∧ μ' 88 1 = (μ 88 1) + 1 ∧ μ' 88 ((122 + 200 * (μ 88 1)) + 0) = kyB (μ 107) (μ 87 21) ∧ μ' 88 ((122 + 200 * (μ 88 1)) + 1) = rPc (rdB (μ 107) (μ 87 21) co) ∧ μ' 88 ((122 + 200 * (μ 88 1)) + 2) = rLn (rdB (μ 107) (μ 87 21) co) ∧ cdM (μ' 88) ((122 + 200 * (μ 88 1)) + 4) (rdB (μ 107) (μ 87 21) co) ∧ ∀ j, j ≠ 1 → (j < (122 + 200 * (μ 88 1)) ∨ (122 + 200 * (μ 88 1)) + 200 ≤ j) → μ' 88 j = μ 88 j)))) := by
  refine Ct.of (own := RX10) (by decide +kernel) rfl (fun σ => Nat.le_of_ble_eq_true rfl) (fun hM hP ha => ?_)
  obtain ⟨m87, r88, s88, r89, s89, r90, s90, r91, s91, r92, s92, r93, s93, r94, s94, r95, s95, r96, s96, r97, s97, r98, s98, r99, s99, r100, s100, r101, s101, r102, s102, r103, s103, r104, s104, r105, s105, r106, s106, r107, s107, r108, s108, r109, s109, r110, s110, r111, s111, r112, s112⟩ := md_f
  refine go_aload_n dX10_text_0 rfl ?_
  refine go_vI (ci := 9) dX10_text_1 (ct_X10_parse (co := co) hN0 hN1 ht0 ht1) ml_X10_310 mc_X10_parse mv_X10_parse rfl (by first | assumption | exact Nat.le_of_ble_eq_true rfl) (by first | assumption | rfl) rfl ⟨Nat.ble_eq_true_of_le (by dsimp only; omega), rfl⟩ ⟨Nat.le_refl _, Nat.le_refl _⟩ rfl rfl rfl (fun x1 μ1 hc1 => ?_)
  obtain ⟨p1, p2, p3, p4, p5, p6⟩ := hc1
  have hlr := lA_r ht0 ht1
  have e1 : μ1 88 1 = μ 88 1 := p6 1 (by omega)
  have hfr := ft_r (B := (μ 107)) (co := co) hN0 hN1
  refine go_istore_n dX10_text_4 rfl ?_
  refine go_iload_n dX10_text_5 rfl ?_
  refine go_if_ge (tgt := 17) dX10_text_6 rfl (fun h6 => ?_) (fun h6 => ?_)
  ·
    refine go_aload_n dX10_text_17 rfl ?_
    refine go_getR dX10_text_18 fl_X10_7 (by first | assumption | exact Nat.le_of_ble_eq_true rfl) (by first | assumption | rfl) rfl (by first | assumption | rfl) ?_
    refine go_iconst dX10_text_21 rfl ?_
    refine go_iaload dX10_text_22 (by first | assumption | exact Nat.le_of_ble_eq_true rfl) (by first | assumption | rfl) (by omega) (by omega) ?_
    try simp (disch := omega) only [ua_same, ua_ne, uf_same, uf_ne]
    rw [e1]
    refine go_bipush dX10_text_23 rfl (by decide) ?_
    refine go_icmp_ne (tgt := 31) dX10_text_25 rfl (fun h25 => ?_) (fun h25 => ?_)
    ·
      refine go_aload_n dX10_text_31 rfl ?_
      refine go_aload_n dX10_text_32 rfl ?_
      refine go_getR dX10_text_33 fl_X10_7 (by first | assumption | exact Nat.le_of_ble_eq_true rfl) (by first | assumption | rfl) rfl (by first | assumption | rfl) ?_
      refine go_iconst dX10_text_36 rfl ?_
      refine go_iaload dX10_text_37 (by first | assumption | exact Nat.le_of_ble_eq_true rfl) (by first | assumption | rfl) (by omega) (by omega) ?_
      try simp (disch := omega) only [ua_same, ua_ne, uf_same, uf_ne]
      rw [e1]
      refine go_vI (ci := 9) dX10_text_38 (ct_X10_textAt _ (by omega) (by omega)) ml_X10_304 mc_X10_textAt mv_X10_textAt rfl (by first | assumption | exact Nat.le_of_ble_eq_true rfl) (by first | assumption | rfl) rfl ⟨Nat.ble_eq_true_of_le (by dsimp only; omega), rfl⟩ ⟨Nat.le_refl _, Nat.le_refl _⟩ rfl rfl rfl (fun x38 μ38 hc38 => ?_)
      obtain ⟨rfl, hm38⟩ := hc38
      rw [hm38]
      refine go_istore_n dX10_text_41 rfl ?_
      refine go_aload_n dX10_text_42 rfl ?_
      refine go_getR dX10_text_43 fl_X10_7 (by first | assumption | exact Nat.le_of_ble_eq_true rfl) (by first | assumption | rfl) rfl (by first | assumption | rfl) ?_
      refine go_iload_n dX10_text_46 rfl ?_
      refine go_iconst dX10_text_47 rfl ?_
      refine go_iadd dX10_text_48 ⟨by omega, by omega⟩ ?_
      refine go_iload_n dX10_text_49 rfl ?_
      refine go_iastore dX10_text_50 (by first | assumption | exact Nat.le_of_ble_eq_true rfl) (by first | assumption | rfl) (by omega) (by omega) ?_
      refine go_aload_n dX10_text_51 rfl ?_
      refine go_getR dX10_text_52 fl_X10_7 (by first | assumption | exact Nat.le_of_ble_eq_true rfl) (by first | assumption | rfl) rfl (by first | assumption | rfl) ?_
      refine go_iload_n dX10_text_55 rfl ?_
      refine go_iconst dX10_text_56 rfl ?_
      refine go_iadd dX10_text_57 ⟨by omega, by omega⟩ ?_
      refine go_aload_n dX10_text_58 rfl ?_
      refine go_getI 31 dX10_text_59 fl_X10_289 (by first | assumption | exact Nat.le_of_ble_eq_true rfl) (by first | assumption | rfl) rfl rfl ?_
      try simp (disch := omega) only [ua_same, ua_ne, uf_same, uf_ne]
      refine go_iastore dX10_text_62 (by first | assumption | exact Nat.le_of_ble_eq_true rfl) (by first | assumption | rfl) (by omega) (by omega) ?_
      refine go_aload_n dX10_text_63 rfl ?_
      refine go_getR dX10_text_64 fl_X10_7 (by first | assumption | exact Nat.le_of_ble_eq_true rfl) (by first | assumption | rfl) rfl (by first | assumption | rfl) ?_
      refine go_iload_n dX10_text_67 rfl ?_
      refine go_iconst dX10_text_68 rfl ?_
      refine go_iadd dX10_text_69 ⟨by omega, by omega⟩ ?_
      refine go_aload_n dX10_text_70 rfl ?_
      refine go_getI 29 dX10_text_71 fl_X10_261 (by first | assumption | exact Nat.le_of_ble_eq_true rfl) (by first | assumption | rfl) rfl rfl ?_
      try simp (disch := omega) only [ua_same, ua_ne, uf_same, uf_ne]
      refine go_iastore dX10_text_74 (by first | assumption | exact Nat.le_of_ble_eq_true rfl) (by first | assumption | rfl) (by omega) (by omega) ?_
      refine go_aload_n dX10_text_75 rfl ?_
      refine go_getR dX10_text_76 fl_X10_7 (by first | assumption | exact Nat.le_of_ble_eq_true rfl) (by first | assumption | rfl) rfl (by first | assumption | rfl) ?_
      refine go_iconst dX10_text_79 rfl ?_
      refine go_dup2 dX10_text_80 rfl rfl ?_
      refine go_iaload dX10_text_81 (by first | assumption | exact Nat.le_of_ble_eq_true rfl) (by first | assumption | rfl) (by omega) (by omega) ?_
      try simp (disch := omega) only [ua_same, ua_ne, uf_same, uf_ne]
      refine go_iconst dX10_text_82 rfl ?_
      refine go_iadd dX10_text_83 ⟨by omega, by omega⟩ ?_
      refine go_iastore dX10_text_84 (by first | assumption | exact Nat.le_of_ble_eq_true rfl) (by first | assumption | rfl) (by omega) (by omega) ?_
      refine go_aload_n dX10_text_85 rfl ?_
      refine go_getR dX10_text_86 fl_X10_7 (by first | assumption | exact Nat.le_of_ble_eq_true rfl) (by first | assumption | rfl) rfl (by first | assumption | rfl) ?_
      refine go_iconst dX10_text_89 rfl ?_
      refine go_iaload dX10_text_90 (by first | assumption | exact Nat.le_of_ble_eq_true rfl) (by first | assumption | rfl) (by omega) (by omega) ?_
      try simp (disch := omega) only [ua_same, ua_ne, uf_same, uf_ne]
      refine go_iconst dX10_text_91 rfl ?_
      refine go_isub dX10_text_92 ⟨by omega, by omega⟩ ?_
      refine go_ri dX10_text_93 tyI ⟨Nat.le_refl _, Nat.le_refl _⟩ (?_)
      have hf : (ftV (μ 107) (μ 87 21) co) = -1000000005 := Decidable.byContradiction (fun h => by have := (p2 h).1; omega)
      have ht14 : μ 88 1 < 14 := by omega
      obtain ⟨v0, v1, v2, v3⟩ := p1 hf
      have hla : (lA (μ 88 1)) = (122 + 200 * (μ 88 1)) + 4 := if_pos ht14
      rw [hla] at p6 v3
      have hgl := rdB_g (B := (μ 107)) (co := co) hN0
      have hgl2 := hgl.2.2.2.1
      have hgl3 := hgl.2.1
      refine ⟨?_, fun q a b => ?_, fun k a => ?_, fun h => absurd hf h, fun _ => ⟨fun h => absurd h (by omega), fun _ => ⟨?_, ?_, ?_, ?_, ?_, ?_, ?_⟩⟩⟩
      · simp (disch := omega) only [ud, ua_same, ua_ne, uf_same, uf_ne]; exact p3
      · rw [ud_n b, ud_n b, ud_n b, ud_n b]; exact p4 q a b
      · rw [ud_n (by decide), ud_n (by decide), ud_n (by decide), ud_n (by decide)]; exact p5 k a
      · (try simp (disch := omega) only [ud, ua_same, ua_ne, uf_same, uf_ne]); omega
      · (try simp (disch := omega) only [ud, ua_same, ua_ne, uf_same, uf_ne]); omega
      · simp (disch := omega) only [ud, ua_same, ua_ne, uf_same, uf_ne]; exact v0
      · simp (disch := omega) only [ud, ua_same, ua_ne, uf_same, uf_ne]; exact v1
      · simp (disch := omega) only [ud, ua_same, ua_ne, uf_same, uf_ne]; exact v2
      · intro k k0 k1
        have := v3 k k0 k1
        simp (disch := omega) only [ud, ua_same, ua_ne, uf_same, uf_ne]
        exact this
      · intro j j1 j2
        simp (disch := omega) only [ud, ua_same, ua_ne, uf_same, uf_ne]
        exact p6 j (by omega)
    ·
      refine go_ldc dX10_text_28 kc_X10_189 rfl ?_
      refine go_ri dX10_text_30 tyI ⟨Nat.le_refl _, Nat.le_refl _⟩ (?_)
      have hf : (ftV (μ 107) (μ 87 21) co) = -1000000005 := Decidable.byContradiction (fun h => by have := (p2 h).1; omega)
      exact ⟨p3, p4, p5, fun h => absurd hf h, fun _ => ⟨fun _ => ⟨rfl, p6⟩, fun h => absurd h (by omega)⟩⟩
  ·
    have hnf : (ftV (μ 107) (μ 87 21) co) ≠ -1000000005 := fun h => by
      have := (p1 h).1
      have hk : kyB (μ 107) (μ 87 21) = -1 ∨ kyB (μ 107) (μ 87 21) = 0 ∨ kyB (μ 107) (μ 87 21) = 1 ∨ kyB (μ 107) (μ 87 21) = 2 := kyC_r
      have := (ft_n hN0 h).1
      omega
    have e22 := (p2 hnf).2
    refine go_bipush dX10_text_9 rfl (by decide) ?_
    refine go_aload_n dX10_text_11 rfl ?_
    refine go_getI 22 dX10_text_12 fl_X10_239 (by first | assumption | exact Nat.le_of_ble_eq_true rfl) (by first | assumption | rfl) rfl rfl ?_
    try simp (disch := omega) only [ua_same, ua_ne, uf_same, uf_ne]
    refine go_isub dX10_text_15 ⟨by omega, by omega⟩ ?_
    refine go_ri dX10_text_16 tyI ⟨Nat.le_refl _, Nat.le_refl _⟩ (?_)
    refine ⟨p3, p4, p5, fun _ => ⟨?_, p6⟩, fun h => absurd h hnf⟩
    rw [e22]

