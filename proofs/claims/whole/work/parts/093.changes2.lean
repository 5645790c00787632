/-! CALLS THAT CHANGE TICKS, IMAGES, WHAT WAITS, THE TAPE, SHEETS, SLOTS: both change alike -/
theorem sim_w {μ μ2 : Mem} (h : Sim μ) (h0 : ∀ k, k ≠ 10 → μ2 0 k = μ 0 k) (h87 : ∀ k, k ≠ 36 → μ2 87 k = μ 87 k) (hw : μ2 111 = μ2 86 ∧ μ2 87 36 = μ2 0 10 ∧ 0 ≤ μ2 0 10 ∧ μ2 0 10 ≤ 60) (hf : ∀ q, ¬ scr q → q ≠ 0 → q ≠ 87 → q ≠ 86 → q ≠ 111 → μ2 q = μ q) : Sim μ2 := by
  have hl : ∀ q, 4 ≤ q → q < 32 → μ2 q = μ q := fun q a b => hf q (by unfold scr; omega) (by omega) (by omega) (by omega) (by omega)
  have hz : ∀ q, ((1 ≤ q ∧ q < 3) ∨ (32 ≤ q ∧ q ≤ 36) ∨ (39 ≤ q ∧ q ≤ 43) ∨ (56 ≤ q ∧ q ≤ 57) ∨ (61 ≤ q ∧ q ≤ 85) ∨ (88 ≤ q ∧ q ≤ 89) ∨ (91 ≤ q ∧ q ≤ 98) ∨ q = 107) → μ2 q = μ q := fun q a => hf q (by unfold scr; omega) (by omega) (by omega) (by omega) (by omega)
  obtain ⟨s1, ⟨i1, i2, i3⟩, s3, s4, s5, s6⟩ := h
  refine ⟨?_, ⟨?_, ?_, fun hi => ?_⟩, ?_, fun k hk => ?_, fun k hk => ?_, hw⟩
  · rw [hz 88 (by omega)]; exact SM_q hl (hz _ (by omega)) (hz _ (by omega)) (hz _ (by omega)) (hz _ (by omega)) (hz _ (by omega)) s1
  · rw [h0 11 (by decide)]; exact i1
  · rw [h0 11 (by decide), h87 3 (by decide)]; exact i2
  · rw [h0 11 (by decide)] at hi
    rw [hz 89 (by omega), hz 39 (by omega), hz 32 (by omega)]
    exact ⟨SM_q hl (hz _ (by omega)) (hz _ (by omega)) (hz _ (by omega)) (hz _ (by omega)) (hz _ (by omega)) (i3 hi).1, (i3 hi).2⟩
  · rw [hz 107 (by omega), hz 57 (by omega), h87 21 (by decide), hz 56 (by omega)]; exact s3
  · rw [hz (62 + 2 * k) (by omega), hz (62 + 2 * k + 1) (by omega), hz 91 (by omega), hz 92 (by omega), hz 93 (by omega)]; exact s4 k hk
  · rw [hz (71 + 3 * k) (by omega), hz (71 + 3 * k + 1) (by omega), hz (71 + 3 * k + 2) (by omega), hz 94 (by omega), hz 95 (by omega), hz 96 (by omega), hz 97 (by omega), hz 98 (by omega)]; exact s5 k hk
theorem sim_t {μ μ2 : Mem} (h : Sim μ) (h87 : ∀ k, k ≠ 21 → μ2 87 k = μ 87 k) (ht : μ2 107 = μ2 57 ∧ μ2 87 21 = μ2 56 1 ∧ (0 ≤ μ2 56 1 ∧ μ2 56 1 ≤ 96) ∧ ∀ q, 0 ≤ μ2 57 q ∧ μ2 57 q ≤ 255) (hf : ∀ q, ¬ scr q → q ≠ 56 → q ≠ 57 → q ≠ 87 → q ≠ 107 → μ2 q = μ q) : Sim μ2 := by
  have hl : ∀ q, 4 ≤ q → q < 32 → μ2 q = μ q := fun q a b => hf q (by unfold scr; omega) (by omega) (by omega) (by omega) (by omega)
  have hz : ∀ q, (q < 3 ∨ (32 ≤ q ∧ q ≤ 36) ∨ (39 ≤ q ∧ q ≤ 43) ∨ (61 ≤ q ∧ q ≤ 86) ∨ (88 ≤ q ∧ q ≤ 89) ∨ (91 ≤ q ∧ q ≤ 98) ∨ q = 111) → μ2 q = μ q := fun q a => hf q (by unfold scr; omega) (by omega) (by omega) (by omega) (by omega)
  obtain ⟨s1, ⟨i1, i2, i3⟩, s3, s4, s5, s6⟩ := h
  refine ⟨?_, ⟨?_, ?_, fun hi => ?_⟩, ht, fun k hk => ?_, fun k hk => ?_, ?_⟩
  · rw [hz 88 (by omega)]; exact SM_q hl (hz _ (by omega)) (hz _ (by omega)) (hz _ (by omega)) (hz _ (by omega)) (hz _ (by omega)) s1
  · rw [hz 0 (by omega)]; exact i1
  · rw [hz 0 (by omega), h87 3 (by decide)]; exact i2
  · rw [hz 0 (by omega)] at hi
    rw [hz 89 (by omega), hz 39 (by omega), hz 32 (by omega)]
    exact ⟨SM_q hl (hz _ (by omega)) (hz _ (by omega)) (hz _ (by omega)) (hz _ (by omega)) (hz _ (by omega)) (i3 hi).1, (i3 hi).2⟩
  · rw [hz (62 + 2 * k) (by omega), hz (62 + 2 * k + 1) (by omega), hz 91 (by omega), hz 92 (by omega), hz 93 (by omega)]; exact s4 k hk
  · rw [hz (71 + 3 * k) (by omega), hz (71 + 3 * k + 1) (by omega), hz (71 + 3 * k + 2) (by omega), hz 94 (by omega), hz 95 (by omega), hz 96 (by omega), hz 97 (by omega), hz 98 (by omega)]; exact s5 k hk
  · rw [hz 111 (by omega), hz 86 (by omega), h87 36 (by decide), hz 0 (by omega)]; exact s6
theorem sim_sh {μ μ2 : Mem} (h : Sim μ) (ht : ∀ k : Nat, k < 4 → ((-1 ≤ μ2 (62 + 2 * k) 0 ∧ μ2 (62 + 2 * k) 0 ≤ 1) ∧ 0 ≤ μ2 (62 + 2 * k) 1 ∧ μ2 (62 + 2 * k) 1 ≤ 24) ∧ μ2 91 (k : Nat) = μ2 (62 + 2 * k) 0 ∧ μ2 92 (k : Nat) = μ2 (62 + 2 * k) 1 ∧ ∀ j, 0 ≤ j → j < 24 → μ2 93 (24 * (k : Nat) + j) = μ2 (62 + 2 * k + 1) j) (hf : ∀ q, ¬ scr q → (q < 62 ∨ 69 < q) → q ≠ 91 → q ≠ 92 → q ≠ 93 → μ2 q = μ q) : Sim μ2 := by
  have hl : ∀ q, 4 ≤ q → q < 32 → μ2 q = μ q := fun q a b => hf q (by unfold scr; omega) (by omega) (by omega) (by omega) (by omega)
  have hz : ∀ q, (q < 3 ∨ (32 ≤ q ∧ q ≤ 36) ∨ (39 ≤ q ∧ q ≤ 43) ∨ (56 ≤ q ∧ q ≤ 57) ∨ (70 ≤ q ∧ q ≤ 89) ∨ (94 ≤ q ∧ q ≤ 98) ∨ q = 107 ∨ q = 111) → μ2 q = μ q := fun q a => hf q (by unfold scr; omega) (by omega) (by omega) (by omega) (by omega)
  obtain ⟨s1, ⟨i1, i2, i3⟩, s3, s4, s5, s6⟩ := h
  refine ⟨?_, ⟨?_, ?_, fun hi => ?_⟩, ?_, ht, fun k hk => ?_, ?_⟩
  · rw [hz 88 (by omega)]; exact SM_q hl (hz _ (by omega)) (hz _ (by omega)) (hz _ (by omega)) (hz _ (by omega)) (hz _ (by omega)) s1
  · rw [hz 0 (by omega)]; exact i1
  · rw [hz 0 (by omega), hz 87 (by omega)]; exact i2
  · rw [hz 0 (by omega)] at hi
    rw [hz 89 (by omega), hz 39 (by omega), hz 32 (by omega)]
    exact ⟨SM_q hl (hz _ (by omega)) (hz _ (by omega)) (hz _ (by omega)) (hz _ (by omega)) (hz _ (by omega)) (i3 hi).1, (i3 hi).2⟩
  · rw [hz 107 (by omega), hz 57 (by omega), hz 87 (by omega), hz 56 (by omega)]; exact s3
  · rw [hz (71 + 3 * k) (by omega), hz (71 + 3 * k + 1) (by omega), hz (71 + 3 * k + 2) (by omega), hz 94 (by omega), hz 95 (by omega), hz 96 (by omega), hz 97 (by omega), hz 98 (by omega)]; exact s5 k hk
  · rw [hz 111 (by omega), hz 86 (by omega), hz 87 (by omega), hz 0 (by omega)]; exact s6

theorem st_deal {μ μ1 μ2 : Mem} {x y : Int} (hS : Sim μ) (h1 : (fun x μ' => x = sumN (μ' 35) 30 ∧ (∀ c, 0 ≤ c → c < 30 → μ' 33 c = dv (zN (μ 32 11) (3 * c.toNat + 1)) % 6 ∧ μ' 34 c = dv (zN (μ 32 11) (3 * c.toNat + 2)) % 50 ∧ μ' 35 c = dv (zN (μ 32 11) (3 * c.toNat + 3)) % 40) ∧ μ' 32 = uf (μ 32) 11 (zN (μ 32 11) 90) ∧ ∀ q, q ≠ 32 → q ≠ 33 → q ≠ 34 → q ≠ 35 → μ' q = μ q) x μ1) (h2 : (fun x μ' => x = sumN (vm (μ' 88) 35) 30 ∧ (∀ c, 0 ≤ c → c < 30 → μ' 88 (8 + 3 * c + 0) = dv (zN (μ1 88 6) (3 * c.toNat + 1)) % 6 ∧ μ' 88 (8 + 3 * c + 1) = dv (zN (μ1 88 6) (3 * c.toNat + 2)) % 50 ∧ μ' 88 (8 + 3 * c + 2) = dv (zN (μ1 88 6) (3 * c.toNat + 3)) % 40) ∧ μ' 88 6 = zN (μ1 88 6) 90 ∧ (∀ j, j ≠ 6 → ¬ (8 ≤ j ∧ j < 8 + 3 * 30) → μ' 88 j = μ1 88 j) ∧ ∀ q, q ≠ 88 → μ' q = μ1 q) y μ2) : x = y ∧ Sim μ2 := by
  obtain ⟨e1, d1, z1, f1⟩ := h1
  obtain ⟨e2, d2, z2, o2, f2⟩ := h2
  have hs := sim_s hS
  have e88 : μ1 88 = μ 88 := f1 88 (by decide) (by decide) (by decide) (by decide)
  have ez : μ 32 11 = μ 88 6 := (sm_n hs).2.2.2.2.1
  rw [e88] at d2 z2 o2
  rw [ez] at d1 z1
  have hq : ∀ q, q < 87 → μ2 q = μ1 q := fun q h => f2 q (by omega)
  have hl : EqR (μ1 35) (vm (μ2 88) 35) := fun c a b => by rw [vm_35 a b, (d2 c a b).2.2, (d1 c a b).2.2]
  have hm : SM μ2 32 (μ2 88) := by
    obtain ⟨n1, n2, n3, n4, n5, n6, n7, n8⟩ := nN hs
    have e32 : ∀ k, k ≠ 11 → μ2 32 k = μ 32 k := fun k hk => by rw [hq 32 (by omega), z1, uf_ne hk]
    have e36 : μ2 36 = μ 36 := (hq 36 (by omega)).trans (f1 36 (by decide) (by decide) (by decide) (by decide))
    have en := sm_n hs
    refine sm_up hs (fun q a b => (hq q (by omega)).trans (f1 q (by omega) (by omega) (by omega) (by omega))) (e32 13 (by decide)) ⟨fun c a b => ?_, fun c a b => ?_, fun c a b => ?_, ?_, ?_, ?_, ?_, ?_⟩ ⟨fun c a b => ⟨?_, ?_, ?_⟩, fun i a b => ?_, ?_⟩ (o2 1 (by decide) (by omega)) (fun j a b => o2 j (by omega) (by omega))
    · show 0 ≤ μ2 33 c ∧ μ2 33 c ≤ 5
      rw [hq 33 (by omega), (d1 c a b).1]; have := dv_b (zN (μ 88 6) (3 * c.toNat + 1)); omega
    · show 0 ≤ μ2 34 c ∧ μ2 34 c ≤ 60
      rw [hq 34 (by omega), (d1 c a b).2.1]; have := dv_b (zN (μ 88 6) (3 * c.toNat + 2)); omega
    · show 0 ≤ μ2 35 c ∧ μ2 35 c ≤ 999
      rw [hq 35 (by omega), (d1 c a b).2.2]; have := dv_b (zN (μ 88 6) (3 * c.toNat + 3)); omega
    · show ∀ i, 0 ≤ i → i < 24 → 0 ≤ μ2 36 i ∧ μ2 36 i < 30
      rw [e36]; exact n4
    · rw [e32 7 (by decide)]; exact n5
    · rw [e32 8 (by decide)]; exact n6
    · rw [e32 9 (by decide)]; exact n7
    · rw [e32 10 (by decide)]; exact n8
    · show μ2 33 c = vm (μ2 88) 33 c
      rw [hq 33 (by omega), vm_33 a b, (d1 c a b).1, (d2 c a b).1]
    · show μ2 34 c = vm (μ2 88) 34 c
      rw [hq 34 (by omega), vm_34 a b, (d1 c a b).2.1, (d2 c a b).2.1]
    · show μ2 35 c = vm (μ2 88) 35 c
      rw [hq 35 (by omega)]; exact hl c a b
    · show μ2 36 i = vm (μ2 88) 36 i
      rw [e36, vm_36 a b, o2 (98 + i) (by omega) (by omega), ← vm_36 (f := μ 88) a b]; exact sm_t hs i a b
    · show μ2 32 7 = μ2 88 0 ∧ μ2 32 8 = μ2 88 2 ∧ μ2 32 9 = μ2 88 3 ∧ μ2 32 10 = μ2 88 4 ∧ μ2 32 11 = μ2 88 6 ∧ μ2 32 12 = μ2 88 5 ∧ μ2 32 13 = μ2 88 1
      rw [e32 7 (by decide), e32 8 (by decide), e32 9 (by decide), e32 10 (by decide), e32 12 (by decide), e32 13 (by decide), hq 32 (by omega), z1, uf_same, z2, o2 0 (by decide) (by omega), o2 2 (by decide) (by omega), o2 3 (by decide) (by omega), o2 4 (by decide) (by omega), o2 5 (by decide) (by omega), o2 1 (by decide) (by omega)]
      exact ⟨en.1, en.2.1, en.2.2.1, en.2.2.2.1, rfl, en.2.2.2.2.2.1, en.2.2.2.2.2.2⟩
  refine ⟨by rw [e1, e2, sumN_cg hl 30 (by omega)], sim_m hS hm ?_ (fun q hq2 a b => (f2 q b).trans (f1 q (by omega) (by omega) (by omega) (by omega)))⟩
  rw [hq 32 (by omega), z1, uf_ne (by decide)]; exact Int.le_refl _
theorem st_run {μ μ1 μ2 : Mem} {x y : Int} (n : Int) (hS : Sim μ) (h1 : (fun x μ' => ((1 ≤ n ∧ n ≤ 48) → x = (tkM μ 32 n.toNat).2 ∧ tS μ' 32 = (tkM μ 32 n.toNat).1 ∧ tkK μ μ' 32) ∧ (¬ (1 ≤ n ∧ n ≤ 48) → x = -1000000001 ∧ μ' = μ)) x μ1) (h2 : (fun x μ' => ((1 ≤ n ∧ n ≤ 48) → x = (tkVN (μ1 88) n.toNat).2 ∧ μ' 88 = tkR (μ1 88) (tkVN (μ1 88) n.toNat).1 ∧ ∀ q, q ≠ 88 → q ≠ 99 → q ≠ 108 → q ≠ 109 → μ' q = μ1 q) ∧ (¬ (1 ≤ n ∧ n ≤ 48) → x = -1000000001 ∧ μ' = μ1)) y μ2) : x = y ∧ Sim μ2 := by
  have hs := sim_s hS
  by_cases hc : 1 ≤ n ∧ n ≤ 48
  · obtain ⟨e1, t1, k1, f1⟩ := h1.1 hc
    have e88 : μ1 88 = μ 88 := f1 88 (by decide) (by decide) (by decide) (by decide)
    obtain ⟨e2, t2, f2⟩ := h2.1 hc
    rw [e88] at e2 t2
    have ht := sm_tk hs n.toNat
    have hb := tkN_f (n := n.toNat) hs.2.1
    have hq : ∀ q, q < 87 → μ2 q = μ1 q := fun q h => f2 q (by omega) (by omega) (by omega) (by omega)
    obtain ⟨S, hS2⟩ : ∃ S, S = (tkVN (μ 88) n.toNat).1 := ⟨_, rfl⟩
    rw [← hS2] at t2 hb ht
    have ts : tsE (tS μ1 32) S := by rw [t1]; exact ht.1
    have l1 : EqR (μ1 35) S.1 := ts.1
    have l2 : (μ1 32 11, μ1 32 9, μ1 32 12) = S.2 := ts.2
    have l3 : μ1 32 11 = S.2.1 := by rw [← l2]
    have l4 : μ1 32 9 = S.2.2.1 := by rw [← l2]
    have l5 : μ1 32 12 = S.2.2.2 := by rw [← l2]
    refine ⟨by rw [e1, e2, ht.2], ?_⟩
    have en := sm_n hs
    obtain ⟨n1, n2, n3, n4, n5, n6, n7, n8⟩ := nN hs
    obtain ⟨v3, v4, v6, vl, w0, w1, w2, w4⟩ := tkR_vm (f := μ 88) (s := S)
    have c33 : μ2 33 = μ 33 := (hq 33 (by omega)).trans (f1 33 (by decide) (by decide) (by decide) (by decide))
    have c34 : μ2 34 = μ 34 := (hq 34 (by omega)).trans (f1 34 (by decide) (by decide) (by decide) (by decide))
    have c36 : μ2 36 = μ 36 := (hq 36 (by omega)).trans (f1 36 (by decide) (by decide) (by decide) (by decide))
    have e32 : ∀ k, k ≠ 9 → k ≠ 11 → k ≠ 12 → μ2 32 k = μ 32 k := fun k a b c => by rw [hq 32 (by omega)]; exact k1 k a b c
    have hm : SM μ2 32 (μ2 88) := by
      rw [t2]
      refine sm_up hs (fun q a b => (hq q (by omega)).trans (f1 q (by omega) (by omega) (by omega) (by omega))) (e32 13 (by decide) (by decide) (by decide)) ⟨?_, ?_, fun c a b => ?_, ?_, ?_, ?_, ?_, ?_⟩ ⟨fun c a b => ⟨?_, ?_, ?_⟩, fun i a b => ?_, ?_⟩ w1 (fun j a b => tkR_o (by omega) (by omega) (by omega) (by omega))
      · show ∀ c, 0 ≤ c → c < 30 → 0 ≤ μ2 33 c ∧ μ2 33 c ≤ 5
        rw [c33]; exact n1
      · show ∀ c, 0 ≤ c → c < 30 → 0 ≤ μ2 34 c ∧ μ2 34 c ≤ 60
        rw [c34]; exact n2
      · show 0 ≤ μ2 35 c ∧ μ2 35 c ≤ 999
        rw [hq 35 (by omega), l1 c a b]; exact hb.1 c a b
      · show ∀ i, 0 ≤ i → i < 24 → 0 ≤ μ2 36 i ∧ μ2 36 i < 30
        rw [c36]; exact n4
      · rw [e32 7 (by decide) (by decide) (by decide)]; exact n5
      · rw [e32 8 (by decide) (by decide) (by decide)]; exact n6
      · rw [hq 32 (by omega), l4]; exact hb.2.1
      · rw [e32 10 (by decide) (by decide) (by decide)]; exact n8
      · show μ2 33 c = vm (tkR (μ 88) S) 33 c
        rw [c33, v3]; exact sm_k hs c a b
      · show μ2 34 c = vm (tkR (μ 88) S) 34 c
        rw [c34, v4]; exact sm_s hs c a b
      · show μ2 35 c = vm (tkR (μ 88) S) 35 c
        rw [hq 35 (by omega), l1 c a b, ld_tk c a b]
      · show μ2 36 i = vm (tkR (μ 88) S) 36 i
        rw [c36, v6]; exact sm_t hs i a b
      · show μ2 32 7 = tkR (μ 88) S 0 ∧ μ2 32 8 = tkR (μ 88) S 2 ∧ μ2 32 9 = tkR (μ 88) S 3 ∧ μ2 32 10 = tkR (μ 88) S 4 ∧ μ2 32 11 = tkR (μ 88) S 6 ∧ μ2 32 12 = tkR (μ 88) S 5 ∧ μ2 32 13 = tkR (μ 88) S 1
        rw [w0, w1, w2, w4, tkR_3.1, tkR_3.2.1, tkR_3.2.2, e32 7 (by decide) (by decide) (by decide), e32 8 (by decide) (by decide) (by decide), e32 10 (by decide) (by decide) (by decide), e32 13 (by decide) (by decide) (by decide), hq 32 (by omega), l3, l4, l5]
        exact ⟨en.1, en.2.1, rfl, en.2.2.2.1, rfl, rfl, en.2.2.2.2.2.2⟩
    refine sim_m hS hm ?_ (fun q hq2 a b => (f2 q b (by unfold scr at hq2; omega) (by unfold scr at hq2; omega) (by unfold scr at hq2; omega)).trans (f1 q (by unfold scr at hq2; omega) (by omega) (by omega) (by unfold scr at hq2; omega)))
    rw [e32 13 (by decide) (by decide) (by decide)]; exact Int.le_refl _
  · obtain ⟨e1, m1⟩ := h1.2 hc
    subst m1
    obtain ⟨e2, m2⟩ := h2.2 hc
    subst m2
    exact ⟨by rw [e1, e2], hS⟩
theorem st_keep {μ μ1 μ2 : Mem} {x y : Int} (hS : Sim μ) (h1 : (fun x μ' => x = sumN (μ 35) 30 ∧ asM μ' 39 μ 32 ∧ μ' 0 = uf (μ 0) 11 1 ∧ ∀ q, q ≠ 0 → q ≠ 39 → q ≠ 40 → q ≠ 41 → q ≠ 42 → q ≠ 43 → μ' q = μ q) x μ1) (h2 : (fun x μ' => x = sumN (vm (μ1 88) 35) 30 ∧ μ' = ua (ud μ1 87 3 1) 89 (cpA (μ1 88) (μ1 89) 2922)) y μ2) : x = y ∧ Sim μ2 := by
  obtain ⟨e1, a1, z1, f1⟩ := h1
  obtain ⟨e2, m2⟩ := h2
  have hs := sim_s hS
  have e88 : μ1 88 = μ 88 := f1 88 (by decide) (by decide) (by decide) (by decide) (by decide) (by decide)
  refine ⟨by rw [e1, e2, e88]; exact sumN_cg (sm_l hs) 30 (by omega), ?_⟩
  rw [e88] at m2
  have q1 : ∀ q, q ≠ 0 → (q < 39 ∨ 43 < q) → q ≠ 87 → q ≠ 89 → μ2 q = μ q := fun q a b c d => by rw [m2, ua_ne d, ud_n c]; exact f1 q a (by omega) (by omega) (by omega) (by omega) (by omega)
  have q0 : μ2 0 = uf (μ 0) 11 1 := by rw [m2, ua_ne (by decide), ud_n (by decide), z1]
  have q87 : μ2 87 = uf (μ 87) 3 1 := by rw [m2, ua_ne (by decide), ud_s, f1 87 (by decide) (by decide) (by decide) (by decide) (by decide) (by decide)]
  have q39 : ∀ q, 39 ≤ q → q ≤ 43 → μ2 q = μ1 q := fun q a b => by rw [m2, ua_ne (by omega), ud_n (by omega)]
  have q89 : μ2 89 = cpA (μ 88) (μ1 89) 2922 := by rw [m2, ua_same]
  have hl : ∀ q, 4 ≤ q → q < 32 → μ2 q = μ q := fun q a b => q1 q (by omega) (by omega) (by omega) (by omega)
  have hv : vm (cpA (μ 88) (μ1 89) 2922) = vm (μ 88) := vm_cg2 (fun j a b => cpA_in a b)
  have a2 : asM μ2 39 μ 32 := by
    unfold asM at *
    rw [q39 39 (by omega) (by omega), q39 (39 + 1) (by omega) (by omega), q39 (39 + 2) (by omega) (by omega), q39 (39 + 3) (by omega) (by omega), q39 (39 + 4) (by omega) (by omega)]
    exact a1
  have sm2 : SM μ2 39 (μ2 89) := by
    rw [q89]
    refine ⟨asM_I a2 hl hs.1, mdI_cg2 (fun j a b => cpA_in a b) hs.2.1, ?_, ?_⟩
    · rw [hv]
      obtain ⟨b1, b2, b3⟩ := a2
      obtain ⟨c1, c2, c3⟩ := hs.2.2.1
      exact ⟨fun c x y => ⟨(b1 c x y).1.trans (c1 c x y).1, (b1 c x y).2.1.trans (c1 c x y).2.1, (b1 c x y).2.2.trans (c1 c x y).2.2⟩, fun i x y => (b2 i x y).trans (c2 i x y), b3.1.trans c3.1, b3.2.1.trans c3.2.1, b3.2.2.1.trans c3.2.2.1, b3.2.2.2.1.trans c3.2.2.2.1, b3.2.2.2.2.1.trans c3.2.2.2.2.1, b3.2.2.2.2.2.1.trans c3.2.2.2.2.2.1, b3.2.2.2.2.2.2.trans c3.2.2.2.2.2.2⟩
    · rw [hv, asM_LM a2 hl hs.1]; exact hs.2.2.2
  obtain ⟨s1, ⟨i1, i2, i3⟩, s3, s4, s5, s6⟩ := id hS
  refine ⟨?_, ⟨?_, ?_, fun hi => ⟨sm2, ?_⟩⟩, ?_, fun k hk => ?_, fun k hk => ?_, ?_⟩
  · rw [q1 88 (by decide) (by omega) (by decide) (by decide)]
    exact SM_q hl (q1 _ (by decide) (by omega) (by decide) (by decide)) (q1 _ (by decide) (by omega) (by decide) (by decide)) (q1 _ (by decide) (by omega) (by decide) (by decide)) (q1 _ (by decide) (by omega) (by decide) (by decide)) (q1 _ (by decide) (by omega) (by decide) (by decide)) s1
  · rw [q0, uf_same]; exact Or.inr rfl
  · rw [q0, q87, uf_same, uf_same]
  · rw [a2.2.2.2.2.2.2.2.2, q1 32 (by decide) (by omega) (by decide) (by decide)]; exact Int.le_refl _
  · rw [q1 107 (by decide) (by omega) (by decide) (by decide), q1 57 (by decide) (by omega) (by decide) (by decide), q1 56 (by decide) (by omega) (by decide) (by decide), q87, uf_ne (by decide)]; exact s3
  · rw [q1 (62 + 2 * k) (by omega) (by omega) (by omega) (by omega), q1 (62 + 2 * k + 1) (by omega) (by omega) (by omega) (by omega), q1 91 (by decide) (by omega) (by decide) (by decide), q1 92 (by decide) (by omega) (by decide) (by decide), q1 93 (by decide) (by omega) (by decide) (by decide)]; exact s4 k hk
  · rw [q1 (71 + 3 * k) (by omega) (by omega) (by omega) (by omega), q1 (71 + 3 * k + 1) (by omega) (by omega) (by omega) (by omega), q1 (71 + 3 * k + 2) (by omega) (by omega) (by omega) (by omega), q1 94 (by decide) (by omega) (by decide) (by decide), q1 95 (by decide) (by omega) (by decide) (by decide), q1 96 (by decide) (by omega) (by decide) (by decide), q1 97 (by decide) (by omega) (by decide) (by decide), q1 98 (by decide) (by omega) (by decide) (by decide)]; exact s5 k hk
  · rw [q1 111 (by decide) (by omega) (by decide) (by decide), q1 86 (by decide) (by omega) (by decide) (by decide), q87, q0, uf_ne (by decide), uf_ne (by decide)]; exact s6
theorem st_back {μ μ1 μ2 : Mem} {x y : Int} (hS : Sim μ) (h1 : (fun x μ' => (μ 0 11 = 0 → x = -1000000002 ∧ μ' = μ) ∧ (μ 0 11 ≠ 0 → x = sumN (μ 42) 30 ∧ asM μ' 32 μ 39 ∧ ∀ q, q ≠ 32 → q ≠ 33 → q ≠ 34 → q ≠ 35 → q ≠ 36 → μ' q = μ q)) x μ1) (h2 : (fun x μ' => (μ1 87 3 = 0 → x = -1000000002 ∧ μ' = μ1) ∧ (μ1 87 3 ≠ 0 → x = sumN (vm (μ1 89) 35) 30 ∧ μ' = ua μ1 88 (cpA (μ1 89) (μ1 88) 2922))) y μ2) : x = y ∧ Sim μ2 := by
  have h3 : μ 87 3 = μ 0 11 := hS.2.1.2.1
  by_cases hc : μ 0 11 = 0
  · obtain ⟨e1, m1⟩ := h1.1 hc
    subst m1
    obtain ⟨e2, m2⟩ := h2.1 (by rw [h3]; exact hc)
    subst m2
    exact ⟨by rw [e1, e2], hS⟩
  · obtain ⟨e1, a1, f1⟩ := h1.2 hc
    have g : ∀ q, 37 ≤ q → μ1 q = μ q := fun q a => f1 q (by omega) (by omega) (by omega) (by omega) (by omega)
    obtain ⟨e2, m2⟩ := h2.2 (by rw [g 87 (by omega), h3]; exact hc)
    rw [g 89 (by omega), g 88 (by omega)] at m2
    rw [g 89 (by omega)] at e2
    obtain ⟨hi, hle⟩ := hS.2.1.2.2 hc
    have hl : ∀ q, 4 ≤ q → q < 32 → μ1 q = μ q := fun q a b => f1 q (by omega) (by omega) (by omega) (by omega) (by omega)
    have hv : vm (cpA (μ 89) (μ 88) 2922) = vm (μ 89) := vm_cg2 (fun j a b => cpA_in a b)
    have e42 : EqR (μ 42) (vm (μ 89) 35) := sm_l hi
    refine ⟨by rw [e1, e2]; exact sumN_cg e42 30 (by omega), ?_⟩
    have hq : ∀ q, q ≠ 88 → μ2 q = μ1 q := fun q a => by rw [m2, ua_ne a]
    have sm1 : SM μ1 32 (cpA (μ 89) (μ 88) 2922) := by
      refine ⟨asM_I a1 hl hi.1, mdI_cg2 (fun j a b => cpA_in a b) hi.2.1, ?_, ?_⟩
      · rw [hv]
        obtain ⟨b1, b2, b3⟩ := a1
        obtain ⟨c1, c2, c3⟩ := hi.2.2.1
        exact ⟨fun c x y => ⟨(b1 c x y).1.trans (c1 c x y).1, (b1 c x y).2.1.trans (c1 c x y).2.1, (b1 c x y).2.2.trans (c1 c x y).2.2⟩, fun i x y => (b2 i x y).trans (c2 i x y), b3.1.trans c3.1, b3.2.1.trans c3.2.1, b3.2.2.1.trans c3.2.2.1, b3.2.2.2.1.trans c3.2.2.2.1, b3.2.2.2.2.1.trans c3.2.2.2.2.1, b3.2.2.2.2.2.1.trans c3.2.2.2.2.2.1, b3.2.2.2.2.2.2.trans c3.2.2.2.2.2.2⟩
      · rw [hv, asM_LM a1 hl hi.1]; exact hi.2.2.2
    have g88 : μ2 88 = cpA (μ 89) (μ 88) 2922 := by rw [m2, ua_same]
    refine sim_m2 hS ?_ (fun _ => ?_) (fun q hq2 a b => (hq q b).trans (f1 q (by omega) (by omega) (by omega) (by omega) (by omega)))
    · rw [g88]
      exact SM_q (fun q a b => hq q (by omega)) (hq _ (by decide)) (hq _ (by decide)) (hq _ (by decide)) (hq _ (by decide)) (hq _ (by decide)) sm1
    · rw [hq 32 (by decide), a1.2.2.2.2.2.2.2.2]; exact Int.le_refl _
theorem st_check {μ μ1 μ2 : Mem} {x y : Int} (n : Int) (hS : Sim μ) (h1 : (fun x μ' => μ' 0 = uf (μ 0) 10 0 ∧ (∀ q, q ≠ 0 → ¬ cs q → μ' q = μ q) ∧ x = (if 1 ≤ n ∧ n ≤ 30 then (if μ 0 11 = 0 then -1000000002 else if rgM (μ 86) (μ 0 10) μ 39 n.toNat = μ 0 10 ∧ rgM (μ 86) (μ 0 10) μ 39 n.toNat = 2 * n then 0 else 1 + rgM (μ 86) (μ 0 10) μ 39 n.toNat) else -1000000001)) x μ1) (h2 : (fun x μ' => μ' 87 = uf (μ1 87) 36 0 ∧ (∀ q, q ≠ 87 → q ≠ 90 → q ≠ 99 → q ≠ 108 → q ≠ 109 → q ≠ 112 → μ' q = μ1 q) ∧ x = (if 1 ≤ n ∧ n ≤ 30 then (if μ1 87 3 = 0 then -1000000002 else if rgV (μ1 111) (μ1 87 36) (μ1 89) n.toNat = μ1 87 36 ∧ rgV (μ1 111) (μ1 87 36) (μ1 89) n.toNat = 2 * n then 0 else 1 + rgV (μ1 111) (μ1 87 36) (μ1 89) n.toNat) else -1000000001)) y μ2) : x = y ∧ Sim μ2 := by
  obtain ⟨z1, f1, e1⟩ := h1
  obtain ⟨z2, f2, e2⟩ := h2
  have g : ∀ q, 87 ≤ q → μ1 q = μ q := fun q a => f1 q (by omega) (by unfold cs; omega)
  have h3 : μ 87 3 = μ 0 11 := hS.2.1.2.1
  obtain ⟨w1, w2, w3, w4⟩ := hS.2.2.2.2.2
  rw [g 87 (by omega), g 111 (by omega), g 89 (by omega), h3, w1, w2] at e2
  have hx : x = y := by
    rw [e1, e2]
    by_cases hc : 1 ≤ n ∧ n ≤ 30
    · rw [if_pos hc, if_pos hc]
      by_cases h0 : μ 0 11 = 0
      · rw [if_pos h0, if_pos h0]
      · rw [if_neg h0, if_neg h0]
        have hi := (hS.2.1.2.2 h0).1
        have e10 : μ 39 10 = μ 89 4 := (sm_n hi).2.2.2.1
        have er : rgM (μ 86) (μ 0 10) μ 39 n.toNat = rgV (μ 86) (μ 0 10) (μ 89) n.toNat := by
          show rgA (μ 86) (μ 0 10) (μ (39 + 1)) (μ (39 + 2)) (phC μ 39) (μ 39 10) n.toNat (tS μ 39) 0 = _
          rw [e10]
          exact rgA_cg (sm_k hi) (sm_s hi) (sm_ph hi) n.toNat _ _ 0 (sm_ts hi)
        rw [er]
    · rw [if_neg hc, if_neg hc]
  refine ⟨hx, sim_w hS (fun k hk => ?_) (fun k hk => ?_) ⟨?_, ?_, ?_, ?_⟩ (fun q hq a b c d => ?_)⟩
  · rw [f2 0 (by decide) (by decide) (by decide) (by decide) (by decide) (by decide), z1, uf_ne hk]
  · rw [z2, uf_ne hk, g 87 (by omega)]
  · rw [f2 111 (by decide) (by decide) (by decide) (by decide) (by decide) (by decide), f2 86 (by decide) (by decide) (by decide) (by decide) (by decide) (by decide), g 111 (by omega), f1 86 (by decide) (by unfold cs; omega)]; exact w1
  · rw [z2, uf_same, f2 0 (by decide) (by decide) (by decide) (by decide) (by decide) (by decide), z1, uf_same]
  · rw [f2 0 (by decide) (by decide) (by decide) (by decide) (by decide) (by decide), z1, uf_same]; decide
  · rw [f2 0 (by decide) (by decide) (by decide) (by decide) (by decide) (by decide), z1, uf_same]; decide
  · exact (f2 q b (by unfold scr at hq; omega) (by unfold scr at hq; omega) (by unfold scr at hq; omega) (by unfold scr at hq; omega) (by unfold scr at hq; omega)).trans (f1 q a (by unfold cs; unfold scr at hq; omega))
theorem st_tell {μ μ1 μ2 : Mem} {x y : Int} (v : Int) (hS : Sim μ) (h1 : (fun x μ' => (60 ≤ μ 0 10 → x = -1000000003 ∧ μ' = μ) ∧ (μ 0 10 < 60 → x = μ 0 10 + 1 ∧ μ' = ud (ud μ 86 (μ 0 10) v) 0 10 (μ 0 10 + 1))) x μ1) (h2 : (fun x μ' => (60 ≤ μ1 87 36 → x = -1000000003 ∧ μ' = μ1) ∧ (μ1 87 36 < 60 → x = μ1 87 36 + 1 ∧ μ' = ud (ud μ1 111 (μ1 87 36) v) 87 36 (μ1 87 36 + 1))) y μ2) : x = y ∧ Sim μ2 := by
  obtain ⟨w1, w2, w3, w4⟩ := hS.2.2.2.2.2
  by_cases hc : 60 ≤ μ 0 10
  · obtain ⟨e1, m1⟩ := h1.1 hc
    subst m1
    obtain ⟨e2, m2⟩ := h2.1 (by rw [w2]; exact hc)
    subst m2
    exact ⟨by rw [e1, e2], hS⟩
  · obtain ⟨e1, m1⟩ := h1.2 (by omega)
    have g87 : μ1 87 = μ 87 := by rw [m1]; simp (disch := omega) only [ud, ua_same, ua_ne]
    have g111 : μ1 111 = μ 111 := by rw [m1]; simp (disch := omega) only [ud, ua_same, ua_ne]
    obtain ⟨e2, m2⟩ := h2.2 (by rw [g87, w2]; omega)
    rw [g87, w2] at e2 m2
    refine ⟨by rw [e1, e2], sim_w hS (fun k hk => ?_) (fun k hk => ?_) ⟨?_, ?_, ?_, ?_⟩ (fun q hq a b c d => ?_)⟩
    · rw [m2, m1]; simp (disch := omega) only [ud, ua_same, ua_ne]; exact uf_ne hk
    · rw [m2, m1]; simp (disch := omega) only [ud, ua_same, ua_ne]; exact uf_ne hk
    · rw [m2, m1]; simp (disch := omega) only [ud, ua_same, ua_ne]; rw [w1]
    · rw [m2, m1]; simp (disch := omega) only [ud, ua_same, ua_ne, uf_same]
    · rw [m2, m1]; simp (disch := omega) only [ud, ua_same, ua_ne, uf_same]; omega
    · rw [m2, m1]; simp (disch := omega) only [ud, ua_same, ua_ne, uf_same]; omega
    · rw [m2, m1]; simp (disch := omega) only [ud, ua_ne]
theorem st_trim {μ μ1 μ2 : Mem} {x y : Int} (n : Int) (hS : Sim μ) (h1 : (fun x μ' => ((0 ≤ n ∧ n ≤ μ 56 1) → x = n ∧ μ' = ud μ 56 1 n) ∧ (¬ (0 ≤ n ∧ n ≤ μ 56 1) → x = -1000000001 ∧ μ' = μ)) x μ1) (h2 : (fun x μ' => ((0 ≤ n ∧ n ≤ μ1 87 21) → x = n ∧ μ' = ud μ1 87 21 n) ∧ (¬ (0 ≤ n ∧ n ≤ μ1 87 21) → x = -1000000001 ∧ μ' = μ1)) y μ2) : x = y ∧ Sim μ2 := by
  obtain ⟨t1, t2, t3, t4⟩ := hS.2.2.1
  by_cases hc : 0 ≤ n ∧ n ≤ μ 56 1
  · obtain ⟨e1, m1⟩ := h1.1 hc
    have g87 : μ1 87 = μ 87 := by rw [m1]; simp (disch := omega) only [ud, ua_same, ua_ne]
    obtain ⟨e2, m2⟩ := h2.1 (by rw [g87, t2]; exact hc)
    refine ⟨by rw [e1, e2], sim_t hS (fun k hk => ?_) ⟨?_, ?_, ?_, ?_⟩ (fun q hq a b c d => ?_)⟩
    · rw [m2, m1]; simp (disch := omega) only [ud, ua_same, ua_ne]; exact uf_ne hk
    · rw [m2, m1]; simp (disch := omega) only [ud, ua_ne]; exact t1
    · rw [m2, m1]; simp (disch := omega) only [ud, ua_same, ua_ne, uf_same]
    · rw [m2, m1]; simp (disch := omega) only [ud, ua_same, ua_ne, uf_same]; omega
    · rw [m2, m1]; simp (disch := omega) only [ud, ua_ne]; exact t4
    · rw [m2, m1]; simp (disch := omega) only [ud, ua_ne]
  · obtain ⟨e1, m1⟩ := h1.2 hc
    subst m1
    obtain ⟨e2, m2⟩ := h2.2 (by rw [t2]; exact hc)
    subst m2
    exact ⟨by rw [e1, e2], hS⟩
theorem st_feed {μ μ1 μ2 : Mem} {x y : Int} (a b c : Int) (hS : Sim μ) (h1 : (fun x μ' => (96 < μ 56 1 + 12 → x = -1000000003 ∧ μ' = μ) ∧ (μ 56 1 + 12 ≤ 96 → x = μ 56 1 + 12 ∧ μ' 56 1 = μ 56 1 + 12 ∧ (∀ q, μ' 57 q = if μ 56 1 ≤ q ∧ q < μ 56 1 + 12 then byI (if q - μ 56 1 < 4 then a else if q - μ 56 1 < 8 then b else c) (24 - 8 * ((q - μ 56 1) % 4)) else μ 57 q) ∧ ∀ q, q ≠ 56 → q ≠ 57 → μ' q = μ q)) x μ1) (h2 : (fun x μ' => (96 < μ1 87 21 + 12 → x = -1000000003 ∧ μ' = μ1) ∧ (μ1 87 21 + 12 ≤ 96 → x = μ1 87 21 + 12 ∧ μ' 87 = uf (μ1 87) 21 (μ1 87 21 + 12) ∧ (∀ q, μ' 107 q = if μ1 87 21 ≤ q ∧ q < μ1 87 21 + 12 then byI (if q - μ1 87 21 < 4 then a else if q - μ1 87 21 < 8 then b else c) (24 - 8 * ((q - μ1 87 21) % 4)) else μ1 107 q) ∧ ∀ q, q ≠ 87 → q ≠ 107 → μ' q = μ1 q)) y μ2) : x = y ∧ Sim μ2 := by
  obtain ⟨t1, t2, t3, t4⟩ := hS.2.2.1
  by_cases hc : μ 56 1 + 12 ≤ 96
  · obtain ⟨e1, m1, b1, f1⟩ := h1.2 hc
    have g87 : μ1 87 = μ 87 := f1 87 (by decide) (by decide)
    have g107 : μ1 107 = μ 107 := f1 107 (by decide) (by decide)
    obtain ⟨e2, m2, b2, f2⟩ := h2.2 (by rw [g87, t2]; exact hc)
    rw [g87, t2] at e2 b2 m2
    rw [g107, t1] at b2
    have g57 : μ2 57 = μ1 57 := f2 57 (by decide) (by decide)
    have g56 : μ2 56 = μ1 56 := f2 56 (by decide) (by decide)
    refine ⟨by rw [e1, e2], sim_t hS (fun k hk => ?_) ⟨?_, ?_, ?_, fun q => ?_⟩ (fun q hq a b c d => (f2 q c d).trans (f1 q a b))⟩
    · rw [m2, uf_ne hk]
    · rw [g57]; funext q; rw [b1 q, b2 q]
    · rw [m2, uf_same, g56, m1]
    · rw [g56, m1]; omega
    · rw [g57, b1 q]
      split
      · exact andI_b _
      · exact t4 q
  · obtain ⟨e1, m1⟩ := h1.1 (by omega)
    subst m1
    obtain ⟨e2, m2⟩ := h2.1 (by rw [t2]; omega)
    subst m2
    exact ⟨by rw [e1, e2], hS⟩
