/-! SLOTS AND TEXTS: both change alike -/
def SLr (μ : Mem) (k : Nat) : Prop := (0 ≤ μ (71 + 3 * k) 0 ∧ μ (71 + 3 * k) 0 ≤ 3) ∧ μ 94 (k : Nat) = μ (71 + 3 * k) 0 ∧
    (μ (71 + 3 * k) 0 = 1 → ((0 ≤ μ (71 + 3 * k) 1 ∧ μ (71 + 3 * k) 1 ≤ 5) ∧ (0 ≤ μ (71 + 3 * k) 2 ∧ μ (71 + 3 * k) 2 ≤ 60) ∧ 0 ≤ μ (71 + 3 * k) 3 ∧ μ (71 + 3 * k) 3 ≤ 999) ∧ μ 95 (k : Nat) = μ (71 + 3 * k) 1 ∧ μ 96 (k : Nat) = kWorth (μ (71 + 3 * k) 1) (μ (71 + 3 * k) 2) (μ (71 + 3 * k) 3)) ∧
    (μ (71 + 3 * k) 0 = 2 → (0 ≤ μ (71 + 3 * k + 1) 1 ∧ μ (71 + 3 * k + 1) 1 ≤ 24) ∧ μ 97 (k : Nat) = μ (71 + 3 * k + 1) 1 ∧ ∀ j, 0 ≤ j → j < 24 → μ 98 (24 * (k : Nat) + j) = μ (71 + 3 * k + 2) j) ∧
    (μ (71 + 3 * k) 0 = 3 → μ 95 (k : Nat) = μ (71 + 3 * k) 4)
theorem sim_sl {μ μ2 : Mem} (h : Sim μ) (ht : ∀ k : Nat, k < 5 → SLr μ2 k) (hf : ∀ q, ¬ scr q → (q < 71 ∨ 85 < q) → q ≠ 94 → q ≠ 95 → q ≠ 96 → q ≠ 97 → q ≠ 98 → μ2 q = μ q) : Sim μ2 := by
  have hl : ∀ q, 4 ≤ q → q < 32 → μ2 q = μ q := fun q a b => hf q (by unfold scr; omega) (by omega) (by omega) (by omega) (by omega) (by omega) (by omega)
  have hz : ∀ q, (q < 3 ∨ (32 ≤ q ∧ q ≤ 36) ∨ (39 ≤ q ∧ q ≤ 43) ∨ (56 ≤ q ∧ q ≤ 57) ∨ (61 ≤ q ∧ q ≤ 70) ∨ (86 ≤ q ∧ q ≤ 89) ∨ (91 ≤ q ∧ q ≤ 93) ∨ q = 107 ∨ q = 111) → μ2 q = μ q := fun q a => hf q (by unfold scr; omega) (by omega) (by omega) (by omega) (by omega) (by omega) (by omega)
  obtain ⟨s1, ⟨i1, i2, i3⟩, s3, s4, s5, s6⟩ := h
  refine ⟨?_, ⟨?_, ?_, fun hi => ?_⟩, ?_, fun k hk => ?_, ht, ?_⟩
  · rw [hz 88 (by omega)]; exact SM_q hl (hz _ (by omega)) (hz _ (by omega)) (hz _ (by omega)) (hz _ (by omega)) (hz _ (by omega)) s1
  · rw [hz 0 (by omega)]; exact i1
  · rw [hz 0 (by omega), hz 87 (by omega)]; exact i2
  · rw [hz 0 (by omega)] at hi
    rw [hz 89 (by omega), hz 39 (by omega), hz 32 (by omega)]
    exact ⟨SM_q hl (hz _ (by omega)) (hz _ (by omega)) (hz _ (by omega)) (hz _ (by omega)) (hz _ (by omega)) (i3 hi).1, (i3 hi).2⟩
  · rw [hz 107 (by omega), hz 57 (by omega), hz 87 (by omega), hz 56 (by omega)]; exact s3
  · rw [hz (62 + 2 * k) (by omega), hz (62 + 2 * k + 1) (by omega), hz 91 (by omega), hz 92 (by omega), hz 93 (by omega)]; exact s4 k hk
  · rw [hz 111 (by omega), hz 86 (by omega), hz 87 (by omega), hz 0 (by omega)]; exact s6
theorem sim_slU {μ μ1 μ2 : Mem} {sl th k : Int} (hS : Sim μ) (s0 : 0 ≤ sl) (s1 : sl ≤ 4) (t0 : 0 ≤ th) (t1 : th ≤ 3)
    (F : ∀ q, q ≠ 71 + 3 * sl.toNat → q ≠ 71 + 3 * sl.toNat + 1 → q ≠ 71 + 3 * sl.toNat + 1 + 1 → μ1 q = μ q) (c0 : μ1 (71 + 3 * sl.toNat) 0 = th)
    (c1 : th = 1 → (0 ≤ k ∧ k ≤ 29) ∧ μ1 (71 + 3 * sl.toNat) 1 = μ 33 k ∧ μ1 (71 + 3 * sl.toNat) 2 = μ 34 k ∧ μ1 (71 + 3 * sl.toNat) 3 = μ 35 k)
    (c2 : th = 2 → (0 ≤ k ∧ k ≤ 3) ∧ μ1 (71 + 3 * sl.toNat + 1) 1 = μ (62 + 2 * k.toNat) 1 ∧ ∀ q, 0 ≤ q → q < 24 → μ1 (71 + 3 * sl.toNat + 1 + 1) q = μ ((62 + 2 * k.toNat) + 1) q)
    (c3 : th = 3 → μ1 (71 + 3 * sl.toNat) 4 = k)
    (d94 : μ2 94 = uf (μ1 94) sl th) (d95 : μ2 95 = uf (μ1 95) sl (if th = 1 then vm (μ1 88) 33 k else k)) (d96 : μ2 96 = uf (μ1 96) sl (if th = 1 then kWorth (vm (μ1 88) 33 k) (vm (μ1 88) 34 k) (vm (μ1 88) 35 k) else 0))
    (d2 : th = 2 → μ2 97 = uf (μ1 97) sl (μ1 92 k) ∧ ∀ q, μ2 98 q = if 24 * sl ≤ q ∧ q < 24 * sl + 24 then μ1 93 (24 * k + (q - 24 * sl)) else μ1 98 q) (dn : th ≠ 2 → μ2 97 = μ1 97 ∧ μ2 98 = μ1 98)
    (df : ∀ q, q ≠ 94 → q ≠ 95 → q ≠ 96 → q ≠ 97 → q ≠ 98 → μ2 q = μ1 q) : Sim μ2 := by
  have hm : ((sl.toNat : Nat) : Int) = sl := by omega
  generalize sl.toNat = m at hm F c0 c1 c2 c3
  subst hm
  have hs := sim_s hS
  refine sim_sl hS (fun z hz => ?_) (fun q _ b c d e f g => (df q c d e f g).trans (F q (by omega) (by omega) (by omega)))
  unfold SLr
  rw [df (71 + 3 * z) (by omega) (by omega) (by omega) (by omega) (by omega), df (71 + 3 * z + 1) (by omega) (by omega) (by omega) (by omega) (by omega), df (71 + 3 * z + 2) (by omega) (by omega) (by omega) (by omega) (by omega), d94, d95, d96]
  by_cases e : z = m
  · subst e
    rw [uf_same, uf_same, uf_same, c0]
    refine ⟨⟨t0, t1⟩, rfl, fun h => ?_, fun h => ?_, fun h => ?_⟩
    · obtain ⟨⟨k0, k1⟩, v1, v2, v3⟩ := c1 h
      have a1 : vm (μ 88) 33 k = μ 33 k := (sm_k hs k k0 (by omega)).symm
      have a2 : vm (μ 88) 34 k = μ 34 k := (sm_s hs k k0 (by omega)).symm
      have a3 : vm (μ 88) 35 k = μ 35 k := (sm_l hs k k0 (by omega)).symm
      rw [if_pos h, if_pos h, v1, v2, v3, F 88 (by omega) (by omega) (by omega), a1, a2, a3]
      exact ⟨⟨(nN hs).1 k k0 (by omega), (nN hs).2.1 k k0 (by omega), (nN hs).2.2.1 k k0 (by omega)⟩, rfl, rfl⟩
    · obtain ⟨⟨k0, k1⟩, v1, v2⟩ := c2 h
      obtain ⟨q1, q2⟩ := d2 h
      have h4 := hS.2.2.2.1 k.toNat (by omega)
      rw [show ((k.toNat : Nat) : Int) = k by omega] at h4
      rw [q1, uf_same, v1, F 92 (by omega) (by omega) (by omega), h4.2.2.1]
      refine ⟨h4.1.2, rfl, fun j j0 j1 => ?_⟩
      rw [q2, if_pos (by omega), F 93 (by omega) (by omega) (by omega), show 24 * k + (24 * (z : Int) + j - 24 * (z : Int)) = 24 * k + j by omega]
      exact (h4.2.2.2 j j0 j1).trans (v2 j j0 j1).symm
    · rw [if_neg (by omega)]; exact (c3 h).symm
  · have e97 : μ2 97 (z : Nat) = μ 97 (z : Nat) := by
      by_cases h : th = 2
      · rw [(d2 h).1, uf_ne (by omega), F 97 (by omega) (by omega) (by omega)]
      · rw [(dn h).1, F 97 (by omega) (by omega) (by omega)]
    have e98 : ∀ j, 0 ≤ j → j < 24 → μ2 98 (24 * (z : Nat) + j) = μ 98 (24 * (z : Nat) + j) := fun j j0 j1 => by
      by_cases h : th = 2
      · rw [(d2 h).2, if_neg (by omega), F 98 (by omega) (by omega) (by omega)]
      · rw [(dn h).2, F 98 (by omega) (by omega) (by omega)]
    obtain ⟨r1, r2, r3, r4, r5⟩ := hS.2.2.2.2.1 z hz
    rw [uf_ne (by omega), uf_ne (by omega), uf_ne (by omega), F 94 (by omega) (by omega) (by omega), F 95 (by omega) (by omega) (by omega), F 96 (by omega) (by omega) (by omega), F (71 + 3 * z) (by omega) (by omega) (by omega), F (71 + 3 * z + 1) (by omega) (by omega) (by omega), F (71 + 3 * z + 2) (by omega) (by omega) (by omega)]
    refine ⟨r1, r2, r3, fun h => ?_, r5⟩
    obtain ⟨a, b, c⟩ := r4 h
    exact ⟨a, e97.trans b, fun j j0 j1 => (e98 j j0 j1).trans (c j j0 j1)⟩

theorem st_lay {μ μ1 μ2 : Mem} {x y : Int} (sl th k : Int) (hS : Sim μ) (h1 : (fun x μ' => (¬ ((0 ≤ sl ∧ sl ≤ 4) ∧ (0 ≤ th ∧ th ≤ 3) ∧ (th = 1 → 0 ≤ k ∧ k ≤ 29) ∧ (th = 2 → 0 ≤ k ∧ k ≤ 3)) → x = -1000000001 ∧ μ' = μ) ∧ (((0 ≤ sl ∧ sl ≤ 4) ∧ (0 ≤ th ∧ th ≤ 3) ∧ (th = 1 → 0 ≤ k ∧ k ≤ 29) ∧ (th = 2 → 0 ≤ k ∧ k ≤ 3)) → ((th = 2 ∧ μ (62 + 2 * k.toNat) 0 = -1) → x = -1000000011 ∧ μ' = μ) ∧ (¬ (th = 2 ∧ μ (62 + 2 * k.toNat) 0 = -1) → x = μ (71 + 3 * sl.toNat) 0 ∧ (th = 0 → μ' = ud μ (71 + 3 * sl.toNat) 0 0) ∧ (th = 1 → μ' = ud (ud (ud (ud μ (71 + 3 * sl.toNat) 0 1) (71 + 3 * sl.toNat) 1 (μ 33 k)) (71 + 3 * sl.toNat) 2 (μ 34 k)) (71 + 3 * sl.toNat) 3 (μ 35 k)) ∧ (th = 2 → μ' (71 + 3 * sl.toNat) = uf (μ (71 + 3 * sl.toNat)) 0 2 ∧ μ' ((71 + 3 * sl.toNat) + 1) 1 = μ (62 + 2 * k.toNat) 1 ∧ (∀ q, 0 ≤ q → q < 24 → μ' ((71 + 3 * sl.toNat) + 1 + 1) q = μ ((62 + 2 * k.toNat) + 1) q) ∧ ∀ q, q ≠ (71 + 3 * sl.toNat) → q ≠ (71 + 3 * sl.toNat) + 1 → q ≠ (71 + 3 * sl.toNat) + 1 + 1 → μ' q = μ q) ∧ (th = 3 → μ' = ud (ud μ (71 + 3 * sl.toNat) 0 3) (71 + 3 * sl.toNat) 4 k)))) x μ1) (h2 : (fun x μ' => (¬ ((0 ≤ sl ∧ sl ≤ 4) ∧ (0 ≤ th ∧ th ≤ 3) ∧ (th = 1 → 0 ≤ k ∧ k ≤ 29) ∧ (th = 2 → 0 ≤ k ∧ k ≤ 3)) → x = -1000000001 ∧ μ' = μ1) ∧ (((0 ≤ sl ∧ sl ≤ 4) ∧ (0 ≤ th ∧ th ≤ 3) ∧ (th = 1 → 0 ≤ k ∧ k ≤ 29) ∧ (th = 2 → 0 ≤ k ∧ k ≤ 3)) → ((th = 2 ∧ μ1 91 k = -1) → x = -1000000011 ∧ μ' = μ1) ∧ (¬ (th = 2 ∧ μ1 91 k = -1) → x = μ1 94 sl ∧ μ' 94 = uf (μ1 94) sl th ∧ μ' 95 = uf (μ1 95) sl (if th = 1 then vm (μ1 88) 33 k else k) ∧ μ' 96 = uf (μ1 96) sl (if th = 1 then kWorth (vm (μ1 88) 33 k) (vm (μ1 88) 34 k) (vm (μ1 88) 35 k) else 0) ∧ (th = 2 → μ' 97 = uf (μ1 97) sl (μ1 92 k) ∧ ∀ q, μ' 98 q = if 24 * sl ≤ q ∧ q < 24 * sl + 24 then μ1 93 (24 * k + (q - 24 * sl)) else μ1 98 q) ∧ (th ≠ 2 → μ' 97 = μ1 97 ∧ μ' 98 = μ1 98) ∧ ∀ q, q ≠ 94 → q ≠ 95 → q ≠ 96 → q ≠ 97 → q ≠ 98 → μ' q = μ1 q))) y μ2) : x = y ∧ Sim μ2 := by
  by_cases c1 : (0 ≤ sl ∧ sl ≤ 4) ∧ (0 ≤ th ∧ th ≤ 3) ∧ (th = 1 → 0 ≤ k ∧ k ≤ 29) ∧ (th = 2 → 0 ≤ k ∧ k ≤ 3)
  · have hz : th = 2 → μ 91 k = μ (62 + 2 * k.toNat) 0 := fun h => by
      have hk := c1.2.2.2 h
      have h4 := hS.2.2.2.1 k.toNat (by omega)
      rw [show ((k.toNat : Nat) : Int) = k by omega] at h4
      exact h4.2.1
    by_cases c2 : th = 2 ∧ μ (62 + 2 * k.toNat) 0 = -1
    · obtain ⟨e1, m1⟩ := (h1.2 c1).1 c2
      subst m1
      obtain ⟨e2, m2⟩ := (h2.2 c1).1 ⟨c2.1, by rw [hz c2.1]; exact c2.2⟩
      subst m2
      exact ⟨by rw [e1, e2], hS⟩
    · obtain ⟨e1, a0, a1, a2, a3⟩ := (h1.2 c1).2 c2
      have hF : ∀ q, q ≠ 71 + 3 * sl.toNat → q ≠ 71 + 3 * sl.toNat + 1 → q ≠ 71 + 3 * sl.toNat + 1 + 1 → μ1 q = μ q := by
        intro q q0 q1 q2
        rcases (by omega : th = 0 ∨ th = 1 ∨ th = 2 ∨ th = 3) with t | t | t | t
        · rw [a0 t, ud_n q0]
        · rw [a1 t, ud_n q0, ud_n q0, ud_n q0, ud_n q0]
        · exact (a2 t).2.2.2 q q0 q1 q2
        · rw [a3 t, ud_n q0, ud_n q0]
      have hc0 : μ1 (71 + 3 * sl.toNat) 0 = th := by
        rcases (by omega : th = 0 ∨ th = 1 ∨ th = 2 ∨ th = 3) with t | t | t | t
        · rw [a0 t, ud_s, uf_same, t]
        · rw [a1 t, ud_s, uf_ne (by decide), ud_s, uf_ne (by decide), ud_s, uf_ne (by decide), ud_s, uf_same, t]
        · rw [(a2 t).1, uf_same, t]
        · rw [a3 t, ud_s, uf_ne (by decide), ud_s, uf_same, t]
      obtain ⟨e2, d94, d95, d96, d2, dn, df⟩ := (h2.2 c1).2 (fun h => c2 ⟨h.1, by rw [← hz h.1, ← hF 91 (by omega) (by omega) (by omega)]; exact h.2⟩)
      have h5 := hS.2.2.2.2.1 sl.toNat (by omega)
      rw [show ((sl.toNat : Nat) : Int) = sl by omega] at h5
      refine ⟨by rw [e1, e2, hF 94 (by omega) (by omega) (by omega)]; exact h5.2.1.symm, sim_slU hS c1.1.1 c1.1.2 c1.2.1.1 c1.2.1.2 hF hc0 (fun t => ⟨c1.2.2.1 t, ?_, ?_, ?_⟩) (fun t => ⟨c1.2.2.2 t, (a2 t).2.1, (a2 t).2.2.1⟩) (fun t => ?_) d94 d95 d96 d2 dn df⟩
      · rw [a1 t, ud_s, uf_ne (by decide), ud_s, uf_ne (by decide), ud_s, uf_same]
      · rw [a1 t, ud_s, uf_ne (by decide), ud_s, uf_same]
      · rw [a1 t, ud_s, uf_same]
      · rw [a3 t, ud_s, uf_same]
  · obtain ⟨e1, m1⟩ := h1.1 c1
    subst m1
    obtain ⟨e2, m2⟩ := h2.1 c1
    subst m2
    exact ⟨by rw [e1, e2], hS⟩
theorem LLc_cg {μ μ' : Mem} {n : Nat} (hf : ∀ i, i < n → μ' (4 + 2 * i) = μ (4 + 2 * i) ∧ μ' (4 + 2 * i + 1) = μ (4 + 2 * i + 1)) : LLc μ' n = LLc μ n := by
  unfold LLc
  apply List.map_congr_left
  intro i hi
  have h := hf i (List.mem_range.mp hi)
  rw [h.1, h.2]
theorem lwI_cg {μ μ' : Mem} {n : Nat} (hf : ∀ i, i < n → μ' (4 + 2 * i) = μ (4 + 2 * i) ∧ μ' (4 + 2 * i + 1) = μ (4 + 2 * i + 1)) (h : lwI μ n) : lwI μ' n := by
  obtain ⟨h1, h2, h3⟩ := h
  exact ⟨h1, fun i hi => by rw [(hf i hi).1]; exact h2 i hi, by rw [LLc_cg hf]; exact h3⟩
theorem LLc_s {μ : Mem} {n : Nat} : LLc μ (n + 1) = LLc μ n ++ [(μ (4 + 2 * n) 0, μ (4 + 2 * n) 1, (List.range (μ (4 + 2 * n) 2).toNat).map (fun k : Nat => μ (4 + 2 * n + 1) k))] := by
  unfold LLc
  rw [List.range_succ, List.map_append]
  rfl
theorem vm_i {f g : Int → Int} {i : Nat} (hi : i < 14) (h : ∀ j : Int, 122 + 200 * (i : Nat) ≤ j → j < 322 + 200 * (i : Nat) → g j = f j) : vm g (4 + 2 * i) = vm f (4 + 2 * i) ∧ vm g (4 + 2 * i + 1) = vm f (4 + 2 * i + 1) := by
  have e1 : (4 + 2 * i - 4) / 2 = i := by omega
  have e2 : (4 + 2 * i + 1 - 4) / 2 = i := by omega
  constructor
  · funext k
    rw [vm_q (by omega) (by omega), vm_q (by omega) (by omega), e1]
    split
    · split
      · rw [h _ (by omega) (by omega)]
      · rfl
    · split
      · rw [h _ (by omega) (by omega), h _ (by omega) (by omega)]
      · rfl
  · funext k
    rw [vm_q (by omega) (by omega), vm_q (by omega) (by omega), e2]
    split
    · split
      · rw [h _ (by omega) (by omega)]
      · rfl
    · split
      · rw [h _ (by omega) (by omega), h _ (by omega) (by omega)]
      · rfl
theorem as_g {μ μ2 : Mem} {M : Nat} {f g : Int → Int} (h : asM μ M (vm f) 32) (h1 : μ2 (M + 1) = μ (M + 1)) (h2 : μ2 (M + 2) = μ (M + 2)) (h3 : μ2 (M + 3) = μ (M + 3)) (h4 : μ2 (M + 4) = μ (M + 4)) (h0 : ∀ k, k ≠ 13 → μ2 M k = μ M k) (h13 : μ2 M 13 = g 1) (hg : ∀ j, j ≠ 1 → 0 ≤ j → j < 122 → g j = f j) : asM μ2 M (vm g) 32 := by
  obtain ⟨a1, a2, a7, a8, a9, a10, a11, a12, a13⟩ := h
  have v0 := (vm_r (f := f) (f' := g) (w := 0) (fun c x y => hg _ (by omega) (by omega) (by omega))).1 rfl
  have v1 := (vm_r (f := f) (f' := g) (w := 1) (fun c x y => hg _ (by omega) (by omega) (by omega))).2.1 rfl
  have v2 := (vm_r (f := f) (f' := g) (w := 2) (fun c x y => hg _ (by omega) (by omega) (by omega))).2.2 rfl
  have v3 := vm_t (f := f) (f' := g) (fun i x y => hg _ (by omega) (by omega) (by omega))
  refine ⟨fun c x y => ?_, fun i x y => ?_, ?_, ?_, ?_, ?_, ?_, ?_, ?_⟩
  · rw [h1, h2, h3]
    show μ (M + 1) c = vm g 33 c ∧ μ (M + 2) c = vm g 34 c ∧ μ (M + 3) c = vm g 35 c
    rw [v0, v1, v2]; exact a1 c x y
  · rw [h4]
    show μ (M + 4) i = vm g 36 i
    rw [v3]; exact a2 i x y
  · rw [h0 7 (by decide)]; show _ = g 0; rw [hg 0 (by decide) (by decide) (by decide)]; exact a7
  · rw [h0 8 (by decide)]; show _ = g 2; rw [hg 2 (by decide) (by decide) (by decide)]; exact a8
  · rw [h0 9 (by decide)]; show _ = g 3; rw [hg 3 (by decide) (by decide) (by decide)]; exact a9
  · rw [h0 10 (by decide)]; show _ = g 4; rw [hg 4 (by decide) (by decide) (by decide)]; exact a10
  · rw [h0 11 (by decide)]; show _ = g 6; rw [hg 6 (by decide) (by decide) (by decide)]; exact a11
  · rw [h0 12 (by decide)]; show _ = g 5; rw [hg 5 (by decide) (by decide) (by decide)]; exact a12
  · exact h13
theorem tx_cg {f g : Int → Int} {n : Nat} (hx : 0 ≤ f 1) (hn : n ≤ (f 1).toNat) (h14 : f 1 ≤ 14) (hb : lwI (vm f) (f 1).toNat) (ht : txI f) (hg : ∀ j : Int, 122 ≤ j → j < 122 + 200 * (n : Nat) → g j = f j) : ∀ (i : Nat) (k : Int), i < n → 0 ≤ k → k < g (122 + 200 * (i : Nat) + 2) → stOK (g (122 + 200 * (i : Nat) + 4 + 2 * k)) (g (122 + 200 * (i : Nat) + 4 + 2 * k + 1)) := by
  intro i k hi k0 k1
  have h2 := hb.2.1 i (by omega)
  rw [vm_lw (by omega) (by decide) (by decide)] at h2
  rw [hg _ (by omega) (by omega)] at k1
  rw [hg _ (by omega) (by omega), hg _ (by omega) (by omega)]
  exact ht i k (by omega) k0 k1
/-- nothing that the texts so far stand on has changed -/
theorem sm_tx2 {μ μ2 : Mem} {M : Nat} {f g : Int → Int} (h : SM μ M f) (hl : ∀ i : Nat, i < (f 1).toNat → μ2 (4 + 2 * i) = μ (4 + 2 * i) ∧ μ2 (4 + 2 * i + 1) = μ (4 + 2 * i + 1)) (h0 : μ2 M = μ M) (h1 : μ2 (M + 1) = μ (M + 1)) (h2 : μ2 (M + 2) = μ (M + 2)) (h3 : μ2 (M + 3) = μ (M + 3)) (h4 : μ2 (M + 4) = μ (M + 4)) (hg : ∀ j, j < 122 + 200 * f 1 → g j = f j) : SM μ2 M g := by
  obtain ⟨a, b, c, d⟩ := id h
  have hn := (sm_n h).2.2.2.2.2.2
  have hT := md_t b
  have hx := hT.1
  have e1 : g 1 = f 1 := hg 1 (by omega)
  have hN : (μ M 13).toNat = (f 1).toNat := by rw [hn]
  have hv : ∀ i, i < (f 1).toNat → vm g (4 + 2 * i) = vm f (4 + 2 * i) ∧ vm g (4 + 2 * i + 1) = vm f (4 + 2 * i + 1) := fun i hi => vm_i (by omega) (fun j x y => hg j (by omega))
  obtain ⟨n1, n2, n3, n4, n5, n6, n7, n8, n9, n10⟩ := a
  have hI : mtI μ2 M := by
    unfold mtI
    rw [h0, h1, h2, h3, h4]
    exact ⟨n1, n2, n3, n4, n5, n6, n7, n8, n9, by rw [hN] at n10 ⊢; exact lwI_cg hl n10⟩
  have hA : asM μ2 M (vm g) 32 := as_g c h1 h2 h3 h4 (fun k _ => by rw [h0]) (by rw [h0, e1]; exact hn) (fun j _ _ y => hg j (by omega))
  refine ⟨hI, md_of hI hA ⟨by rw [e1]; exact hx, by rw [e1]; exact lwI_cg hv hT.2.1, ?_⟩, hA, ?_⟩
  · intro i k hi
    rw [e1] at hi
    exact tx_cg hx.1 (Nat.le_refl _) hx.2 hT.2.1 hT.2.2 (fun j x y => hg j (by omega)) i k hi
  · show LLc μ2 (μ2 M 13).toNat = LLc (vm g) (g 1).toNat
    rw [h0, e1, hN, LLc_cg hl, LLc_cg hv]
    have d2 : LLc μ (μ M 13).toNat = LLc (vm f) (f 1).toNat := d
    rw [hN] at d2
    exact d2
theorem wf_app {LL : LT} {t : Int × Int × List Int} (h : wfLL LL) (hl : LL.length < 14) (ht : wfT t) : wfLL (LL ++ [t]) := by
  refine ⟨by rw [List.length_append]; show LL.length + 1 ≤ 14; omega, fun x hx => ?_⟩
  rcases List.mem_append.mp hx with q | q
  · exact h.2 x q
  · rw [List.mem_singleton.mp q]; exact ht
theorem sm_new {μ μ2 : Mem} {f g : Int → Int} {S : RS} {ky : Int} (h : SM μ 32 f) (t14 : f 1 < 14) (k0 : 0 ≤ ky ∧ ky ≤ 2) (hdep : dep (cdl S) = some 1) (hcd : ∀ c ∈ cdl S, cdOK ky c) (hS : (0 ≤ rLn S ∧ rLn S ≤ 96) ∧ 0 ≤ rPc S ∧ rPc S ≤ 96)
    (m32 : μ2 32 = uf (μ 32) 13 (f 1 + 1)) (m33 : ∀ q, 33 ≤ q → q ≤ 36 → μ2 q = μ q) (hl : ∀ i : Nat, i < (f 1).toNat → μ2 (4 + 2 * i) = μ (4 + 2 * i) ∧ μ2 (4 + 2 * i + 1) = μ (4 + 2 * i + 1))
    (c0 : μ2 (4 + 2 * (f 1).toNat) 0 = ky) (c1 : μ2 (4 + 2 * (f 1).toNat) 1 = rPc S) (c2 : μ2 (4 + 2 * (f 1).toNat) 2 = rLn S) (c3 : ∀ k, 0 ≤ k → k < 96 → μ2 (4 + 2 * (f 1).toNat + 1) k = rCo S k)
    (g1 : g 1 = f 1 + 1) (d0 : g (122 + 200 * f 1 + 0) = ky) (d1 : g (122 + 200 * f 1 + 1) = rPc S) (d2 : g (122 + 200 * f 1 + 2) = rLn S) (d3 : cdM g (122 + 200 * f 1 + 4) S) (hg : ∀ j, j ≠ 1 → j < 122 + 200 * f 1 → g j = f j) : SM μ2 32 g := by
  obtain ⟨a, b, c, d⟩ := id h
  have hn13 := (sm_n h).2.2.2.2.2.2
  have hT := md_t b
  have hx := hT.1
  have hN : (μ 32 13).toNat = (f 1).toNat := by rw [hn13]
  have hfn : f 1 = (((f 1).toNat : Nat) : Int) := by omega
  have hg1 : (g 1).toNat = (f 1).toNat + 1 := by omega
  have hT2 : lwI (vm f) (f 1).toNat := hT.2.1
  have hv : ∀ i, i < (f 1).toNat → vm g (4 + 2 * i) = vm f (4 + 2 * i) ∧ vm g (4 + 2 * i + 1) = vm f (4 + 2 * i + 1) := fun i hi => vm_i (by omega) (fun j x y => hg j (by omega) (by omega))
  have d' : LLc μ (f 1).toNat = LLc (vm f) (f 1).toNat := by
    have d2 : LLc μ (μ 32 13).toNat = LLc (vm f) (f 1).toNat := d
    rw [hN] at d2
    exact d2
  obtain ⟨n1, n2, n3, n4, n5, n6, n7, n8, n9, n10⟩ := a
  rw [hN] at n10
  generalize (f 1).toNat = n at *
  have hwt : wfT (ky, rPc S, cdl S) := ⟨k0.1, k0.2, by show (cdl S).length ≤ 96; unfold cdl; rw [List.length_map, List.length_range]; omega, hdep, hcd, hS.2.1, hS.2.2⟩
  have hr1 : LLc μ2 (n + 1) = LLc μ n ++ [(ky, rPc S, cdl S)] := by
    rw [LLc_s, LLc_cg hl, c0, c1, c2]
    have e : (List.range (rLn S).toNat).map (fun k : Nat => μ2 (4 + 2 * n + 1) k) = cdl S := by
      unfold cdl
      apply List.map_congr_left
      intro i hi
      have := List.mem_range.mp hi
      exact c3 _ (by omega) (by omega)
    rw [e]
  have hvn : ∀ k, 0 ≤ k → k < 3 → vm g (4 + 2 * n) k = g (122 + 200 * f 1 + k) := fun k x y => by rw [vm_lw (by omega) x y, hfn]
  have w0 : vm g (4 + 2 * n) 0 = ky := (hvn 0 (by decide) (by decide)).trans d0
  have w1 : vm g (4 + 2 * n) 1 = rPc S := (hvn 1 (by decide) (by decide)).trans d1
  have w2 : vm g (4 + 2 * n) 2 = rLn S := (hvn 2 (by decide) (by decide)).trans d2
  have hr2 : LLc (vm g) (n + 1) = LLc (vm f) n ++ [(ky, rPc S, cdl S)] := by
    rw [LLc_s, LLc_cg hv, w0, w1, w2]
    have e : (List.range (rLn S).toNat).map (fun k : Nat => vm g (4 + 2 * n + 1) k) = cdl S := by
      unfold cdl
      apply List.map_congr_left
      intro i hi
      have := List.mem_range.mp hi
      rw [vm_cd (by omega) (by omega) (by omega), ← hfn]
      exact (d3 _ (by omega) (by omega)).1
    rw [e]
  have hw1 : lwI μ2 (n + 1) := ⟨by omega, fun i hi => by
    by_cases e : i = n
    · rw [e, c2]; exact hS.1
    · rw [(hl i (by omega)).1]; exact n10.2.1 i (by omega), by rw [hr1]; exact wf_app n10.2.2 (by rw [LLc_len]; omega) hwt⟩
  have hw2 : lwI (vm g) (n + 1) := ⟨by omega, fun i hi => by
    by_cases e : i = n
    · rw [e, w2]; exact hS.1
    · rw [(hv i (by omega)).1]; exact hT.2.1.2.1 i (by omega), by rw [hr2]; exact wf_app hT2.2.2 (by rw [LLc_len]; omega) hwt⟩
  have e13 : μ2 32 13 = f 1 + 1 := by rw [m32, uf_same]
  have eo : ∀ k, k ≠ 13 → μ2 32 k = μ 32 k := fun k hk => by rw [m32, uf_ne hk]
  have hI : mtI μ2 32 := by
    refine ⟨?_, ?_, ?_, ?_, ?_, ?_, ?_, ?_, ?_, ?_⟩
    · rw [m33 (32 + 1) (by decide) (by decide)]; exact n1
    · rw [m33 (32 + 2) (by decide) (by decide)]; exact n2
    · rw [m33 (32 + 3) (by decide) (by decide)]; exact n3
    · rw [m33 (32 + 4) (by decide) (by decide)]; exact n4
    · rw [eo 7 (by decide)]; exact n5
    · rw [eo 8 (by decide)]; exact n6
    · rw [eo 9 (by decide)]; exact n7
    · rw [eo 10 (by decide)]; exact n8
    · rw [e13]; omega
    · rw [e13, show (f 1 + 1).toNat = n + 1 by omega]; exact hw1
  have hA : asM μ2 32 (vm g) 32 := as_g c (m33 _ (by decide) (by decide)) (m33 _ (by decide) (by decide)) (m33 _ (by decide) (by decide)) (m33 _ (by decide) (by decide)) eo (by rw [e13, g1]) (fun j x _ y => hg j x (by omega))
  refine ⟨hI, md_of hI hA ⟨by omega, by rw [hg1]; exact hw2, ?_⟩, hA, ?_⟩
  · intro i k hi q0 q1
    rw [hg1] at hi
    by_cases e : i = n
    · subst e
      rw [← hfn] at q1 ⊢
      rw [d2] at q1
      exact (d3 k q0 q1).2
    · have h2 := hT.2.1.2.1 i (by omega)
      rw [vm_lw (by omega) (by decide) (by decide)] at h2
      rw [hg _ (by omega) (by omega)] at q1
      rw [hg _ (by omega) (by omega), hg _ (by omega) (by omega)]
      exact hT.2.2 i k (by omega) q0 q1
  · show LLc μ2 (μ2 32 13).toNat = LLc (vm g) (g 1).toNat
    rw [e13, show (f 1 + 1).toNat = n + 1 by omega, hg1, hr1, hr2, d']
theorem sim_x {μ μ2 : Mem} (h : Sim μ) (hm : SM μ2 32 (μ2 88)) (h13 : μ 32 13 ≤ μ2 32 13) (hl : ∀ i : Nat, i < (μ 32 13).toNat → μ2 (4 + 2 * i) = μ (4 + 2 * i) ∧ μ2 (4 + 2 * i + 1) = μ (4 + 2 * i + 1)) (h87 : ∀ k, (k < 21 ∨ 31 < k) → μ2 87 k = μ 87 k) (h56 : μ2 56 1 = 0) (h21 : μ2 87 21 = 0) (hf : ∀ q, ¬ scr q → (q < 4 ∨ 36 < q) → q ≠ 56 → q ≠ 87 → q ≠ 88 → μ2 q = μ q) : Sim μ2 := by
  have hz : ∀ q, (q < 3 ∨ (39 ≤ q ∧ q ≤ 43) ∨ q = 57 ∨ (61 ≤ q ∧ q ≤ 86) ∨ q = 89 ∨ (91 ≤ q ∧ q ≤ 98) ∨ q = 107 ∨ q = 111) → μ2 q = μ q := fun q a => hf q (by unfold scr; omega) (by omega) (by omega) (by omega) (by omega)
  obtain ⟨s1, ⟨i1, i2, i3⟩, s3, s4, s5, s6⟩ := h
  refine ⟨hm, ⟨?_, ?_, fun hi => ?_⟩, ?_, fun k hk => ?_, fun k hk => ?_, ?_⟩
  · rw [hz 0 (by omega)]; exact i1
  · rw [hz 0 (by omega), h87 3 (by omega)]; exact i2
  · rw [hz 0 (by omega)] at hi
    obtain ⟨j1, j2⟩ := i3 hi
    have e := (sm_n j1).2.2.2.2.2.2
    rw [hz 89 (by omega)]
    exact ⟨sm_tx2 j1 (fun i hi => hl i (by omega)) (hz _ (by omega)) (hz _ (by omega)) (hz _ (by omega)) (hz _ (by omega)) (hz _ (by omega)) (fun j _ => rfl), by rw [hz 39 (by omega)]; omega⟩
  · rw [hz 107 (by omega), hz 57 (by omega), h56, h21]; exact ⟨s3.1, rfl, ⟨by decide, by decide⟩, s3.2.2.2⟩
  · rw [hz (62 + 2 * k) (by omega), hz (62 + 2 * k + 1) (by omega), hz 91 (by omega), hz 92 (by omega), hz 93 (by omega)]; exact s4 k hk
  · rw [hz (71 + 3 * k) (by omega), hz (71 + 3 * k + 1) (by omega), hz (71 + 3 * k + 2) (by omega), hz 94 (by omega), hz 95 (by omega), hz 96 (by omega), hz 97 (by omega), hz 98 (by omega)]; exact s5 k hk
  · rw [hz 111 (by omega), hz 86 (by omega), h87 36 (by omega), hz 0 (by omega)]; exact s6

theorem st_text {μ μ1 μ2 : Mem} {x y : Int} (hS : Sim μ) (h1 : (fun x μ' => μ' 56 1 = 0 ∧ ((ftV (μ 57) (μ 56 1) (μ 60)) ≠ -1000000005 → x = -100 - (ftV (μ 57) (μ 56 1) (μ 60)) ∧ ∀ q, q ≠ 56 → q ≠ 58 → q ≠ 59 → q ≠ 60 → μ' q = μ q) ∧ ((ftV (μ 57) (μ 56 1) (μ 60)) = -1000000005 → (14 ≤ (μ 32 13) → x = -1000000003 ∧ ∀ q, q ≠ 56 → q ≠ 58 → q ≠ 59 → q ≠ 60 → μ' q = μ q) ∧ ((μ 32 13) < 14 → x = (μ 32 13) ∧ μ' 32 = uf (μ 32) 13 ((μ 32 13) + 1) ∧ μ' (4 + 2 * (μ 32 13).toNat) 0 = kyB (μ 57) (μ 56 1) ∧ μ' (4 + 2 * (μ 32 13).toNat) 1 = rPc (rdB (μ 57) (μ 56 1) (μ 60)) ∧ μ' (4 + 2 * (μ 32 13).toNat) 2 = rLn (rdB (μ 57) (μ 56 1) (μ 60)) ∧ (∀ k, 0 ≤ k → k < 96 → μ' (4 + 2 * (μ 32 13).toNat + 1) k = rCo (rdB (μ 57) (μ 56 1) (μ 60)) k) ∧ ∀ q, q ≠ 32 → q ≠ 4 + 2 * (μ 32 13).toNat → q ≠ 4 + 2 * (μ 32 13).toNat + 1 → q ≠ 56 → q ≠ 58 → q ≠ 59 → q ≠ 60 → μ' q = μ q))) x μ1) (h2 : (fun x μ' => μ' 87 21 = 0 ∧ (∀ q, q ≠ 87 → q ≠ 88 → μ' q = μ1 q) ∧ (∀ k, (k < 21 ∨ 31 < k) → μ' 87 k = μ1 87 k) ∧ ((ftV (μ1 107) (μ1 87 21) (μ 60)) ≠ -1000000005 → x = -100 - (ftV (μ1 107) (μ1 87 21) (μ 60)) ∧ ∀ j, (j < (lA (μ1 88 1)) ∨ (lA (μ1 88 1)) + 192 ≤ j) → μ' 88 j = μ1 88 j) ∧ ((ftV (μ1 107) (μ1 87 21) (μ 60)) = -1000000005 → (14 ≤ (μ1 88 1) → x = -1000000003 ∧ ∀ j, (j < (lA (μ1 88 1)) ∨ (lA (μ1 88 1)) + 192 ≤ j) → μ' 88 j = μ1 88 j) ∧ ((μ1 88 1) < 14 → x = (μ1 88 1) ∧ μ' 88 1 = (μ1 88 1) + 1 ∧ μ' 88 ((122 + 200 * (μ1 88 1)) + 0) = kyB (μ1 107) (μ1 87 21) ∧ μ' 88 ((122 + 200 * (μ1 88 1)) + 1) = rPc (rdB (μ1 107) (μ1 87 21) (μ 60)) ∧ μ' 88 ((122 + 200 * (μ1 88 1)) + 2) = rLn (rdB (μ1 107) (μ1 87 21) (μ 60)) ∧ cdM (μ' 88) ((122 + 200 * (μ1 88 1)) + 4) (rdB (μ1 107) (μ1 87 21) (μ 60)) ∧ ∀ j, j ≠ 1 → (j < (122 + 200 * (μ1 88 1)) ∨ (122 + 200 * (μ1 88 1)) + 200 ≤ j) → μ' 88 j = μ1 88 j))) y μ2) : x = y ∧ Sim μ2 := by
  have hs := sim_s hS
  obtain ⟨tp1, tp2, tp3, tp4⟩ := hS.2.2.1
  have hx := (md_t hs.2.1).1
  have e13 : μ 32 13 = μ 88 1 := (sm_n hs).2.2.2.2.2.2
  obtain ⟨h56, hA, hB⟩ := h1
  by_cases c1 : (ftV (μ 57) (μ 56 1) (μ 60)) = -1000000005
  · by_cases c2 : 14 ≤ μ 32 13
    · obtain ⟨e1, F⟩ := (hB c1).1 c2
      rw [F 107 (by decide) (by decide) (by decide) (by decide), F 87 (by decide) (by decide) (by decide) (by decide), F 88 (by decide) (by decide) (by decide) (by decide), tp1, tp2] at h2
      obtain ⟨g21, gq, gk, gA, gB⟩ := h2
      obtain ⟨e2, G⟩ := (gB c1).1 (by omega)
      have hla : lA (μ 88 1) = 2922 := if_neg (by omega)
      rw [hla] at G
      have hq : ∀ q, ¬ scr q → q ≠ 56 → q ≠ 87 → q ≠ 88 → μ2 q = μ q := fun q s a b c => (gq q b c).trans (F q a (by unfold scr at s; omega) (by unfold scr at s; omega) (by unfold scr at s; omega))
      have hl : ∀ i : Nat, i < (μ 88 1).toNat → μ2 (4 + 2 * i) = μ (4 + 2 * i) ∧ μ2 (4 + 2 * i + 1) = μ (4 + 2 * i + 1) := fun i hi => ⟨hq _ (by unfold scr; omega) (by omega) (by omega) (by omega), hq _ (by unfold scr; omega) (by omega) (by omega) (by omega)⟩
      have hm := sm_tx2 (μ2 := μ2) (g := μ2 88) hs hl (hq _ (by unfold scr; omega) (by omega) (by omega) (by omega)) (hq _ (by unfold scr; omega) (by omega) (by omega) (by omega)) (hq _ (by unfold scr; omega) (by omega) (by omega) (by omega)) (hq _ (by unfold scr; omega) (by omega) (by omega) (by omega)) (hq _ (by unfold scr; omega) (by omega) (by omega) (by omega)) (fun j hj => G j (by omega))
      exact ⟨by rw [e1, e2], sim_x hS hm (by rw [hq 32 (by unfold scr; omega) (by decide) (by decide) (by decide)]; exact Int.le_refl _) (fun i hi => hl i (by omega)) gk (by rw [gq 56 (by decide) (by decide)]; exact h56) g21 (fun q s _ a b c => hq q s a b c)⟩
    · obtain ⟨e1, m32, p0, p1, p2, p3, F⟩ := (hB c1).2 (by omega)
      rw [F 107 (by decide) (by omega) (by omega) (by decide) (by decide) (by decide) (by decide), F 87 (by decide) (by omega) (by omega) (by decide) (by decide) (by decide) (by decide), F 88 (by decide) (by omega) (by omega) (by decide) (by decide) (by decide) (by decide), tp1, tp2] at h2
      obtain ⟨g21, gq, gk, gA, gB⟩ := h2
      obtain ⟨e2, q1, q2, q3, q4, q5, G⟩ := (gB c1).2 (by omega)
      have hw := ft_w tp3.1 c1
      have hnn := ft_n tp3.1 c1
      have hkr : kyB (μ 57) (μ 56 1) = -1 ∨ kyB (μ 57) (μ 56 1) = 0 ∨ kyB (μ 57) (μ 56 1) = 1 ∨ kyB (μ 57) (μ 56 1) = 2 := kyC_r
      have hok := rdB_g (B := μ 57) (co := μ 60) tp3.1
      obtain ⟨k1, k2, k3, k4, k5, k6⟩ := hok
      rw [e13] at p0 p1 p2 p3 m32 F
      have hq : ∀ q, ¬ scr q → (q < 4 ∨ 33 ≤ q) → q ≠ 56 → q ≠ 87 → q ≠ 88 → μ2 q = μ q := fun q s z a b c => (gq q b c).trans (F q (by omega) (by omega) (by omega) a (by unfold scr at s; omega) (by unfold scr at s; omega) (by unfold scr at s; omega))
      have hl : ∀ i : Nat, i < (μ 88 1).toNat → μ2 (4 + 2 * i) = μ (4 + 2 * i) ∧ μ2 (4 + 2 * i + 1) = μ (4 + 2 * i + 1) := fun i hi => ⟨(gq _ (by omega) (by omega)).trans (F _ (by omega) (by omega) (by omega) (by omega) (by omega) (by omega) (by omega)), (gq _ (by omega) (by omega)).trans (F _ (by omega) (by omega) (by omega) (by omega) (by omega) (by omega) (by omega))⟩
      have hm : SM μ2 32 (μ2 88) := sm_new (S := (rdB (μ 57) (μ 56 1) (μ 60))) (ky := kyB (μ 57) (μ 56 1)) hs (by omega) ⟨by omega, by omega⟩ hw.1 hw.2 ⟨⟨by omega, by omega⟩, by omega, by omega⟩ ((gq 32 (by decide) (by decide)).trans m32) (fun q a b => hq q (by unfold scr; omega) (by omega) (by omega) (by omega) (by omega)) hl (by rw [gq _ (by omega) (by omega)]; exact p0) (by rw [gq _ (by omega) (by omega)]; exact p1) (by rw [gq _ (by omega) (by omega)]; exact p2) (fun k x y => by rw [gq _ (by omega) (by omega)]; exact p3 k x y) q1 q2 q3 q4 q5 (fun j x y => G j x (by omega))
      exact ⟨by rw [e1, e2, e13], sim_x hS hm (by rw [gq 32 (by decide) (by decide), m32, uf_same]; omega) (fun i hi => hl i (by omega)) gk (by rw [gq 56 (by decide) (by decide)]; exact h56) g21 (fun q s z a b c => hq q s (by omega) a b c)⟩
  · obtain ⟨e1, F⟩ := hA c1
    rw [F 107 (by decide) (by decide) (by decide) (by decide), F 87 (by decide) (by decide) (by decide) (by decide), F 88 (by decide) (by decide) (by decide) (by decide), tp1, tp2] at h2
    obtain ⟨g21, gq, gk, gA, gB⟩ := h2
    obtain ⟨e2, G⟩ := gA c1
    have hla : 126 + 200 * μ 88 1 ≤ lA (μ 88 1) ∨ lA (μ 88 1) = 2922 := by unfold lA; split <;> omega
    have hq : ∀ q, ¬ scr q → q ≠ 56 → q ≠ 87 → q ≠ 88 → μ2 q = μ q := fun q s a b c => (gq q b c).trans (F q a (by unfold scr at s; omega) (by unfold scr at s; omega) (by unfold scr at s; omega))
    have hl : ∀ i : Nat, i < (μ 88 1).toNat → μ2 (4 + 2 * i) = μ (4 + 2 * i) ∧ μ2 (4 + 2 * i + 1) = μ (4 + 2 * i + 1) := fun i hi => ⟨hq _ (by unfold scr; omega) (by omega) (by omega) (by omega), hq _ (by unfold scr; omega) (by omega) (by omega) (by omega)⟩
    have hm := sm_tx2 (μ2 := μ2) (g := μ2 88) hs hl (hq _ (by unfold scr; omega) (by omega) (by omega) (by omega)) (hq _ (by unfold scr; omega) (by omega) (by omega) (by omega)) (hq _ (by unfold scr; omega) (by omega) (by omega) (by omega)) (hq _ (by unfold scr; omega) (by omega) (by omega) (by omega)) (hq _ (by unfold scr; omega) (by omega) (by omega) (by omega)) (fun j hj => G j (by omega))
    exact ⟨by rw [e1, e2], sim_x hS hm (by rw [hq 32 (by unfold scr; omega) (by decide) (by decide) (by decide)]; exact Int.le_refl _) (fun i hi => hl i (by omega)) gk (by rw [gq 56 (by decide) (by decide)]; exact h56) g21 (fun q s _ a b c => hq q s a b c)⟩
