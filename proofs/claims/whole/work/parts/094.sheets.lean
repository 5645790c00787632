/-! SHEETS, SLOTS, POURING: both change alike -/
theorem sim_shU {μ μ1 μ2 : Mem} {sh a n : Int} (hS : Sim μ) (h0 : 0 ≤ sh) (h1 : sh ≤ 3) (a0 : -1 ≤ a) (a1 : a ≤ 1) (n0 : 0 ≤ n) (n1 : n ≤ 24) (c0 : μ1 (62 + 2 * sh.toNat) 0 = a) (c1 : μ1 (62 + 2 * sh.toNat) 1 = n) (c2 : ∀ q, 0 ≤ q → q < 24 → μ1 ((62 + 2 * sh.toNat) + 1) q = 0) (c3 : ∀ q, q ≠ (62 + 2 * sh.toNat) → q ≠ (62 + 2 * sh.toNat) + 1 → μ1 q = μ q) (d1 : μ2 91 = uf (μ1 91) sh a) (d2 : μ2 92 = uf (μ1 92) sh n) (d3 : ∀ q, μ2 93 q = if 24 * sh ≤ q ∧ q < 24 * sh + 24 then 0 else μ1 93 q) (d4 : ∀ q, q ≠ 91 → q ≠ 92 → q ≠ 93 → μ2 q = μ1 q) : Sim μ2 := by
  have hm : ((sh.toNat : Nat) : Int) = sh := by omega
  generalize sh.toNat = m at hm c0 c1 c2 c3
  subst hm
  refine sim_sh hS (fun k hk => ?_) (fun q _ b c d e => (d4 q c d e).trans (c3 q (by omega) (by omega)))
  rw [d4 (62 + 2 * k) (by omega) (by omega) (by omega), d4 (62 + 2 * k + 1) (by omega) (by omega) (by omega), d1, d2]
  by_cases e : k = m
  · subst e
    rw [uf_same, uf_same, c0, c1]
    exact ⟨⟨⟨a0, a1⟩, n0, n1⟩, rfl, rfl, fun j j0 j1 => by rw [d3, if_pos (by omega), c2 j j0 j1]⟩
  · have h4 := hS.2.2.2.1 k hk
    rw [uf_ne (by omega), uf_ne (by omega), c3 (62 + 2 * k) (by omega) (by omega), c3 (62 + 2 * k + 1) (by omega) (by omega), c3 91 (by omega) (by omega), c3 92 (by omega) (by omega)]
    exact ⟨h4.1, h4.2.1, h4.2.2.1, fun j j0 j1 => by rw [d3, if_neg (by omega), c3 93 (by omega) (by omega)]; exact h4.2.2.2 j j0 j1⟩

theorem st_sheet {μ μ1 μ2 : Mem} {x y : Int} (sh so n : Int) (hS : Sim μ) (h1 : (fun x μ' => (¬ ((0 ≤ sh ∧ sh ≤ 3) ∧ -1 ≤ so ∧ so ≤ 1) → x = -1000000001 ∧ μ' = μ) ∧ (((0 ≤ sh ∧ sh ≤ 3) ∧ -1 ≤ so ∧ so ≤ 1) → (so = -1 → x = 0 ∧ μ' (62 + 2 * sh.toNat) 0 = -1 ∧ μ' (62 + 2 * sh.toNat) 1 = 0 ∧ (∀ q, 0 ≤ q → q < 24 → μ' ((62 + 2 * sh.toNat) + 1) q = 0) ∧ ∀ q, q ≠ (62 + 2 * sh.toNat) → q ≠ (62 + 2 * sh.toNat) + 1 → μ' q = μ q) ∧ (so ≠ -1 → (24 < n → x = -1000000001 ∧ μ' = μ) ∧ (n ≤ 24 → (n < 0 → x = -1000000014 ∧ μ' = μ) ∧ (0 ≤ n → x = n ∧ μ' (62 + 2 * sh.toNat) 0 = so ∧ μ' (62 + 2 * sh.toNat) 1 = n ∧ (∀ q, 0 ≤ q → q < 24 → μ' ((62 + 2 * sh.toNat) + 1) q = 0) ∧ ∀ q, q ≠ (62 + 2 * sh.toNat) → q ≠ (62 + 2 * sh.toNat) + 1 → μ' q = μ q))))) x μ1) (h2 : (fun x μ' => (¬ ((0 ≤ sh ∧ sh ≤ 3) ∧ -1 ≤ so ∧ so ≤ 1) → x = -1000000001 ∧ μ' = μ1) ∧ (((0 ≤ sh ∧ sh ≤ 3) ∧ -1 ≤ so ∧ so ≤ 1) → (so = -1 → x = 0 ∧ μ' 91 = uf (μ1 91) sh (-1) ∧ μ' 92 = uf (μ1 92) sh (0) ∧ (∀ q, μ' 93 q = if 24 * sh ≤ q ∧ q < 24 * sh + 24 then 0 else μ1 93 q) ∧ ∀ q, q ≠ 91 → q ≠ 92 → q ≠ 93 → μ' q = μ1 q) ∧ (so ≠ -1 → (24 < n → x = -1000000001 ∧ μ' = μ1) ∧ (n ≤ 24 → (n < 0 → x = -1000000014 ∧ μ' = μ1) ∧ (0 ≤ n → x = n ∧ μ' 91 = uf (μ1 91) sh (so) ∧ μ' 92 = uf (μ1 92) sh (n) ∧ (∀ q, μ' 93 q = if 24 * sh ≤ q ∧ q < 24 * sh + 24 then 0 else μ1 93 q) ∧ ∀ q, q ≠ 91 → q ≠ 92 → q ≠ 93 → μ' q = μ1 q))))) y μ2) : x = y ∧ Sim μ2 := by
  by_cases c1 : (0 ≤ sh ∧ sh ≤ 3) ∧ -1 ≤ so ∧ so ≤ 1
  · have g1 := h1.2 c1
    have g2 := h2.2 c1
    by_cases c2 : so = -1
    · obtain ⟨e1, p0, p1, p2, p3⟩ := g1.1 c2
      obtain ⟨e2, q0, q1, q2, q3⟩ := g2.1 c2
      exact ⟨by rw [e1, e2], sim_shU hS c1.1.1 c1.1.2 (by decide) (by decide) (by decide) (by decide) p0 p1 p2 p3 q0 q1 q2 q3⟩
    · by_cases c3 : 24 < n
      · obtain ⟨e1, m1⟩ := (g1.2 c2).1 c3
        subst m1
        obtain ⟨e2, m2⟩ := (g2.2 c2).1 c3
        subst m2
        exact ⟨by rw [e1, e2], hS⟩
      · by_cases c4 : n < 0
        · obtain ⟨e1, m1⟩ := ((g1.2 c2).2 (by omega)).1 c4
          subst m1
          obtain ⟨e2, m2⟩ := ((g2.2 c2).2 (by omega)).1 c4
          subst m2
          exact ⟨by rw [e1, e2], hS⟩
        · obtain ⟨e1, p0, p1, p2, p3⟩ := ((g1.2 c2).2 (by omega)).2 (by omega)
          obtain ⟨e2, q0, q1, q2, q3⟩ := ((g2.2 c2).2 (by omega)).2 (by omega)
          exact ⟨by rw [e1, e2], sim_shU hS c1.1.1 c1.1.2 c1.2.1 c1.2.2 (by omega) (by omega) p0 p1 p2 p3 q0 q1 q2 q3⟩
  · obtain ⟨e1, m1⟩ := h1.1 c1
    subst m1
    obtain ⟨e2, m2⟩ := h2.1 c1
    subst m2
    exact ⟨by rw [e1, e2], hS⟩
theorem sim_mk {μ : Mem} {sh q w : Int} (hS : Sim μ) (h0 : 0 ≤ sh) (h1 : sh ≤ 3) (q0 : 0 ≤ q) (q1 : q < 24) : Sim (ud (ud μ ((62 + 2 * sh.toNat) + 1) q w) 93 (24 * sh + q) w) := by
  have hm : ((sh.toNat : Nat) : Int) = sh := by omega
  generalize sh.toNat = m at hm ⊢
  subst hm
  refine sim_sh hS (fun k hk => ?_) (fun z _ b c d e => by rw [ud_n e, ud_n (by omega)])
  have h4 := hS.2.2.2.1 k hk
  rw [ud_n (a := 62 + 2 * k) (by omega), ud_n (a := 62 + 2 * k) (by omega), ud_n (a := 91) (by decide), ud_n (a := 91) (by omega), ud_n (a := 92) (by decide), ud_n (a := 92) (by omega)]
  refine ⟨h4.1, h4.2.1, h4.2.2.1, fun j j0 j1 => ?_⟩
  rw [ud_s, ud_n (a := 93) (by omega), ud_n (a := 62 + 2 * k + 1) (by omega)]
  have h5 := h4.2.2.2 j j0 j1
  by_cases e : k = m
  · subst e
    rw [ud_s]
    by_cases e2 : j = q
    · rw [e2, uf_same, uf_same]
    · rw [uf_ne (by omega), uf_ne e2]; exact h5
  · rw [uf_ne (by omega), ud_n (by omega)]; exact h5

theorem st_mark {μ μ1 μ2 : Mem} {x y : Int} (sh q v : Int) (hS : Sim μ) (h1 : (fun x μ' => (¬ (0 ≤ sh ∧ sh ≤ 3) → x = -1000000001 ∧ μ' = μ) ∧ ((0 ≤ sh ∧ sh ≤ 3) → (μ (62 + 2 * sh.toNat) 0 = -1 → x = -1000000011 ∧ μ' = μ) ∧ (μ (62 + 2 * sh.toNat) 0 ≠ -1 → (¬ (0 ≤ q ∧ q ≤ μ (62 + 2 * sh.toNat) 1 - 1) → x = -1000000013 ∧ μ' = μ) ∧ ((0 ≤ q ∧ q ≤ μ (62 + 2 * sh.toNat) 1 - 1) → (μ (62 + 2 * sh.toNat) 0 = 0 → (v = -1000000005 → x = -1000000012 ∧ μ' = μ) ∧ (v ≠ -1000000005 → x = 1 ∧ μ' = ud μ ((62 + 2 * sh.toNat) + 1) q (i2sI v))) ∧ (μ (62 + 2 * sh.toNat) 0 ≠ 0 → (v ≠ -1000000005 ∧ ¬ (-99999 ≤ v ∧ v ≤ 99999) → x = -1000000001 ∧ μ' = μ) ∧ (¬ (v ≠ -1000000005 ∧ ¬ (-99999 ≤ v ∧ v ≤ 99999)) → x = 1 ∧ μ' = ud μ ((62 + 2 * sh.toNat) + 1) q v)))))) x μ1) (h2 : (fun x μ' => (¬ (0 ≤ sh ∧ sh ≤ 3) → x = -1000000001 ∧ μ' = μ1) ∧ ((0 ≤ sh ∧ sh ≤ 3) → (μ1 91 sh = -1 → x = -1000000011 ∧ μ' = μ1) ∧ (μ1 91 sh ≠ -1 → (¬ (0 ≤ q ∧ q ≤ μ1 92 sh - 1) → x = -1000000013 ∧ μ' = μ1) ∧ ((0 ≤ q ∧ q ≤ μ1 92 sh - 1) → (μ1 91 sh = 0 → (v = -1000000005 → x = -1000000012 ∧ μ' = μ1) ∧ (v ≠ -1000000005 → x = 1 ∧ μ' = ud μ1 93 (24 * sh + q) (i2sI v))) ∧ (μ1 91 sh ≠ 0 → (v ≠ -1000000005 ∧ ¬ (-99999 ≤ v ∧ v ≤ 99999) → x = -1000000001 ∧ μ' = μ1) ∧ (¬ (v ≠ -1000000005 ∧ ¬ (-99999 ≤ v ∧ v ≤ 99999)) → x = 1 ∧ μ' = ud μ1 93 (24 * sh + q) v)))))) y μ2) : x = y ∧ Sim μ2 := by
  by_cases c1 : 0 ≤ sh ∧ sh ≤ 3
  · have h4 := hS.2.2.2.1 sh.toNat (by omega)
    rw [show ((sh.toNat : Nat) : Int) = sh by omega] at h4
    obtain ⟨⟨b1, b2, b3⟩, z1, z2, z3⟩ := h4
    have g1 := h1.2 c1
    by_cases c2 : μ (62 + 2 * sh.toNat) 0 = -1
    · obtain ⟨e1, m1⟩ := g1.1 c2
      subst m1
      obtain ⟨e2, m2⟩ := (h2.2 c1).1 (by rw [z1]; exact c2)
      subst m2
      exact ⟨by rw [e1, e2], hS⟩
    · by_cases c3 : 0 ≤ q ∧ q ≤ μ (62 + 2 * sh.toNat) 1 - 1
      · by_cases c4 : μ (62 + 2 * sh.toNat) 0 = 0
        · by_cases c5 : v = -1000000005
          · obtain ⟨e1, m1⟩ := (((g1.2 c2).2 c3).1 c4).1 c5
            subst m1
            obtain ⟨e2, m2⟩ := ((((h2.2 c1).2 (by rw [z1]; exact c2)).2 (by rw [z2]; exact c3)).1 (by rw [z1]; exact c4)).1 c5
            subst m2
            exact ⟨by rw [e1, e2], hS⟩
          · obtain ⟨e1, m1⟩ := (((g1.2 c2).2 c3).1 c4).2 c5
            have f91 : μ1 91 = μ 91 := by rw [m1]; exact ud_n (by omega)
            have f92 : μ1 92 = μ 92 := by rw [m1]; exact ud_n (by omega)
            rw [f91, f92] at h2
            obtain ⟨e2, m2⟩ := ((((h2.2 c1).2 (by rw [z1]; exact c2)).2 (by rw [z2]; exact c3)).1 (by rw [z1]; exact c4)).2 c5
            refine ⟨by rw [e1, e2], ?_⟩
            rw [m2, m1]
            exact sim_mk hS c1.1 c1.2 c3.1 (by omega)
        · by_cases c5 : v ≠ -1000000005 ∧ ¬ (-99999 ≤ v ∧ v ≤ 99999)
          · obtain ⟨e1, m1⟩ := (((g1.2 c2).2 c3).2 c4).1 c5
            subst m1
            obtain ⟨e2, m2⟩ := ((((h2.2 c1).2 (by rw [z1]; exact c2)).2 (by rw [z2]; exact c3)).2 (by rw [z1]; exact c4)).1 c5
            subst m2
            exact ⟨by rw [e1, e2], hS⟩
          · obtain ⟨e1, m1⟩ := (((g1.2 c2).2 c3).2 c4).2 c5
            have f91 : μ1 91 = μ 91 := by rw [m1]; exact ud_n (by omega)
            have f92 : μ1 92 = μ 92 := by rw [m1]; exact ud_n (by omega)
            rw [f91, f92] at h2
            obtain ⟨e2, m2⟩ := ((((h2.2 c1).2 (by rw [z1]; exact c2)).2 (by rw [z2]; exact c3)).2 (by rw [z1]; exact c4)).2 c5
            refine ⟨by rw [e1, e2], ?_⟩
            rw [m2, m1]
            exact sim_mk hS c1.1 c1.2 c3.1 (by omega)
      · obtain ⟨e1, m1⟩ := (g1.2 c2).1 c3
        subst m1
        obtain ⟨e2, m2⟩ := ((h2.2 c1).2 (by rw [z1]; exact c2)).1 (by rw [z2]; exact c3)
        subst m2
        exact ⟨by rw [e1, e2], hS⟩
  · obtain ⟨e1, m1⟩ := h1.1 c1
    subst m1
    obtain ⟨e2, m2⟩ := h2.1 c1
    subst m2
    exact ⟨by rw [e1, e2], hS⟩
theorem sim_cp {μ μ2 : Mem} {fr to pl at_ many : Int} (hS : Sim μ) (f0 : 0 ≤ fr) (f1 : fr ≤ 3) (t0 : 0 ≤ to) (t1 : to ≤ 3) (n0 : 0 ≤ many) (p0 : 0 ≤ pl) (p1 : pl + many ≤ 24) (a0 : 0 ≤ at_) (a1 : at_ + many ≤ 24) (d1 : μ2 93 = cpI (μ 93) (μ 93) (24 * fr + pl) (24 * to + at_) many) (d2 : ∀ q, q ≠ 93 → q ≠ 110 → μ2 q = ua μ ((62 + 2 * to.toNat) + 1) (cpI (μ ((62 + 2 * fr.toNat) + 1)) (μ ((62 + 2 * to.toNat) + 1)) pl at_ many) q) : Sim μ2 := by
  have hF : ((fr.toNat : Nat) : Int) = fr := by omega
  have hT : ((to.toNat : Nat) : Int) = to := by omega
  generalize fr.toNat = x at hF d2
  generalize to.toNat = m at hT d2
  subst hF
  subst hT
  refine sim_sh hS (fun k hk => ?_) (fun z s b c d e => by rw [d2 z e (by unfold scr at s; omega), ua_ne (by omega)])
  have h4 := hS.2.2.2.1 k hk
  have hX := hS.2.2.2.1 x (by omega)
  rw [d2 (62 + 2 * k) (by omega) (by omega), ua_ne (a := 62 + 2 * k) (by omega), d2 91 (by decide) (by decide), ua_ne (a := 91) (by omega), d2 92 (by decide) (by decide), ua_ne (a := 92) (by omega), d2 (62 + 2 * k + 1) (by omega) (by omega), d1]
  refine ⟨h4.1, h4.2.1, h4.2.2.1, fun j j0 j1 => ?_⟩
  have h5 := h4.2.2.2 j j0 j1
  unfold cpI
  by_cases e : k = m
  · subst e
    rw [ua_same]
    by_cases e2 : at_ ≤ j ∧ j < at_ + many
    · rw [if_pos (by omega), if_pos e2]
      have h6 := hX.2.2.2 (pl + (j - at_)) (by omega) (by omega)
      rw [← h6]
      congr 1
      omega
    · rw [if_neg (by omega), if_neg e2]; exact h5
  · rw [if_neg (by omega), ua_ne (by omega)]; exact h5

theorem st_copy {μ μ1 μ2 : Mem} {x y : Int} (fr pl to at_ many : Int) (hS : Sim μ) (h1 : (fun x μ' => (¬ ((0 ≤ fr ∧ fr ≤ 3) ∧ 0 ≤ to ∧ to ≤ 3) → x = -1000000001 ∧ μ' = μ) ∧ (((0 ≤ fr ∧ fr ≤ 3) ∧ 0 ≤ to ∧ to ≤ 3) → ((μ (62 + 2 * fr.toNat) 0 = -1 ∨ μ (62 + 2 * to.toNat) 0 = -1) → x = -1000000011 ∧ μ' = μ) ∧ (¬ (μ (62 + 2 * fr.toNat) 0 = -1 ∨ μ (62 + 2 * to.toNat) 0 = -1) → (μ (62 + 2 * fr.toNat) 0 ≠ μ (62 + 2 * to.toNat) 0 → x = -1000000012 ∧ μ' = μ) ∧ (μ (62 + 2 * fr.toNat) 0 = μ (62 + 2 * to.toNat) 0 → (¬ ((0 ≤ many ∧ (0 ≤ pl ∧ pl ≤ μ (62 + 2 * fr.toNat) 1) ∧ many ≤ μ (62 + 2 * fr.toNat) 1 - pl) ∧ 0 ≤ many ∧ (0 ≤ at_ ∧ at_ ≤ μ (62 + 2 * to.toNat) 1) ∧ many ≤ μ (62 + 2 * to.toNat) 1 - at_) → x = -1000000013 ∧ μ' = μ) ∧ (((0 ≤ many ∧ (0 ≤ pl ∧ pl ≤ μ (62 + 2 * fr.toNat) 1) ∧ many ≤ μ (62 + 2 * fr.toNat) 1 - pl) ∧ 0 ≤ many ∧ (0 ≤ at_ ∧ at_ ≤ μ (62 + 2 * to.toNat) 1) ∧ many ≤ μ (62 + 2 * to.toNat) 1 - at_) → x = many ∧ μ' = ua μ ((62 + 2 * to.toNat) + 1) (cpI (μ ((62 + 2 * fr.toNat) + 1)) (μ ((62 + 2 * to.toNat) + 1)) pl at_ many)))))) x μ1) (h2 : (fun x μ' => (¬ ((0 ≤ fr ∧ fr ≤ 3) ∧ 0 ≤ to ∧ to ≤ 3) → x = -1000000001 ∧ μ' = μ1) ∧ (((0 ≤ fr ∧ fr ≤ 3) ∧ 0 ≤ to ∧ to ≤ 3) → ((μ1 91 fr = -1 ∨ μ1 91 to = -1) → x = -1000000011 ∧ μ' = μ1) ∧ (¬ (μ1 91 fr = -1 ∨ μ1 91 to = -1) → (μ1 91 fr ≠ μ1 91 to → x = -1000000012 ∧ μ' = μ1) ∧ (μ1 91 fr = μ1 91 to → (¬ ((0 ≤ many ∧ (0 ≤ pl ∧ pl ≤ μ1 92 fr) ∧ many ≤ μ1 92 fr - pl) ∧ 0 ≤ many ∧ (0 ≤ at_ ∧ at_ ≤ μ1 92 to) ∧ many ≤ μ1 92 to - at_) → x = -1000000013 ∧ μ' = μ1) ∧ (((0 ≤ many ∧ (0 ≤ pl ∧ pl ≤ μ1 92 fr) ∧ many ≤ μ1 92 fr - pl) ∧ 0 ≤ many ∧ (0 ≤ at_ ∧ at_ ≤ μ1 92 to) ∧ many ≤ μ1 92 to - at_) → x = many ∧ μ' 93 = cpI (μ1 93) (μ1 93) (24 * fr + pl) (24 * to + at_) many ∧ ∀ q, q ≠ 93 → q ≠ 110 → μ' q = μ1 q))))) y μ2) : x = y ∧ Sim μ2 := by
  by_cases c1 : (0 ≤ fr ∧ fr ≤ 3) ∧ 0 ≤ to ∧ to ≤ 3
  · have h4 := hS.2.2.2.1 fr.toNat (by omega)
    rw [show ((fr.toNat : Nat) : Int) = fr by omega] at h4
    obtain ⟨⟨b1, b2, b3⟩, z1, z2, z3⟩ := h4
    have h5 := hS.2.2.2.1 to.toNat (by omega)
    rw [show ((to.toNat : Nat) : Int) = to by omega] at h5
    obtain ⟨⟨b4, b5, b6⟩, y1, y2, y3⟩ := h5
    have g1 := h1.2 c1
    by_cases c2 : μ (62 + 2 * fr.toNat) 0 = -1 ∨ μ (62 + 2 * to.toNat) 0 = -1
    · obtain ⟨e1, m1⟩ := g1.1 c2
      subst m1
      obtain ⟨e2, m2⟩ := (h2.2 c1).1 (by rw [z1, y1]; exact c2)
      subst m2
      exact ⟨by rw [e1, e2], hS⟩
    · by_cases c3 : μ (62 + 2 * fr.toNat) 0 = μ (62 + 2 * to.toNat) 0
      · by_cases c4 : (0 ≤ many ∧ (0 ≤ pl ∧ pl ≤ μ (62 + 2 * fr.toNat) 1) ∧ many ≤ μ (62 + 2 * fr.toNat) 1 - pl) ∧ 0 ≤ many ∧ (0 ≤ at_ ∧ at_ ≤ μ (62 + 2 * to.toNat) 1) ∧ many ≤ μ (62 + 2 * to.toNat) 1 - at_
        · obtain ⟨e1, m1⟩ := ((g1.2 c2).2 c3).2 c4
          have f91 : μ1 91 = μ 91 := by rw [m1]; exact ua_ne (by omega)
          have f92 : μ1 92 = μ 92 := by rw [m1]; exact ua_ne (by omega)
          have f93 : μ1 93 = μ 93 := by rw [m1]; exact ua_ne (by omega)
          rw [f91, f92, f93] at h2
          obtain ⟨e2, m2, m3⟩ := (((h2.2 c1).2 (by rw [z1, y1]; exact c2)).2 (by rw [z1, y1]; exact c3)).2 (by rw [z2, y2]; exact c4)
          exact ⟨by rw [e1, e2], sim_cp hS c1.1.1 c1.1.2 c1.2.1 c1.2.2 c4.1.1 c4.1.2.1.1 (by omega) c4.2.2.1.1 (by omega) m2 (fun q a b => by rw [m3 q a b, m1])⟩
        · obtain ⟨e1, m1⟩ := ((g1.2 c2).2 c3).1 c4
          subst m1
          obtain ⟨e2, m2⟩ := (((h2.2 c1).2 (by rw [z1, y1]; exact c2)).2 (by rw [z1, y1]; exact c3)).1 (by rw [z2, y2]; exact c4)
          subst m2
          exact ⟨by rw [e1, e2], hS⟩
      · obtain ⟨e1, m1⟩ := (g1.2 c2).1 c3
        subst m1
        obtain ⟨e2, m2⟩ := ((h2.2 c1).2 (by rw [z1, y1]; exact c2)).1 (by rw [z1, y1]; exact c3)
        subst m2
        exact ⟨by rw [e1, e2], hS⟩
  · obtain ⟨e1, m1⟩ := h1.1 c1
    subst m1
    obtain ⟨e2, m2⟩ := h2.1 c1
    subst m2
    exact ⟨by rw [e1, e2], hS⟩
theorem prS_cg {sr sr' : Int → Int} {row : Int} (r0 : 0 ≤ row) (r1 : row ≤ 4) : ∀ (m : Nat) (k : Int) (g g' : Int → Int) (n : Int), 0 ≤ k → k + (m : Nat) ≤ 6 → (∀ j, 0 ≤ j → j < 6 → sr j = sr' j) → EqR g g' → EqR (prS sr row m (g, n) k).1 (prS sr' row m (g', n) k).1 ∧ (prS sr row m (g, n) k).2 = (prS sr' row m (g', n) k).2
  | 0, k, g, g', n, _, _, _, h => ⟨h, rfl⟩
  | m + 1, k, g, g', n, h0, h1, hs, h => by
    rw [prS_e (sr := sr) (g := g) rfl, prS_e (sr := sr') (g := g') rfl, ← hs k h0 (by omega), ← h (row * 6 + k) (by omega) (by omega)]
    refine prS_cg r0 r1 m (k + 1) _ _ _ (by omega) (by omega) hs (fun c a b => ?_)
    by_cases e : c = row * 6 + k
    · rw [e, uf_same, uf_same]
    · rw [uf_ne e, uf_ne e]; exact h c a b
theorem prS_b {sr : Int → Int} {row : Int} : ∀ (m : Nat) (k : Int) (g : Int → Int) (n : Int), (∀ c, 0 ≤ c → c < 30 → 0 ≤ g c ∧ g c ≤ 999) → 0 ≤ row * 6 + k → row * 6 + k + (m : Nat) ≤ 30 → ∀ c, 0 ≤ c → c < 30 → 0 ≤ (prS sr row m (g, n) k).1 c ∧ (prS sr row m (g, n) k).1 c ≤ 999
  | 0, k, g, n, h, _, _ => h
  | m + 1, k, g, n, h, h0, h1 => by
    rw [prS_e (sr := sr) (g := g) rfl]
    refine prS_b m (k + 1) _ _ (fun c a b => ?_) (by omega) (by omega)
    by_cases e : c = row * 6 + k
    · rw [e, uf_same]
      have := h (row * 6 + k) h0 (by omega)
      split <;> omega
    · rw [uf_ne e]; exact h c a b
theorem sm_ld {μ : Mem} {f g g' : Int → Int} (h : SM μ 32 f) (he : EqR g g') (hb : ∀ c, 0 ≤ c → c < 30 → 0 ≤ g c ∧ g c ≤ 999) : SM (ua μ 35 g) 32 (ldF f g') := by
  obtain ⟨n1, n2, n3, n4, n5, n6, n7, n8⟩ := nN h
  have e := sm_n h
  refine sm_up h (fun q a b => ua_ne (by omega)) (by rw [ua_ne (by decide)]) ⟨n1, n2, ?_, n4, n5, n6, n7, n8⟩ ?_ (ldF_ne (by omega)) (fun j a b => ldF_ne (by omega))
  · show ∀ c, 0 ≤ c → c < 30 → 0 ≤ ua μ 35 g 35 c ∧ ua μ 35 g 35 c ≤ 999
    rw [ua_same]; exact hb
  · refine ⟨fun q q0 q1 => ⟨?_, ?_, ?_⟩, fun i i0 i1 => ?_, ?_⟩
    · show ua μ 35 g 33 q = vm (ldF f g') 33 q
      rw [ua_ne (by decide), vm_33 q0 q1, ldF_ne (by omega), ← vm_33 (f := f) q0 q1]; exact sm_k h q q0 q1
    · show ua μ 35 g 34 q = vm (ldF f g') 34 q
      rw [ua_ne (by decide), vm_34 q0 q1, ldF_ne (by omega), ← vm_34 (f := f) q0 q1]; exact sm_s h q q0 q1
    · show ua μ 35 g 35 q = vm (ldF f g') 35 q
      rw [ua_same, vm_35 q0 q1, ldF_at q0 q1]; exact he q q0 q1
    · show ua μ 35 g 36 i = vm (ldF f g') 36 i
      rw [ua_ne (by decide), vm_36 i0 i1, ldF_ne (by omega), ← vm_36 (f := f) i0 i1]; exact sm_t h i i0 i1
    · rw [ua_ne (by decide)]
      show μ 32 7 = ldF f g' 0 ∧ μ 32 8 = ldF f g' 2 ∧ μ 32 9 = ldF f g' 3 ∧ μ 32 10 = ldF f g' 4 ∧ μ 32 11 = ldF f g' 6 ∧ μ 32 12 = ldF f g' 5 ∧ μ 32 13 = ldF f g' 1
      rw [ldF_ne (by decide), ldF_ne (by decide), ldF_ne (by decide), ldF_ne (by decide), ldF_ne (by decide), ldF_ne (by decide), ldF_ne (by decide)]
      exact e

theorem st_pour {μ μ1 μ2 : Mem} {x y : Int} (sh row : Int) (hS : Sim μ) (h1 : (fun x μ' => (¬ ((0 ≤ sh ∧ sh ≤ 3) ∧ 0 ≤ row ∧ row ≤ 4) → x = -1000000001 ∧ μ' = μ) ∧ (((0 ≤ sh ∧ sh ≤ 3) ∧ 0 ≤ row ∧ row ≤ 4) → (μ (62 + 2 * sh.toNat) 0 = -1 → x = -1000000011 ∧ μ' = μ) ∧ (μ (62 + 2 * sh.toNat) 0 ≠ -1 → x = (prS (μ ((62 + 2 * sh.toNat) + 1)) row (min 6 (μ (62 + 2 * sh.toNat) 1)).toNat (μ 35, 0) 0).2 ∧ μ' = ua μ 35 (prS (μ ((62 + 2 * sh.toNat) + 1)) row (min 6 (μ (62 + 2 * sh.toNat) 1)).toNat (μ 35, 0) 0).1))) x μ1) (h2 : (fun x μ' => (¬ ((0 ≤ sh ∧ sh ≤ 3) ∧ 0 ≤ row ∧ row ≤ 4) → x = -1000000001 ∧ μ' = μ1) ∧ (((0 ≤ sh ∧ sh ≤ 3) ∧ 0 ≤ row ∧ row ≤ 4) → (μ1 91 sh = -1 → x = -1000000011 ∧ μ' = μ1) ∧ (μ1 91 sh ≠ -1 → x = (prS (fun k => μ1 93 (24 * sh + k)) row (min 6 (μ1 92 sh)).toNat (vm (μ1 88) 35, 0) 0).2 ∧ μ' = ua μ1 88 (ldF (μ1 88) (prS (fun k => μ1 93 (24 * sh + k)) row (min 6 (μ1 92 sh)).toNat (vm (μ1 88) 35, 0) 0).1)))) y μ2) : x = y ∧ Sim μ2 := by
  have hs := sim_s hS
  by_cases c1 : (0 ≤ sh ∧ sh ≤ 3) ∧ 0 ≤ row ∧ row ≤ 4
  · have h4 := hS.2.2.2.1 sh.toNat (by omega)
    rw [show ((sh.toNat : Nat) : Int) = sh by omega] at h4
    obtain ⟨⟨b1, b2, b3⟩, z1, z2, z3⟩ := h4
    have g1 := h1.2 c1
    by_cases c2 : μ (62 + 2 * sh.toNat) 0 = -1
    · obtain ⟨e1, m1⟩ := g1.1 c2
      subst m1
      obtain ⟨e2, m2⟩ := (h2.2 c1).1 (by rw [z1]; exact c2)
      subst m2
      exact ⟨by rw [e1, e2], hS⟩
    · obtain ⟨e1, m1⟩ := g1.2 c2
      have f91 : μ1 91 = μ 91 := by rw [m1]; exact ua_ne (by omega)
      have f92 : μ1 92 = μ 92 := by rw [m1]; exact ua_ne (by omega)
      have f93 : μ1 93 = μ 93 := by rw [m1]; exact ua_ne (by omega)
      have f88 : μ1 88 = μ 88 := by rw [m1]; exact ua_ne (by omega)
      rw [f91, f92, f93, f88] at h2
      obtain ⟨e2, m2⟩ := (h2.2 c1).2 (by rw [z1]; exact c2)
      rw [z2] at e2 m2
      have hc := prS_cg (sr := μ ((62 + 2 * sh.toNat) + 1)) (sr' := fun k => μ 93 (24 * sh + k)) (row := row) c1.2.1 c1.2.2 (min 6 (μ (62 + 2 * sh.toNat) 1)).toNat 0 (μ 35) (vm (μ 88) 35) 0 (by decide) (by omega) (fun j a b => (z3 j a (by omega)).symm) (sm_l hs)
      have hb := prS_b (sr := μ ((62 + 2 * sh.toNat) + 1)) (row := row) (min 6 (μ (62 + 2 * sh.toNat) 1)).toNat 0 (μ 35) 0 (nN hs).2.2.1 (by omega) (by omega)
      refine ⟨by rw [e1, e2]; exact hc.2, sim_m hS ?_ ?_ ?_⟩
      · rw [m2, ua_same, m1]
        exact SM_q (μ := ua μ 35 _) (fun q a b => ua_ne (by omega)) (ua_ne (by decide)) (ua_ne (by decide)) (ua_ne (by decide)) (ua_ne (by decide)) (ua_ne (by decide)) (sm_ld hs hc.1 hb)
      · rw [m2, m1, ua_ne (by decide), ua_ne (by decide)]; exact Int.le_refl _
      · intro q a b c
        rw [m2, m1, ua_ne c, ua_ne (by omega)]
  · obtain ⟨e1, m1⟩ := h1.1 c1
    subst m1
    obtain ⟨e2, m2⟩ := h2.1 c1
    subst m2
    exact ⟨by rw [e1, e2], hS⟩
