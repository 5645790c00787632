/-! THE START -/
section Start
variable {μ : Mem}
set_option maxRecDepth 100000 in
theorem zs_0 : μS μ 0 = (fun _ => (0 : Int)) := rfl
set_option maxRecDepth 100000 in
theorem zs_33 : μS μ 33 = (fun _ => (0 : Int)) := rfl
set_option maxRecDepth 100000 in
theorem zs_34 : μS μ 34 = (fun _ => (0 : Int)) := rfl
set_option maxRecDepth 100000 in
theorem zs_35 : μS μ 35 = (fun _ => (0 : Int)) := rfl
set_option maxRecDepth 100000 in
theorem zs_36 : μS μ 36 = (fun _ => (0 : Int)) := rfl
set_option maxRecDepth 100000 in
theorem zs_57 : μS μ 57 = (fun _ => (0 : Int)) := rfl
set_option maxRecDepth 100000 in
theorem zs_86 : μS μ 86 = (fun _ => (0 : Int)) := rfl
set_option maxRecDepth 100000 in
theorem zs_92 : μS μ 92 = (fun _ => (0 : Int)) := rfl
set_option maxRecDepth 100000 in
theorem zs_93 : μS μ 93 = (fun _ => (0 : Int)) := rfl
set_option maxRecDepth 100000 in
theorem zs_94 : μS μ 94 = (fun _ => (0 : Int)) := rfl
set_option maxRecDepth 100000 in
theorem zs_97 : μS μ 97 = (fun _ => (0 : Int)) := rfl
set_option maxRecDepth 100000 in
theorem zs_98 : μS μ 98 = (fun _ => (0 : Int)) := rfl
set_option maxRecDepth 100000 in
theorem zs_107 : μS μ 107 = (fun _ => (0 : Int)) := rfl
set_option maxRecDepth 100000 in
theorem zs_111 : μS μ 111 = (fun _ => (0 : Int)) := rfl
set_option maxRecDepth 100000 in
theorem zs_32 : μS μ 32 = uf (uf (uf (uf (fun _ => (0 : Int)) 8 2) 9 6) 10 3) 11 1 := rfl
set_option maxRecDepth 100000 in
theorem zs_88 : μS μ 88 = (uf (uf (uf (uf (fun _ => 0) 2 2) 3 6) 4 3) 6 1) := rfl
set_option maxRecDepth 100000 in
theorem zs_56 : μS μ 56 1 = 0 := rfl
set_option maxRecDepth 100000 in
theorem zs_87 : μS μ 87 = (fun _ => (0 : Int)) := rfl
set_option maxRecDepth 100000 in
theorem zs_91 : μS μ 91 = uf (uf (uf (uf (fun _ => (0 : Int)) 0 (-1)) 1 (-1)) 2 (-1)) 3 (-1) := rfl
set_option maxRecDepth 100000 in
theorem zs_sh : ∀ k : Nat, k < 4 → μS μ (62 + 2 * k) = uf (fun _ => (0 : Int)) 0 (-1) ∧ μS μ (62 + 2 * k + 1) = (fun _ => (0 : Int)) := by
  intro k hk
  rcases (by omega : k = 0 ∨ k = 1 ∨ k = 2 ∨ k = 3) with h | h | h | h <;> subst h <;> exact ⟨rfl, rfl⟩
set_option maxRecDepth 100000 in
theorem zs_sl : ∀ k : Nat, k < 5 → μS μ (71 + 3 * k) 0 = 0 := by
  intro k hk
  rcases (by omega : k = 0 ∨ k = 1 ∨ k = 2 ∨ k = 3 ∨ k = 4) with h | h | h | h | h <;> subst h <;> rfl
theorem lw0 {ν : Mem} : lwI ν 0 := ⟨by decide, fun i hi => absurd hi (by omega), ⟨by show 0 ≤ 14; decide, fun t ht => absurd ht (by show ¬ t ∈ []; exact List.not_mem_nil)⟩⟩
set_option maxRecDepth 100000 in
theorem sim_0 : Sim (μS μ) := by
  have hI : mtI (μS μ) 32 := by
    refine ⟨fun c _ _ => ?_, fun c _ _ => ?_, fun c _ _ => ?_, fun c _ _ => ?_, ?_, ?_, ?_, ?_, ?_, ?_⟩
    · show 0 ≤ μS μ 33 c ∧ μS μ 33 c ≤ 5
      rw [zs_33]; show (0 : Int) ≤ 0 ∧ (0 : Int) ≤ 5; decide
    · show 0 ≤ μS μ 34 c ∧ μS μ 34 c ≤ 60
      rw [zs_34]; show (0 : Int) ≤ 0 ∧ (0 : Int) ≤ 60; decide
    · show 0 ≤ μS μ 35 c ∧ μS μ 35 c ≤ 999
      rw [zs_35]; show (0 : Int) ≤ 0 ∧ (0 : Int) ≤ 999; decide
    · show 0 ≤ μS μ 36 c ∧ μS μ 36 c < 30
      rw [zs_36]; show (0 : Int) ≤ 0 ∧ (0 : Int) < 30; decide
    · rw [zs_32]; decide
    · rw [zs_32]; decide
    · rw [zs_32]; decide
    · rw [zs_32]; decide
    · rw [zs_32]; decide
    · rw [zs_32]; exact lw0
  have hA : asM (μS μ) 32 (vm (μS μ 88)) 32 := by
    refine ⟨fun c c0 c1 => ?_, fun i i0 i1 => ?_, ?_⟩
    · show μS μ 33 c = vm (μS μ 88) 33 c ∧ μS μ 34 c = vm (μS μ 88) 34 c ∧ μS μ 35 c = vm (μS μ 88) 35 c
      rw [vm_33 c0 c1, vm_34 c0 c1, vm_35 c0 c1, zs_33, zs_34, zs_35, zs_88]
      rw [uf_ne (by omega), uf_ne (by omega), uf_ne (by omega), uf_ne (by omega), uf_ne (by omega), uf_ne (by omega), uf_ne (by omega), uf_ne (by omega), uf_ne (by omega), uf_ne (by omega), uf_ne (by omega), uf_ne (by omega)]
      exact ⟨rfl, rfl, rfl⟩
    · show μS μ 36 i = vm (μS μ 88) 36 i
      rw [vm_36 i0 i1, zs_36, zs_88]
      rw [uf_ne (by omega), uf_ne (by omega), uf_ne (by omega), uf_ne (by omega)]
    · rw [zs_32, zs_88]; exact ⟨rfl, rfl, rfl, rfl, rfl, rfl, rfl⟩
  have h1 : μS μ 88 1 = 0 := by rw [zs_88]; rfl
  have hT : tI (μS μ 88) := ⟨by rw [h1]; decide, by rw [h1]; exact lw0, fun i k hi => absurd hi (by rw [h1]; exact Nat.not_lt_zero i)⟩
  have hM : SM (μS μ) 32 (μS μ 88) := by
    refine ⟨hI, md_of hI hA hT, hA, ?_⟩
    show LLc (μS μ) (μS μ 32 13).toNat = LLc (vm (μS μ 88)) (μS μ 88 1).toNat
    rw [h1, zs_32]; rfl
  refine ⟨hM, ⟨by rw [zs_0]; exact Or.inl rfl, by rw [zs_87, zs_0], fun h => absurd (by rw [zs_0]) h⟩, ⟨by rw [zs_107, zs_57], by rw [zs_87, zs_56], by rw [zs_56]; decide, fun q => by rw [zs_57]; show (0 : Int) ≤ 0 ∧ (0 : Int) ≤ 255; decide⟩, fun k hk => ?_, fun k hk => ?_, by rw [zs_111, zs_86], by rw [zs_87, zs_0], by rw [zs_0]; decide⟩
  · obtain ⟨a, b⟩ := zs_sh (μ := μ) k hk
    rw [a, b, zs_91, zs_92, zs_93]
    rcases (by omega : k = 0 ∨ k = 1 ∨ k = 2 ∨ k = 3) with h | h | h | h <;> subst h <;> exact ⟨by decide, rfl, rfl, fun _ _ _ => rfl⟩
  · rw [zs_sl k hk, zs_94]
    exact ⟨by decide, rfl, fun h => absurd h (by decide), fun h => absurd h (by decide), fun h => absurd h (by decide)⟩
end Start
theorem gd_b {L : List (Option Nat)} (hL : ∀ x ∈ L, ∀ j, x = some j → j < 113) {m j : Nat} (h : L.getD m none = some j) : j < 113 := by
  rw [List.getD_eq_getElem?_getD] at h
  cases hm : L[m]? with
  | none => rw [hm] at h; cases h
  | some x => rw [hm] at h; exact hL x (List.mem_of_getElem? hm) j h
theorem rho_P : okP 113 ρ0 := by
  intro i k j h
  unfold ρ0 at h
  by_cases k0 : k < 0
  · rw [if_pos k0] at h; cases h
  rw [if_neg k0] at h
  by_cases c0 : i = 0
  · rw [if_pos c0] at h
    unfold rfC at h
    exact gd_b (by intro x hx j hj; subst hj; simp only [List.mem_cons, Option.some.injEq, List.not_mem_nil, or_false] at hx; omega) h
  rw [if_neg c0] at h
  by_cases c1 : i = 1
  · rw [if_pos c1] at h
    exact gd_b (by intro x hx j hj; subst hj; simp only [List.mem_cons, Option.some.injEq, List.not_mem_nil, or_false] at hx; omega) h
  rw [if_neg c1] at h
  by_cases c2 : i = 2
  · rw [if_pos c2] at h
    split at h
    · cases h; omega
    · cases h
  rw [if_neg c2] at h
  by_cases c3 : i < 32
  · rw [if_pos c3] at h
    split at h
    · cases h; omega
    · cases h
  rw [if_neg c3] at h
  by_cases c4 : i = 32 ∨ i = 39 ∨ i = 46
  · rw [if_pos c4] at h
    split at h
    · cases h; omega
    · split at h
      · cases h; omega
      · cases h
  rw [if_neg c4] at h
  by_cases c5 : i = 53
  · rw [if_pos c5] at h
    exact gd_b (by intro x hx j hj; subst hj; simp only [List.mem_cons, Option.some.injEq, List.not_mem_nil, or_false] at hx; omega) h
  rw [if_neg c5] at h
  by_cases c6 : i = 56
  · rw [if_pos c6] at h
    split at h
    · cases h; omega
    · cases h
  rw [if_neg c6] at h
  by_cases c7 : i = 58
  · rw [if_pos c7] at h
    exact gd_b (by intro x hx j hj; subst hj; simp only [List.mem_cons, Option.some.injEq, List.not_mem_nil, or_false] at hx; omega) h
  rw [if_neg c7] at h
  by_cases c8 : i = 59
  · rw [if_pos c8] at h
    split at h
    · cases h; omega
    · cases h
  rw [if_neg c8] at h
  by_cases c9 : i = 61
  · rw [if_pos c9] at h
    split at h
    · cases h; omega
    · cases h
  rw [if_neg c9] at h
  by_cases c10 : i = 70
  · rw [if_pos c10] at h
    split at h
    · cases h; omega
    · cases h
  rw [if_neg c10] at h
  by_cases c11 : i < 87
  · rw [if_pos c11] at h
    split at h
    · split at h
      · cases h; omega
      · cases h
    · split at h
      · cases h; omega
      · cases h
  rw [if_neg c11] at h
  by_cases c12 : i = 87
  · rw [if_pos c12] at h
    unfold rfM at h
    exact gd_b (by intro x hx j hj; subst hj; simp only [List.mem_cons, Option.some.injEq, List.not_mem_nil, or_false, reduceCtorEq, false_or] at hx; omega) h
  rw [if_neg c12] at h
  cases h

set_option maxRecDepth 100000 in
set_option maxHeartbeats 4000000 in
theorem lw_first {l : Launch} {D : va_G} {cA : Nat → ClassId} {N : Nat} {xs : Nat → Int} {BF BK BZ : Nat} (hN : N ≤ 3072) (hxs : ∀ j, iR (xs j)) (hB79 : 79 ≤ BF) (hBK : 113 ≤ BK) (hBZ : 13143 ≤ BZ) {μ : Mem} : Go l D cA (some (N, xs)) RL cL_law 4 (some .boolean) (BF, BK, BZ) (fun r _ _ _ => r = some (vi 1)) 0 (fun _ _ => none) 0 0 0 [(0, vr 1020)] [] μ := by
  refine go_new dL_law_0 nw_L_7 rfl (by decide) ⟨by show 0 + 1 ≤ BK; omega, by show 0 + 12 ≤ BZ; omega⟩ ?_
  refine go_dup dL_law_3 rfl ?_
  refine go_mk dL_law_4 ci_Slope ml_L_9 mc_X9_init mi_X9_init rfl ⟨Nat.ble_eq_true_of_le (by show 3 + 1 ≤ BF; omega), rfl⟩ ⟨by show 0 + 1 + 86 ≤ BK; omega, by show 0 + 12 + 2683 ≤ BZ; omega⟩ rfl rfl rfl ?_
  refine go_astore_n dL_law_7 rfl ?_
  refine go_new dL_law_8 nw_L_10 rfl (by decide) ⟨by show 0 + 1 + 86 + 1 ≤ BK; omega, by show 0 + 12 + 2683 + 38 ≤ BZ; omega⟩ ?_
  refine go_dup dL_law_11 rfl ?_
  refine go_mk dL_law_12 ci_Model ml_L_12 mc_X10_init mi_X10_init rfl ⟨Nat.ble_eq_true_of_le (by show 1 + 1 ≤ BF; omega), rfl⟩ ⟨by show 0 + 1 + 86 + 1 + 25 ≤ BK; omega, by show 0 + 12 + 2683 + 38 + 10410 ≤ BZ; omega⟩ rfl rfl rfl ?_
  refine go_astore_n dL_law_15 rfl ?_
  refine go_iconst dL_law_16 rfl ?_
  refine go_istore_n dL_law_17 rfl ?_
  refine go_rho (ρ' := ρ0) (fun σ => rho_wl (ρ := ρS) rho_ok σ) rho_P ?_
  refine go_drop (lw_loop (K := 113) (Z := 13143) hN hxs hB79 ⟨hBK, hBZ⟩ N 0 (μS μ) (by omega) (by decide) (by decide) sim_0) rfl

