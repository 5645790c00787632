/-! THE LAW, from its first row to its last -/
set_option maxRecDepth 100000 in
set_option maxHeartbeats 4000000 in
theorem lw_loop {l : Launch} {D : va_G} {cA : Nat → ClassId} {N : Nat} {xs : Nat → Int} {BF BK BZ K Z : Nat} (hN : N ≤ 3072) (hxs : ∀ j, iR (xs j)) (hB79 : 79 ≤ BF) (hKZ : K ≤ BK ∧ Z ≤ BZ) : ∀ (m : Nat) (i : Int) (μ : Mem), (N : Int) - i ≤ (m : Nat) → 0 ≤ i → i ≤ 4000 → Sim μ → Go l D cA (some (N, xs)) RL cL_law 4 (some .boolean) (BF, BK, BZ) (fun r _ _ _ => r = some (vi 1)) 113 ρ0 K Z 18 [(0, vr 1020), (1, vr 0), (2, vr 87), (3, vi i)] [] μ := by
  intro m
  induction m with
  | zero =>
      intro i μ hm i0 i9 hS
      refine go_iload_n dL_law_18 rfl ?_
      refine go_aload_n dL_law_19 rfl ?_
      refine go_slen dL_law_20 rfl hN ?_
      refine go_bipush dL_law_21 rfl (by decide) ?_
      refine go_isub dL_law_23 ⟨by omega, by omega⟩ ?_
      refine go_icmp_gt (tgt := 1425) dL_law_24 rfl (fun h24 => ?_) (fun h24 => ?_)
      · refine go_iconst dL_law_1425 rfl ?_
        exact go_ret (r := some (vi 1)) dL_law_1426 (tyZ (Or.inr rfl)) rfl hKZ.1 hKZ.2 rfl
      · exact absurd h24 (by omega)
  | succ m ih =>
      intro i μ hm i0 i9 hS
      refine go_iload_n dL_law_18 rfl ?_
      refine go_aload_n dL_law_19 rfl ?_
      refine go_slen dL_law_20 rfl hN ?_
      refine go_bipush dL_law_21 rfl (by decide) ?_
      refine go_isub dL_law_23 ⟨by omega, by omega⟩ ?_
      refine go_icmp_gt (tgt := 1425) dL_law_24 rfl (fun h24 => ?_) (fun h24 => ?_)
      · refine go_iconst dL_law_1425 rfl ?_
        exact go_ret (r := some (vi 1)) dL_law_1426 (tyZ (Or.inr rfl)) rfl hKZ.1 hKZ.2 rfl
      have kn : ∀ μ2, Sim μ2 → Go l D cA (some (N, xs)) RL cL_law 4 (some .boolean) (BF, BK, BZ) (fun r _ _ _ => r = some (vi 1)) 113 ρ0 K Z 1419 [(0, vr 1020), (1, vr 0), (2, vr 87), (3, vi i)] [] μ2 := fun μ2 hS2 => by
        refine go_iinc dL_law_1419 rfl rfl ⟨by omega, by omega⟩ ?_
        refine go_goto (tgt := 18) dL_law_1422 rfl ?_
        exact go_drop (ih (i + 6) μ2 (by omega) (by omega) (by omega) hS2) rfl
      refine go_aload_n dL_law_27 rfl ?_
      refine go_iload_n dL_law_28 rfl ?_
      refine go_sld dL_law_29 rfl i0 (by omega) ?_
      refine go_bipush dL_law_30 rfl (by decide) ?_
      refine go_iand dL_law_32 ?_
      refine go_case (0) (fun h0 => ?_) (fun h0 => ?_)
      · refine go_tabIn (tgt := 208) dL_law_33 (by rw [h0]; decide) (by rw [h0]; decide) (by rw [h0]; try rfl) rfl ?_
        exact go_drop (lc_0 hN hxs hB79 hKZ i0 (by omega) hS kn) rfl
      refine go_case (1) (fun h1 => ?_) (fun h1 => ?_)
      · refine go_tabIn (tgt := 261) dL_law_33 (by rw [h1]; decide) (by rw [h1]; decide) (by rw [h1]; try rfl) rfl ?_
        exact go_drop (lc_1 hN hxs hB79 hKZ i0 (by omega) hS kn) rfl
      refine go_case (2) (fun h2 => ?_) (fun h2 => ?_)
      · refine go_tabIn (tgt := 294) dL_law_33 (by rw [h2]; decide) (by rw [h2]; decide) (by rw [h2]; try rfl) rfl ?_
        exact go_drop (lc_2 hN hxs hB79 hKZ i0 (by omega) hS kn) rfl
      refine go_case (3) (fun h3 => ?_) (fun h3 => ?_)
      · refine go_tabIn (tgt := 327) dL_law_33 (by rw [h3]; decide) (by rw [h3]; decide) (by rw [h3]; try rfl) rfl ?_
        exact go_drop (lc_3 hN hxs hB79 hKZ i0 (by omega) hS kn) rfl
      refine go_case (4) (fun h4 => ?_) (fun h4 => ?_)
      · refine go_tabIn (tgt := 360) dL_law_33 (by rw [h4]; decide) (by rw [h4]; decide) (by rw [h4]; try rfl) rfl ?_
        exact go_drop (lc_4 hN hxs hB79 hKZ i0 (by omega) hS kn) rfl
      refine go_case (5) (fun h5 => ?_) (fun h5 => ?_)
      · refine go_tabIn (tgt := 403) dL_law_33 (by rw [h5]; decide) (by rw [h5]; decide) (by rw [h5]; try rfl) rfl ?_
        exact go_drop (lc_5 hN hxs hB79 hKZ i0 (by omega) hS kn) rfl
      refine go_case (6) (fun h6 => ?_) (fun h6 => ?_)
      · refine go_tabIn (tgt := 436) dL_law_33 (by rw [h6]; decide) (by rw [h6]; decide) (by rw [h6]; try rfl) rfl ?_
        exact go_drop (lc_6 hN hxs hB79 hKZ i0 (by omega) hS kn) rfl
      refine go_case (7) (fun h7 => ?_) (fun h7 => ?_)
      · refine go_tabIn (tgt := 449) dL_law_33 (by rw [h7]; decide) (by rw [h7]; decide) (by rw [h7]; try rfl) rfl ?_
        exact go_drop (lc_7 hN hxs hB79 hKZ i0 (by omega) hS kn) rfl
      refine go_case (8) (fun h8 => ?_) (fun h8 => ?_)
      · refine go_tabIn (tgt := 472) dL_law_33 (by rw [h8]; decide) (by rw [h8]; decide) (by rw [h8]; try rfl) rfl ?_
        exact go_drop (lc_8 hN hxs hB79 hKZ i0 (by omega) hS kn) rfl
      refine go_case (9) (fun h9 => ?_) (fun h9 => ?_)
      · refine go_tabIn (tgt := 495) dL_law_33 (by rw [h9]; decide) (by rw [h9]; decide) (by rw [h9]; try rfl) rfl ?_
        exact go_drop (lc_9 hN hxs hB79 hKZ i0 (by omega) hS kn) rfl
      refine go_case (10) (fun h10 => ?_) (fun h10 => ?_)
      · refine go_tabIn (tgt := 528) dL_law_33 (by rw [h10]; decide) (by rw [h10]; decide) (by rw [h10]; try rfl) rfl ?_
        exact go_drop (lc_10 hN hxs hB79 hKZ i0 (by omega) hS kn) rfl
      refine go_case (11) (fun h11 => ?_) (fun h11 => ?_)
      · refine go_tabIn (tgt := 541) dL_law_33 (by rw [h11]; decide) (by rw [h11]; decide) (by rw [h11]; try rfl) rfl ?_
        exact go_drop (lc_11 hN hxs hB79 hKZ i0 (by omega) hS kn) rfl
      refine go_case (12) (fun h12 => ?_) (fun h12 => ?_)
      · refine go_tabIn (tgt := 564) dL_law_33 (by rw [h12]; decide) (by rw [h12]; decide) (by rw [h12]; try rfl) rfl ?_
        exact go_drop (lc_12 hN hxs hB79 hKZ i0 (by omega) hS kn) rfl
      refine go_case (13) (fun h13 => ?_) (fun h13 => ?_)
      · refine go_tabIn (tgt := 577) dL_law_33 (by rw [h13]; decide) (by rw [h13]; decide) (by rw [h13]; try rfl) rfl ?_
        exact go_drop (lc_13 hN hxs hB79 hKZ i0 (by omega) hS kn) rfl
      refine go_case (14) (fun h14 => ?_) (fun h14 => ?_)
      · refine go_tabIn (tgt := 600) dL_law_33 (by rw [h14]; decide) (by rw [h14]; decide) (by rw [h14]; try rfl) rfl ?_
        exact go_drop (lc_14 hN hxs hB79 hKZ i0 (by omega) hS kn) rfl
      refine go_case (15) (fun h15 => ?_) (fun h15 => ?_)
      · refine go_tabIn (tgt := 623) dL_law_33 (by rw [h15]; decide) (by rw [h15]; decide) (by rw [h15]; try rfl) rfl ?_
        exact go_drop (lc_15 hN hxs hB79 hKZ i0 (by omega) hS kn) rfl
      refine go_case (16) (fun h16 => ?_) (fun h16 => ?_)
      · refine go_tabIn (tgt := 646) dL_law_33 (by rw [h16]; decide) (by rw [h16]; decide) (by rw [h16]; try rfl) rfl ?_
        exact go_drop (lc_16 hN hxs hB79 hKZ i0 (by omega) hS kn) rfl
      refine go_case (17) (fun h17 => ?_) (fun h17 => ?_)
      · refine go_tabIn (tgt := 689) dL_law_33 (by rw [h17]; decide) (by rw [h17]; decide) (by rw [h17]; try rfl) rfl ?_
        exact go_drop (lc_17 hN hxs hB79 hKZ i0 (by omega) hS kn) rfl
      refine go_case (18) (fun h18 => ?_) (fun h18 => ?_)
      · refine go_tabIn (tgt := 732) dL_law_33 (by rw [h18]; decide) (by rw [h18]; decide) (by rw [h18]; try rfl) rfl ?_
        exact go_drop (lc_18 hN hxs hB79 hKZ i0 (by omega) hS kn) rfl
      refine go_case (19) (fun h19 => ?_) (fun h19 => ?_)
      · refine go_tabIn (tgt := 765) dL_law_33 (by rw [h19]; decide) (by rw [h19]; decide) (by rw [h19]; try rfl) rfl ?_
        exact go_drop (lc_19 hN hxs hB79 hKZ i0 (by omega) hS kn) rfl
      refine go_case (20) (fun h20 => ?_) (fun h20 => ?_)
      · refine go_tabIn (tgt := 798) dL_law_33 (by rw [h20]; decide) (by rw [h20]; decide) (by rw [h20]; try rfl) rfl ?_
        exact go_drop (lc_20 hN hxs hB79 hKZ i0 (by omega) hS kn) rfl
      refine go_case (21) (fun h21 => ?_) (fun h21 => ?_)
      · refine go_tabIn (tgt := 842) dL_law_33 (by rw [h21]; decide) (by rw [h21]; decide) (by rw [h21]; try rfl) rfl ?_
        exact go_drop (lc_21 hN hxs hB79 hKZ i0 (by omega) hS kn) rfl
      refine go_case (22) (fun h22 => ?_) (fun h22 => ?_)
      · refine go_tabIn (tgt := 885) dL_law_33 (by rw [h22]; decide) (by rw [h22]; decide) (by rw [h22]; try rfl) rfl ?_
        exact go_drop (lc_22 hN hxs hB79 hKZ i0 (by omega) hS kn) rfl
      refine go_case (23) (fun h23 => ?_) (fun h23 => ?_)
      · refine go_tabIn (tgt := 908) dL_law_33 (by rw [h23]; decide) (by rw [h23]; decide) (by rw [h23]; try rfl) rfl ?_
        exact go_drop (lc_23 hN hxs hB79 hKZ i0 (by omega) hS kn) rfl
      refine go_case (24) (fun h24 => ?_) (fun h24 => ?_)
      · refine go_tabIn (tgt := 921) dL_law_33 (by rw [h24]; decide) (by rw [h24]; decide) (by rw [h24]; try rfl) rfl ?_
        exact go_drop (lc_24 hN hxs hB79 hKZ i0 (by omega) hS kn) rfl
      refine go_case (25) (fun h25 => ?_) (fun h25 => ?_)
      · refine go_tabIn (tgt := 954) dL_law_33 (by rw [h25]; decide) (by rw [h25]; decide) (by rw [h25]; try rfl) rfl ?_
        exact go_drop (lc_25 hN hxs hB79 hKZ i0 (by omega) hS kn) rfl
      refine go_case (26) (fun h26 => ?_) (fun h26 => ?_)
      · refine go_tabIn (tgt := 977) dL_law_33 (by rw [h26]; decide) (by rw [h26]; decide) (by rw [h26]; try rfl) rfl ?_
        exact go_drop (lc_26 hN hxs hB79 hKZ i0 (by omega) hS kn) rfl
      refine go_case (27) (fun h27 => ?_) (fun h27 => ?_)
      · refine go_tabIn (tgt := 1020) dL_law_33 (by rw [h27]; decide) (by rw [h27]; decide) (by rw [h27]; try rfl) rfl ?_
        exact go_drop (lc_27 hN hxs hB79 hKZ i0 (by omega) hS kn) rfl
      refine go_case (28) (fun h28 => ?_) (fun h28 => ?_)
      · refine go_tabIn (tgt := 1063) dL_law_33 (by rw [h28]; decide) (by rw [h28]; decide) (by rw [h28]; try rfl) rfl ?_
        exact go_drop (lc_28 hN hxs hB79 hKZ i0 (by omega) hS kn) rfl
      refine go_case (29) (fun h29 => ?_) (fun h29 => ?_)
      · refine go_tabIn (tgt := 1096) dL_law_33 (by rw [h29]; decide) (by rw [h29]; decide) (by rw [h29]; try rfl) rfl ?_
        exact go_drop (lc_29 hN hxs hB79 hKZ i0 (by omega) hS kn) rfl
      refine go_case (30) (fun h30 => ?_) (fun h30 => ?_)
      · refine go_tabIn (tgt := 1119) dL_law_33 (by rw [h30]; decide) (by rw [h30]; decide) (by rw [h30]; try rfl) rfl ?_
        exact go_drop (lc_30 hN hxs hB79 hKZ i0 (by omega) hS kn) rfl
      refine go_case (31) (fun h31 => ?_) (fun h31 => ?_)
      · refine go_tabIn (tgt := 1182) dL_law_33 (by rw [h31]; decide) (by rw [h31]; decide) (by rw [h31]; try rfl) rfl ?_
        exact go_drop (lc_31 hN hxs hB79 hKZ i0 (by omega) hS kn) rfl
      refine go_case (32) (fun h32 => ?_) (fun h32 => ?_)
      · refine go_tabIn (tgt := 1225) dL_law_33 (by rw [h32]; decide) (by rw [h32]; decide) (by rw [h32]; try rfl) rfl ?_
        exact go_drop (lc_32 hN hxs hB79 hKZ i0 (by omega) hS kn) rfl
      refine go_case (33) (fun h33 => ?_) (fun h33 => ?_)
      · refine go_tabIn (tgt := 1258) dL_law_33 (by rw [h33]; decide) (by rw [h33]; decide) (by rw [h33]; try rfl) rfl ?_
        exact go_drop (lc_33 hN hxs hB79 hKZ i0 (by omega) hS kn) rfl
      refine go_case (34) (fun h34 => ?_) (fun h34 => ?_)
      · refine go_tabIn (tgt := 1291) dL_law_33 (by rw [h34]; decide) (by rw [h34]; decide) (by rw [h34]; try rfl) rfl ?_
        exact go_drop (lc_34 hN hxs hB79 hKZ i0 (by omega) hS kn) rfl
      refine go_case (35) (fun h35 => ?_) (fun h35 => ?_)
      · refine go_tabIn (tgt := 1324) dL_law_33 (by rw [h35]; decide) (by rw [h35]; decide) (by rw [h35]; try rfl) rfl ?_
        exact go_drop (lc_35 hN hxs hB79 hKZ i0 (by omega) hS kn) rfl
      refine go_case (36) (fun h36 => ?_) (fun h36 => ?_)
      · refine go_tabIn (tgt := 1347) dL_law_33 (by rw [h36]; decide) (by rw [h36]; decide) (by rw [h36]; try rfl) rfl ?_
        exact go_drop (lc_36 hN hxs hB79 hKZ i0 (by omega) hS kn) rfl
      refine go_case (37) (fun h37 => ?_) (fun h37 => ?_)
      · refine go_tabIn (tgt := 1370) dL_law_33 (by rw [h37]; decide) (by rw [h37]; decide) (by rw [h37]; try rfl) rfl ?_
        exact go_drop (lc_37 hN hxs hB79 hKZ i0 (by omega) hS kn) rfl
      refine go_case (38) (fun h38 => ?_) (fun h38 => ?_)
      · refine go_tabIn (tgt := 1383) dL_law_33 (by rw [h38]; decide) (by rw [h38]; decide) (by rw [h38]; try rfl) rfl ?_
        exact go_drop (lc_38 hN hxs hB79 hKZ i0 (by omega) hS kn) rfl
      refine go_case (39) (fun h39 => ?_) (fun h39 => ?_)
      · refine go_tabIn (tgt := 1396) dL_law_33 (by rw [h39]; decide) (by rw [h39]; decide) (by rw [h39]; try rfl) rfl ?_
        exact go_drop (lc_39 hN hxs hB79 hKZ i0 (by omega) hS kn) rfl
      refine go_tabOut (tgt := 1419) dL_law_33 (by omega) rfl ?_
      exact go_drop (kn μ hS) rfl

section Rho
variable {l : Launch} {D : va_G} {cA : Nat → ClassId} {X : XT} {own : String} {cc : ByteArray} {nL : Nat} {rt : Option FieldType} {B : Nat × Nat × Nat} {Qa : QT} {n : Nat} {ρ : RefM} {k z pc : Nat} {L : List (Nat × AV)} {st : List AV} {μ : Mem}
theorem go_rho {ρ' : RefM} (h : ∀ σ, wl cA n σ ρ μ = wl cA n σ ρ' μ) (hP : okP n ρ') (kk : Go l D cA X own cc nL rt B Qa n ρ' k z pc L st μ) : Go l D cA X own cc nL rt B Qa n ρ k z pc L st μ := by
  intro p e R s m args below meth c Q A n0 σ0 σ H locs ls hC hR hn hσ hW hl hL hst
  exact kk p e R s m args below meth c Q A n0 σ0 σ H locs ls hC hR hn hσ ⟨by rw [← h]; exact hW.1, by rw [← h]; exact hW.2.1, hW.2.2.1, hW.2.2.2.1, hP⟩ hl hL hst
theorem rho_wl {ρ' : RefM} (h : ∀ i, i < n → ((shp i).1 = 20 ∨ (shp i).1 = 21) ∨ ((shp i).1 < 20 ∧ ∀ q : Nat, q < (shp i).2 → ρ i q = ρ' i q) ∨ ∀ q : Nat, ρ i q = ρ' i q) (σ : Nat → Nat) : wl cA n σ ρ μ = wl cA n σ ρ' μ := by
  unfold wl
  apply List.map_congr_left
  intro i hi
  have h1 := h i (List.mem_range.mp hi)
  congr 1
  unfold ent
  rcases h1 with h1 | ⟨h1, h2⟩ | h2
  · have n20 : ¬ (shp i).1 < 20 := by omega
    have n22 : (shp i).1 < 22 := by omega
    simp only [if_neg n20, if_pos n22]
  · rw [if_pos h1, if_pos h1]
    congr 2
    apply List.map_congr_left
    intro q hq
    unfold fvl
    rw [h2 q (List.mem_range.mp hq)]
  · have e : ∀ ci q, fvl σ (ρ i) (μ i) ci q = fvl σ (ρ' i) (μ i) ci q := fun ci q => by unfold fvl; rw [h2 q]
    have e2 : ∀ ci, fvl σ (ρ i) (μ i) ci = fvl σ (ρ' i) (μ i) ci := fun ci => funext (e ci)
    have e3 : (fun j : Nat => (ρ i (j : Nat)).map σ) = fun j : Nat => (ρ' i (j : Nat)).map σ := funext fun j => by rw [h2 j]
    rw [e2, e3]
end Rho
def ρS : RefM := rModel (uR (rSlope (uR (fun _ _ => none) 0 (fun _ => none))) 87 (fun _ => none))
def μS (μ : Mem) : Mem := mModel (ua (mSlope (ua μ 0 (fun _ => 0))) 87 (fun _ => 0))
def rhoB : Bool := (List.range 113).all (fun i => (shp i).1 == 20 || (shp i).1 == 21 || (decide ((shp i).1 < 20) && (List.range (shp i).2).all (fun q => ρS i (q : Nat) == ρ0 i (q : Nat))) || i == 2 || i == 61 || i == 70)
theorem rhoB_t : rhoB = true := by decide +kernel

set_option maxRecDepth 100000 in
theorem rho_2 (q : Nat) : ρS 2 (q : Nat) = ρ0 2 (q : Nat) := by
  by_cases h : q < 14
  · rcases (by omega : q = 0 ∨ q = 1 ∨ q = 2 ∨ q = 3 ∨ q = 4 ∨ q = 5 ∨ q = 6 ∨ q = 7 ∨ q = 8 ∨ q = 9 ∨ q = 10 ∨ q = 11 ∨ q = 12 ∨ q = 13) with h | h | h | h | h | h | h | h | h | h | h | h | h | h <;> subst h <;> rfl
  · have e1 : ρ0 2 (q : Nat) = none := by
      show (if (q : Int) < 0 then none else (if (q : Int) < 14 then some (4 + 2 * (q : Int).toNat) else none)) = none
      rw [if_neg (by omega), if_neg (by omega)]
    rw [e1]
    show (if (q : Int) = 13 then some 30 else if (q : Int) = 12 then some 28 else if (q : Int) = 11 then some 26 else if (q : Int) = 10 then some 24 else if (q : Int) = 9 then some 22 else if (q : Int) = 8 then some 20 else if (q : Int) = 7 then some 18 else if (q : Int) = 6 then some 16 else if (q : Int) = 5 then some 14 else if (q : Int) = 4 then some 12 else if (q : Int) = 3 then some 10 else if (q : Int) = 2 then some 8 else if (q : Int) = 1 then some 6 else if (q : Int) = 0 then some 4 else none : Option Nat) = none
    rw [if_neg (by omega), if_neg (by omega), if_neg (by omega), if_neg (by omega), if_neg (by omega), if_neg (by omega), if_neg (by omega), if_neg (by omega), if_neg (by omega), if_neg (by omega), if_neg (by omega), if_neg (by omega), if_neg (by omega), if_neg (by omega)]

set_option maxRecDepth 100000 in
theorem rho_61 (q : Nat) : ρS 61 (q : Nat) = ρ0 61 (q : Nat) := by
  by_cases h : q < 4
  · rcases (by omega : q = 0 ∨ q = 1 ∨ q = 2 ∨ q = 3) with h | h | h | h <;> subst h <;> rfl
  · have e1 : ρ0 61 (q : Nat) = none := by
      show (if (q : Int) < 0 then none else (if (q : Int) < 4 then some (62 + 2 * (q : Int).toNat) else none)) = none
      rw [if_neg (by omega), if_neg (by omega)]
    rw [e1]
    show (if (q : Int) = 3 then some 68 else if (q : Int) = 2 then some 66 else if (q : Int) = 1 then some 64 else if (q : Int) = 0 then some 62 else none : Option Nat) = none
    rw [if_neg (by omega), if_neg (by omega), if_neg (by omega), if_neg (by omega)]

set_option maxRecDepth 100000 in
theorem rho_70 (q : Nat) : ρS 70 (q : Nat) = ρ0 70 (q : Nat) := by
  by_cases h : q < 5
  · rcases (by omega : q = 0 ∨ q = 1 ∨ q = 2 ∨ q = 3 ∨ q = 4) with h | h | h | h | h <;> subst h <;> rfl
  · have e1 : ρ0 70 (q : Nat) = none := by
      show (if (q : Int) < 0 then none else (if (q : Int) < 5 then some (71 + 3 * (q : Int).toNat) else none)) = none
      rw [if_neg (by omega), if_neg (by omega)]
    rw [e1]
    show (if (q : Int) = 4 then some 83 else if (q : Int) = 3 then some 80 else if (q : Int) = 2 then some 77 else if (q : Int) = 1 then some 74 else if (q : Int) = 0 then some 71 else none : Option Nat) = none
    rw [if_neg (by omega), if_neg (by omega), if_neg (by omega), if_neg (by omega), if_neg (by omega)]

theorem rho_ok : ∀ i, i < 113 → ((shp i).1 = 20 ∨ (shp i).1 = 21) ∨ ((shp i).1 < 20 ∧ ∀ q : Nat, q < (shp i).2 → ρS i q = ρ0 i q) ∨ ∀ q : Nat, ρS i q = ρ0 i q := by
  intro i hi
  have h := List.all_eq_true.mp rhoB_t i (List.mem_range.mpr hi)
  simp only [Bool.or_eq_true, Bool.and_eq_true, beq_iff_eq, decide_eq_true_eq, List.all_eq_true, List.mem_range] at h
  rcases h with ((((h | h) | h) | h) | h) | h
  · exact Or.inl (Or.inl h)
  · exact Or.inl (Or.inr h)
  · exact Or.inr (Or.inl h)
  · subst h; exact Or.inr (Or.inr rho_2)
  · subst h; exact Or.inr (Or.inr rho_61)
  · subst h; exact Or.inr (Or.inr rho_70)

