/-! THE REFERENCE: what is only thought, images, draws -/
def cpA (f g : Int → Int) (n : Int) : Int → Int := fun j => if 0 ≤ j ∧ j < n then f j else g j
theorem cpA_in {f g : Int → Int} {n j : Int} (h0 : 0 ≤ j) (h1 : j < n) : cpA f g n j = f j := if_pos ⟨h0, h1⟩
theorem cpA_0 {f g : Int → Int} : cpA f g 0 = g := by funext j; exact if_neg (by omega)
theorem cpA_up {f g : Int → Int} {i : Int} (h : 0 ≤ i) : uf (cpA f g i) i (f i) = cpA f g (i + 1) := by
  funext j
  unfold uf cpA
  by_cases e : j = i
  · rw [if_pos e, if_pos (by omega), e]
  · rw [if_neg e]
    by_cases e2 : 0 ≤ j ∧ j < i
    · rw [if_pos e2, if_pos (by omega)]
    · rw [if_neg e2, if_neg (by omega)]
theorem vm_cg2 {f f' : Int → Int} (h : ∀ j, 0 ≤ j → j < 2922 → f' j = f j) : vm f' = vm f := by
  funext q k
  by_cases h4 : 4 ≤ q ∧ q < 32
  · rw [vm_lw2 (fun j a b => h j (by omega) b) q h4.1 h4.2]
  · unfold vm
    rw [h 0 (by omega) (by omega), h 1 (by omega) (by omega), h 2 (by omega) (by omega), h 3 (by omega) (by omega), h 4 (by omega) (by omega), h 5 (by omega) (by omega), h 6 (by omega) (by omega), if_neg h4, if_neg h4]
    split
    · rfl
    · split
      · split
        · rw [h _ (by omega) (by omega)]
        · rfl
      · split
        · split
          · rw [h _ (by omega) (by omega)]
          · rfl
        · split
          · split
            · rw [h _ (by omega) (by omega)]
            · rfl
          · split
            · split
              · rw [h _ (by omega) (by omega)]
              · rfl
            · rfl
theorem mdI_cg2 {f f' : Int → Int} (h : ∀ j, 0 ≤ j → j < 2922 → f' j = f j) (hI : mdI f) : mdI f' := by
  have ht := md_t hI
  exact ⟨by rw [vm_cg2 h]; exact hI.1, txI_cg (h 1 (by omega) (by omega)) (fun j a b => h j (by omega) b) ht.1 ht.2.1 ht.2.2⟩
theorem tkVN_cg2 {f f' : Int → Int} (h : ∀ j, 0 ≤ j → j < 2922 → f' j = f j) (n : Nat) : tkVN f' n = tkVN f n := by
  unfold tkVN
  rw [vm_cg2 h, h 4 (by omega) (by omega)]
abbrev tkS (f : Int → Int) (s : TS) : TS × Int := tkF (vm f 33) (vm f 34) (phC (vm f) 32) (f 4) s
theorem tkV_e {f : Int → Int} {s : TS} (hT : tI f) : tsE (tkV (tkR f s)).1 (tkS f s).1 ∧ (tkV (tkR f s)).2 = (tkS f s).2 := by
  have h := tkF_cg (k := vm f 33) (st := vm f 34) (ph := phC (vm f) 32) (fall := f 4) EqR.rf EqR.rf EqR.rf (tkR_ts (f := f) (s := s))
  have e : tkV (tkR f s) = tkF (vm f 33) (vm f 34) (phC (vm f) 32) (f 4) (tS (vm (tkR f s)) 32) := by
    unfold tkV
    rw [tkR_vm.1, tkR_vm.2.1, ph_tk hT, tkR_vm.2.2.2.2.2.2.2]
  rw [e]
  exact h
theorem tkN_f {f : Int → Int} {n : Nat} (hI : mdI f) : lB (tkVN f n).1.1 ∧ (0 ≤ (tkVN f n).1.2.2.1 ∧ (tkVN f n).1.2.2.1 ≤ 23) ∧ 0 ≤ (tkVN f n).2 ∧ (tkVN f n).2 ≤ 30 * (n : Nat) :=
  tkN_b (kinds := vm f 33) (steeps := vm f 34) (ph := phC (vm f) 32) (fall := f 4) (s := tS (vm f) 32) (md_b hI).2.2.2.2.2.2.2.1.1 hI.1.2.2.1 (md_b hI).2.2.2.2.2.2.1 n
theorem ld_tk {f : Int → Int} {s : TS} : EqR (vm (tkR f s) 35) s.1 := fun c h0 h1 => by rw [vm_35 h0 h1, tkR_l h0 h1]
theorem back_tk {f c : Int → Int} {s : TS} (h : ∀ j, 0 ≤ j → j < 122 → c j = f j) : cpA c (tkR f s) 122 = f := by
  funext j
  unfold cpA
  by_cases e : 0 ≤ j ∧ j < 122
  · rw [if_pos e, h j e.1 e.2]
  · rw [if_neg e, tkR_o (by omega) (by omega) (by omega) (by omega)]

set_option maxRecDepth 100000 in
set_option maxHeartbeats 4000000 in
theorem ct_X10_laysBy {l : Launch} {D : va_G} {cA : Nat → ClassId} {μ : Mem} : CtN l D cA yX10_laysBy cX10_laysBy 2 none 1 [vr 87] μ (Pv (fun μ' => μ' = ua μ 100 (cpA (μ 88) (μ 100) 122))) := by
  refine Ct.of (own := RX10) (by decide +kernel) rfl (fun σ => Nat.le_of_ble_eq_true rfl) (fun hM hP ha => ?_)
  obtain ⟨m87, r88, s88, r89, s89, r90, s90, r91, s91, r92, s92, r93, s93, r94, s94, r95, s95, r96, s96, r97, s97, r98, s98, r99, s99, r100, s100, r101, s101, r102, s102, r103, s103, r104, s104, r105, s105, r106, s106, r107, s107, r108, s108, r109, s109, r110, s110, r111, s111, r112, s112⟩ := md_f
  have loop : ∀ (m : Nat) (i : Int) (μ1 : Mem), 122 - i = (m : Nat) → 0 ≤ i → (μ1 = ua μ 100 (cpA (μ 88) (μ 100) i)) → Go l D cA none RX10 cX10_laysBy 2 none (1, 0, 0) (QN (Pv (fun μ' => μ' = ua μ 100 (cpA (μ 88) (μ 100) 122)))) 113 ρ0 0 0 2 [(0, vr 87), (1, vi i)] [] μ1 := by
    intro m
    induction m with
    | zero =>
      intro i μ1 hm hv hm1
      refine go_iload_n dX10_laysBy_2 rfl ?_
      refine go_bipush dX10_laysBy_3 rfl (by decide) ?_
      refine go_icmp_ge (tgt := 26) dX10_laysBy_5 rfl (fun h5 => ?_) (fun h5 => ?_)
      ·
        exact go_rv dX10_laysBy_26 rfl ⟨Nat.le_refl _, Nat.le_refl _⟩ (by rw [hm1, show i = 122 by omega])
      ·
        exact absurd h5 (by omega)
    | succ m ih =>
      intro i μ1 hm hv hm1
      refine go_iload_n dX10_laysBy_2 rfl ?_
      refine go_bipush dX10_laysBy_3 rfl (by decide) ?_
      refine go_icmp_ge (tgt := 26) dX10_laysBy_5 rfl (fun h5 => ?_) (fun h5 => ?_)
      ·
        exact absurd h5 (by omega)
      ·
        subst hm1
        refine go_aload_n dX10_laysBy_8 rfl ?_
        refine go_getR dX10_laysBy_9 fl_X10_46 (by first | assumption | exact Nat.le_of_ble_eq_true rfl) (by first | assumption | rfl) rfl (by first | assumption | rfl) ?_
        refine go_iload_n dX10_laysBy_12 rfl ?_
        refine go_aload_n dX10_laysBy_13 rfl ?_
        refine go_getR dX10_laysBy_14 fl_X10_7 (by first | assumption | exact Nat.le_of_ble_eq_true rfl) (by first | assumption | rfl) rfl (by first | assumption | rfl) ?_
        refine go_iload_n dX10_laysBy_17 rfl ?_
        refine go_iaload dX10_laysBy_18 (by first | assumption | exact Nat.le_of_ble_eq_true rfl) (by first | assumption | rfl) (by omega) (by omega) ?_
        refine go_iastore dX10_laysBy_19 (by first | assumption | exact Nat.le_of_ble_eq_true rfl) (by first | assumption | rfl) (by omega) (by omega) ?_
        refine go_iinc dX10_laysBy_20 rfl rfl ⟨by omega, by omega⟩ ?_
        refine go_goto (tgt := 2) dX10_laysBy_23 rfl ?_
        refine go_drop (ih _ _ (by omega) (by omega) ?_) rfl
        rw [ua_ne (by decide), ud_ua, cpA_up hv]
  refine go_iconst dX10_laysBy_0 rfl ?_
  refine go_istore_n dX10_laysBy_1 rfl ?_
  exact go_drop (loop 122 0 μ (by omega) (by omega) (by rw [cpA_0, ua_id])) rfl

set_option maxRecDepth 100000 in
set_option maxHeartbeats 4000000 in
theorem ct_X10_laysBack {l : Launch} {D : va_G} {cA : Nat → ClassId} {μ : Mem} : CtN l D cA yX10_laysBack cX10_laysBack 2 none 1 [vr 87] μ (Pv (fun μ' => μ' = ua μ 88 (cpA (μ 100) (μ 88) 122))) := by
  refine Ct.of (own := RX10) (by decide +kernel) rfl (fun σ => Nat.le_of_ble_eq_true rfl) (fun hM hP ha => ?_)
  obtain ⟨m87, r88, s88, r89, s89, r90, s90, r91, s91, r92, s92, r93, s93, r94, s94, r95, s95, r96, s96, r97, s97, r98, s98, r99, s99, r100, s100, r101, s101, r102, s102, r103, s103, r104, s104, r105, s105, r106, s106, r107, s107, r108, s108, r109, s109, r110, s110, r111, s111, r112, s112⟩ := md_f
  have loop : ∀ (m : Nat) (i : Int) (μ1 : Mem), 122 - i = (m : Nat) → 0 ≤ i → (μ1 = ua μ 88 (cpA (μ 100) (μ 88) i)) → Go l D cA none RX10 cX10_laysBack 2 none (1, 0, 0) (QN (Pv (fun μ' => μ' = ua μ 88 (cpA (μ 100) (μ 88) 122)))) 113 ρ0 0 0 2 [(0, vr 87), (1, vi i)] [] μ1 := by
    intro m
    induction m with
    | zero =>
      intro i μ1 hm hv hm1
      refine go_iload_n dX10_laysBack_2 rfl ?_
      refine go_bipush dX10_laysBack_3 rfl (by decide) ?_
      refine go_icmp_ge (tgt := 26) dX10_laysBack_5 rfl (fun h5 => ?_) (fun h5 => ?_)
      ·
        exact go_rv dX10_laysBack_26 rfl ⟨Nat.le_refl _, Nat.le_refl _⟩ (by rw [hm1, show i = 122 by omega])
      ·
        exact absurd h5 (by omega)
    | succ m ih =>
      intro i μ1 hm hv hm1
      refine go_iload_n dX10_laysBack_2 rfl ?_
      refine go_bipush dX10_laysBack_3 rfl (by decide) ?_
      refine go_icmp_ge (tgt := 26) dX10_laysBack_5 rfl (fun h5 => ?_) (fun h5 => ?_)
      ·
        exact absurd h5 (by omega)
      ·
        subst hm1
        refine go_aload_n dX10_laysBack_8 rfl ?_
        refine go_getR dX10_laysBack_9 fl_X10_7 (by first | assumption | exact Nat.le_of_ble_eq_true rfl) (by first | assumption | rfl) rfl (by first | assumption | rfl) ?_
        refine go_iload_n dX10_laysBack_12 rfl ?_
        refine go_aload_n dX10_laysBack_13 rfl ?_
        refine go_getR dX10_laysBack_14 fl_X10_46 (by first | assumption | exact Nat.le_of_ble_eq_true rfl) (by first | assumption | rfl) rfl (by first | assumption | rfl) ?_
        refine go_iload_n dX10_laysBack_17 rfl ?_
        refine go_iaload dX10_laysBack_18 (by first | assumption | exact Nat.le_of_ble_eq_true rfl) (by first | assumption | rfl) (by omega) (by omega) ?_
        refine go_iastore dX10_laysBack_19 (by first | assumption | exact Nat.le_of_ble_eq_true rfl) (by first | assumption | rfl) (by omega) (by omega) ?_
        refine go_iinc dX10_laysBack_20 rfl rfl ⟨by omega, by omega⟩ ?_
        refine go_goto (tgt := 2) dX10_laysBack_23 rfl ?_
        refine go_drop (ih _ _ (by omega) (by omega) ?_) rfl
        rw [ua_ne (by decide), ud_ua, cpA_up hv]
  refine go_iconst dX10_laysBack_0 rfl ?_
  refine go_istore_n dX10_laysBack_1 rfl ?_
  exact go_drop (loop 122 0 μ (by omega) (by omega) (by rw [cpA_0, ua_id])) rfl

set_option maxRecDepth 100000 in
set_option maxHeartbeats 4000000 in
theorem ct_X10_setAside {l : Launch} {D : va_G} {cA : Nat → ClassId} {μ : Mem} {a b : Nat} (hab : a ≠ b) (ha : a < 113) (hb : b < 113) (hsa : shp a = (20, 3122)) (hsb : shp b = (20, 3122)) : CtN l D cA yX10_setAside cX10_setAside 4 none 1 [vr 87, vr a, vr b] μ (Pv (fun μ' => μ' = ua μ b (cpA (μ a) (μ b) 2922))) := by
  refine Ct.of (own := RX10) (by decide +kernel) rfl (fun σ => Nat.le_of_ble_eq_true rfl) (fun hM hP ha => ?_)
  obtain ⟨m87, r88, s88, r89, s89, r90, s90, r91, s91, r92, s92, r93, s93, r94, s94, r95, s95, r96, s96, r97, s97, r98, s98, r99, s99, r100, s100, r101, s101, r102, s102, r103, s103, r104, s104, r105, s105, r106, s106, r107, s107, r108, s108, r109, s109, r110, s110, r111, s111, r112, s112⟩ := md_f
  have loop : ∀ (m : Nat) (i : Int) (μ1 : Mem), 2922 - i = (m : Nat) → 0 ≤ i → (μ1 = ua μ b (cpA (μ a) (μ b) i)) → Go l D cA none RX10 cX10_setAside 4 none (1, 0, 0) (QN (Pv (fun μ' => μ' = ua μ b (cpA (μ a) (μ b) 2922)))) 113 ρ0 0 0 2 [(0, vr 87), (1, vr a), (2, vr b), (3, vi i)] [] μ1 := by
    intro m
    induction m with
    | zero =>
      intro i μ1 hm hv hm1
      refine go_iload_n dX10_setAside_2 rfl ?_
      refine go_sipush dX10_setAside_3 rfl (by decide) ?_
      refine go_icmp_ge (tgt := 21) dX10_setAside_6 rfl (fun h6 => ?_) (fun h6 => ?_)
      ·
        exact go_rv dX10_setAside_21 rfl ⟨Nat.le_refl _, Nat.le_refl _⟩ (by rw [hm1, show i = 2922 by omega])
      ·
        exact absurd h6 (by omega)
    | succ m ih =>
      intro i μ1 hm hv hm1
      refine go_iload_n dX10_setAside_2 rfl ?_
      refine go_sipush dX10_setAside_3 rfl (by decide) ?_
      refine go_icmp_ge (tgt := 21) dX10_setAside_6 rfl (fun h6 => ?_) (fun h6 => ?_)
      ·
        exact absurd h6 (by omega)
      ·
        subst hm1
        refine go_aload_n dX10_setAside_9 rfl ?_
        refine go_iload_n dX10_setAside_10 rfl ?_
        refine go_aload_n dX10_setAside_11 rfl ?_
        refine go_iload_n dX10_setAside_12 rfl ?_
        refine go_iaload dX10_setAside_13 (by first | assumption | exact Nat.le_of_ble_eq_true rfl) (by first | assumption | rfl) (by omega) (by omega) ?_
        refine go_iastore dX10_setAside_14 (by first | assumption | exact Nat.le_of_ble_eq_true rfl) (by first | assumption | rfl) (by omega) (by omega) ?_
        refine go_iinc dX10_setAside_15 rfl rfl ⟨by omega, by omega⟩ ?_
        refine go_goto (tgt := 2) dX10_setAside_18 rfl ?_
        refine go_drop (ih _ _ (by omega) (by omega) ?_) rfl
        rw [ua_ne hab, ud_ua, cpA_up hv]
  refine go_iconst dX10_setAside_0 rfl ?_
  refine go_istore_n dX10_setAside_1 rfl ?_
  exact go_drop (loop 2922 0 μ (by omega) (by omega) (by rw [cpA_0, ua_id])) rfl

set_option maxRecDepth 100000 in
set_option maxHeartbeats 4000000 in
theorem ct_X10_deal {l : Launch} {D : va_G} {cA : Nat → ClassId} {μ : Mem} : CtN l D cA yX10_deal cX10_deal 2 (some .int) 2 [vr 87] μ (Pi (fun x μ' => x = sumN (vm (μ' 88) 35) 30 ∧ (∀ c, 0 ≤ c → c < 30 → μ' 88 (8 + 3 * c + 0) = dv (zN (μ 88 6) (3 * c.toNat + 1)) % 6 ∧ μ' 88 (8 + 3 * c + 1) = dv (zN (μ 88 6) (3 * c.toNat + 2)) % 50 ∧ μ' 88 (8 + 3 * c + 2) = dv (zN (μ 88 6) (3 * c.toNat + 3)) % 40) ∧ μ' 88 6 = zN (μ 88 6) 90 ∧ (∀ j, j ≠ 6 → ¬ (8 ≤ j ∧ j < 8 + 3 * 30) → μ' 88 j = μ 88 j) ∧ ∀ q, q ≠ 88 → μ' q = μ q)) := by
  refine Ct.of (own := RX10) (by decide +kernel) rfl (fun σ => Nat.le_of_ble_eq_true rfl) (fun hM hP ha => ?_)
  obtain ⟨m87, r88, s88, r89, s89, r90, s90, r91, s91, r92, s92, r93, s93, r94, s94, r95, s95, r96, s96, r97, s97, r98, s98, r99, s99, r100, s100, r101, s101, r102, s102, r103, s103, r104, s104, r105, s105, r106, s106, r107, s107, r108, s108, r109, s109, r110, s110, r111, s111, r112, s112⟩ := md_f
  have loop : ∀ (m : Nat) (i : Int) (μ1 : Mem), 30 - i = (m : Nat) → 0 ≤ i → ((∀ c, 0 ≤ c → c < i → μ1 88 (8 + 3 * c + 0) = dv (zN (μ 88 6) (3 * c.toNat + 1)) % 6 ∧ μ1 88 (8 + 3 * c + 1) = dv (zN (μ 88 6) (3 * c.toNat + 2)) % 50 ∧ μ1 88 (8 + 3 * c + 2) = dv (zN (μ 88 6) (3 * c.toNat + 3)) % 40)) → (μ1 88 6 = zN (μ 88 6) (3 * i.toNat)) → ((∀ j, j ≠ 6 → ¬ (8 ≤ j ∧ j < 8 + 3 * i) → μ1 88 j = μ 88 j)) → (∀ q, q ≠ 88 → μ1 q = μ q) → Go l D cA none RX10 cX10_deal 2 (some .int) (2, 0, 0) (QN (Pi (fun x μ' => x = sumN (vm (μ' 88) 35) 30 ∧ (∀ c, 0 ≤ c → c < 30 → μ' 88 (8 + 3 * c + 0) = dv (zN (μ 88 6) (3 * c.toNat + 1)) % 6 ∧ μ' 88 (8 + 3 * c + 1) = dv (zN (μ 88 6) (3 * c.toNat + 2)) % 50 ∧ μ' 88 (8 + 3 * c + 2) = dv (zN (μ 88 6) (3 * c.toNat + 3)) % 40) ∧ μ' 88 6 = zN (μ 88 6) 90 ∧ (∀ j, j ≠ 6 → ¬ (8 ≤ j ∧ j < 8 + 3 * 30) → μ' 88 j = μ 88 j) ∧ ∀ q, q ≠ 88 → μ' q = μ q))) 113 ρ0 0 0 2 [(0, vr 87), (1, vi i)] [] μ1 := by
    intro m
    induction m with
    | zero =>
      intro i μ1 hm hv hdn hz ho hf
      refine go_iload_n dX10_deal_2 rfl ?_
      refine go_bipush dX10_deal_3 rfl (by decide) ?_
      refine go_icmp_ge (tgt := 53) dX10_deal_5 rfl (fun h5 => ?_) (fun h5 => ?_)
      ·
        rw [show i = 30 by omega] at hdn ho hz
        refine go_aload_n dX10_deal_53 rfl ?_
        have hlb : lB (vm (μ1 88) 35) := fun c h0 h1 => by rw [vm_35 h0 h1, (hdn c h0 h1).2.2]; have := dv_b (zN (μ 88 6) (3 * c.toNat + 3)); omega
        refine go_vI (ci := 9) dX10_deal_54 (ct_X10_allLoad hlb) ml_X10_157 mc_X10_allLoad mv_X10_allLoad rfl (by first | assumption | exact Nat.le_of_ble_eq_true rfl) (by first | assumption | rfl) rfl ⟨rfl, rfl⟩ ⟨Nat.le_refl _, Nat.le_refl _⟩ rfl rfl rfl (fun x54 μ54 hc54 => ?_)
        obtain ⟨rfl, hm54⟩ := hc54
        rw [hm54]
        exact go_ri dX10_deal_57 tyI ⟨Nat.le_refl _, Nat.le_refl _⟩ (⟨rfl, hdn, hz, ho, hf⟩)
      ·
        exact absurd h5 (by omega)
    | succ m ih =>
      intro i μ1 hm hv hdn hz ho hf
      refine go_iload_n dX10_deal_2 rfl ?_
      refine go_bipush dX10_deal_3 rfl (by decide) ?_
      refine go_icmp_ge (tgt := 53) dX10_deal_5 rfl (fun h5 => ?_) (fun h5 => ?_)
      ·
        exact absurd h5 (by omega)
      ·
        refine go_aload_n dX10_deal_8 rfl ?_
        refine go_iload_n dX10_deal_9 rfl ?_
        refine go_iconst dX10_deal_10 rfl ?_
        refine go_aload_n dX10_deal_11 rfl ?_
        refine go_vI (ci := 9) dX10_deal_12 (ct_X10_drawn) ml_X10_154 mc_X10_drawn mv_X10_drawn rfl (by first | assumption | exact Nat.le_of_ble_eq_true rfl) (by first | assumption | rfl) rfl ⟨rfl, rfl⟩ ⟨Nat.le_refl _, Nat.le_refl _⟩ rfl rfl rfl (fun x12 μ12 hc12 => ?_)
        obtain ⟨rfl, hm12⟩ := hc12
        have e12 := hz
        rw [e12, show dz (zN (μ 88 6) (3 * i.toNat)) = zN (μ 88 6) (3 * i.toNat + 1) from rfl] at hm12 ⊢
        have hb12 := dv_b (zN (μ 88 6) (3 * i.toNat + 1))
        refine go_bipush dX10_deal_15 rfl (by decide) ?_
        refine go_irem dX10_deal_17 (by omega) (by omega) ?_
        refine go_vV (ci := 9) dX10_deal_18 (ct_X10_sets _ _ _ (by omega) (by omega) (by omega) (by omega)) ml_X10_127 mc_X10_sets mv_X10_sets rfl (by first | assumption | exact Nat.le_of_ble_eq_true rfl) (by first | assumption | rfl) rfl ⟨rfl, rfl⟩ ⟨Nat.le_refl _, Nat.le_refl _⟩ rfl rfl rfl (fun μ18 hc18 => ?_)
        skip
        refine go_aload_n dX10_deal_21 rfl ?_
        refine go_iload_n dX10_deal_22 rfl ?_
        refine go_iconst dX10_deal_23 rfl ?_
        refine go_aload_n dX10_deal_24 rfl ?_
        refine go_vI (ci := 9) dX10_deal_25 (ct_X10_drawn) ml_X10_154 mc_X10_drawn mv_X10_drawn rfl (by first | assumption | exact Nat.le_of_ble_eq_true rfl) (by first | assumption | rfl) rfl ⟨rfl, rfl⟩ ⟨Nat.le_refl _, Nat.le_refl _⟩ rfl rfl rfl (fun x25 μ25 hc25 => ?_)
        obtain ⟨rfl, hm25⟩ := hc25
        have e25 : μ18 88 6 = zN (μ 88 6) (3 * i.toNat + 1) := by rw [hc18, ud_s, uf_ne (by omega), hm12, ud_s, uf_same]
        rw [e25, show dz (zN (μ 88 6) (3 * i.toNat + 1)) = zN (μ 88 6) (3 * i.toNat + 2) from rfl] at hm25 ⊢
        have hb25 := dv_b (zN (μ 88 6) (3 * i.toNat + 2))
        refine go_bipush dX10_deal_28 rfl (by decide) ?_
        refine go_irem dX10_deal_30 (by omega) (by omega) ?_
        refine go_vV (ci := 9) dX10_deal_31 (ct_X10_sets _ _ _ (by omega) (by omega) (by omega) (by omega)) ml_X10_127 mc_X10_sets mv_X10_sets rfl (by first | assumption | exact Nat.le_of_ble_eq_true rfl) (by first | assumption | rfl) rfl ⟨rfl, rfl⟩ ⟨Nat.le_refl _, Nat.le_refl _⟩ rfl rfl rfl (fun μ31 hc31 => ?_)
        skip
        refine go_aload_n dX10_deal_34 rfl ?_
        refine go_iload_n dX10_deal_35 rfl ?_
        refine go_iconst dX10_deal_36 rfl ?_
        refine go_aload_n dX10_deal_37 rfl ?_
        refine go_vI (ci := 9) dX10_deal_38 (ct_X10_drawn) ml_X10_154 mc_X10_drawn mv_X10_drawn rfl (by first | assumption | exact Nat.le_of_ble_eq_true rfl) (by first | assumption | rfl) rfl ⟨rfl, rfl⟩ ⟨Nat.le_refl _, Nat.le_refl _⟩ rfl rfl rfl (fun x38 μ38 hc38 => ?_)
        obtain ⟨rfl, hm38⟩ := hc38
        have e38 : μ31 88 6 = zN (μ 88 6) (3 * i.toNat + 2) := by rw [hc31, ud_s, uf_ne (by omega), hm25, ud_s, uf_same]
        rw [e38, show dz (zN (μ 88 6) (3 * i.toNat + 2)) = zN (μ 88 6) (3 * i.toNat + 3) from rfl] at hm38 ⊢
        have hb38 := dv_b (zN (μ 88 6) (3 * i.toNat + 3))
        refine go_bipush dX10_deal_41 rfl (by decide) ?_
        refine go_irem dX10_deal_43 (by omega) (by omega) ?_
        refine go_vV (ci := 9) dX10_deal_44 (ct_X10_sets _ _ _ (by omega) (by omega) (by omega) (by omega)) ml_X10_127 mc_X10_sets mv_X10_sets rfl (by first | assumption | exact Nat.le_of_ble_eq_true rfl) (by first | assumption | rfl) rfl ⟨rfl, rfl⟩ ⟨Nat.le_refl _, Nat.le_refl _⟩ rfl rfl rfl (fun μ44 hc44 => ?_)
        skip
        refine go_iinc dX10_deal_47 rfl rfl ⟨by omega, by omega⟩ ?_
        refine go_goto (tgt := 2) dX10_deal_50 rfl ?_
        refine go_drop (ih _ μ44 (by omega) (by omega) ?_ ?_ ?_ ?_) rfl
        · intro c c0 c1
          by_cases e : c = i
          · subst e
            refine ⟨?_, ?_, ?_⟩ <;> simp (disch := omega) only [hc44, hm38, hc31, hm25, hc18, hm12, ud, ua_same, ua_ne, uf_same, uf_ne]
          · have h := hdn c c0 (by omega)
            refine ⟨?_, ?_, ?_⟩ <;> simp (disch := omega) only [hc44, hm38, hc31, hm25, hc18, hm12, ud, ua_same, ua_ne, uf_same, uf_ne]
            · exact h.1
            · exact h.2.1
            · exact h.2.2
        · rw [show 3 * (i + 1).toNat = 3 * i.toNat + 3 by omega]; simp (disch := omega) only [hc44, hm38, hc31, hm25, hc18, hm12, ud, ua_same, ua_ne, uf_same, uf_ne]
        · intro j h6 h8; simp (disch := omega) only [hc44, hm38, hc31, hm25, hc18, hm12, ud, ua_same, ua_ne, uf_same, uf_ne, h6]; exact ho j h6 (by omega)
        · intro q hq; simp (disch := omega) only [hc44, hm38, hc31, hm25, hc18, hm12, ud, ua_ne]; exact hf q hq
  refine go_iconst dX10_deal_0 rfl ?_
  refine go_istore_n dX10_deal_1 rfl ?_
  exact go_drop (loop 30 0 μ (by omega) (by omega) (fun c c0 c1 => absurd c1 (by omega)) rfl (fun _ _ _ => rfl) (fun _ _ => rfl)) rfl

set_option maxRecDepth 100000 in
set_option maxHeartbeats 4000000 in
theorem ct_X10_run {l : Launch} {D : va_G} {cA : Nat → ClassId} {μ : Mem} (hI : mdI (μ 88)) (n : Int) : CtN l D cA yX10_run cX10_run 2 (some .int) 9 [vr 87, vi n] μ (Pi (fun x μ' => ((1 ≤ n ∧ n ≤ 48) → x = (tkVN (μ 88) n.toNat).2 ∧ μ' 88 = tkR (μ 88) (tkVN (μ 88) n.toNat).1 ∧ ∀ q, q ≠ 88 → q ≠ 99 → q ≠ 108 → q ≠ 109 → μ' q = μ q) ∧ (¬ (1 ≤ n ∧ n ≤ 48) → x = -1000000001 ∧ μ' = μ))) := by
  refine Ct.of (own := RX10) (by decide +kernel) rfl (fun σ => Nat.le_of_ble_eq_true rfl) (fun hM hP ha => ?_)
  obtain ⟨m87, r88, s88, r89, s89, r90, s90, r91, s91, r92, s92, r93, s93, r94, s94, r95, s95, r96, s96, r97, s97, r98, s98, r99, s99, r100, s100, r101, s101, r102, s102, r103, s103, r104, s104, r105, s105, r106, s106, r107, s107, r108, s108, r109, s109, r110, s110, r111, s111, r112, s112⟩ := md_f
  obtain ⟨iK, iS, iL, iT, iTn, iD, iH, iF, iX⟩ := md_b hI
  refine go_iload_n dX10_run_0 rfl ?_
  refine go_i2l dX10_run_1 ?_
  refine go_lconst dX10_run_2 ?_
  refine go_ldc2 dX10_run_3 kl_X10_166 rfl ?_
  refine go_sI dX10_run_6 (ct_X10_isIn _ _ _) ml_X10_87 mc_X10_isIn ms_X10_isIn ⟨rfl, rfl⟩ ⟨Nat.le_refl _, Nat.le_refl _⟩ rfl rfl rfl (fun x6 μ6 hc6 => ?_)
  obtain ⟨rfl, hm6⟩ := hc6
  rw [hm6]
  first | refine go_bz (tgt := 20) dX10_run_9 rfl (fun h9 => ?_) (fun h9 => ?_) | refine go_if_eq (tgt := 20) dX10_run_9 rfl (fun h9 => ?_) (fun h9 => ?_)
  ·
    refine go_ldc dX10_run_20 kc_X10_126 rfl ?_
    exact go_ri dX10_run_22 tyI ⟨Nat.le_refl _, Nat.le_refl _⟩ (⟨fun h => absurd h (by omega), fun _ => ⟨rfl, rfl⟩⟩)
  ·
    refine go_aload_n dX10_run_12 rfl ?_
    refine go_iload_n dX10_run_13 rfl ?_
    refine go_vI (ci := 9) dX10_run_14 (ct_X10_ticksMany hI _ (by omega) (by omega)) ml_X10_168 mc_X10_ticksMany mv_X10_ticksMany rfl (by first | assumption | exact Nat.le_of_ble_eq_true rfl) (by first | assumption | rfl) rfl ⟨rfl, rfl⟩ ⟨Nat.le_refl _, Nat.le_refl _⟩ rfl rfl rfl (fun x14 μ14 hc14 => ?_)
    refine go_goto (tgt := 22) dX10_run_17 rfl ?_
    exact go_ri dX10_run_22 tyI ⟨Nat.le_refl _, Nat.le_refl _⟩ (⟨fun _ => hc14, fun h => absurd (by omega) h⟩)

set_option maxRecDepth 100000 in
set_option maxHeartbeats 4000000 in
theorem ct_X10_ahead {l : Launch} {D : va_G} {cA : Nat → ClassId} {μ : Mem} (hI : mdI (μ 88)) (n what : Int) : CtN l D cA yX10_ahead cX10_ahead 6 (some .int) 9 [vr 87, vi n, vi what] μ (Pi (fun x μ' => x = (if (0 ≤ n ∧ n ≤ 48) ∧ 0 ≤ what ∧ what ≤ 3 then (if what = 0 then sumN (tkVN (μ 88) n.toNat).1.1 30 else if what = 1 then (tkVN (μ 88) n.toNat).2 else if what = 2 then (tkVN (μ 88) n.toNat).1.1 (mstN (tkVN (μ 88) n.toNat).1.1 30) else mstN (tkVN (μ 88) n.toNat).1.1 30) else -1000000001) ∧ ∀ q, q ≠ 99 → q ≠ 100 → q ≠ 108 → q ≠ 109 → μ' q = μ q)) := by
  refine Ct.of (own := RX10) (by decide +kernel) rfl (fun σ => Nat.le_of_ble_eq_true rfl) (fun hM hP ha => ?_)
  obtain ⟨m87, r88, s88, r89, s89, r90, s90, r91, s91, r92, s92, r93, s93, r94, s94, r95, s95, r96, s96, r97, s97, r98, s98, r99, s99, r100, s100, r101, s101, r102, s102, r103, s103, r104, s104, r105, s105, r106, s106, r107, s107, r108, s108, r109, s109, r110, s110, r111, s111, r112, s112⟩ := md_f
  obtain ⟨iK, iS, iL, iT, iTn, iD, iH, iF, iX⟩ := md_b hI
  refine go_iload_n dX10_ahead_0 rfl ?_
  refine go_i2l dX10_ahead_1 ?_
  refine go_lconst dX10_ahead_2 ?_
  refine go_ldc2 dX10_ahead_3 kl_X10_166 rfl ?_
  refine go_sI dX10_ahead_6 (ct_X10_isIn _ _ _) ml_X10_87 mc_X10_isIn ms_X10_isIn ⟨rfl, rfl⟩ ⟨Nat.le_refl _, Nat.le_refl _⟩ rfl rfl rfl (fun x6 μ6 hc6 => ?_)
  obtain ⟨rfl, hm6⟩ := hc6
  rw [hm6]
  first | refine go_bz (tgt := 24) dX10_ahead_9 rfl (fun h9 => ?_) (fun h9 => ?_) | refine go_if_eq (tgt := 24) dX10_ahead_9 rfl (fun h9 => ?_) (fun h9 => ?_)
  ·
    refine go_ldc dX10_ahead_24 kc_X10_126 rfl ?_
    exact go_ri dX10_ahead_26 tyI ⟨Nat.le_refl _, Nat.le_refl _⟩ (⟨by rw [if_neg (by omega)], fun _ _ _ _ _ => rfl⟩)
  ·
    refine go_iload_n dX10_ahead_12 rfl ?_
    refine go_i2l dX10_ahead_13 ?_
    refine go_lconst dX10_ahead_14 ?_
    refine go_ldc2 dX10_ahead_15 kl_X10_171 rfl ?_
    refine go_sI dX10_ahead_18 (ct_X10_isIn _ _ _) ml_X10_87 mc_X10_isIn ms_X10_isIn ⟨rfl, rfl⟩ ⟨Nat.le_refl _, Nat.le_refl _⟩ rfl rfl rfl (fun x18 μ18 hc18 => ?_)
    obtain ⟨rfl, hm18⟩ := hc18
    rw [hm18]
    first | refine go_bnz (tgt := 27) dX10_ahead_21 rfl (fun h21 => ?_) (fun h21 => ?_) | refine go_if_ne (tgt := 27) dX10_ahead_21 rfl (fun h21 => ?_) (fun h21 => ?_)
    ·
      refine go_aload_n dX10_ahead_27 rfl ?_
      refine go_vV (ci := 9) dX10_ahead_28 (ct_X10_laysBy) ml_X10_173 mc_X10_laysBy mv_X10_laysBy rfl (by first | assumption | exact Nat.le_of_ble_eq_true rfl) (by first | assumption | rfl) rfl ⟨rfl, rfl⟩ ⟨Nat.le_refl _, Nat.le_refl _⟩ rfl rfl rfl (fun μ28 hc28 => ?_)
      subst hc28
      refine go_aload_n dX10_ahead_31 rfl ?_
      refine go_iload_n dX10_ahead_32 rfl ?_
      refine go_vI (ci := 9) dX10_ahead_33 (ct_X10_ticksMany (by rw [ua_ne (by decide)]; exact hI) _ (by omega) (by omega)) ml_X10_168 mc_X10_ticksMany mv_X10_ticksMany rfl (by first | assumption | exact Nat.le_of_ble_eq_true rfl) (by first | assumption | rfl) rfl ⟨rfl, rfl⟩ ⟨Nat.le_refl _, Nat.le_refl _⟩ rfl rfl rfl (fun x33 μ33 hc33 => ?_)
      rw [ua_ne (by decide)] at hc33
      obtain ⟨rfl, h88, hf33⟩ := hc33
      have h100 : μ33 100 = cpA (μ 88) (μ 100) 122 := by rw [hf33 100 (by decide) (by decide) (by decide) (by decide), ua_same]
      have hbN := tkN_f (n := n.toNat) hI
      have loop : ∀ (m : Nat) (i : Int) (mo : Int), 30 - i = (m : Nat) → 1 ≤ i → ((0 ≤ n ∧ n ≤ 48) ∧ 0 ≤ what ∧ what ≤ 3) → (mo = mstN (tkVN (μ 88) n.toNat).1.1 i.toNat) → Go l D cA none RX10 cX10_ahead 6 (some .int) (9, 0, 0) (QN (Pi (fun x μ' => x = (if (0 ≤ n ∧ n ≤ 48) ∧ 0 ≤ what ∧ what ≤ 3 then (if what = 0 then sumN (tkVN (μ 88) n.toNat).1.1 30 else if what = 1 then (tkVN (μ 88) n.toNat).2 else if what = 2 then (tkVN (μ 88) n.toNat).1.1 (mstN (tkVN (μ 88) n.toNat).1.1 30) else mstN (tkVN (μ 88) n.toNat).1.1 30) else -1000000001) ∧ ∀ q, q ≠ 99 → q ≠ 100 → q ≠ 108 → q ≠ 109 → μ' q = μ q))) 113 ρ0 0 0 43 [(0, vr 87), (1, vi n), (2, vi what), (3, vi (tkVN (μ 88) n.toNat).2), (4, vi mo), (5, vi i)] [] μ33 := by
        intro m
        induction m with
        | zero =>
          intro i mo hm hv hg hmo
          refine go_iload dX10_ahead_43 rfl ?_
          refine go_bipush dX10_ahead_45 rfl (by decide) ?_
          refine go_icmp_ge (tgt := 82) dX10_ahead_47 rfl (fun h47 => ?_) (fun h47 => ?_)
          ·
            have hmb := mstN_b (f := (tkVN (μ 88) n.toNat).1.1) i.toNat
            refine go_iload_n dX10_ahead_82 rfl ?_
            first | refine go_bnz (tgt := 93) dX10_ahead_83 rfl (fun h83 => ?_) (fun h83 => ?_) | refine go_if_ne (tgt := 93) dX10_ahead_83 rfl (fun h83 => ?_) (fun h83 => ?_)
            ·
              refine go_iload_n dX10_ahead_93 rfl ?_
              refine go_iconst dX10_ahead_94 rfl ?_
              refine go_icmp_ne (tgt := 102) dX10_ahead_95 rfl (fun h95 => ?_) (fun h95 => ?_)
              ·
                refine go_iload_n dX10_ahead_102 rfl ?_
                refine go_iconst dX10_ahead_103 rfl ?_
                refine go_icmp_ne (tgt := 117) dX10_ahead_104 rfl (fun h104 => ?_) (fun h104 => ?_)
                ·
                  refine go_iload dX10_ahead_117 rfl ?_
                  refine go_istore dX10_ahead_119 rfl ?_
                  refine go_aload_n dX10_ahead_121 rfl ?_
                  refine go_vV (ci := 9) dX10_ahead_122 (ct_X10_laysBack) ml_X10_176 mc_X10_laysBack mv_X10_laysBack rfl (by first | assumption | exact Nat.le_of_ble_eq_true rfl) (by first | assumption | rfl) rfl ⟨rfl, rfl⟩ ⟨Nat.le_refl _, Nat.le_refl _⟩ rfl rfl rfl (fun μ122 hc122 => ?_)
                  subst hc122
                  have hfE : ∀ q, q ≠ 99 → q ≠ 100 → q ≠ 108 → q ≠ 109 → ua μ33 88 (cpA (μ33 100) (μ33 88) 122) q = μ q := by
                    intro q a b c d
                    by_cases e : q = 88
                    · rw [e, ua_same, h88, h100]; exact back_tk (fun j j0 j1 => cpA_in j0 j1)
                    · rw [ua_ne e, hf33 q e a c d]; exact ua_ne b
                  refine go_iload dX10_ahead_125 rfl ?_
                  exact go_ri dX10_ahead_127 tyI ⟨Nat.le_refl _, Nat.le_refl _⟩ (⟨by rw [if_pos (show (0 ≤ n ∧ n ≤ 48) ∧ 0 ≤ what ∧ what ≤ 3 by omega)]; rw [if_neg (by omega), if_neg (by omega), if_neg (by omega), hmo, show i.toNat = 30 by omega], hfE⟩)
                ·
                  refine go_aload_n dX10_ahead_107 rfl ?_
                  refine go_iload dX10_ahead_108 rfl ?_
                  refine go_iconst dX10_ahead_110 rfl ?_
                  refine go_vI (ci := 9) dX10_ahead_111 (ct_X10_of _ _ (by omega) (by omega) (by omega) (by omega)) ml_X10_92 mc_X10_of mv_X10_of rfl (by first | assumption | exact Nat.le_of_ble_eq_true rfl) (by first | assumption | rfl) rfl ⟨rfl, rfl⟩ ⟨Nat.le_refl _, Nat.le_refl _⟩ rfl rfl rfl (fun x111 μ111 hc111 => ?_)
                  rw [h88, tkR_l (by omega) (by omega)] at hc111
                  obtain ⟨rfl, hm111⟩ := hc111
                  rw [hm111]
                  refine go_goto (tgt := 119) dX10_ahead_114 rfl ?_
                  refine go_istore dX10_ahead_119 rfl ?_
                  refine go_aload_n dX10_ahead_121 rfl ?_
                  refine go_vV (ci := 9) dX10_ahead_122 (ct_X10_laysBack) ml_X10_176 mc_X10_laysBack mv_X10_laysBack rfl (by first | assumption | exact Nat.le_of_ble_eq_true rfl) (by first | assumption | rfl) rfl ⟨rfl, rfl⟩ ⟨Nat.le_refl _, Nat.le_refl _⟩ rfl rfl rfl (fun μ122 hc122 => ?_)
                  subst hc122
                  have hfE : ∀ q, q ≠ 99 → q ≠ 100 → q ≠ 108 → q ≠ 109 → ua μ33 88 (cpA (μ33 100) (μ33 88) 122) q = μ q := by
                    intro q a b c d
                    by_cases e : q = 88
                    · rw [e, ua_same, h88, h100]; exact back_tk (fun j j0 j1 => cpA_in j0 j1)
                    · rw [ua_ne e, hf33 q e a c d]; exact ua_ne b
                  refine go_iload dX10_ahead_125 rfl ?_
                  exact go_ri dX10_ahead_127 tyI ⟨Nat.le_refl _, Nat.le_refl _⟩ (⟨by rw [if_pos (show (0 ≤ n ∧ n ≤ 48) ∧ 0 ≤ what ∧ what ≤ 3 by omega)]; rw [if_neg (by omega), if_neg (by omega), if_pos (by omega), hmo, show i.toNat = 30 by omega], hfE⟩)
              ·
                refine go_iload_n dX10_ahead_98 rfl ?_
                refine go_goto (tgt := 119) dX10_ahead_99 rfl ?_
                refine go_istore dX10_ahead_119 rfl ?_
                refine go_aload_n dX10_ahead_121 rfl ?_
                refine go_vV (ci := 9) dX10_ahead_122 (ct_X10_laysBack) ml_X10_176 mc_X10_laysBack mv_X10_laysBack rfl (by first | assumption | exact Nat.le_of_ble_eq_true rfl) (by first | assumption | rfl) rfl ⟨rfl, rfl⟩ ⟨Nat.le_refl _, Nat.le_refl _⟩ rfl rfl rfl (fun μ122 hc122 => ?_)
                subst hc122
                have hfE : ∀ q, q ≠ 99 → q ≠ 100 → q ≠ 108 → q ≠ 109 → ua μ33 88 (cpA (μ33 100) (μ33 88) 122) q = μ q := by
                  intro q a b c d
                  by_cases e : q = 88
                  · rw [e, ua_same, h88, h100]; exact back_tk (fun j j0 j1 => cpA_in j0 j1)
                  · rw [ua_ne e, hf33 q e a c d]; exact ua_ne b
                refine go_iload dX10_ahead_125 rfl ?_
                exact go_ri dX10_ahead_127 tyI ⟨Nat.le_refl _, Nat.le_refl _⟩ (⟨by rw [if_pos (show (0 ≤ n ∧ n ≤ 48) ∧ 0 ≤ what ∧ what ≤ 3 by omega)]; rw [if_neg (by omega), if_pos (by omega)], hfE⟩)
            ·
              refine go_aload_n dX10_ahead_86 rfl ?_
              refine go_vI (ci := 9) dX10_ahead_87 (ct_X10_allLoad (fun c h0 h1 => by rw [h88, ld_tk c h0 h1]; exact hbN.1 c h0 h1)) ml_X10_157 mc_X10_allLoad mv_X10_allLoad rfl (by first | assumption | exact Nat.le_of_ble_eq_true rfl) (by first | assumption | rfl) rfl ⟨rfl, rfl⟩ ⟨Nat.le_refl _, Nat.le_refl _⟩ rfl rfl rfl (fun x87 μ87 hc87 => ?_)
              rw [h88, sumN_cg ld_tk 30 (by omega)] at hc87
              obtain ⟨rfl, hm87⟩ := hc87
              rw [hm87]
              refine go_goto (tgt := 119) dX10_ahead_90 rfl ?_
              refine go_istore dX10_ahead_119 rfl ?_
              refine go_aload_n dX10_ahead_121 rfl ?_
              refine go_vV (ci := 9) dX10_ahead_122 (ct_X10_laysBack) ml_X10_176 mc_X10_laysBack mv_X10_laysBack rfl (by first | assumption | exact Nat.le_of_ble_eq_true rfl) (by first | assumption | rfl) rfl ⟨rfl, rfl⟩ ⟨Nat.le_refl _, Nat.le_refl _⟩ rfl rfl rfl (fun μ122 hc122 => ?_)
              subst hc122
              have hfE : ∀ q, q ≠ 99 → q ≠ 100 → q ≠ 108 → q ≠ 109 → ua μ33 88 (cpA (μ33 100) (μ33 88) 122) q = μ q := by
                intro q a b c d
                by_cases e : q = 88
                · rw [e, ua_same, h88, h100]; exact back_tk (fun j j0 j1 => cpA_in j0 j1)
                · rw [ua_ne e, hf33 q e a c d]; exact ua_ne b
              refine go_iload dX10_ahead_125 rfl ?_
              exact go_ri dX10_ahead_127 tyI ⟨Nat.le_refl _, Nat.le_refl _⟩ (⟨by rw [if_pos (show (0 ≤ n ∧ n ≤ 48) ∧ 0 ≤ what ∧ what ≤ 3 by omega)]; rw [if_pos (by omega)], hfE⟩)
          ·
            exact absurd h47 (by omega)
        | succ m ih =>
          intro i mo hm hv hg hmo
          refine go_iload dX10_ahead_43 rfl ?_
          refine go_bipush dX10_ahead_45 rfl (by decide) ?_
          refine go_icmp_ge (tgt := 82) dX10_ahead_47 rfl (fun h47 => ?_) (fun h47 => ?_)
          ·
            exact absurd h47 (by omega)
          ·
            have hmb := mstN_b (f := (tkVN (μ 88) n.toNat).1.1) i.toNat
            refine go_aload_n dX10_ahead_50 rfl ?_
            refine go_iload dX10_ahead_51 rfl ?_
            refine go_iconst dX10_ahead_53 rfl ?_
            refine go_vI (ci := 9) dX10_ahead_54 (ct_X10_of _ _ (by omega) (by omega) (by omega) (by omega)) ml_X10_92 mc_X10_of mv_X10_of rfl (by first | assumption | exact Nat.le_of_ble_eq_true rfl) (by first | assumption | rfl) rfl ⟨rfl, rfl⟩ ⟨Nat.le_refl _, Nat.le_refl _⟩ rfl rfl rfl (fun x54 μ54 hc54 => ?_)
            rw [h88, tkR_l (by omega) (by omega)] at hc54
            obtain ⟨rfl, hm54⟩ := hc54
            rw [hm54]
            refine go_aload_n dX10_ahead_57 rfl ?_
            refine go_iload dX10_ahead_58 rfl ?_
            refine go_iconst dX10_ahead_60 rfl ?_
            refine go_vI (ci := 9) dX10_ahead_61 (ct_X10_of _ _ (by omega) (by omega) (by omega) (by omega)) ml_X10_92 mc_X10_of mv_X10_of rfl (by first | assumption | exact Nat.le_of_ble_eq_true rfl) (by first | assumption | rfl) rfl ⟨rfl, rfl⟩ ⟨Nat.le_refl _, Nat.le_refl _⟩ rfl rfl rfl (fun x61 μ61 hc61 => ?_)
            rw [h88, tkR_l (by omega) (by omega)] at hc61
            obtain ⟨rfl, hm61⟩ := hc61
            rw [hm61]
            refine go_icmp_le (tgt := 72) dX10_ahead_64 rfl (fun h64 => ?_) (fun h64 => ?_)
            ·
              refine go_iload dX10_ahead_72 rfl ?_
              refine go_istore dX10_ahead_74 rfl ?_
              refine go_iinc dX10_ahead_76 rfl rfl ⟨by omega, by omega⟩ ?_
              refine go_goto (tgt := 43) dX10_ahead_79 rfl ?_
              exact go_drop (ih _ _ (by omega) (by omega) hg (by rw [show (i + 1).toNat = i.toNat + 1 by omega]; show _ = if (tkVN (μ 88) n.toNat).1.1 (mstN (tkVN (μ 88) n.toNat).1.1 i.toNat) < (tkVN (μ 88) n.toNat).1.1 ((i.toNat : Nat) : Int) then _ else _; rw [show ((i.toNat : Nat) : Int) = i by omega, ← hmo, if_neg (by omega)])) rfl
            ·
              refine go_iload dX10_ahead_67 rfl ?_
              refine go_goto (tgt := 74) dX10_ahead_69 rfl ?_
              refine go_istore dX10_ahead_74 rfl ?_
              refine go_iinc dX10_ahead_76 rfl rfl ⟨by omega, by omega⟩ ?_
              refine go_goto (tgt := 43) dX10_ahead_79 rfl ?_
              exact go_drop (ih _ _ (by omega) (by omega) hg (by rw [show (i + 1).toNat = i.toNat + 1 by omega]; show _ = if (tkVN (μ 88) n.toNat).1.1 (mstN (tkVN (μ 88) n.toNat).1.1 i.toNat) < (tkVN (μ 88) n.toNat).1.1 ((i.toNat : Nat) : Int) then _ else _; rw [show ((i.toNat : Nat) : Int) = i by omega, ← hmo, if_pos (by omega)])) rfl
      refine go_istore_n dX10_ahead_36 rfl ?_
      refine go_iconst dX10_ahead_37 rfl ?_
      refine go_istore dX10_ahead_38 rfl ?_
      refine go_iconst dX10_ahead_40 rfl ?_
      refine go_istore dX10_ahead_41 rfl ?_
      exact go_drop (loop 29 1 0 (by omega) (by omega) (by omega) (by show _ = if _ then _ else _; rw [if_neg (by show ¬ ((tkVN (μ 88) n.toNat).1.1 0 < (tkVN (μ 88) n.toNat).1.1 0); omega)]; rfl)) rfl
    ·
      refine go_ldc dX10_ahead_24 kc_X10_126 rfl ?_
      exact go_ri dX10_ahead_26 tyI ⟨Nat.le_refl _, Nat.le_refl _⟩ (⟨by rw [if_neg (by omega)], fun _ _ _ _ _ => rfl⟩)

set_option maxRecDepth 100000 in
set_option maxHeartbeats 4000000 in
theorem ct_X10_calm {l : Launch} {D : va_G} {cA : Nat → ClassId} {μ : Mem} (hI : mdI (μ 88)) : CtN l D cA yX10_calm cX10_calm 2 (some .int) 8 [vr 87] μ (Pi (fun x μ' => x = clm (vm (μ 88) 33) (vm (μ 88) 34) (phC (vm (μ 88)) 32) (μ 88 4) 48 (tS (vm (μ 88)) 32) 1 ∧ ∀ q, q ≠ 99 → q ≠ 100 → q ≠ 108 → q ≠ 109 → μ' q = μ q)) := by
  refine Ct.of (own := RX10) (by decide +kernel) rfl (fun σ => Nat.le_of_ble_eq_true rfl) (fun hM hP ha => ?_)
  obtain ⟨m87, r88, s88, r89, s89, r90, s90, r91, s91, r92, s92, r93, s93, r94, s94, r95, s95, r96, s96, r97, s97, r98, s98, r99, s99, r100, s100, r101, s101, r102, s102, r103, s103, r104, s104, r105, s105, r106, s106, r107, s107, r108, s108, r109, s109, r110, s110, r111, s111, r112, s112⟩ := md_f
  obtain ⟨iK, iS, iL, iT, iTn, iD, iH, iF, iX⟩ := md_b hI
  have fin : ∀ (k : Int) (s : TS) (μ1 : Mem), μ1 88 = tkR (μ 88) s → μ1 100 = cpA (μ 88) (μ 100) 122 → (∀ q, q ≠ 88 → q ≠ 99 → q ≠ 100 → q ≠ 108 → q ≠ 109 → μ1 q = μ q) → clm (vm (μ 88) 33) (vm (μ 88) 34) (phC (vm (μ 88)) 32) (μ 88 4) 48 (tS (vm (μ 88)) 32) 1 = (if 48 < k then -1000000005 else k) → Go l D cA none RX10 cX10_calm 2 (some .int) (8, 0, 0) (QN (Pi (fun x μ' => x = clm (vm (μ 88) 33) (vm (μ 88) 34) (phC (vm (μ 88)) 32) (μ 88 4) 48 (tS (vm (μ 88)) 32) 1 ∧ ∀ q, q ≠ 99 → q ≠ 100 → q ≠ 108 → q ≠ 109 → μ' q = μ q))) 113 ρ0 0 0 25 [(0, vr 87), (1, vi k)] [] μ1 := by
    intro k s μ1 h88 h100 hf hres
    refine go_aload_n dX10_calm_25 rfl ?_
    refine go_vV (ci := 9) dX10_calm_26 (ct_X10_laysBack) ml_X10_176 mc_X10_laysBack mv_X10_laysBack rfl (by first | assumption | exact Nat.le_of_ble_eq_true rfl) (by first | assumption | rfl) rfl ⟨rfl, rfl⟩ ⟨Nat.le_refl _, Nat.le_refl _⟩ rfl rfl rfl (fun μ26 hc26 => ?_)
    subst hc26
    have hfE : ∀ q, q ≠ 99 → q ≠ 100 → q ≠ 108 → q ≠ 109 → ua μ1 88 (cpA (μ1 100) (μ1 88) 122) q = μ q := by
      intro q a b c d
      by_cases e : q = 88
      · rw [e, ua_same, h88, h100]; exact back_tk (fun j j0 j1 => cpA_in j0 j1)
      · rw [ua_ne e]; exact hf q e a b c d
    refine go_iload_n dX10_calm_29 rfl ?_
    refine go_bipush dX10_calm_30 rfl (by decide) ?_
    refine go_icmp_le (tgt := 40) dX10_calm_32 rfl (fun h32 => ?_) (fun h32 => ?_)
    ·
      refine go_iload_n dX10_calm_40 rfl ?_
      exact go_ri dX10_calm_41 tyI ⟨Nat.le_refl _, Nat.le_refl _⟩ (⟨by rw [hres]; rw [if_neg (by omega)], hfE⟩)
    ·
      refine go_ldc dX10_calm_35 kc_X10_86 rfl ?_
      refine go_goto (tgt := 41) dX10_calm_37 rfl ?_
      exact go_ri dX10_calm_41 tyI ⟨Nat.le_refl _, Nat.le_refl _⟩ (⟨by rw [hres]; rw [if_pos (by omega)], hfE⟩)
  have loop : ∀ (m : Nat) (k : Int) (s : TS) (μ1 : Mem), 49 - k = (m : Nat) → 1 ≤ k → μ1 88 = tkR (μ 88) s → μ1 100 = cpA (μ 88) (μ 100) 122 → (∀ q, q ≠ 88 → q ≠ 99 → q ≠ 100 → q ≠ 108 → q ≠ 109 → μ1 q = μ q) → clm (vm (μ 88) 33) (vm (μ 88) 34) (phC (vm (μ 88)) 32) (μ 88 4) 48 (tS (vm (μ 88)) 32) 1 = clm (vm (μ 88) 33) (vm (μ 88) 34) (phC (vm (μ 88)) 32) (μ 88 4) (49 - k).toNat s k → lB s.1 → (0 ≤ s.2.2.1 ∧ s.2.2.1 ≤ 23) → Go l D cA none RX10 cX10_calm 2 (some .int) (8, 0, 0) (QN (Pi (fun x μ' => x = clm (vm (μ 88) 33) (vm (μ 88) 34) (phC (vm (μ 88)) 32) (μ 88 4) 48 (tS (vm (μ 88)) 32) 1 ∧ ∀ q, q ≠ 99 → q ≠ 100 → q ≠ 108 → q ≠ 109 → μ' q = μ q))) 113 ρ0 0 0 6 [(0, vr 87), (1, vi k)] [] μ1 := by
    intro m
    induction m with
    | zero =>
      intro k s μ1 hm hk1 h88 h100 hf hres hlb h9b
      refine go_iload_n dX10_calm_6 rfl ?_
      refine go_bipush dX10_calm_7 rfl (by decide) ?_
      refine go_icmp_gt (tgt := 25) dX10_calm_9 rfl (fun h9 => ?_) (fun h9 => ?_)
      ·
        exact go_drop (fin _ _ μ1 h88 h100 hf (by rw [hres, if_pos (by omega), show (49 - k).toNat = 0 by omega]; rfl)) rfl
      ·
        exact absurd h9 (by omega)
    | succ m ih =>
      intro k s μ1 hm hk1 h88 h100 hf hres hlb h9b
      refine go_iload_n dX10_calm_6 rfl ?_
      refine go_bipush dX10_calm_7 rfl (by decide) ?_
      refine go_icmp_gt (tgt := 25) dX10_calm_9 rfl (fun h9 => ?_) (fun h9 => ?_)
      ·
        exact absurd h9 (by omega)
      ·
        have hun : clm (vm (μ 88) 33) (vm (μ 88) 34) (phC (vm (μ 88)) 32) (μ 88 4) (49 - k).toNat s k = if 0 < (tkS (μ 88) s).2 then k else clm (vm (μ 88) 33) (vm (μ 88) 34) (phC (vm (μ 88)) 32) (μ 88 4) (49 - (k + 1)).toNat (tkS (μ 88) s).1 (k + 1) := by rw [show (49 - k).toNat = (49 - (k + 1)).toNat + 1 by omega]; rfl
        have hke := tkV_e (f := μ 88) (s := s) (md_t hI)
        have hkc : 0 ≤ (tkS (μ 88) s).2 ∧ (tkS (μ 88) s).2 ≤ 30 := tk_c
        refine go_aload_n dX10_calm_12 rfl ?_
        refine go_vI (ci := 9) dX10_calm_13 (ct_X10_ticks (by rw [h88]; exact mdI_tk hI hlb h9b)) ml_X10_163 mc_X10_ticks mv_X10_ticks rfl (by first | assumption | exact Nat.le_of_ble_eq_true rfl) (by first | assumption | rfl) rfl ⟨rfl, rfl⟩ ⟨Nat.le_refl _, Nat.le_refl _⟩ rfl rfl rfl (fun x13 μ13 hc13 => ?_)
        rw [h88] at hc13
        obtain ⟨rfl, h88b, hf13⟩ := hc13
        rw [tkR_cg hke.1, tkR_tk] at h88b
        rw [hke.2]
        have h100b : μ13 100 = cpA (μ 88) (μ 100) 122 := (hf13 100 (by decide) (by decide) (by decide) (by decide)).trans h100
        have hfb : ∀ q, q ≠ 88 → q ≠ 99 → q ≠ 100 → q ≠ 108 → q ≠ 109 → μ13 q = μ q := fun q a b c d e => (hf13 q a b d e).trans (hf q a b c d e)
        first | refine go_bnz (tgt := 25) dX10_calm_16 rfl (fun h16 => ?_) (fun h16 => ?_) | refine go_if_ne (tgt := 25) dX10_calm_16 rfl (fun h16 => ?_) (fun h16 => ?_)
        ·
          exact go_drop (fin _ _ μ13 h88b h100b hfb (by rw [hres, hun, if_pos (by omega), if_neg (by omega)])) rfl
        ·
          refine go_iinc dX10_calm_19 rfl rfl ⟨by omega, by omega⟩ ?_
          refine go_goto (tgt := 6) dX10_calm_22 rfl ?_
          exact go_drop (ih _ _ μ13 (by omega) (by omega) h88b h100b hfb (by rw [hres, hun, if_neg (by omega)]) (tk_b iF.1 hlb) (by show 0 ≤ (if s.2.2.1 < 23 then s.2.2.1 + 1 else 0) ∧ (if s.2.2.1 < 23 then s.2.2.1 + 1 else 0) ≤ 23; split <;> omega)) rfl
  refine go_aload_n dX10_calm_0 rfl ?_
  refine go_vV (ci := 9) dX10_calm_1 (ct_X10_laysBy) ml_X10_173 mc_X10_laysBy mv_X10_laysBy rfl (by first | assumption | exact Nat.le_of_ble_eq_true rfl) (by first | assumption | rfl) rfl ⟨rfl, rfl⟩ ⟨Nat.le_refl _, Nat.le_refl _⟩ rfl rfl rfl (fun μ1 hc1 => ?_)
  subst hc1
  refine go_iconst dX10_calm_4 rfl ?_
  refine go_istore_n dX10_calm_5 rfl ?_
  exact go_drop (loop 48 1 (tS (vm (μ 88)) 32) _ (by omega) (by omega) ((ua_ne (by decide)).trans tkR_self) (ua_same _ _ _) (fun q a b c d e => ua_ne c) rfl hI.1.2.2.1 iH) rfl

set_option maxRecDepth 100000 in
set_option maxHeartbeats 4000000 in
theorem ct_X10_keep {l : Launch} {D : va_G} {cA : Nat → ClassId} {μ : Mem} (hI : mdI (μ 88)) : CtN l D cA yX10_keep cX10_keep 1 (some .int) 2 [vr 87] μ (Pi (fun x μ' => x = sumN (vm (μ 88) 35) 30 ∧ μ' = ua (ud μ 87 3 1) 89 (cpA (μ 88) (μ 89) 2922))) := by
  refine Ct.of (own := RX10) (by decide +kernel) rfl (fun σ => Nat.le_of_ble_eq_true rfl) (fun hM hP ha => ?_)
  obtain ⟨m87, r88, s88, r89, s89, r90, s90, r91, s91, r92, s92, r93, s93, r94, s94, r95, s95, r96, s96, r97, s97, r98, s98, r99, s99, r100, s100, r101, s101, r102, s102, r103, s103, r104, s104, r105, s105, r106, s106, r107, s107, r108, s108, r109, s109, r110, s110, r111, s111, r112, s112⟩ := md_f
  obtain ⟨iK, iS, iL, iT, iTn, iD, iH, iF, iX⟩ := md_b hI
  refine go_aload_n dX10_keep_0 rfl ?_
  refine go_iconst dX10_keep_1 rfl ?_
  refine go_putZ 3 dX10_keep_2 pl_X10_341 (by first | exact Or.inr rfl | exact Or.inl rfl) (by first | assumption | exact Nat.le_of_ble_eq_true rfl) (by first | assumption | rfl) rfl rfl ?_
  refine go_aload_n dX10_keep_5 rfl ?_
  refine go_aload_n dX10_keep_6 rfl ?_
  refine go_getR dX10_keep_7 fl_X10_7 (by first | assumption | exact Nat.le_of_ble_eq_true rfl) (by first | assumption | rfl) rfl (by first | assumption | rfl) ?_
  refine go_aload_n dX10_keep_10 rfl ?_
  refine go_getR dX10_keep_11 fl_X10_13 (by first | assumption | exact Nat.le_of_ble_eq_true rfl) (by first | assumption | rfl) rfl (by first | assumption | rfl) ?_
  refine go_vV (ci := 9) dX10_keep_14 (ct_X10_setAside (by decide) (by decide) (by decide) s88 s89) ml_X10_345 mc_X10_setAside mv_X10_setAside rfl (by first | assumption | exact Nat.le_of_ble_eq_true rfl) (by first | assumption | rfl) rfl ⟨rfl, rfl⟩ ⟨Nat.le_refl _, Nat.le_refl _⟩ rfl rfl rfl (fun μ14 hc14 => ?_)
  rw [ud_n (by decide), ud_n (by decide)] at hc14
  subst hc14
  refine go_aload_n dX10_keep_17 rfl ?_
  refine go_vI (ci := 9) dX10_keep_18 (ct_X10_allLoad (by rw [ua_ne (by decide), ud_n (by decide)]; exact hI.1.2.2.1)) ml_X10_157 mc_X10_allLoad mv_X10_allLoad rfl (by first | assumption | exact Nat.le_of_ble_eq_true rfl) (by first | assumption | rfl) rfl ⟨rfl, rfl⟩ ⟨Nat.le_refl _, Nat.le_refl _⟩ rfl rfl rfl (fun x18 μ18 hc18 => ?_)
  rw [ua_ne (by decide), ud_n (by decide)] at hc18
  obtain ⟨rfl, hm18⟩ := hc18
  rw [hm18]
  exact go_ri dX10_keep_21 tyI ⟨Nat.le_refl _, Nat.le_refl _⟩ (⟨rfl, rfl⟩)

set_option maxRecDepth 100000 in
set_option maxHeartbeats 4000000 in
theorem ct_X10_back {l : Launch} {D : va_G} {cA : Nat → ClassId} {μ : Mem} (hI2 : μ 87 3 ≠ 0 → mdI (μ 89)) : CtN l D cA yX10_back cX10_back 1 (some .int) 2 [vr 87] μ (Pi (fun x μ' => (μ 87 3 = 0 → x = -1000000002 ∧ μ' = μ) ∧ (μ 87 3 ≠ 0 → x = sumN (vm (μ 89) 35) 30 ∧ μ' = ua μ 88 (cpA (μ 89) (μ 88) 2922)))) := by
  refine Ct.of (own := RX10) (by decide +kernel) rfl (fun σ => Nat.le_of_ble_eq_true rfl) (fun hM hP ha => ?_)
  obtain ⟨m87, r88, s88, r89, s89, r90, s90, r91, s91, r92, s92, r93, s93, r94, s94, r95, s95, r96, s96, r97, s97, r98, s98, r99, s99, r100, s100, r101, s101, r102, s102, r103, s103, r104, s104, r105, s105, r106, s106, r107, s107, r108, s108, r109, s109, r110, s110, r111, s111, r112, s112⟩ := md_f
  refine go_aload_n dX10_back_0 rfl ?_
  refine go_getI 3 dX10_back_1 fl_X10_341 (by first | assumption | exact Nat.le_of_ble_eq_true rfl) (by first | assumption | rfl) rfl rfl ?_
  first | refine go_bnz (tgt := 10) dX10_back_4 rfl (fun h4 => ?_) (fun h4 => ?_) | refine go_if_ne (tgt := 10) dX10_back_4 rfl (fun h4 => ?_) (fun h4 => ?_)
  ·
    have hI := hI2 h4
    have hv9 : vm (cpA (μ 89) (μ 88) 2922) = vm (μ 89) := vm_cg2 (fun j a b => cpA_in a b)
    refine go_aload_n dX10_back_10 rfl ?_
    refine go_aload_n dX10_back_11 rfl ?_
    refine go_getR dX10_back_12 fl_X10_13 (by first | assumption | exact Nat.le_of_ble_eq_true rfl) (by first | assumption | rfl) rfl (by first | assumption | rfl) ?_
    refine go_aload_n dX10_back_15 rfl ?_
    refine go_getR dX10_back_16 fl_X10_7 (by first | assumption | exact Nat.le_of_ble_eq_true rfl) (by first | assumption | rfl) rfl (by first | assumption | rfl) ?_
    refine go_vV (ci := 9) dX10_back_19 (ct_X10_setAside (by decide) (by decide) (by decide) s89 s88) ml_X10_345 mc_X10_setAside mv_X10_setAside rfl (by first | assumption | exact Nat.le_of_ble_eq_true rfl) (by first | assumption | rfl) rfl ⟨rfl, rfl⟩ ⟨Nat.le_refl _, Nat.le_refl _⟩ rfl rfl rfl (fun μ19 hc19 => ?_)
    subst hc19
    refine go_aload_n dX10_back_22 rfl ?_
    refine go_vI (ci := 9) dX10_back_23 (ct_X10_allLoad (by rw [ua_same, hv9]; exact hI.1.2.2.1)) ml_X10_157 mc_X10_allLoad mv_X10_allLoad rfl (by first | assumption | exact Nat.le_of_ble_eq_true rfl) (by first | assumption | rfl) rfl ⟨rfl, rfl⟩ ⟨Nat.le_refl _, Nat.le_refl _⟩ rfl rfl rfl (fun x23 μ23 hc23 => ?_)
    rw [ua_same, hv9] at hc23
    obtain ⟨rfl, hm23⟩ := hc23
    rw [hm23]
    exact go_ri dX10_back_26 tyI ⟨Nat.le_refl _, Nat.le_refl _⟩ (⟨fun h => absurd h h4, fun _ => ⟨rfl, rfl⟩⟩)
  ·
    refine go_ldc dX10_back_7 kc_X10_188 rfl ?_
    exact go_ri dX10_back_9 tyI ⟨Nat.le_refl _, Nat.le_refl _⟩ (⟨fun _ => ⟨rfl, rfl⟩, fun h => absurd h4 h⟩)

def fmN (wt due : Int → Int) (told : Int) : Nat → Int → Int
  | 0, k => k
  | m + 1, k => if told ≤ k ∨ wt k ≠ due k then k else fmN wt due told m (k + 1)
abbrev rgV (wt : Int → Int) (told : Int) (f : Int → Int) (n : Nat) : Int := rgA wt told (vm f 33) (vm f 34) (phC (vm f) 32) (f 4) n (tS (vm f) 32) 0
theorem rg_fm {wt due : Int → Int} {told : Int} {f : Int → Int} : ∀ (m i : Nat), (∀ j : Nat, i ≤ j → j < i + m → due (2 * (j : Nat)) = (tkS f (tkVN f j).1).2 ∧ due (2 * (j : Nat) + 1) = sumN (tkS f (tkVN f j).1).1.1 30) → rgA wt told (vm f 33) (vm f 34) (phC (vm f) 32) (f 4) m (tkVN f i).1 (i : Nat) = fmN wt due told (2 * m) (2 * (i : Nat))
  | 0, i, _ => rfl
  | m + 1, i, h => by
    have h1 := h i (by omega) (by omega)
    have h2 := rg_fm (wt := wt) (due := due) (told := told) (f := f) m (i + 1) (fun j a b => h j (by omega) (by omega))
    show (if told ≤ 2 * (i : Nat) ∨ wt (2 * (i : Nat)) ≠ (tkS f (tkVN f i).1).2 then 2 * ((i : Nat) : Int) else if told ≤ 2 * (i : Nat) + 1 ∨ wt (2 * (i : Nat) + 1) ≠ sumN (tkS f (tkVN f i).1).1.1 30 then 2 * ((i : Nat) : Int) + 1 else rgA wt told (vm f 33) (vm f 34) (phC (vm f) 32) (f 4) m (tkS f (tkVN f i).1).1 ((i : Nat) + 1)) = fmN wt due told (2 * m + 1 + 1) (2 * (i : Nat))
    rw [← h1.1, ← h1.2]
    show _ = if told ≤ 2 * (i : Nat) ∨ wt (2 * (i : Nat)) ≠ due (2 * (i : Nat)) then 2 * ((i : Nat) : Int) else if told ≤ 2 * (i : Nat) + 1 ∨ wt (2 * (i : Nat) + 1) ≠ due (2 * (i : Nat) + 1) then 2 * ((i : Nat) : Int) + 1 else fmN wt due told (2 * m) (2 * (i : Nat) + 1 + 1)
    have e : fmN wt due told (2 * m) (2 * ((i : Nat) : Int) + 1 + 1) = rgA wt told (vm f 33) (vm f 34) (phC (vm f) 32) (f 4) m (tkS f (tkVN f i).1).1 ((i : Nat) + 1) := by
      rw [show 2 * ((i : Nat) : Int) + 1 + 1 = 2 * ((i + 1 : Nat) : Int) by omega, ← h2]
      rfl
    rw [e]
theorem fm_b {wt due : Int → Int} {told : Int} : ∀ (m : Nat) (k : Int), k ≤ fmN wt due told m k ∧ fmN wt due told m k ≤ k + (m : Nat)
  | 0, k => by unfold fmN; omega
  | m + 1, k => by
    have := fm_b (wt := wt) (due := due) (told := told) m (k + 1)
    unfold fmN
    split <;> omega

set_option maxRecDepth 100000 in
set_option maxHeartbeats 4000000 in
theorem ct_X10_check {l : Launch} {D : va_G} {cA : Nat → ClassId} {μ : Mem} (hI2 : μ 87 3 ≠ 0 → mdI (μ 89)) (hw : 0 ≤ μ 87 36 ∧ μ 87 36 ≤ 60) (n : Int) : CtN l D cA yX10_check cX10_check 4 (some .int) 8 [vr 87, vi n] μ (Pi (fun x μ' => μ' 87 = uf (μ 87) 36 0 ∧ (∀ q, q ≠ 87 → q ≠ 90 → q ≠ 99 → q ≠ 108 → q ≠ 109 → q ≠ 112 → μ' q = μ q) ∧ x = (if 1 ≤ n ∧ n ≤ 30 then (if μ 87 3 = 0 then -1000000002 else if rgV (μ 111) (μ 87 36) (μ 89) n.toNat = μ 87 36 ∧ rgV (μ 111) (μ 87 36) (μ 89) n.toNat = 2 * n then 0 else 1 + rgV (μ 111) (μ 87 36) (μ 89) n.toNat) else -1000000001))) := by
  refine Ct.of (own := RX10) (by decide +kernel) rfl (fun σ => Nat.le_of_ble_eq_true rfl) (fun hM hP ha => ?_)
  obtain ⟨m87, r88, s88, r89, s89, r90, s90, r91, s91, r92, s92, r93, s93, r94, s94, r95, s95, r96, s96, r97, s97, r98, s98, r99, s99, r100, s100, r101, s101, r102, s102, r103, s103, r104, s104, r105, s105, r106, s106, r107, s107, r108, s108, r109, s109, r110, s110, r111, s111, r112, s112⟩ := md_f
  have hmx : ∀ j, 0 ≤ j → j < 2922 → (cpA (μ 89) (μ 88) 2922) j = μ 89 j := fun j a b => cpA_in a b
  have fin : ∀ (k : Int) (μ1 : Mem), μ1 87 = uf (μ 87) 36 0 → (∀ q, q ≠ 87 → q ≠ 90 → q ≠ 99 → q ≠ 108 → q ≠ 109 → q ≠ 112 → μ1 q = μ q) → (1 ≤ n ∧ n ≤ 30) → μ 87 3 ≠ 0 → 0 ≤ k → k ≤ 2 * n → k = rgV (μ 111) (μ 87 36) (μ 89) n.toNat → Go l D cA none RX10 cX10_check 4 (some .int) (8, 0, 0) (QN (Pi (fun x μ' => μ' 87 = uf (μ 87) 36 0 ∧ (∀ q, q ≠ 87 → q ≠ 90 → q ≠ 99 → q ≠ 108 → q ≠ 109 → q ≠ 112 → μ' q = μ q) ∧ x = (if 1 ≤ n ∧ n ≤ 30 then (if μ 87 3 = 0 then -1000000002 else if rgV (μ 111) (μ 87 36) (μ 89) n.toNat = μ 87 36 ∧ rgV (μ 111) (μ 87 36) (μ 89) n.toNat = 2 * n then 0 else 1 + rgV (μ 111) (μ 87 36) (μ 89) n.toNat) else -1000000001)))) 113 ρ0 0 0 145 [(0, vr 87), (1, vi n), (2, vi (μ 87 36)), (3, vi k)] [] μ1 := by
    intro k μ1 h87 hfE hn hi3 hk0 hk1 hres
    refine go_iload_n dX10_check_145 rfl ?_
    refine go_iload_n dX10_check_146 rfl ?_
    refine go_icmp_ne (tgt := 161) dX10_check_147 rfl (fun h147 => ?_) (fun h147 => ?_)
    ·
      refine go_iconst dX10_check_161 rfl ?_
      refine go_iload_n dX10_check_162 rfl ?_
      refine go_iadd dX10_check_163 ⟨by omega, by omega⟩ ?_
      exact go_ri dX10_check_164 tyI ⟨Nat.le_refl _, Nat.le_refl _⟩ (⟨h87, hfE, by rw [if_pos hn, if_neg hi3, ← hres]; rw [if_neg (by omega)]⟩)
    ·
      refine go_iload_n dX10_check_150 rfl ?_
      refine go_iconst dX10_check_151 rfl ?_
      refine go_iload_n dX10_check_152 rfl ?_
      refine go_imul dX10_check_153 ⟨by omega, by omega⟩ ?_
      refine go_icmp_ne (tgt := 161) dX10_check_154 rfl (fun h154 => ?_) (fun h154 => ?_)
      ·
        refine go_iconst dX10_check_161 rfl ?_
        refine go_iload_n dX10_check_162 rfl ?_
        refine go_iadd dX10_check_163 ⟨by omega, by omega⟩ ?_
        exact go_ri dX10_check_164 tyI ⟨Nat.le_refl _, Nat.le_refl _⟩ (⟨h87, hfE, by rw [if_pos hn, if_neg hi3, ← hres]; rw [if_neg (by omega)]⟩)
      ·
        refine go_iconst dX10_check_157 rfl ?_
        refine go_goto (tgt := 164) dX10_check_158 rfl ?_
        exact go_ri dX10_check_164 tyI ⟨Nat.le_refl _, Nat.le_refl _⟩ (⟨h87, hfE, by rw [if_pos hn, if_neg hi3, ← hres]; rw [if_pos ⟨by omega, by omega⟩]⟩)
  have cmp : ∀ (μ1 : Mem), μ1 87 = uf (μ 87) 36 0 → (∀ q, q ≠ 87 → q ≠ 90 → q ≠ 99 → q ≠ 108 → q ≠ 109 → q ≠ 112 → μ1 q = μ q) → (1 ≤ n ∧ n ≤ 30) → μ 87 3 ≠ 0 → rgV (μ 111) (μ 87 36) (μ 89) n.toNat = fmN (μ 111) (μ1 112) (μ 87 36) (2 * n).toNat 0 → ∀ (m : Nat) (k : Int), 2 * n - k = (m : Nat) → 0 ≤ k → rgV (μ 111) (μ 87 36) (μ 89) n.toNat = fmN (μ 111) (μ1 112) (μ 87 36) (2 * n - k).toNat k → Go l D cA none RX10 cX10_check 4 (some .int) (8, 0, 0) (QN (Pi (fun x μ' => μ' 87 = uf (μ 87) 36 0 ∧ (∀ q, q ≠ 87 → q ≠ 90 → q ≠ 99 → q ≠ 108 → q ≠ 109 → q ≠ 112 → μ' q = μ q) ∧ x = (if 1 ≤ n ∧ n ≤ 30 then (if μ 87 3 = 0 then -1000000002 else if rgV (μ 111) (μ 87 36) (μ 89) n.toNat = μ 87 36 ∧ rgV (μ 111) (μ 87 36) (μ 89) n.toNat = 2 * n then 0 else 1 + rgV (μ 111) (μ 87 36) (μ 89) n.toNat) else -1000000001)))) 113 ρ0 0 0 112 [(0, vr 87), (1, vi n), (2, vi (μ 87 36)), (3, vi k)] [] μ1 := by
    intro μ1 h87 hfE hn hi3 hres0 m
    induction m with
    | zero =>
      intro k hm hk hres
      refine go_iload_n dX10_check_112 rfl ?_
      refine go_iload_n dX10_check_113 rfl ?_
      refine go_icmp_ge (tgt := 145) dX10_check_114 rfl (fun h114 => ?_) (fun h114 => ?_)
      ·
        exact go_drop (fin k μ1 h87 hfE hn hi3 (by omega) (by omega) (by rw [hres, show (2 * n - k).toNat = 0 by omega]; rfl)) rfl
      ·
        refine go_iload_n dX10_check_117 rfl ?_
        refine go_iconst dX10_check_118 rfl ?_
        refine go_iload_n dX10_check_119 rfl ?_
        refine go_imul dX10_check_120 ⟨by omega, by omega⟩ ?_
        refine go_icmp_ge (tgt := 145) dX10_check_121 rfl (fun h121 => ?_) (fun h121 => ?_)
        ·
          exact go_drop (fin k μ1 h87 hfE hn hi3 (by omega) (by omega) (by rw [hres, show (2 * n - k).toNat = 0 by omega]; rfl)) rfl
        ·
          exact absurd h121 (by omega)
    | succ m ih =>
      intro k hm hk hres
      refine go_iload_n dX10_check_112 rfl ?_
      refine go_iload_n dX10_check_113 rfl ?_
      have hun : fmN (μ 111) (μ1 112) (μ 87 36) (2 * n - k).toNat k = if μ 87 36 ≤ k ∨ μ 111 k ≠ μ1 112 k then k else fmN (μ 111) (μ1 112) (μ 87 36) (2 * n - (k + 1)).toNat (k + 1) := by rw [show (2 * n - k).toNat = (2 * n - (k + 1)).toNat + 1 by omega]; rfl
      refine go_icmp_ge (tgt := 145) dX10_check_114 rfl (fun h114 => ?_) (fun h114 => ?_)
      ·
        exact go_drop (fin k μ1 h87 hfE hn hi3 (by omega) (by omega) (by rw [hres, hun, if_pos (Or.inl (by omega))])) rfl
      ·
        refine go_iload_n dX10_check_117 rfl ?_
        refine go_iconst dX10_check_118 rfl ?_
        refine go_iload_n dX10_check_119 rfl ?_
        refine go_imul dX10_check_120 ⟨by omega, by omega⟩ ?_
        refine go_icmp_ge (tgt := 145) dX10_check_121 rfl (fun h121 => ?_) (fun h121 => ?_)
        ·
          exact absurd h121 (by omega)
        ·
          refine go_aload_n dX10_check_124 rfl ?_
          refine go_getR dX10_check_125 fl_X10_80 (by first | assumption | exact Nat.le_of_ble_eq_true rfl) (by first | assumption | rfl) rfl (by first | assumption | rfl) ?_
          refine go_iload_n dX10_check_128 rfl ?_
          refine go_iaload dX10_check_129 (by first | assumption | exact Nat.le_of_ble_eq_true rfl) (by first | assumption | rfl) (by omega) (by omega) ?_
          rw [hfE 111 (by decide) (by decide) (by decide) (by decide) (by decide) (by decide)]
          refine go_aload_n dX10_check_130 rfl ?_
          refine go_getR dX10_check_131 fl_X10_83 (by first | assumption | exact Nat.le_of_ble_eq_true rfl) (by first | assumption | rfl) rfl (by first | assumption | rfl) ?_
          refine go_iload_n dX10_check_134 rfl ?_
          refine go_iaload dX10_check_135 (by first | assumption | exact Nat.le_of_ble_eq_true rfl) (by first | assumption | rfl) (by omega) (by omega) ?_
          refine go_icmp_ne (tgt := 145) dX10_check_136 rfl (fun h136 => ?_) (fun h136 => ?_)
          ·
            exact go_drop (fin k μ1 h87 hfE hn hi3 (by omega) (by omega) (by rw [hres, hun, if_pos (Or.inr h136)])) rfl
          ·
            refine go_iinc dX10_check_139 rfl rfl ⟨by omega, by omega⟩ ?_
            refine go_goto (tgt := 112) dX10_check_142 rfl ?_
            exact go_drop (ih _ (by omega) (by omega) (by rw [hres, hun, if_neg (by omega)])) rfl
  have loop : ∀ (m : Nat) (i : Int) (μ1 : Mem), n - i = (m : Nat) → 0 ≤ i → (1 ≤ n ∧ n ≤ 30) → μ 87 3 ≠ 0 → μ1 87 = uf (μ 87) 36 0 → μ1 88 = tkR (cpA (μ 89) (μ 88) 2922) (tkVN (μ 89) i.toNat).1 → μ1 90 = cpA (μ 88) (μ 90) 2922 → (∀ j : Nat, (j : Int) < i → μ1 112 (2 * (j : Nat)) = (tkS (μ 89) (tkVN (μ 89) j).1).2 ∧ μ1 112 (2 * (j : Nat) + 1) = sumN (tkS (μ 89) (tkVN (μ 89) j).1).1.1 30) → (∀ q, q ≠ 87 → q ≠ 88 → q ≠ 90 → q ≠ 99 → q ≠ 108 → q ≠ 109 → q ≠ 112 → μ1 q = μ q) → Go l D cA none RX10 cX10_check 4 (some .int) (8, 0, 0) (QN (Pi (fun x μ' => μ' 87 = uf (μ 87) 36 0 ∧ (∀ q, q ≠ 87 → q ≠ 90 → q ≠ 99 → q ≠ 108 → q ≠ 109 → q ≠ 112 → μ' q = μ q) ∧ x = (if 1 ≤ n ∧ n ≤ 30 then (if μ 87 3 = 0 then -1000000002 else if rgV (μ 111) (μ 87 36) (μ 89) n.toNat = μ 87 36 ∧ rgV (μ 111) (μ 87 36) (μ 89) n.toNat = 2 * n then 0 else 1 + rgV (μ 111) (μ 87 36) (μ 89) n.toNat) else -1000000001)))) 113 ρ0 0 0 61 [(0, vr 87), (1, vi n), (2, vi (μ 87 36)), (3, vi i)] [] μ1 := by
    intro m
    induction m with
    | zero =>
      intro i μ1 hm hv hn hi3 h87 h88 h90 hdue hf
      refine go_iload_n dX10_check_61 rfl ?_
      refine go_iload_n dX10_check_62 rfl ?_
      refine go_icmp_ge (tgt := 98) dX10_check_63 rfl (fun h63 => ?_) (fun h63 => ?_)
      ·
        refine go_aload_n dX10_check_98 rfl ?_
        refine go_aload_n dX10_check_99 rfl ?_
        refine go_getR dX10_check_100 fl_X10_16 (by first | assumption | exact Nat.le_of_ble_eq_true rfl) (by first | assumption | rfl) rfl (by first | assumption | rfl) ?_
        refine go_aload_n dX10_check_103 rfl ?_
        refine go_getR dX10_check_104 fl_X10_7 (by first | assumption | exact Nat.le_of_ble_eq_true rfl) (by first | assumption | rfl) rfl (by first | assumption | rfl) ?_
        refine go_vV (ci := 9) dX10_check_107 (ct_X10_setAside (by decide) (by decide) (by decide) s90 s88) ml_X10_345 mc_X10_setAside mv_X10_setAside rfl (by first | assumption | exact Nat.le_of_ble_eq_true rfl) (by first | assumption | rfl) rfl ⟨rfl, rfl⟩ ⟨Nat.le_refl _, Nat.le_refl _⟩ rfl rfl rfl (fun μ107 hc107 => ?_)
        have h87b := h87
        subst hc107
        have hfE : ∀ q, q ≠ 87 → q ≠ 90 → q ≠ 99 → q ≠ 108 → q ≠ 109 → q ≠ 112 → ua μ1 88 (cpA (μ1 90) (μ1 88) 2922) q = μ q := by
          intro q a b c d e f
          by_cases e8 : q = 88
          · rw [e8, ua_same, h90, h88]
            funext j
            unfold cpA
            by_cases hj : 0 ≤ j ∧ j < 2922
            · rw [if_pos hj, if_pos hj]
            · rw [if_neg hj, tkR_o (by omega) (by omega) (by omega) (by omega), if_neg hj]
          · rw [ua_ne e8]; exact hf q a e8 b c d e f
        have hrg : rgV (μ 111) (μ 87 36) (μ 89) n.toNat = fmN (μ 111) (ua μ1 88 (cpA (μ1 90) (μ1 88) 2922) 112) (μ 87 36) (2 * n).toNat 0 := by
          have h := rg_fm (wt := μ 111) (due := ua μ1 88 (cpA (μ1 90) (μ1 88) 2922) 112) (told := μ 87 36) (f := μ 89) n.toNat 0 (fun j a b => by rw [ua_ne (by decide)]; exact hdue j (by omega))
          rw [show (2 * n).toNat = 2 * n.toNat by omega]
          exact h
        refine go_iconst dX10_check_110 rfl ?_
        refine go_istore_n dX10_check_111 rfl ?_
        exact go_drop (cmp _ ((ua_ne (by decide)).trans h87) hfE hn hi3 hrg (2 * n).toNat 0 (by omega) (by omega) (by rw [Int.sub_zero]; exact hrg)) rfl
      ·
        exact absurd h63 (by omega)
    | succ m ih =>
      intro i μ1 hm hv hn hi3 h87 h88 h90 hdue hf
      have hI9 := hI2 hi3
      have hIx : mdI (cpA (μ 89) (μ 88) 2922) := mdI_cg2 hmx hI9
      refine go_iload_n dX10_check_61 rfl ?_
      refine go_iload_n dX10_check_62 rfl ?_
      refine go_icmp_ge (tgt := 98) dX10_check_63 rfl (fun h63 => ?_) (fun h63 => ?_)
      ·
        exact absurd h63 (by omega)
      ·
        have hbN := tkN_f (n := i.toNat) hIx
        have hI1 : mdI (μ1 88) := by rw [h88, ← tkVN_cg2 hmx]; exact mdI_tk hIx hbN.1 hbN.2.1
        have hke := tkV_e (f := (cpA (μ 89) (μ 88) 2922)) (s := (tkVN (μ 89) i.toNat).1) (md_t hIx)
        have hS9 : tkS (cpA (μ 89) (μ 88) 2922) (tkVN (μ 89) i.toNat).1 = tkS (μ 89) (tkVN (μ 89) i.toNat).1 := by unfold tkS; rw [vm_cg2 hmx, hmx 4 (by omega) (by omega)]
        rw [hS9] at hke
        refine go_aload_n dX10_check_66 rfl ?_
        refine go_getR dX10_check_67 fl_X10_83 (by first | assumption | exact Nat.le_of_ble_eq_true rfl) (by first | assumption | rfl) rfl (by first | assumption | rfl) ?_
        refine go_iconst dX10_check_70 rfl ?_
        refine go_iload_n dX10_check_71 rfl ?_
        refine go_imul dX10_check_72 ⟨by omega, by omega⟩ ?_
        refine go_aload_n dX10_check_73 rfl ?_
        refine go_vI (ci := 9) dX10_check_74 (ct_X10_ticks hI1) ml_X10_163 mc_X10_ticks mv_X10_ticks rfl (by first | assumption | exact Nat.le_of_ble_eq_true rfl) (by first | assumption | rfl) rfl ⟨rfl, rfl⟩ ⟨Nat.le_refl _, Nat.le_refl _⟩ rfl rfl rfl (fun x74 μ74 hc74 => ?_)
        obtain ⟨rfl, h88b, hf74⟩ := hc74
        rw [h88] at h88b ⊢
        rw [tkR_cg hke.1, tkR_tk] at h88b
        rw [hke.2]
        have hbS : lB (tkS (μ 89) (tkVN (μ 89) i.toNat).1).1.1 := tk_b (md_b hI9).2.2.2.2.2.2.2.1.1 (by rw [← tkVN_cg2 hmx]; exact hbN.1)
        refine go_iastore dX10_check_77 (by first | assumption | exact Nat.le_of_ble_eq_true rfl) (by first | assumption | rfl) (by omega) (by omega) ?_
        refine go_aload_n dX10_check_78 rfl ?_
        refine go_getR dX10_check_79 fl_X10_83 (by first | assumption | exact Nat.le_of_ble_eq_true rfl) (by first | assumption | rfl) rfl (by first | assumption | rfl) ?_
        refine go_iconst dX10_check_82 rfl ?_
        refine go_iload_n dX10_check_83 rfl ?_
        refine go_imul dX10_check_84 ⟨by omega, by omega⟩ ?_
        refine go_iconst dX10_check_85 rfl ?_
        refine go_iadd dX10_check_86 ⟨by omega, by omega⟩ ?_
        refine go_aload_n dX10_check_87 rfl ?_
        refine go_vI (ci := 9) dX10_check_88 (ct_X10_allLoad (fun c h0 h1 => by rw [ud_n (by decide), h88b, ld_tk c h0 h1]; exact hbS c h0 h1)) ml_X10_157 mc_X10_allLoad mv_X10_allLoad rfl (by first | assumption | exact Nat.le_of_ble_eq_true rfl) (by first | assumption | rfl) rfl ⟨rfl, rfl⟩ ⟨Nat.le_refl _, Nat.le_refl _⟩ rfl rfl rfl (fun x88 μ88 hc88 => ?_)
        rw [ud_n (by decide), h88b, sumN_cg ld_tk 30 (by omega)] at hc88
        obtain ⟨rfl, hm88⟩ := hc88
        rw [hm88]
        refine go_iastore dX10_check_91 (by first | assumption | exact Nat.le_of_ble_eq_true rfl) (by first | assumption | rfl) (by omega) (by omega) ?_
        refine go_iinc dX10_check_92 rfl rfl ⟨by omega, by omega⟩ ?_
        refine go_goto (tgt := 61) dX10_check_95 rfl ?_
        refine go_drop (ih _ _ (by omega) (by omega) hn hi3 ?_ ?_ ?_ ?_ ?_) rfl
        · rw [ud_n (by decide), ud_n (by decide), hf74 87 (by decide) (by decide) (by decide) (by decide)]; exact h87
        · rw [ud_n (by decide), ud_n (by decide), h88b, show (i + 1).toNat = i.toNat + 1 by omega]; rfl
        · rw [ud_n (by decide), ud_n (by decide), hf74 90 (by decide) (by decide) (by decide) (by decide)]; exact h90
        · intro j hj
          by_cases e : j = i.toNat
          · subst e
            rw [show ((i.toNat : Nat) : Int) = i by omega]
            refine ⟨?_, ?_⟩ <;> simp (disch := omega) only [ud, ua_same, ua_ne, uf_same, uf_ne]
          · have h := hdue j (by omega)
            rw [ud_s, uf_ne (by omega), uf_ne (by omega), ud_s, uf_ne (by omega), uf_ne (by omega), hf74 112 (by decide) (by decide) (by decide) (by decide)]; exact h
        · intro q a b c d e f g; rw [ud_n g, ud_n g, hf74 q b d e f]; exact hf q a b c d e f g
  refine go_aload_n dX10_check_0 rfl ?_
  refine go_getI 36 dX10_check_1 fl_X10_336 (by first | assumption | exact Nat.le_of_ble_eq_true rfl) (by first | assumption | rfl) rfl rfl ?_
  refine go_istore_n dX10_check_4 rfl ?_
  refine go_aload_n dX10_check_5 rfl ?_
  refine go_iconst dX10_check_6 rfl ?_
  refine go_putI 36 dX10_check_7 pl_X10_336 (by first | assumption | exact Nat.le_of_ble_eq_true rfl) (by first | assumption | rfl) rfl rfl ?_
  refine go_iload_n dX10_check_10 rfl ?_
  refine go_i2l dX10_check_11 ?_
  refine go_lconst dX10_check_12 ?_
  refine go_ldc2 dX10_check_13 kl_X10_339 rfl ?_
  refine go_sI dX10_check_16 (ct_X10_isIn _ _ _) ml_X10_87 mc_X10_isIn ms_X10_isIn ⟨rfl, rfl⟩ ⟨Nat.le_refl _, Nat.le_refl _⟩ rfl rfl rfl (fun x16 μ16 hc16 => ?_)
  obtain ⟨rfl, hm16⟩ := hc16
  rw [hm16]
  first | refine go_bnz (tgt := 25) dX10_check_19 rfl (fun h19 => ?_) (fun h19 => ?_) | refine go_if_ne (tgt := 25) dX10_check_19 rfl (fun h19 => ?_) (fun h19 => ?_)
  ·
    refine go_aload_n dX10_check_25 rfl ?_
    refine go_getI 3 dX10_check_26 fl_X10_341 (by first | assumption | exact Nat.le_of_ble_eq_true rfl) (by first | assumption | rfl) rfl rfl ?_
    try simp (disch := omega) only [ud, ua_same, ua_ne, uf_same, uf_ne]
    first | refine go_bnz (tgt := 35) dX10_check_29 rfl (fun h29 => ?_) (fun h29 => ?_) | refine go_if_ne (tgt := 35) dX10_check_29 rfl (fun h29 => ?_) (fun h29 => ?_)
    ·
      refine go_aload_n dX10_check_35 rfl ?_
      refine go_aload_n dX10_check_36 rfl ?_
      refine go_getR dX10_check_37 fl_X10_7 (by first | assumption | exact Nat.le_of_ble_eq_true rfl) (by first | assumption | rfl) rfl (by first | assumption | rfl) ?_
      refine go_aload_n dX10_check_40 rfl ?_
      refine go_getR dX10_check_41 fl_X10_16 (by first | assumption | exact Nat.le_of_ble_eq_true rfl) (by first | assumption | rfl) rfl (by first | assumption | rfl) ?_
      refine go_vV (ci := 9) dX10_check_44 (ct_X10_setAside (by decide) (by decide) (by decide) s88 s90) ml_X10_345 mc_X10_setAside mv_X10_setAside rfl (by first | assumption | exact Nat.le_of_ble_eq_true rfl) (by first | assumption | rfl) rfl ⟨rfl, rfl⟩ ⟨Nat.le_refl _, Nat.le_refl _⟩ rfl rfl rfl (fun μ44 hc44 => ?_)
      rw [ua_ne (by decide), ua_ne (by decide)] at hc44
      subst hc44
      refine go_aload_n dX10_check_47 rfl ?_
      refine go_aload_n dX10_check_48 rfl ?_
      refine go_getR dX10_check_49 fl_X10_13 (by first | assumption | exact Nat.le_of_ble_eq_true rfl) (by first | assumption | rfl) rfl (by first | assumption | rfl) ?_
      refine go_aload_n dX10_check_52 rfl ?_
      refine go_getR dX10_check_53 fl_X10_7 (by first | assumption | exact Nat.le_of_ble_eq_true rfl) (by first | assumption | rfl) rfl (by first | assumption | rfl) ?_
      refine go_vV (ci := 9) dX10_check_56 (ct_X10_setAside (by decide) (by decide) (by decide) s89 s88) ml_X10_345 mc_X10_setAside mv_X10_setAside rfl (by first | assumption | exact Nat.le_of_ble_eq_true rfl) (by first | assumption | rfl) rfl ⟨rfl, rfl⟩ ⟨Nat.le_refl _, Nat.le_refl _⟩ rfl rfl rfl (fun μ56 hc56 => ?_)
      rw [ua_ne (by decide), ua_ne (by decide), ua_ne (by decide), ua_ne (by decide)] at hc56
      subst hc56
      refine go_iconst dX10_check_59 rfl ?_
      refine go_istore_n dX10_check_60 rfl ?_
      refine go_drop (loop n.toNat 0 _ (by omega) (by omega) (by omega) (by omega) ?_ ?_ ?_ (fun j hj => absurd hj (by omega)) ?_) rfl
      · rw [ua_ne (by decide), ua_ne (by decide), ua_same]
      · rw [ua_same, show tkVN (μ 89) (0 : Int).toNat = tkVN (μ 89) 0 from rfl, ← tkVN_cg2 hmx]; exact tkR_self
      · rw [ua_ne (by decide), ua_same]
      · intro q a b c d e f g; rw [ua_ne b, ua_ne c, ua_ne a]
    ·
      refine go_ldc dX10_check_32 kc_X10_188 rfl ?_
      exact go_ri dX10_check_34 tyI ⟨Nat.le_refl _, Nat.le_refl _⟩ (⟨ud_s, fun q a _ _ _ _ _ => ud_n a, by rw [if_pos (by omega), if_pos (by omega)]⟩)
  ·
    refine go_ldc dX10_check_22 kc_X10_126 rfl ?_
    exact go_ri dX10_check_24 tyI ⟨Nat.le_refl _, Nat.le_refl _⟩ (⟨ud_s, fun q a _ _ _ _ _ => ud_n a, by rw [if_neg (by omega)]⟩)

