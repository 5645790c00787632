/-! THE REFERENCE: bound, what can be come to, wall, reach -/
theorem nv_st {a l x r : Int} (ha : a ≤ 536870912) (hl : l ≤ 536870912) (hr : 0 ≤ r) (hr2 : r ≤ 2996) (hx : x = 536870912 ∨ (0 ≤ x ∧ x ≤ 200000)) (hl0 : 0 ≤ l) (ha0 : 0 ≤ a) (hle : l = 536870912 ∨ l ≤ 200000) (hae : a = 536870912 ∨ a ≤ 200000) : nvM (min a (min l x + r)) = if (if x = 536870912 then 1000000000 else x + r) < nvM (min a (l + r)) then (if x = 536870912 then 1000000000 else x + r) else nvM (min a (l + r)) := by
  unfold nvM
  rcases hx with hx | hx
  · rw [if_pos hx]
    rw [show min l x = l by omega]
    split <;> split <;> omega
  · rw [if_neg (by omega)]
    split <;> split <;> (try split) <;> omega
theorem lbS_e {f : Int → Int} {c : Int} {B : Int} (c0 : 0 ≤ c) (c1 : c < 30) (h : ∀ q, 0 ≤ q → q < 30 → f q = 536870912 ∨ (0 ≤ f q ∧ f q ≤ B)) : ∀ n : Nat, lbS f c n = 536870912 ∨ (0 ≤ lbS f c n ∧ lbS f c n ≤ B)
  | 0 => Or.inl rfl
  | n + 1 => by
    have ih := lbS_e c0 c1 h n
    show (if nb c (n : Nat) = -1000000005 then lbS f c n else min (lbS f c n) (f (nb c (n : Nat)))) = 536870912 ∨ (0 ≤ (if nb c (n : Nat) = -1000000005 then lbS f c n else min (lbS f c n) (f (nb c (n : Nat)))) ∧ (if nb c (n : Nat) = -1000000005 then lbS f c n else min (lbS f c n) (f (nb c (n : Nat)))) ≤ B)
    by_cases e : nb c (n : Nat) = -1000000005
    · rw [if_pos e]; exact ih
    · rw [if_neg e]
      have hr := nb_r (d := (n : Nat)) c0 c1
      have := h _ (show 0 ≤ nb c (n : Nat) by omega) (by omega)
      omega

set_option maxRecDepth 100000 in
set_option maxHeartbeats 4000000 in
theorem ct_X10_bound {l : Launch} {D : va_G} {cA : Nat → ClassId} {μ : Mem} (hI : mdI (μ 88)) (fr to n : Int) : CtN l D cA yX10_bound cX10_bound 9 (some .int) 8 [vr 87, vi fr, vi to, vi n] μ (Pi (fun x μ' => x = (if (0 ≤ fr ∧ fr ≤ 29) ∧ (0 ≤ to ∧ to ≤ 29) ∧ 0 ≤ n ∧ n ≤ 40 then (if bE (rkC (vm (μ 88)) 32) fr n.toNat to < 536870912 then bE (rkC (vm (μ 88)) 32) fr n.toNat to else -1000000005) else -1000000001) ∧ ∀ q, q ≠ 101 → q ≠ 102 → q ≠ 105 → q ≠ 108 → q ≠ 109 → μ' q = μ q)) := by
  refine Ct.of (own := RX10) (by decide +kernel) rfl (fun σ => Nat.le_of_ble_eq_true rfl) (fun hM hP ha => ?_)
  obtain ⟨m87, r88, s88, r89, s89, r90, s90, r91, s91, r92, s92, r93, s93, r94, s94, r95, s95, r96, s96, r97, s97, r98, s98, r99, s99, r100, s100, r101, s101, r102, s102, r103, s103, r104, s104, r105, s105, r106, s106, r107, s107, r108, s108, r109, s109, r110, s110, r111, s111, r112, s112⟩ := md_f
  have hr : ∀ c, 0 ≤ c → c < 30 → 0 ≤ (rkC (vm (μ 88)) 32) c ∧ (rkC (vm (μ 88)) 32) c ≤ 2996 := fun c c0 c1 => rkC_b hI.1 c c0 c1
  have outer : ∀ (m : Nat) (k : Int) (μ1 : Mem), n - k = (m : Nat) → 0 ≤ k → ((0 ≤ fr ∧ fr ≤ 29) ∧ (0 ≤ to ∧ to ≤ 29) ∧ 0 ≤ n ∧ n ≤ 40) → (∀ c, 0 ≤ c → c < 30 → μ1 101 c = (rkC (vm (μ 88)) 32) c) → (∀ q, q ≠ 101 → q ≠ 102 → q ≠ 105 → q ≠ 108 → q ≠ 109 → μ1 q = μ q) → (∀ q, 0 ≤ q → q < 30 → μ1 102 q = nvM (bE (rkC (vm (μ 88)) 32) fr k.toNat q)) → Go l D cA none RX10 cX10_bound 9 (some .int) (8, 0, 0) (QN (Pi (fun x μ' => x = (if (0 ≤ fr ∧ fr ≤ 29) ∧ (0 ≤ to ∧ to ≤ 29) ∧ 0 ≤ n ∧ n ≤ 40 then (if bE (rkC (vm (μ 88)) 32) fr n.toNat to < 536870912 then bE (rkC (vm (μ 88)) 32) fr n.toNat to else -1000000005) else -1000000001) ∧ ∀ q, q ≠ 101 → q ≠ 102 → q ≠ 105 → q ≠ 108 → q ≠ 109 → μ' q = μ q))) 113 ρ0 0 0 71 [(0, vr 87), (1, vi fr), (2, vi to), (3, vi n), (4, vi k)] [] μ1 := by
    intro m
    induction m with
    | zero =>
      intro k μ1 hm hk hC h101 hf h2
      refine go_iload dX10_bound_71 rfl ?_
      refine go_iload_n dX10_bound_73 rfl ?_
      refine go_icmp_ge (tgt := 237) dX10_bound_74 rfl (fun h74 => ?_) (fun h74 => ?_)
      ·
        have hbt := bE_k (a := fr) hr n.toNat to (by omega) (by omega) (by omega)
        have h2t := h2 to (by omega) (by omega)
        rw [show k = n by omega] at h2t
        unfold nvM at h2t
        refine go_aload_n dX10_bound_237 rfl ?_
        refine go_getR dX10_bound_238 fl_X10_52 (by first | assumption | exact Nat.le_of_ble_eq_true rfl) (by first | assumption | rfl) rfl (by first | assumption | rfl) ?_
        refine go_iload_n dX10_bound_241 rfl ?_
        refine go_iaload dX10_bound_242 (by first | assumption | exact Nat.le_of_ble_eq_true rfl) (by first | assumption | rfl) (by omega) (by omega) ?_
        rw [h2t]
        refine go_ldc dX10_bound_243 kc_X10_200 rfl ?_
        refine go_icmp_ne (tgt := 253) dX10_bound_245 rfl (fun h245 => ?_) (fun h245 => ?_)
        ·
          refine go_aload_n dX10_bound_253 rfl ?_
          refine go_getR dX10_bound_254 fl_X10_52 (by first | assumption | exact Nat.le_of_ble_eq_true rfl) (by first | assumption | rfl) rfl (by first | assumption | rfl) ?_
          refine go_iload_n dX10_bound_257 rfl ?_
          refine go_iaload dX10_bound_258 (by first | assumption | exact Nat.le_of_ble_eq_true rfl) (by first | assumption | rfl) (by omega) (by omega) ?_
          rw [h2t]
          exact go_ri dX10_bound_259 tyI ⟨Nat.le_refl _, Nat.le_refl _⟩ (⟨by rw [if_pos hC]; have hnf : ¬ bE (rkC (vm (μ 88)) 32) fr n.toNat to = 536870912 := fun e => h245 (if_pos e); rw [if_neg hnf, if_pos (show bE (rkC (vm (μ 88)) 32) fr n.toNat to < 536870912 by omega)], hf⟩)
        ·
          refine go_ldc dX10_bound_248 kc_X10_86 rfl ?_
          refine go_goto (tgt := 259) dX10_bound_250 rfl ?_
          exact go_ri dX10_bound_259 tyI ⟨Nat.le_refl _, Nat.le_refl _⟩ (⟨by rw [if_pos hC]; rw [if_neg (fun e => by rw [if_neg (by omega)] at h245; omega)], hf⟩)
      ·
        exact absurd h74 (by omega)
    | succ m ih =>
      intro k μ1 hm hk hC h101 hf h2
      have cpy : ∀ (m : Nat) (c : Int) (μ1 : Mem), 30 - c = (m : Nat) → 0 ≤ c → ((0 ≤ fr ∧ fr ≤ 29) ∧ (0 ≤ to ∧ to ≤ 29) ∧ 0 ≤ n ∧ n ≤ 40) → (∀ c, 0 ≤ c → c < 30 → μ1 101 c = (rkC (vm (μ 88)) 32) c) → (∀ q, q ≠ 101 → q ≠ 102 → q ≠ 105 → q ≠ 108 → q ≠ 109 → μ1 q = μ q) → 0 ≤ k → k < n → (∀ q, 0 ≤ q → q < 30 → μ1 102 q = if q < c then nvM (bE (rkC (vm (μ 88)) 32) fr (k + 1).toNat q) else nvM (bE (rkC (vm (μ 88)) 32) fr k.toNat q)) → (∀ q, 0 ≤ q → q < 30 → μ1 105 q = nvM (bE (rkC (vm (μ 88)) 32) fr (k + 1).toNat q)) → Go l D cA none RX10 cX10_bound 9 (some .int) (8, 0, 0) (QN (Pi (fun x μ' => x = (if (0 ≤ fr ∧ fr ≤ 29) ∧ (0 ≤ to ∧ to ≤ 29) ∧ 0 ≤ n ∧ n ≤ 40 then (if bE (rkC (vm (μ 88)) 32) fr n.toNat to < 536870912 then bE (rkC (vm (μ 88)) 32) fr n.toNat to else -1000000005) else -1000000001) ∧ ∀ q, q ≠ 101 → q ≠ 102 → q ≠ 105 → q ≠ 108 → q ≠ 109 → μ' q = μ q))) 113 ρ0 0 0 204 [(0, vr 87), (1, vi fr), (2, vi to), (3, vi n), (4, vi k), (5, vi c)] [] μ1 := by
        intro m
        induction m with
        | zero =>
          intro c μ1 hm hc0 hC h101 hf hk hkn h2 h5
          refine go_iload dX10_bound_204 rfl ?_
          refine go_bipush dX10_bound_206 rfl (by decide) ?_
          refine go_icmp_ge (tgt := 231) dX10_bound_208 rfl (fun h208 => ?_) (fun h208 => ?_)
          ·
            refine go_iinc dX10_bound_231 rfl rfl ⟨by omega, by omega⟩ ?_
            refine go_goto (tgt := 71) dX10_bound_234 rfl ?_
            exact go_drop (ih _ _ (by omega) (by omega) hC h101 hf (fun q q0 q1 => by rw [h2 q q0 q1, if_pos (by omega)])) rfl
          ·
            exact absurd h208 (by omega)
        | succ m ihy =>
          intro c μ1 hm hc0 hC h101 hf hk hkn h2 h5
          refine go_iload dX10_bound_204 rfl ?_
          refine go_bipush dX10_bound_206 rfl (by decide) ?_
          refine go_icmp_ge (tgt := 231) dX10_bound_208 rfl (fun h208 => ?_) (fun h208 => ?_)
          ·
            exact absurd h208 (by omega)
          ·
            refine go_aload_n dX10_bound_211 rfl ?_
            refine go_getR dX10_bound_212 fl_X10_52 (by first | assumption | exact Nat.le_of_ble_eq_true rfl) (by first | assumption | rfl) rfl (by first | assumption | rfl) ?_
            refine go_iload dX10_bound_215 rfl ?_
            refine go_aload_n dX10_bound_217 rfl ?_
            refine go_getR dX10_bound_218 fl_X10_61 (by first | assumption | exact Nat.le_of_ble_eq_true rfl) (by first | assumption | rfl) rfl (by first | assumption | rfl) ?_
            refine go_iload dX10_bound_221 rfl ?_
            refine go_iaload dX10_bound_223 (by first | assumption | exact Nat.le_of_ble_eq_true rfl) (by first | assumption | rfl) (by omega) (by omega) ?_
            rw [h5 c hc0 (by omega)]
            refine go_iastore dX10_bound_224 (by first | assumption | exact Nat.le_of_ble_eq_true rfl) (by first | assumption | rfl) (by omega) (by omega) ?_
            refine go_iinc dX10_bound_225 rfl rfl ⟨by omega, by omega⟩ ?_
            refine go_goto (tgt := 204) dX10_bound_228 rfl ?_
            refine go_drop (ihy _ _ (by omega) (by omega) hC ?_ ?_ hk hkn ?_ ?_) rfl
            · intro c2 x0 x1; rw [ud_n (by decide)]; exact h101 c2 x0 x1
            · intro q x1 x2 x3 x4 x5; rw [ud_n x2]; exact hf q x1 x2 x3 x4 x5
            · intro q q0 q1
              rw [ud_s]
              by_cases e : q = c
              · rw [e, uf_same, if_pos (by omega)]
              · rw [uf_ne e, h2 q q0 q1]
                by_cases e2 : q < c
                · rw [if_pos e2, if_pos (by omega)]
                · rw [if_neg e2, if_neg (by omega)]
            · intro q q0 q1; rw [ud_n (by decide)]; exact h5 q q0 q1
      have mid : ∀ (m : Nat) (c : Int) (μ1 : Mem), 30 - c = (m : Nat) → 0 ≤ c → ((0 ≤ fr ∧ fr ≤ 29) ∧ (0 ≤ to ∧ to ≤ 29) ∧ 0 ≤ n ∧ n ≤ 40) → (∀ c, 0 ≤ c → c < 30 → μ1 101 c = (rkC (vm (μ 88)) 32) c) → (∀ q, q ≠ 101 → q ≠ 102 → q ≠ 105 → q ≠ 108 → q ≠ 109 → μ1 q = μ q) → 0 ≤ k → k < n → (∀ q, 0 ≤ q → q < 30 → μ1 102 q = nvM (bE (rkC (vm (μ 88)) 32) fr k.toNat q)) → (∀ q, 0 ≤ q → q < c → μ1 105 q = nvM (bE (rkC (vm (μ 88)) 32) fr (k + 1).toNat q)) → Go l D cA none RX10 cX10_bound 9 (some .int) (8, 0, 0) (QN (Pi (fun x μ' => x = (if (0 ≤ fr ∧ fr ≤ 29) ∧ (0 ≤ to ∧ to ≤ 29) ∧ 0 ≤ n ∧ n ≤ 40 then (if bE (rkC (vm (μ 88)) 32) fr n.toNat to < 536870912 then bE (rkC (vm (μ 88)) 32) fr n.toNat to else -1000000005) else -1000000001) ∧ ∀ q, q ≠ 101 → q ≠ 102 → q ≠ 105 → q ≠ 108 → q ≠ 109 → μ' q = μ q))) 113 ρ0 0 0 80 [(0, vr 87), (1, vi fr), (2, vi to), (3, vi n), (4, vi k), (5, vi c)] [] μ1 := by
        intro m
        induction m with
        | zero =>
          intro c μ1 hm hc0 hC h101 hf hk hkn h2 h5
          refine go_iload dX10_bound_80 rfl ?_
          refine go_bipush dX10_bound_82 rfl (by decide) ?_
          refine go_icmp_ge (tgt := 201) dX10_bound_84 rfl (fun h84 => ?_) (fun h84 => ?_)
          ·
            refine go_iconst dX10_bound_201 rfl ?_
            refine go_istore dX10_bound_202 rfl ?_
            exact go_drop (cpy 30 0 μ1 (by omega) (by omega) hC h101 hf hk hkn (fun q q0 q1 => by rw [h2 q q0 q1, if_neg (by omega)]) (fun q q0 q1 => h5 q q0 (by omega))) rfl
          ·
            exact absurd h84 (by omega)
        | succ m ih2 =>
          intro c μ1 hm hc0 hC h101 hf hk hkn h2 h5
          refine go_iload dX10_bound_80 rfl ?_
          refine go_bipush dX10_bound_82 rfl (by decide) ?_
          refine go_icmp_ge (tgt := 201) dX10_bound_84 rfl (fun h84 => ?_) (fun h84 => ?_)
          ·
            exact absurd h84 (by omega)
          ·
            refine go_aload_n dX10_bound_87 rfl ?_
            refine go_getR dX10_bound_88 fl_X10_61 (by first | assumption | exact Nat.le_of_ble_eq_true rfl) (by first | assumption | rfl) rfl (by first | assumption | rfl) ?_
            refine go_iload dX10_bound_91 rfl ?_
            refine go_aload_n dX10_bound_93 rfl ?_
            refine go_getR dX10_bound_94 fl_X10_52 (by first | assumption | exact Nat.le_of_ble_eq_true rfl) (by first | assumption | rfl) rfl (by first | assumption | rfl) ?_
            refine go_iload dX10_bound_97 rfl ?_
            refine go_iaload dX10_bound_99 (by first | assumption | exact Nat.le_of_ble_eq_true rfl) (by first | assumption | rfl) (by omega) (by omega) ?_
            rw [h2 c hc0 (by omega)]
            refine go_iastore dX10_bound_100 (by first | assumption | exact Nat.le_of_ble_eq_true rfl) (by first | assumption | rfl) (by omega) (by omega) ?_
            refine go_iconst dX10_bound_101 rfl ?_
            refine go_istore dX10_bound_102 rfl ?_
            have inI : ∀ (m3 : Nat) (i : Int) (μ1 : Mem), 4 - i = (m3 : Nat) → 0 ≤ i → ((0 ≤ fr ∧ fr ≤ 29) ∧ (0 ≤ to ∧ to ≤ 29) ∧ 0 ≤ n ∧ n ≤ 40) → (∀ c, 0 ≤ c → c < 30 → μ1 101 c = (rkC (vm (μ 88)) 32) c) → (∀ q, q ≠ 101 → q ≠ 102 → q ≠ 105 → q ≠ 108 → q ≠ 109 → μ1 q = μ q) → 0 ≤ k → k < n → (∀ q, 0 ≤ q → q < 30 → μ1 102 q = nvM (bE (rkC (vm (μ 88)) 32) fr k.toNat q)) → (∀ q, 0 ≤ q → q < c → μ1 105 q = nvM (bE (rkC (vm (μ 88)) 32) fr (k + 1).toNat q)) → μ1 105 c = nvM (min (bE (rkC (vm (μ 88)) 32) fr k.toNat c) (lbS (bE (rkC (vm (μ 88)) 32) fr k.toNat) c i.toNat + (rkC (vm (μ 88)) 32) c)) → Go l D cA none RX10 cX10_bound 9 (some .int) (8, 0, 0) (QN (Pi (fun x μ' => x = (if (0 ≤ fr ∧ fr ≤ 29) ∧ (0 ≤ to ∧ to ≤ 29) ∧ 0 ≤ n ∧ n ≤ 40 then (if bE (rkC (vm (μ 88)) 32) fr n.toNat to < 536870912 then bE (rkC (vm (μ 88)) 32) fr n.toNat to else -1000000005) else -1000000001) ∧ ∀ q, q ≠ 101 → q ≠ 102 → q ≠ 105 → q ≠ 108 → q ≠ 109 → μ' q = μ q))) 113 ρ0 0 0 104 [(0, vr 87), (1, vi fr), (2, vi to), (3, vi n), (4, vi k), (5, vi c), (6, vi i)] [] μ1 := by
              intro m3
              induction m3 with
              | zero =>
                intro i μ1 hm3 hv hC h101 hf hk hkn h2 h5 h5c
                refine go_iload dX10_bound_104 rfl ?_
                refine go_iconst dX10_bound_106 rfl ?_
                refine go_icmp_ge (tgt := 195) dX10_bound_107 rfl (fun h107 => ?_) (fun h107 => ?_)
                ·
                  refine go_iinc dX10_bound_195 rfl rfl ⟨by omega, by omega⟩ ?_
                  refine go_goto (tgt := 80) dX10_bound_198 rfl ?_
                  refine go_drop (ih2 _ _ (by omega) (by omega) hC h101 hf hk (by omega) h2 ?_) rfl
                  intro q q0 q1
                  by_cases e : q = c
                  · rw [e, h5c, bE_s hk, show i.toNat = 4 by omega]; rfl
                  · exact h5 q q0 (by omega)
                ·
                  exact absurd h107 (by omega)
              | succ m3 ih3 =>
                intro i μ1 hm3 hv hC h101 hf hk hkn h2 h5 h5c
                refine go_iload dX10_bound_104 rfl ?_
                refine go_iconst dX10_bound_106 rfl ?_
                refine go_icmp_ge (tgt := 195) dX10_bound_107 rfl (fun h107 => ?_) (fun h107 => ?_)
                ·
                  exact absurd h107 (by omega)
                ·
                  have hnr := nbM_r (d := i) hc0 (show c < 30 by omega)
                  have hrc := hr c hc0 (by omega)
                  have hbc := bE_k (a := fr) hr k.toNat c (by omega) hc0 (by omega)
                  have hle := lbS_e hc0 (show c < 30 by omega) (fun q q0 q1 => bE_k (a := fr) hr k.toNat q (by omega) q0 q1) i.toNat
                  have hnv : nvM (min (bE (rkC (vm (μ 88)) 32) fr k.toNat c) (lbS (bE (rkC (vm (μ 88)) 32) fr k.toNat) c i.toNat + (rkC (vm (μ 88)) 32) c)) = 1000000000 ∨ (0 ≤ nvM (min (bE (rkC (vm (μ 88)) 32) fr k.toNat c) (lbS (bE (rkC (vm (μ 88)) 32) fr k.toNat) c i.toNat + (rkC (vm (μ 88)) 32) c)) ∧ nvM (min (bE (rkC (vm (μ 88)) 32) fr k.toNat c) (lbS (bE (rkC (vm (μ 88)) 32) fr k.toNat) c i.toNat + (rkC (vm (μ 88)) 32) c)) ≤ 200000) := by unfold nvM; split <;> omega
                  refine go_iload dX10_bound_110 rfl ?_
                  refine go_iload dX10_bound_112 rfl ?_
                  refine go_sI dX10_bound_114 (ct_X10_beside _ _ (by omega) (by omega) (by omega) (by omega)) ml_X10_179 mc_X10_beside ms_X10_beside ⟨rfl, rfl⟩ ⟨Nat.le_refl _, Nat.le_refl _⟩ rfl rfl rfl (fun x114 μ114 hc114 => ?_)
                  obtain ⟨rfl, hm114⟩ := hc114
                  rw [hm114]
                  refine go_istore dX10_bound_117 rfl ?_
                  refine go_iload dX10_bound_119 rfl ?_
                  refine go_if_lt (tgt := 136) dX10_bound_121 rfl (fun h121 => ?_) (fun h121 => ?_)
                  ·
                    refine go_ldc dX10_bound_136 kc_X10_200 rfl ?_
                    refine go_goto (tgt := 156) dX10_bound_138 rfl ?_
                    refine go_istore dX10_bound_156 rfl ?_
                    refine go_aload_n dX10_bound_158 rfl ?_
                    refine go_getR dX10_bound_159 fl_X10_61 (by first | assumption | exact Nat.le_of_ble_eq_true rfl) (by first | assumption | rfl) rfl (by first | assumption | rfl) ?_
                    refine go_iload dX10_bound_162 rfl ?_
                    refine go_iload dX10_bound_164 rfl ?_
                    refine go_aload_n dX10_bound_166 rfl ?_
                    refine go_getR dX10_bound_167 fl_X10_61 (by first | assumption | exact Nat.le_of_ble_eq_true rfl) (by first | assumption | rfl) rfl (by first | assumption | rfl) ?_
                    refine go_iload dX10_bound_170 rfl ?_
                    refine go_iaload dX10_bound_172 (by first | assumption | exact Nat.le_of_ble_eq_true rfl) (by first | assumption | rfl) (by omega) (by omega) ?_
                    try simp (disch := omega) only [ua_same, ua_ne, uf_same, uf_ne]
                    rw [h5c]
                    refine go_icmp_ge (tgt := 181) dX10_bound_173 rfl (fun h173 => ?_) (fun h173 => ?_)
                    ·
                      refine go_aload_n dX10_bound_181 rfl ?_
                      refine go_getR dX10_bound_182 fl_X10_61 (by first | assumption | exact Nat.le_of_ble_eq_true rfl) (by first | assumption | rfl) rfl (by first | assumption | rfl) ?_
                      refine go_iload dX10_bound_185 rfl ?_
                      refine go_iaload dX10_bound_187 (by first | assumption | exact Nat.le_of_ble_eq_true rfl) (by first | assumption | rfl) (by omega) (by omega) ?_
                      try simp (disch := omega) only [ua_same, ua_ne, uf_same, uf_ne]
                      rw [h5c]
                      refine go_iastore dX10_bound_188 (by first | assumption | exact Nat.le_of_ble_eq_true rfl) (by first | assumption | rfl) (by omega) (by omega) ?_
                      refine go_iinc dX10_bound_189 rfl rfl ⟨by omega, by omega⟩ ?_
                      refine go_goto (tgt := 104) dX10_bound_192 rfl ?_
                      refine go_drop (ih3 _ _ (by omega) (by omega) hC ?_ ?_ hk hkn ?_ ?_ ?_) rfl
                      · intro c2 x0 x1; rw [ud_n (by decide)]; exact h101 c2 x0 x1
                      · intro q x1 x2 x3 x4 x5; rw [ud_n x3]; exact hf q x1 x2 x3 x4 x5
                      · intro q q0 q1; rw [ud_n (by decide)]; exact h2 q q0 q1
                      · intro q q0 q1; rw [ud_s, uf_ne (by omega)]; exact h5 q q0 q1
                      · rw [ud_s, uf_same, lbS_i hv, if_pos (by omega)] <;> omega
                    ·
                      refine go_iload dX10_bound_176 rfl ?_
                      refine go_goto (tgt := 188) dX10_bound_178 rfl ?_
                      refine go_iastore dX10_bound_188 (by first | assumption | exact Nat.le_of_ble_eq_true rfl) (by first | assumption | rfl) (by omega) (by omega) ?_
                      refine go_iinc dX10_bound_189 rfl rfl ⟨by omega, by omega⟩ ?_
                      refine go_goto (tgt := 104) dX10_bound_192 rfl ?_
                      refine go_drop (ih3 _ _ (by omega) (by omega) hC ?_ ?_ hk hkn ?_ ?_ ?_) rfl
                      · intro c2 x0 x1; rw [ud_n (by decide)]; exact h101 c2 x0 x1
                      · intro q x1 x2 x3 x4 x5; rw [ud_n x3]; exact hf q x1 x2 x3 x4 x5
                      · intro q q0 q1; rw [ud_n (by decide)]; exact h2 q q0 q1
                      · intro q q0 q1; rw [ud_s, uf_ne (by omega)]; exact h5 q q0 q1
                      · rw [ud_s, uf_same, lbS_i hv, if_pos (by omega)] <;> omega
                  ·
                    have hnm : nbM c i = nb c i := by omega
                    have hx1 : bE (rkC (vm (μ 88)) 32) fr k.toNat (nb c i) = 536870912 ∨ (0 ≤ bE (rkC (vm (μ 88)) 32) fr k.toNat (nb c i) ∧ bE (rkC (vm (μ 88)) 32) fr k.toNat (nb c i) ≤ 200000) := by have := bE_k (a := fr) hr k.toNat (nb c i) (by omega) (by omega) (by omega); omega
                    have h2n := h2 (nb c i) (by omega) (by omega)
                    unfold nvM at h2n
                    rw [hnm]
                    refine go_aload_n dX10_bound_124 rfl ?_
                    refine go_getR dX10_bound_125 fl_X10_52 (by first | assumption | exact Nat.le_of_ble_eq_true rfl) (by first | assumption | rfl) rfl (by first | assumption | rfl) ?_
                    refine go_iload dX10_bound_128 rfl ?_
                    refine go_iaload dX10_bound_130 (by first | assumption | exact Nat.le_of_ble_eq_true rfl) (by first | assumption | rfl) (by omega) (by omega) ?_
                    try simp (disch := omega) only [ua_same, ua_ne, uf_same, uf_ne]
                    rw [h2n]
                    refine go_ldc dX10_bound_131 kc_X10_200 rfl ?_
                    refine go_icmp_ne (tgt := 141) dX10_bound_133 rfl (fun h133 => ?_) (fun h133 => ?_)
                    ·
                      have hnf : ¬ bE (rkC (vm (μ 88)) 32) fr k.toNat (nb c i) = 536870912 := fun e => h133 (if_pos e)
                      refine go_aload_n dX10_bound_141 rfl ?_
                      refine go_getR dX10_bound_142 fl_X10_52 (by first | assumption | exact Nat.le_of_ble_eq_true rfl) (by first | assumption | rfl) rfl (by first | assumption | rfl) ?_
                      refine go_iload dX10_bound_145 rfl ?_
                      refine go_iaload dX10_bound_147 (by first | assumption | exact Nat.le_of_ble_eq_true rfl) (by first | assumption | rfl) (by omega) (by omega) ?_
                      try simp (disch := omega) only [ua_same, ua_ne, uf_same, uf_ne]
                      rw [h2n, if_neg hnf]
                      refine go_aload_n dX10_bound_148 rfl ?_
                      refine go_getR dX10_bound_149 fl_X10_49 (by first | assumption | exact Nat.le_of_ble_eq_true rfl) (by first | assumption | rfl) rfl (by first | assumption | rfl) ?_
                      refine go_iload dX10_bound_152 rfl ?_
                      refine go_iaload dX10_bound_154 (by first | assumption | exact Nat.le_of_ble_eq_true rfl) (by first | assumption | rfl) (by omega) (by omega) ?_
                      try simp (disch := omega) only [ua_same, ua_ne, uf_same, uf_ne]
                      rw [h101 c hc0 (by omega)]
                      refine go_iadd dX10_bound_155 ⟨by omega, by omega⟩ ?_
                      refine go_istore dX10_bound_156 rfl ?_
                      refine go_aload_n dX10_bound_158 rfl ?_
                      refine go_getR dX10_bound_159 fl_X10_61 (by first | assumption | exact Nat.le_of_ble_eq_true rfl) (by first | assumption | rfl) rfl (by first | assumption | rfl) ?_
                      refine go_iload dX10_bound_162 rfl ?_
                      refine go_iload dX10_bound_164 rfl ?_
                      refine go_aload_n dX10_bound_166 rfl ?_
                      refine go_getR dX10_bound_167 fl_X10_61 (by first | assumption | exact Nat.le_of_ble_eq_true rfl) (by first | assumption | rfl) rfl (by first | assumption | rfl) ?_
                      refine go_iload dX10_bound_170 rfl ?_
                      refine go_iaload dX10_bound_172 (by first | assumption | exact Nat.le_of_ble_eq_true rfl) (by first | assumption | rfl) (by omega) (by omega) ?_
                      try simp (disch := omega) only [ua_same, ua_ne, uf_same, uf_ne]
                      rw [h5c]
                      refine go_icmp_ge (tgt := 181) dX10_bound_173 rfl (fun h173 => ?_) (fun h173 => ?_)
                      ·
                        refine go_aload_n dX10_bound_181 rfl ?_
                        refine go_getR dX10_bound_182 fl_X10_61 (by first | assumption | exact Nat.le_of_ble_eq_true rfl) (by first | assumption | rfl) rfl (by first | assumption | rfl) ?_
                        refine go_iload dX10_bound_185 rfl ?_
                        refine go_iaload dX10_bound_187 (by first | assumption | exact Nat.le_of_ble_eq_true rfl) (by first | assumption | rfl) (by omega) (by omega) ?_
                        try simp (disch := omega) only [ua_same, ua_ne, uf_same, uf_ne]
                        rw [h5c]
                        refine go_iastore dX10_bound_188 (by first | assumption | exact Nat.le_of_ble_eq_true rfl) (by first | assumption | rfl) (by omega) (by omega) ?_
                        refine go_iinc dX10_bound_189 rfl rfl ⟨by omega, by omega⟩ ?_
                        refine go_goto (tgt := 104) dX10_bound_192 rfl ?_
                        refine go_drop (ih3 _ _ (by omega) (by omega) hC ?_ ?_ hk hkn ?_ ?_ ?_) rfl
                        · intro c2 x0 x1; rw [ud_n (by decide)]; exact h101 c2 x0 x1
                        · intro q x1 x2 x3 x4 x5; rw [ud_n x3]; exact hf q x1 x2 x3 x4 x5
                        · intro q q0 q1; rw [ud_n (by decide)]; exact h2 q q0 q1
                        · intro q q0 q1; rw [ud_s, uf_ne (by omega)]; exact h5 q q0 q1
                        · rw [ud_s, uf_same, lbS_i hv, if_neg (by omega), nv_st (by omega) (by omega) hrc.1 hrc.2 hx1 (by omega) (by omega) (by omega) (by omega)]
                          rw [if_neg (show ¬ (bE (rkC (vm (μ 88)) 32) fr k.toNat (nb c i)) = 536870912 by omega)]
                          rw [if_neg (by omega)]
                      ·
                        refine go_iload dX10_bound_176 rfl ?_
                        refine go_goto (tgt := 188) dX10_bound_178 rfl ?_
                        refine go_iastore dX10_bound_188 (by first | assumption | exact Nat.le_of_ble_eq_true rfl) (by first | assumption | rfl) (by omega) (by omega) ?_
                        refine go_iinc dX10_bound_189 rfl rfl ⟨by omega, by omega⟩ ?_
                        refine go_goto (tgt := 104) dX10_bound_192 rfl ?_
                        refine go_drop (ih3 _ _ (by omega) (by omega) hC ?_ ?_ hk hkn ?_ ?_ ?_) rfl
                        · intro c2 x0 x1; rw [ud_n (by decide)]; exact h101 c2 x0 x1
                        · intro q x1 x2 x3 x4 x5; rw [ud_n x3]; exact hf q x1 x2 x3 x4 x5
                        · intro q q0 q1; rw [ud_n (by decide)]; exact h2 q q0 q1
                        · intro q q0 q1; rw [ud_s, uf_ne (by omega)]; exact h5 q q0 q1
                        · rw [ud_s, uf_same, lbS_i hv, if_neg (by omega), nv_st (by omega) (by omega) hrc.1 hrc.2 hx1 (by omega) (by omega) (by omega) (by omega)]
                          rw [if_neg (show ¬ (bE (rkC (vm (μ 88)) 32) fr k.toNat (nb c i)) = 536870912 by omega)]
                          rw [if_pos (by omega)]
                    ·
                      have hfar : bE (rkC (vm (μ 88)) 32) fr k.toNat (nb c i) = 536870912 := by
                        by_cases e : bE (rkC (vm (μ 88)) 32) fr k.toNat (nb c i) = 536870912
                        · exact e
                        · rw [if_neg e] at h133; omega
                      refine go_ldc dX10_bound_136 kc_X10_200 rfl ?_
                      refine go_goto (tgt := 156) dX10_bound_138 rfl ?_
                      refine go_istore dX10_bound_156 rfl ?_
                      refine go_aload_n dX10_bound_158 rfl ?_
                      refine go_getR dX10_bound_159 fl_X10_61 (by first | assumption | exact Nat.le_of_ble_eq_true rfl) (by first | assumption | rfl) rfl (by first | assumption | rfl) ?_
                      refine go_iload dX10_bound_162 rfl ?_
                      refine go_iload dX10_bound_164 rfl ?_
                      refine go_aload_n dX10_bound_166 rfl ?_
                      refine go_getR dX10_bound_167 fl_X10_61 (by first | assumption | exact Nat.le_of_ble_eq_true rfl) (by first | assumption | rfl) rfl (by first | assumption | rfl) ?_
                      refine go_iload dX10_bound_170 rfl ?_
                      refine go_iaload dX10_bound_172 (by first | assumption | exact Nat.le_of_ble_eq_true rfl) (by first | assumption | rfl) (by omega) (by omega) ?_
                      try simp (disch := omega) only [ua_same, ua_ne, uf_same, uf_ne]
                      rw [h5c]
                      refine go_icmp_ge (tgt := 181) dX10_bound_173 rfl (fun h173 => ?_) (fun h173 => ?_)
                      ·
                        refine go_aload_n dX10_bound_181 rfl ?_
                        refine go_getR dX10_bound_182 fl_X10_61 (by first | assumption | exact Nat.le_of_ble_eq_true rfl) (by first | assumption | rfl) rfl (by first | assumption | rfl) ?_
                        refine go_iload dX10_bound_185 rfl ?_
                        refine go_iaload dX10_bound_187 (by first | assumption | exact Nat.le_of_ble_eq_true rfl) (by first | assumption | rfl) (by omega) (by omega) ?_
                        try simp (disch := omega) only [ua_same, ua_ne, uf_same, uf_ne]
                        rw [h5c]
                        refine go_iastore dX10_bound_188 (by first | assumption | exact Nat.le_of_ble_eq_true rfl) (by first | assumption | rfl) (by omega) (by omega) ?_
                        refine go_iinc dX10_bound_189 rfl rfl ⟨by omega, by omega⟩ ?_
                        refine go_goto (tgt := 104) dX10_bound_192 rfl ?_
                        refine go_drop (ih3 _ _ (by omega) (by omega) hC ?_ ?_ hk hkn ?_ ?_ ?_) rfl
                        · intro c2 x0 x1; rw [ud_n (by decide)]; exact h101 c2 x0 x1
                        · intro q x1 x2 x3 x4 x5; rw [ud_n x3]; exact hf q x1 x2 x3 x4 x5
                        · intro q q0 q1; rw [ud_n (by decide)]; exact h2 q q0 q1
                        · intro q q0 q1; rw [ud_s, uf_ne (by omega)]; exact h5 q q0 q1
                        · rw [ud_s, uf_same, lbS_i hv, if_neg (by omega), nv_st (by omega) (by omega) hrc.1 hrc.2 hx1 (by omega) (by omega) (by omega) (by omega)]
                          rw [if_pos (by omega : (bE (rkC (vm (μ 88)) 32) fr k.toNat (nb c i)) = 536870912)]
                          rw [if_neg (by omega)]
                      ·
                        refine go_iload dX10_bound_176 rfl ?_
                        refine go_goto (tgt := 188) dX10_bound_178 rfl ?_
                        refine go_iastore dX10_bound_188 (by first | assumption | exact Nat.le_of_ble_eq_true rfl) (by first | assumption | rfl) (by omega) (by omega) ?_
                        refine go_iinc dX10_bound_189 rfl rfl ⟨by omega, by omega⟩ ?_
                        refine go_goto (tgt := 104) dX10_bound_192 rfl ?_
                        refine go_drop (ih3 _ _ (by omega) (by omega) hC ?_ ?_ hk hkn ?_ ?_ ?_) rfl
                        · intro c2 x0 x1; rw [ud_n (by decide)]; exact h101 c2 x0 x1
                        · intro q x1 x2 x3 x4 x5; rw [ud_n x3]; exact hf q x1 x2 x3 x4 x5
                        · intro q q0 q1; rw [ud_n (by decide)]; exact h2 q q0 q1
                        · intro q q0 q1; rw [ud_s, uf_ne (by omega)]; exact h5 q q0 q1
                        · rw [ud_s, uf_same, lbS_i hv, if_neg (by omega), nv_st (by omega) (by omega) hrc.1 hrc.2 hx1 (by omega) (by omega) (by omega) (by omega)]
                          rw [if_pos (by omega : (bE (rkC (vm (μ 88)) 32) fr k.toNat (nb c i)) = 536870912)]
                          rw [if_pos (by omega)]
            refine go_drop (inI 4 0 _ (by omega) (by omega) hC ?_ ?_ hk hkn ?_ ?_ ?_) rfl
            · intro c2 x0 x1; rw [ud_n (by decide)]; exact h101 c2 x0 x1
            · intro q x1 x2 x3 x4 x5; rw [ud_n x3]; exact hf q x1 x2 x3 x4 x5
            · intro q q0 q1; rw [ud_n (by decide)]; exact h2 q q0 q1
            · intro q q0 q1; rw [ud_s, uf_ne (by omega)]; exact h5 q q0 q1
            · rw [ud_s, uf_same]
              have hrc := hr c hc0 (by omega)
              have hbc := bE_k (a := fr) hr k.toNat c (by omega) hc0 (by omega)
              show nvM _ = nvM (min _ (536870912 + _))
              congr 1
              omega
      refine go_iload dX10_bound_71 rfl ?_
      refine go_iload_n dX10_bound_73 rfl ?_
      refine go_icmp_ge (tgt := 237) dX10_bound_74 rfl (fun h74 => ?_) (fun h74 => ?_)
      ·
        exact absurd h74 (by omega)
      ·
        refine go_iconst dX10_bound_77 rfl ?_
        refine go_istore dX10_bound_78 rfl ?_
        exact go_drop (mid 30 0 μ1 (by omega) (by omega) hC h101 hf hk (by omega) h2 (fun q q0 q1 => absurd q1 (by omega))) rfl
  have ini : ∀ (m : Nat) (i : Int) (μ1 : Mem), 30 - i = (m : Nat) → 0 ≤ i → ((0 ≤ fr ∧ fr ≤ 29) ∧ (0 ≤ to ∧ to ≤ 29) ∧ 0 ≤ n ∧ n ≤ 40) → (∀ c, 0 ≤ c → c < 30 → μ1 101 c = (rkC (vm (μ 88)) 32) c) → (∀ q, q ≠ 101 → q ≠ 102 → q ≠ 105 → q ≠ 108 → q ≠ 109 → μ1 q = μ q) → (∀ q, 0 ≤ q → q < i → μ1 102 q = if q = fr then 0 else 1000000000) → Go l D cA none RX10 cX10_bound 9 (some .int) (8, 0, 0) (QN (Pi (fun x μ' => x = (if (0 ≤ fr ∧ fr ≤ 29) ∧ (0 ≤ to ∧ to ≤ 29) ∧ 0 ≤ n ∧ n ≤ 40 then (if bE (rkC (vm (μ 88)) 32) fr n.toNat to < 536870912 then bE (rkC (vm (μ 88)) 32) fr n.toNat to else -1000000005) else -1000000001) ∧ ∀ q, q ≠ 101 → q ≠ 102 → q ≠ 105 → q ≠ 108 → q ≠ 109 → μ' q = μ q))) 113 ρ0 0 0 36 [(0, vr 87), (1, vi fr), (2, vi to), (3, vi n), (4, vi i)] [] μ1 := by
    intro m
    induction m with
    | zero =>
      intro i μ1 hm hv hC h101 hf h2
      refine go_iload dX10_bound_36 rfl ?_
      refine go_bipush dX10_bound_38 rfl (by decide) ?_
      refine go_icmp_ge (tgt := 68) dX10_bound_40 rfl (fun h40 => ?_) (fun h40 => ?_)
      ·
        refine go_iconst dX10_bound_68 rfl ?_
        refine go_istore dX10_bound_69 rfl ?_
        refine go_drop (outer n.toNat 0 μ1 (by omega) (by omega) hC h101 hf ?_) rfl
        intro q q0 q1
        rw [h2 q q0 (by omega)]
        show _ = nvM (if q = fr then 0 else 536870912)
        by_cases e : q = fr
        · rw [if_pos e, if_pos e]; rfl
        · rw [if_neg e, if_neg e]; rfl
      ·
        exact absurd h40 (by omega)
    | succ m ih =>
      intro i μ1 hm hv hC h101 hf h2
      refine go_iload dX10_bound_36 rfl ?_
      refine go_bipush dX10_bound_38 rfl (by decide) ?_
      refine go_icmp_ge (tgt := 68) dX10_bound_40 rfl (fun h40 => ?_) (fun h40 => ?_)
      ·
        exact absurd h40 (by omega)
      ·
        refine go_aload_n dX10_bound_43 rfl ?_
        refine go_getR dX10_bound_44 fl_X10_52 (by first | assumption | exact Nat.le_of_ble_eq_true rfl) (by first | assumption | rfl) rfl (by first | assumption | rfl) ?_
        refine go_iload dX10_bound_47 rfl ?_
        refine go_iload dX10_bound_49 rfl ?_
        refine go_iload_n dX10_bound_51 rfl ?_
        refine go_icmp_ne (tgt := 59) dX10_bound_52 rfl (fun h52 => ?_) (fun h52 => ?_)
        ·
          refine go_ldc dX10_bound_59 kc_X10_200 rfl ?_
          refine go_iastore dX10_bound_61 (by first | assumption | exact Nat.le_of_ble_eq_true rfl) (by first | assumption | rfl) (by omega) (by omega) ?_
          refine go_iinc dX10_bound_62 rfl rfl ⟨by omega, by omega⟩ ?_
          refine go_goto (tgt := 36) dX10_bound_65 rfl ?_
          refine go_drop (ih _ _ (by omega) (by omega) hC ?_ ?_ ?_) rfl
          · intro c2 x0 x1; rw [ud_n (by decide)]; exact h101 c2 x0 x1
          · intro q x1 x2 x3 x4 x5; rw [ud_n x2]; exact hf q x1 x2 x3 x4 x5
          · intro q q0 q1
            rw [ud_s]
            by_cases e : q = i
            · rw [e, uf_same, if_neg h52]
            · rw [uf_ne e]; exact h2 q q0 (by omega)
        ·
          refine go_iconst dX10_bound_55 rfl ?_
          refine go_goto (tgt := 61) dX10_bound_56 rfl ?_
          refine go_iastore dX10_bound_61 (by first | assumption | exact Nat.le_of_ble_eq_true rfl) (by first | assumption | rfl) (by omega) (by omega) ?_
          refine go_iinc dX10_bound_62 rfl rfl ⟨by omega, by omega⟩ ?_
          refine go_goto (tgt := 36) dX10_bound_65 rfl ?_
          refine go_drop (ih _ _ (by omega) (by omega) hC ?_ ?_ ?_) rfl
          · intro c2 x0 x1; rw [ud_n (by decide)]; exact h101 c2 x0 x1
          · intro q x1 x2 x3 x4 x5; rw [ud_n x2]; exact hf q x1 x2 x3 x4 x5
          · intro q q0 q1
            rw [ud_s]
            by_cases e : q = i
            · rw [e, uf_same, if_pos h52]
            · rw [uf_ne e]; exact h2 q q0 (by omega)
  refine go_iload_n dX10_bound_0 rfl ?_
  refine go_sI dX10_bound_1 (ct_X10_isCell _) ml_X10_116 mc_X10_isCell ms_X10_isCell ⟨rfl, rfl⟩ ⟨Nat.le_refl _, Nat.le_refl _⟩ rfl rfl rfl (fun x1 μ1 hc1 => ?_)
  obtain ⟨rfl, hm1⟩ := hc1
  rw [hm1]
  first | refine go_bz (tgt := 26) dX10_bound_4 rfl (fun h4 => ?_) (fun h4 => ?_) | refine go_if_eq (tgt := 26) dX10_bound_4 rfl (fun h4 => ?_) (fun h4 => ?_)
  ·
    refine go_ldc dX10_bound_26 kc_X10_126 rfl ?_
    exact go_ri dX10_bound_28 tyI ⟨Nat.le_refl _, Nat.le_refl _⟩ (⟨by rw [if_neg (by omega)], fun _ _ _ _ _ _ => rfl⟩)
  ·
    refine go_iload_n dX10_bound_7 rfl ?_
    refine go_sI dX10_bound_8 (ct_X10_isCell _) ml_X10_116 mc_X10_isCell ms_X10_isCell ⟨rfl, rfl⟩ ⟨Nat.le_refl _, Nat.le_refl _⟩ rfl rfl rfl (fun x8 μ8 hc8 => ?_)
    obtain ⟨rfl, hm8⟩ := hc8
    rw [hm8]
    first | refine go_bz (tgt := 26) dX10_bound_11 rfl (fun h11 => ?_) (fun h11 => ?_) | refine go_if_eq (tgt := 26) dX10_bound_11 rfl (fun h11 => ?_) (fun h11 => ?_)
    ·
      refine go_ldc dX10_bound_26 kc_X10_126 rfl ?_
      exact go_ri dX10_bound_28 tyI ⟨Nat.le_refl _, Nat.le_refl _⟩ (⟨by rw [if_neg (by omega)], fun _ _ _ _ _ _ => rfl⟩)
    ·
      refine go_iload_n dX10_bound_14 rfl ?_
      refine go_i2l dX10_bound_15 ?_
      refine go_lconst dX10_bound_16 ?_
      refine go_ldc2 dX10_bound_17 kl_X10_211 rfl ?_
      refine go_sI dX10_bound_20 (ct_X10_isIn _ _ _) ml_X10_87 mc_X10_isIn ms_X10_isIn ⟨rfl, rfl⟩ ⟨Nat.le_refl _, Nat.le_refl _⟩ rfl rfl rfl (fun x20 μ20 hc20 => ?_)
      obtain ⟨rfl, hm20⟩ := hc20
      rw [hm20]
      first | refine go_bnz (tgt := 29) dX10_bound_23 rfl (fun h23 => ?_) (fun h23 => ?_) | refine go_if_ne (tgt := 29) dX10_bound_23 rfl (fun h23 => ?_) (fun h23 => ?_)
      ·
        refine go_aload_n dX10_bound_29 rfl ?_
        refine go_vV (ci := 9) dX10_bound_30 (ct_X10_knowsRisks hI) ml_X10_201 mc_X10_knowsRisks mv_X10_knowsRisks rfl (by first | assumption | exact Nat.le_of_ble_eq_true rfl) (by first | assumption | rfl) rfl ⟨rfl, rfl⟩ ⟨Nat.le_refl _, Nat.le_refl _⟩ rfl rfl rfl (fun μ30 hc30 => ?_)
        obtain ⟨hk30, hf30⟩ := hc30
        refine go_iconst dX10_bound_33 rfl ?_
        refine go_istore dX10_bound_34 rfl ?_
        exact go_drop (ini 30 0 μ30 (by omega) (by omega) (by omega) hk30 (fun q x1 x2 x3 x4 x5 => hf30 q x1 x4 x5) (fun q q0 q1 => absurd q1 (by omega))) rfl
      ·
        refine go_ldc dX10_bound_26 kc_X10_126 rfl ?_
        exact go_ri dX10_bound_28 tyI ⟨Nat.le_refl _, Nat.le_refl _⟩ (⟨by rw [if_neg (by omega)], fun _ _ _ _ _ _ => rfl⟩)

theorem cnt_eq2 {f g : Int → Int} {P Q : Int → Bool} (h : ∀ c, 0 ≤ c → c < 30 → (P c = true ↔ Q c = true)) : cnt P 30 = cnt Q 30 := cnt_cg (fun c c0 c1 => Bool.eq_iff_iff.mpr (h c c0 c1))
theorem cm_cnt {vf is : Int → Int} {w a : Int} (h : ∀ c, 0 ≤ c → c < 30 → (is c = 1 ↔ cE vf w a 30 c < 536870912)) : cnt (fun q => decide (is q = 1)) 30 = cnt (fun c => decide (cE vf w a 30 c < 536870912)) 30 := cnt_eq2 (f := is) (g := is) (fun c c0 c1 => by rw [decide_eq_true_iff, decide_eq_true_iff]; exact h c c0 c1)
theorem cm_up {vf is : Int → Int} {w a c d : Int} (a0 : 0 ≤ a) (a1 : a < 30) (c0 : 0 ≤ c) (c1 : c < 30) (d0 : 0 ≤ d) (d1 : d < 4) (hn : nb c d ≠ -1000000005) (hv : vf c ≤ w) (hb : cE vf w a 30 (nb c d) < 536870912) : cE vf w a 30 c < 536870912 := by
  rw [← cE_fix a0 a1 c c0 c1]
  exact cE_k.mpr (Or.inr ⟨hv, d, d0, d1, hn, hb⟩)
theorem cm_n {is : Int → Int} {c : Int} (c0 : 0 ≤ c) (c1 : c < 30) (h : is c = 0) : cnt (fun q => decide (uf is c 1 q = 1)) 30 = cnt (fun q => decide (is q = 1)) 30 + 1 := by
  refine cnt_up (j := c) 30 c0 c1 (by rw [decide_eq_true_iff]; omega) (by rw [decide_eq_true_iff, uf_same]) (fun i _ _ hi => ?_)
  rw [uf_ne hi]

theorem cm_1 {is : Int → Int} {a : Int} (a0 : 0 ≤ a) (a1 : a < 30) (h : ∀ c, 0 ≤ c → c < 30 → is c = if c = a then 1 else 0) : cnt (fun q => decide (is q = 1)) 30 = 1 := by
  have e := cnt_1 a0 a1 (f := fun c => if c = a then 0 else 536870912) (fun c _ _ => rfl)
  rw [← e]
  refine cnt_eq2 (f := is) (g := is) (fun c c0 c1 => ?_)
  rw [decide_eq_true_iff, decide_eq_true_iff, h c c0 c1]
  by_cases q : c = a
  · rw [if_pos q]; simp [q]
  · rw [if_neg q]; simp [q]
theorem cE_a {vf : Int → Int} {w a : Int} : cE vf w a 30 a < 536870912 := by
  have h1 : cE vf w a (0 + 30) a ≤ cE vf w a 0 a := gE_m (k := 0) 30
  have h2 : cE vf w a 0 a = 0 := by show (if a = a then 0 else (536870912 : Int)) = 0; rw [if_pos rfl]
  have h3 : cE vf w a (0 + 30) a = cE vf w a 30 a := rfl
  omega

set_option maxRecDepth 100000 in
set_option maxHeartbeats 4000000 in
theorem ct_X10_comesTo {l : Launch} {D : va_G} {cA : Nat → ClassId} {μ : Mem} (vf : Int → Int) (a bs w : Int) (a0 : 0 ≤ a) (a1 : a < 30) (hbs : bs = 0 ∨ bs = 1) (hv1 : bs = 1 → vf = vm (μ 88) 34) (hv0 : bs = 0 → ∀ c, 0 ≤ c → c < 30 → μ 101 c = vf c) : CtN l D cA yX10_comesTo cX10_comesTo 10 (some .int) 3 [vr 87, vi a, vi bs, vi w] μ (Pi (fun x μ' => x = (cnt (fun c => decide (cE vf w a 30 c < 536870912)) 30 : Nat) ∧ (∀ c, 0 ≤ c → c < 30 → (μ' 106 c = 1 ↔ cE vf w a 30 c < 536870912) ∧ (μ' 106 c = 0 ∨ μ' 106 c = 1)) ∧ ∀ q, q ≠ 106 → μ' q = μ q)) := by
  refine Ct.of (own := RX10) (by decide +kernel) rfl (fun σ => Nat.le_of_ble_eq_true rfl) (fun hM hP ha => ?_)
  obtain ⟨m87, r88, s88, r89, s89, r90, s90, r91, s91, r92, s92, r93, s93, r94, s94, r95, s95, r96, s96, r97, s97, r98, s98, r99, s99, r100, s100, r101, s101, r102, s102, r103, s103, r104, s104, r105, s105, r106, s106, r107, s107, r108, s108, r109, s109, r110, s110, r111, s111, r112, s112⟩ := md_f
  have outer : ∀ (k : Nat) (n mo : Int) (μ1 : Mem), (μ1 106 a = 1) → (∀ q, 0 ≤ q → q < 30 → (μ1 106 q = 0 ∨ μ1 106 q = 1) ∧ (μ1 106 q = 1 → cE vf w a 30 q < 536870912)) → n = (cnt (fun q => decide (μ1 106 q = 1)) 30 : Nat) → (∀ q, q ≠ 106 → μ1 q = μ q) → ((mo = 0 ∧ ∀ c2 d : Int, 0 ≤ c2 → c2 < 30 → 0 ≤ d → d < 4 → nb c2 d ≠ -1000000005 → μ1 106 (nb c2 d) = 1 → vf c2 ≤ w → μ1 106 c2 = 1) ∨ (mo = 1 ∧ 30 - n < (k : Nat))) → Go l D cA none RX10 cX10_comesTo 10 (some .int) (3, 0, 0) (QN (Pi (fun x μ' => x = (cnt (fun c => decide (cE vf w a 30 c < 536870912)) 30 : Nat) ∧ (∀ c, 0 ≤ c → c < 30 → (μ' 106 c = 1 ↔ cE vf w a 30 c < 536870912) ∧ (μ' 106 c = 0 ∨ μ' 106 c = 1)) ∧ ∀ q, q ≠ 106 → μ' q = μ q))) 113 ρ0 0 0 40 [(0, vr 87), (1, vi a), (2, vi bs), (3, vi w), (4, vi n), (5, vi mo)] [] μ1 := by
    intro k
    induction k with
    | zero =>
      intro n mo μ1 hia his hn hf hi
      have hcb := cnt_le (p := fun q => decide (μ1 106 q = 1)) 30
      refine go_iload dX10_comesTo_40 rfl ?_
      first | refine go_bz (tgt := 167) dX10_comesTo_42 rfl (fun h42 => ?_) (fun h42 => ?_) | refine go_if_eq (tgt := 167) dX10_comesTo_42 rfl (fun h42 => ?_) (fun h42 => ?_)
      ·
        refine go_iload dX10_comesTo_167 rfl ?_
        exact go_ri dX10_comesTo_169 tyI ⟨Nat.le_refl _, Nat.le_refl _⟩ (by
            rcases hi with ⟨e, h⟩ | ⟨e, h⟩
            · have hq := cmQ_eq (rk := vf) (w := w) a0 a1 hia (fun c c0 c1 => (his c c0 c1).2) h
              exact ⟨by rw [hn, cm_cnt hq], fun c c0 c1 => ⟨hq c c0 c1, (his c c0 c1).1⟩, hf⟩
            · exact absurd e (by omega))
      ·
        rcases hi with ⟨e, h⟩ | ⟨e, h⟩
        · exact absurd e h42
        · exact absurd h (by omega)
    | succ k ih =>
      have lpC : ∀ (n0 : Int), 30 - n0 ≤ (k : Nat) → ∀ (m : Nat) (c n mo : Int) (μ1 : Mem), 30 - c = (m : Nat) → 0 ≤ c → (μ1 106 a = 1) → (∀ q, 0 ≤ q → q < 30 → (μ1 106 q = 0 ∨ μ1 106 q = 1) ∧ (μ1 106 q = 1 → cE vf w a 30 q < 536870912)) → n = (cnt (fun q => decide (μ1 106 q = 1)) 30 : Nat) → (∀ q, q ≠ 106 → μ1 q = μ q) → ((mo = 0 ∧ n = n0 ∧ ∀ c2 d : Int, 0 ≤ c2 → c2 < 30 → 0 ≤ d → d < 4 → c2 < c → nb c2 d ≠ -1000000005 → μ1 106 (nb c2 d) = 1 → vf c2 ≤ w → μ1 106 c2 = 1) ∨ (mo = 1 ∧ n0 < n)) → Go l D cA none RX10 cX10_comesTo 10 (some .int) (3, 0, 0) (QN (Pi (fun x μ' => x = (cnt (fun c => decide (cE vf w a 30 c < 536870912)) 30 : Nat) ∧ (∀ c, 0 ≤ c → c < 30 → (μ' 106 c = 1 ↔ cE vf w a 30 c < 536870912) ∧ (μ' 106 c = 0 ∨ μ' 106 c = 1)) ∧ ∀ q, q ≠ 106 → μ' q = μ q))) 113 ρ0 0 0 51 [(0, vr 87), (1, vi a), (2, vi bs), (3, vi w), (4, vi n), (5, vi mo), (6, vi c)] [] μ1 := by
        intro n0 hn0 m
        induction m with
        | zero =>
          intro c n mo μ1 hm hc0 hia his hn hf hi
          refine go_iload dX10_comesTo_51 rfl ?_
          refine go_bipush dX10_comesTo_53 rfl (by decide) ?_
          refine go_icmp_ge (tgt := 164) dX10_comesTo_55 rfl (fun h55 => ?_) (fun h55 => ?_)
          ·
            refine go_goto (tgt := 40) dX10_comesTo_164 rfl ?_
            refine go_drop (ih _ _ μ1 hia his hn hf ?_) rfl
            rcases hi with ⟨e, en, h⟩ | ⟨e, h⟩
            · exact Or.inl ⟨e, fun c2 d h0 h1 h2 h3 => h c2 d h0 h1 h2 h3 (by omega)⟩
            · exact Or.inr ⟨e, by omega⟩
          ·
            exact absurd h55 (by omega)
        | succ m ih2 =>
          intro c n mo μ1 hm hc0 hia his hn hf hi
          have inI : ∀ (m3 : Nat) (i n mo : Int) (μ1 : Mem), 4 - i = (m3 : Nat) → 0 ≤ i → (μ1 106 a = 1) → (∀ q, 0 ≤ q → q < 30 → (μ1 106 q = 0 ∨ μ1 106 q = 1) ∧ (μ1 106 q = 1 → cE vf w a 30 q < 536870912)) → n = (cnt (fun q => decide (μ1 106 q = 1)) 30 : Nat) → (∀ q, q ≠ 106 → μ1 q = μ q) → ((mo = 0 ∧ n = n0 ∧ ∀ c2 d : Int, 0 ≤ c2 → c2 < 30 → 0 ≤ d → d < 4 → (c2 < c ∨ (c2 = c ∧ d < i)) → nb c2 d ≠ -1000000005 → μ1 106 (nb c2 d) = 1 → vf c2 ≤ w → μ1 106 c2 = 1) ∨ (mo = 1 ∧ n0 < n)) → Go l D cA none RX10 cX10_comesTo 10 (some .int) (3, 0, 0) (QN (Pi (fun x μ' => x = (cnt (fun c => decide (cE vf w a 30 c < 536870912)) 30 : Nat) ∧ (∀ c, 0 ≤ c → c < 30 → (μ' 106 c = 1 ↔ cE vf w a 30 c < 536870912) ∧ (μ' 106 c = 0 ∨ μ' 106 c = 1)) ∧ ∀ q, q ≠ 106 → μ' q = μ q))) 113 ρ0 0 0 61 [(0, vr 87), (1, vi a), (2, vi bs), (3, vi w), (4, vi n), (5, vi mo), (6, vi c), (7, vi i)] [] μ1 := by
            intro m3
            induction m3 with
            | zero =>
              intro i n mo μ1 hm3 hv hia his hn hf hi
              refine go_iload dX10_comesTo_61 rfl ?_
              refine go_iconst dX10_comesTo_63 rfl ?_
              refine go_icmp_ge (tgt := 158) dX10_comesTo_64 rfl (fun h64 => ?_) (fun h64 => ?_)
              ·
                refine go_iinc dX10_comesTo_158 rfl rfl ⟨by omega, by omega⟩ ?_
                refine go_goto (tgt := 51) dX10_comesTo_161 rfl ?_
                refine go_drop (ih2 _ _ _ μ1 (by omega) (by omega) hia his hn hf ?_) rfl
                rcases hi with ⟨e, en, h⟩ | h
                · exact Or.inl ⟨e, en, fun c2 d h0 h1 h2 h3 hc => h c2 d h0 h1 h2 h3 (by omega)⟩
                · exact Or.inr h
              ·
                exact absurd h64 (by omega)
            | succ m3 ih3 =>
              intro i n mo μ1 hm3 hv hia his hn hf hi
              have hcb := cnt_le (p := fun q => decide (μ1 106 q = 1)) 30
              refine go_iload dX10_comesTo_61 rfl ?_
              refine go_iconst dX10_comesTo_63 rfl ?_
              refine go_icmp_ge (tgt := 158) dX10_comesTo_64 rfl (fun h64 => ?_) (fun h64 => ?_)
              ·
                exact absurd h64 (by omega)
              ·
                have hnr := nbM_r (d := i) hc0 (show c < 30 by omega)
                have hcc := his c hc0 (by omega)
                refine go_iload dX10_comesTo_67 rfl ?_
                refine go_iload dX10_comesTo_69 rfl ?_
                refine go_sI dX10_comesTo_71 (ct_X10_beside _ _ (by omega) (by omega) (by omega) (by omega)) ml_X10_179 mc_X10_beside ms_X10_beside ⟨rfl, rfl⟩ ⟨Nat.le_refl _, Nat.le_refl _⟩ rfl rfl rfl (fun x71 μ71 hc71 => ?_)
                obtain ⟨rfl, hm71⟩ := hc71
                rw [hm71]
                refine go_istore dX10_comesTo_74 rfl ?_
                refine go_aload_n dX10_comesTo_76 rfl ?_
                refine go_getR dX10_comesTo_77 fl_X10_64 (by first | assumption | exact Nat.le_of_ble_eq_true rfl) (by first | assumption | rfl) rfl (by first | assumption | rfl) ?_
                refine go_iload dX10_comesTo_80 rfl ?_
                refine go_zaload dX10_comesTo_82 (by first | assumption | exact Nat.le_of_ble_eq_true rfl) (by first | assumption | rfl) (by omega) (by omega) ?_
                try simp (disch := omega) only [ua_same, ua_ne, uf_same, uf_ne]
                first | refine go_bnz (tgt := 130) dX10_comesTo_83 rfl (fun h83 => ?_) (fun h83 => ?_) | refine go_if_ne (tgt := 130) dX10_comesTo_83 rfl (fun h83 => ?_) (fun h83 => ?_)
                ·
                  refine go_iconst dX10_comesTo_130 rfl ?_
                  refine go_istore dX10_comesTo_131 rfl ?_
                  refine go_iload dX10_comesTo_133 rfl ?_
                  first | refine go_bz (tgt := 152) dX10_comesTo_135 rfl (fun h135 => ?_) (fun h135 => ?_) | refine go_if_eq (tgt := 152) dX10_comesTo_135 rfl (fun h135 => ?_) (fun h135 => ?_)
                  ·
                    refine go_iinc dX10_comesTo_152 rfl rfl ⟨by omega, by omega⟩ ?_
                    refine go_goto (tgt := 61) dX10_comesTo_155 rfl ?_
                    refine go_drop (ih3 _ _ _ μ1 (by omega) (by omega) hia his hn hf ?_) rfl
                    rcases hi with ⟨e, en, h⟩ | h
                    · refine Or.inl ⟨e, en, fun c2 d h0 h1 h2 h3 hc h5 h6 h7 => ?_⟩
                      by_cases ed : c2 < c ∨ (c2 = c ∧ d < i)
                      · exact h c2 d h0 h1 h2 h3 ed h5 h6 h7
                      · have e1 : c2 = c := by omega
                        have e2 : d = i := by omega
                        have := his c2 h0 h1; rw [e1] at this ⊢; omega
                    · exact Or.inr h
                  ·
                    exact absurd h135 (by omega)
                ·
                  refine go_iload dX10_comesTo_86 rfl ?_
                  refine go_if_lt (tgt := 130) dX10_comesTo_88 rfl (fun h88 => ?_) (fun h88 => ?_)
                  ·
                    refine go_iconst dX10_comesTo_130 rfl ?_
                    refine go_istore dX10_comesTo_131 rfl ?_
                    refine go_iload dX10_comesTo_133 rfl ?_
                    first | refine go_bz (tgt := 152) dX10_comesTo_135 rfl (fun h135 => ?_) (fun h135 => ?_) | refine go_if_eq (tgt := 152) dX10_comesTo_135 rfl (fun h135 => ?_) (fun h135 => ?_)
                    ·
                      refine go_iinc dX10_comesTo_152 rfl rfl ⟨by omega, by omega⟩ ?_
                      refine go_goto (tgt := 61) dX10_comesTo_155 rfl ?_
                      refine go_drop (ih3 _ _ _ μ1 (by omega) (by omega) hia his hn hf ?_) rfl
                      rcases hi with ⟨e, en, h⟩ | h
                      · refine Or.inl ⟨e, en, fun c2 d h0 h1 h2 h3 hc h5 h6 h7 => ?_⟩
                        by_cases ed : c2 < c ∨ (c2 = c ∧ d < i)
                        · exact h c2 d h0 h1 h2 h3 ed h5 h6 h7
                        · have e1 : c2 = c := by omega
                          have e2 : d = i := by omega
                          exact absurd (by rw [e1, e2]; omega : nb c2 d = -1000000005) h5
                      · exact Or.inr h
                    ·
                      exact absurd h135 (by omega)
                  ·
                    have hnm : nbM c i = nb c i := by omega
                    refine go_aload_n dX10_comesTo_91 rfl ?_
                    refine go_getR dX10_comesTo_92 fl_X10_64 (by first | assumption | exact Nat.le_of_ble_eq_true rfl) (by first | assumption | rfl) rfl (by first | assumption | rfl) ?_
                    refine go_iload dX10_comesTo_95 rfl ?_
                    refine go_zaload dX10_comesTo_97 (by first | assumption | exact Nat.le_of_ble_eq_true rfl) (by first | assumption | rfl) (by omega) (by omega) ?_
                    try simp (disch := omega) only [ua_same, ua_ne, uf_same, uf_ne]
                    first | refine go_bz (tgt := 130) dX10_comesTo_98 rfl (fun h98 => ?_) (fun h98 => ?_) | refine go_if_eq (tgt := 130) dX10_comesTo_98 rfl (fun h98 => ?_) (fun h98 => ?_)
                    ·
                      refine go_iconst dX10_comesTo_130 rfl ?_
                      refine go_istore dX10_comesTo_131 rfl ?_
                      refine go_iload dX10_comesTo_133 rfl ?_
                      first | refine go_bz (tgt := 152) dX10_comesTo_135 rfl (fun h135 => ?_) (fun h135 => ?_) | refine go_if_eq (tgt := 152) dX10_comesTo_135 rfl (fun h135 => ?_) (fun h135 => ?_)
                      ·
                        refine go_iinc dX10_comesTo_152 rfl rfl ⟨by omega, by omega⟩ ?_
                        refine go_goto (tgt := 61) dX10_comesTo_155 rfl ?_
                        refine go_drop (ih3 _ _ _ μ1 (by omega) (by omega) hia his hn hf ?_) rfl
                        rcases hi with ⟨e, en, h⟩ | h
                        · refine Or.inl ⟨e, en, fun c2 d h0 h1 h2 h3 hc h5 h6 h7 => ?_⟩
                          by_cases ed : c2 < c ∨ (c2 = c ∧ d < i)
                          · exact h c2 d h0 h1 h2 h3 ed h5 h6 h7
                          · have e1 : c2 = c := by omega
                            have e2 : d = i := by omega
                            rw [e1, e2] at h6; rw [hnm] at h98; omega
                        · exact Or.inr h
                      ·
                        exact absurd h135 (by omega)
                    ·
                      refine go_iload_n dX10_comesTo_101 rfl ?_
                      first | refine go_bz (tgt := 115) dX10_comesTo_102 rfl (fun h102 => ?_) (fun h102 => ?_) | refine go_if_eq (tgt := 115) dX10_comesTo_102 rfl (fun h102 => ?_) (fun h102 => ?_)
                      ·
                        have hbs : bs = 0 := by omega
                        refine go_aload_n dX10_comesTo_115 rfl ?_
                        refine go_getR dX10_comesTo_116 fl_X10_49 (by first | assumption | exact Nat.le_of_ble_eq_true rfl) (by first | assumption | rfl) rfl (by first | assumption | rfl) ?_
                        refine go_iload dX10_comesTo_119 rfl ?_
                        refine go_iaload dX10_comesTo_121 (by first | assumption | exact Nat.le_of_ble_eq_true rfl) (by first | assumption | rfl) (by omega) (by omega) ?_
                        try simp (disch := omega) only [ua_same, ua_ne, uf_same, uf_ne]
                        rw [hf 101 (by decide), hv0 hbs c hc0 (by omega)]
                        refine go_iload_n dX10_comesTo_122 rfl ?_
                        refine go_icmp_gt (tgt := 130) dX10_comesTo_123 rfl (fun h123 => ?_) (fun h123 => ?_)
                        ·
                          refine go_iconst dX10_comesTo_130 rfl ?_
                          refine go_istore dX10_comesTo_131 rfl ?_
                          refine go_iload dX10_comesTo_133 rfl ?_
                          first | refine go_bz (tgt := 152) dX10_comesTo_135 rfl (fun h135 => ?_) (fun h135 => ?_) | refine go_if_eq (tgt := 152) dX10_comesTo_135 rfl (fun h135 => ?_) (fun h135 => ?_)
                          ·
                            refine go_iinc dX10_comesTo_152 rfl rfl ⟨by omega, by omega⟩ ?_
                            refine go_goto (tgt := 61) dX10_comesTo_155 rfl ?_
                            refine go_drop (ih3 _ _ _ μ1 (by omega) (by omega) hia his hn hf ?_) rfl
                            rcases hi with ⟨e, en, h⟩ | h
                            · refine Or.inl ⟨e, en, fun c2 d h0 h1 h2 h3 hc h5 h6 h7 => ?_⟩
                              by_cases ed : c2 < c ∨ (c2 = c ∧ d < i)
                              · exact h c2 d h0 h1 h2 h3 ed h5 h6 h7
                              · have e1 : c2 = c := by omega
                                have e2 : d = i := by omega
                                rw [e1] at h7; omega
                            · exact Or.inr h
                          ·
                            exact absurd h135 (by omega)
                        ·
                          have hsnd : cE vf w a 30 c < 536870912 := cm_up (is := μ1 106) a0 a1 hc0 (by omega) hv (by omega) (by omega) (by omega) ((his (nb c i) (by omega) (by omega)).2 (by rw [hnm] at h98; have := his (nb c i) (by omega) (by omega); omega))
                          refine go_iconst dX10_comesTo_126 rfl ?_
                          refine go_goto (tgt := 131) dX10_comesTo_127 rfl ?_
                          refine go_istore dX10_comesTo_131 rfl ?_
                          refine go_iload dX10_comesTo_133 rfl ?_
                          first | refine go_bz (tgt := 152) dX10_comesTo_135 rfl (fun h135 => ?_) (fun h135 => ?_) | refine go_if_eq (tgt := 152) dX10_comesTo_135 rfl (fun h135 => ?_) (fun h135 => ?_)
                          ·
                            exact absurd h135 (by omega)
                          ·
                            refine go_aload_n dX10_comesTo_138 rfl ?_
                            refine go_getR dX10_comesTo_139 fl_X10_64 (by first | assumption | exact Nat.le_of_ble_eq_true rfl) (by first | assumption | rfl) rfl (by first | assumption | rfl) ?_
                            refine go_iload dX10_comesTo_142 rfl ?_
                            refine go_iconst dX10_comesTo_144 rfl ?_
                            refine go_zastore dX10_comesTo_145 (by first | exact Or.inr rfl | exact Or.inl rfl | exact tv_01) (by first | assumption | exact Nat.le_of_ble_eq_true rfl) (by first | assumption | rfl) (by omega) (by omega) ?_
                            refine go_iinc dX10_comesTo_146 rfl rfl ⟨by omega, by omega⟩ ?_
                            refine go_iconst dX10_comesTo_149 rfl ?_
                            refine go_istore dX10_comesTo_150 rfl ?_
                            refine go_iinc dX10_comesTo_152 rfl rfl ⟨by omega, by omega⟩ ?_
                            refine go_goto (tgt := 61) dX10_comesTo_155 rfl ?_
                            generalize hμ2 : ud μ1 106 c 1 = μ2
                            have e6 : μ2 106 = uf (μ1 106) c 1 := by rw [← hμ2, ud_s]
                            refine go_drop (ih3 _ _ _ μ2 (by omega) (by omega) ?_ ?_ ?_ ?_ (Or.inr ⟨rfl, ?_⟩)) rfl
                            · rw [e6]; by_cases e : a = c
                              · rw [e, uf_same]
                              · rw [uf_ne e]; exact hia
                            · intro q q0 q1
                              rw [e6]
                              by_cases e : q = c
                              · rw [e, uf_same]; exact ⟨Or.inr rfl, fun _ => hsnd⟩
                              · rw [uf_ne e]; exact his q q0 q1
                            · rw [e6, cm_n hc0 (by omega) (by omega), hn]; omega
                            · intro q hq; rw [← hμ2, ud_n hq]; exact hf q hq
                            · rcases hi with ⟨_, h, _⟩ | ⟨_, h⟩ <;> omega
                      ·
                        have hbs : bs = 1 := by omega
                        refine go_aload_n dX10_comesTo_105 rfl ?_
                        refine go_iload dX10_comesTo_106 rfl ?_
                        refine go_iconst dX10_comesTo_108 rfl ?_
                        refine go_vI (ci := 9) dX10_comesTo_109 (ct_X10_of _ _ (by omega) (by omega) (by omega) (by omega)) ml_X10_92 mc_X10_of mv_X10_of rfl (by first | assumption | exact Nat.le_of_ble_eq_true rfl) (by first | assumption | rfl) rfl ⟨rfl, rfl⟩ ⟨Nat.le_refl _, Nat.le_refl _⟩ rfl rfl rfl (fun x109 μ109 hc109 => ?_)
                        rw [hf 88 (by decide), ← vm_34 (f := μ 88) (c := c) hc0 (by omega), ← hv1 hbs] at hc109
                        obtain ⟨rfl, hm109⟩ := hc109
                        rw [hm109]
                        refine go_goto (tgt := 122) dX10_comesTo_112 rfl ?_
                        refine go_iload_n dX10_comesTo_122 rfl ?_
                        refine go_icmp_gt (tgt := 130) dX10_comesTo_123 rfl (fun h123 => ?_) (fun h123 => ?_)
                        ·
                          refine go_iconst dX10_comesTo_130 rfl ?_
                          refine go_istore dX10_comesTo_131 rfl ?_
                          refine go_iload dX10_comesTo_133 rfl ?_
                          first | refine go_bz (tgt := 152) dX10_comesTo_135 rfl (fun h135 => ?_) (fun h135 => ?_) | refine go_if_eq (tgt := 152) dX10_comesTo_135 rfl (fun h135 => ?_) (fun h135 => ?_)
                          ·
                            refine go_iinc dX10_comesTo_152 rfl rfl ⟨by omega, by omega⟩ ?_
                            refine go_goto (tgt := 61) dX10_comesTo_155 rfl ?_
                            refine go_drop (ih3 _ _ _ μ1 (by omega) (by omega) hia his hn hf ?_) rfl
                            rcases hi with ⟨e, en, h⟩ | h
                            · refine Or.inl ⟨e, en, fun c2 d h0 h1 h2 h3 hc h5 h6 h7 => ?_⟩
                              by_cases ed : c2 < c ∨ (c2 = c ∧ d < i)
                              · exact h c2 d h0 h1 h2 h3 ed h5 h6 h7
                              · have e1 : c2 = c := by omega
                                have e2 : d = i := by omega
                                rw [e1] at h7; omega
                            · exact Or.inr h
                          ·
                            exact absurd h135 (by omega)
                        ·
                          have hsnd : cE vf w a 30 c < 536870912 := cm_up (is := μ1 106) a0 a1 hc0 (by omega) hv (by omega) (by omega) (by omega) ((his (nb c i) (by omega) (by omega)).2 (by rw [hnm] at h98; have := his (nb c i) (by omega) (by omega); omega))
                          refine go_iconst dX10_comesTo_126 rfl ?_
                          refine go_goto (tgt := 131) dX10_comesTo_127 rfl ?_
                          refine go_istore dX10_comesTo_131 rfl ?_
                          refine go_iload dX10_comesTo_133 rfl ?_
                          first | refine go_bz (tgt := 152) dX10_comesTo_135 rfl (fun h135 => ?_) (fun h135 => ?_) | refine go_if_eq (tgt := 152) dX10_comesTo_135 rfl (fun h135 => ?_) (fun h135 => ?_)
                          ·
                            exact absurd h135 (by omega)
                          ·
                            refine go_aload_n dX10_comesTo_138 rfl ?_
                            refine go_getR dX10_comesTo_139 fl_X10_64 (by first | assumption | exact Nat.le_of_ble_eq_true rfl) (by first | assumption | rfl) rfl (by first | assumption | rfl) ?_
                            refine go_iload dX10_comesTo_142 rfl ?_
                            refine go_iconst dX10_comesTo_144 rfl ?_
                            refine go_zastore dX10_comesTo_145 (by first | exact Or.inr rfl | exact Or.inl rfl | exact tv_01) (by first | assumption | exact Nat.le_of_ble_eq_true rfl) (by first | assumption | rfl) (by omega) (by omega) ?_
                            refine go_iinc dX10_comesTo_146 rfl rfl ⟨by omega, by omega⟩ ?_
                            refine go_iconst dX10_comesTo_149 rfl ?_
                            refine go_istore dX10_comesTo_150 rfl ?_
                            refine go_iinc dX10_comesTo_152 rfl rfl ⟨by omega, by omega⟩ ?_
                            refine go_goto (tgt := 61) dX10_comesTo_155 rfl ?_
                            generalize hμ2 : ud μ1 106 c 1 = μ2
                            have e6 : μ2 106 = uf (μ1 106) c 1 := by rw [← hμ2, ud_s]
                            refine go_drop (ih3 _ _ _ μ2 (by omega) (by omega) ?_ ?_ ?_ ?_ (Or.inr ⟨rfl, ?_⟩)) rfl
                            · rw [e6]; by_cases e : a = c
                              · rw [e, uf_same]
                              · rw [uf_ne e]; exact hia
                            · intro q q0 q1
                              rw [e6]
                              by_cases e : q = c
                              · rw [e, uf_same]; exact ⟨Or.inr rfl, fun _ => hsnd⟩
                              · rw [uf_ne e]; exact his q q0 q1
                            · rw [e6, cm_n hc0 (by omega) (by omega), hn]; omega
                            · intro q hq; rw [← hμ2, ud_n hq]; exact hf q hq
                            · rcases hi with ⟨_, h, _⟩ | ⟨_, h⟩ <;> omega
          refine go_iload dX10_comesTo_51 rfl ?_
          refine go_bipush dX10_comesTo_53 rfl (by decide) ?_
          refine go_icmp_ge (tgt := 164) dX10_comesTo_55 rfl (fun h55 => ?_) (fun h55 => ?_)
          ·
            exact absurd h55 (by omega)
          ·
            refine go_iconst dX10_comesTo_58 rfl ?_
            refine go_istore dX10_comesTo_59 rfl ?_
            refine go_drop (inI 4 0 _ _ μ1 (by omega) (by omega) hia his hn hf ?_) rfl
            rcases hi with ⟨e, en, h⟩ | h
            · exact Or.inl ⟨e, en, fun c2 d h0 h1 h2 h3 hc => h c2 d h0 h1 h2 h3 (by omega)⟩
            · exact Or.inr h
      intro n mo μ1 hia his hn hf hi
      refine go_iload dX10_comesTo_40 rfl ?_
      first | refine go_bz (tgt := 167) dX10_comesTo_42 rfl (fun h42 => ?_) (fun h42 => ?_) | refine go_if_eq (tgt := 167) dX10_comesTo_42 rfl (fun h42 => ?_) (fun h42 => ?_)
      ·
        refine go_iload dX10_comesTo_167 rfl ?_
        exact go_ri dX10_comesTo_169 tyI ⟨Nat.le_refl _, Nat.le_refl _⟩ (by
            rcases hi with ⟨e, h⟩ | ⟨e, h⟩
            · have hq := cmQ_eq (rk := vf) (w := w) a0 a1 hia (fun c c0 c1 => (his c c0 c1).2) h
              exact ⟨by rw [hn, cm_cnt hq], fun c c0 c1 => ⟨hq c c0 c1, (his c c0 c1).1⟩, hf⟩
            · exact absurd e (by omega))
      ·
        refine go_iconst dX10_comesTo_45 rfl ?_
        refine go_istore dX10_comesTo_46 rfl ?_
        refine go_iconst dX10_comesTo_48 rfl ?_
        refine go_istore dX10_comesTo_49 rfl ?_
        have hsn : 30 - n ≤ (k : Nat) := by
          rcases hi with ⟨e, h⟩ | ⟨e, h⟩
          · exact absurd e h42
          · omega
        exact go_drop (lpC n hsn 30 0 _ 0 μ1 (by omega) (by omega) hia his hn hf (Or.inl ⟨rfl, rfl, fun c2 d h0 h1 h2 h3 hc => absurd hc (by omega)⟩)) rfl
  have ini : ∀ (m : Nat) (i : Int) (μ1 : Mem), 30 - i = (m : Nat) → 0 ≤ i → (∀ q, 0 ≤ q → q < i → μ1 106 q = if q = a then 1 else 0) → (∀ q, q ≠ 106 → μ1 q = μ q) → Go l D cA none RX10 cX10_comesTo 10 (some .int) (3, 0, 0) (QN (Pi (fun x μ' => x = (cnt (fun c => decide (cE vf w a 30 c < 536870912)) 30 : Nat) ∧ (∀ c, 0 ≤ c → c < 30 → (μ' 106 c = 1 ↔ cE vf w a 30 c < 536870912) ∧ (μ' 106 c = 0 ∨ μ' 106 c = 1)) ∧ ∀ q, q ≠ 106 → μ' q = μ q))) 113 ρ0 0 0 3 [(0, vr 87), (1, vi a), (2, vi bs), (3, vi w), (4, vi i)] [] μ1 := by
    intro m
    induction m with
    | zero =>
      intro i μ1 hm hv h6 hf
      refine go_iload dX10_comesTo_3 rfl ?_
      refine go_bipush dX10_comesTo_5 rfl (by decide) ?_
      refine go_icmp_ge (tgt := 34) dX10_comesTo_7 rfl (fun h7 => ?_) (fun h7 => ?_)
      ·
        refine go_iconst dX10_comesTo_34 rfl ?_
        refine go_istore dX10_comesTo_35 rfl ?_
        refine go_iconst dX10_comesTo_37 rfl ?_
        refine go_istore dX10_comesTo_38 rfl ?_
        have h6b : ∀ q, 0 ≤ q → q < 30 → μ1 106 q = if q = a then 1 else 0 := fun q q0 q1 => h6 q q0 (by omega)
        refine go_drop (outer 30 1 1 μ1 ?_ ?_ ?_ hf (Or.inr ⟨rfl, by omega⟩)) rfl
        · rw [h6b a a0 a1, if_pos rfl]
        · intro q q0 q1
          rw [h6b q q0 q1]
          by_cases e : q = a
          · rw [if_pos e, e]; exact ⟨Or.inr rfl, fun _ => cE_a⟩
          · rw [if_neg e]; exact ⟨Or.inl rfl, fun h => absurd h (by omega)⟩
        · rw [cm_1 a0 a1 h6b]; rfl
      ·
        exact absurd h7 (by omega)
    | succ m ih =>
      intro i μ1 hm hv h6 hf
      refine go_iload dX10_comesTo_3 rfl ?_
      refine go_bipush dX10_comesTo_5 rfl (by decide) ?_
      refine go_icmp_ge (tgt := 34) dX10_comesTo_7 rfl (fun h7 => ?_) (fun h7 => ?_)
      ·
        exact absurd h7 (by omega)
      ·
        refine go_aload_n dX10_comesTo_10 rfl ?_
        refine go_getR dX10_comesTo_11 fl_X10_64 (by first | assumption | exact Nat.le_of_ble_eq_true rfl) (by first | assumption | rfl) rfl (by first | assumption | rfl) ?_
        refine go_iload dX10_comesTo_14 rfl ?_
        refine go_iload dX10_comesTo_16 rfl ?_
        refine go_iload_n dX10_comesTo_18 rfl ?_
        refine go_icmp_ne (tgt := 26) dX10_comesTo_19 rfl (fun h19 => ?_) (fun h19 => ?_)
        ·
          refine go_iconst dX10_comesTo_26 rfl ?_
          refine go_zastore dX10_comesTo_27 (by first | exact Or.inr rfl | exact Or.inl rfl | exact tv_01) (by first | assumption | exact Nat.le_of_ble_eq_true rfl) (by first | assumption | rfl) (by omega) (by omega) ?_
          refine go_iinc dX10_comesTo_28 rfl rfl ⟨by omega, by omega⟩ ?_
          refine go_goto (tgt := 3) dX10_comesTo_31 rfl ?_
          refine go_drop (ih _ _ (by omega) (by omega) ?_ ?_) rfl
          · intro q q0 q1
            rw [ud_s]
            by_cases e : q = i
            · rw [e, uf_same, if_neg h19]
            · rw [uf_ne e]; exact h6 q q0 (by omega)
          · intro q hq; rw [ud_n hq]; exact hf q hq
        ·
          refine go_iconst dX10_comesTo_22 rfl ?_
          refine go_goto (tgt := 27) dX10_comesTo_23 rfl ?_
          refine go_zastore dX10_comesTo_27 (by first | exact Or.inr rfl | exact Or.inl rfl | exact tv_01) (by first | assumption | exact Nat.le_of_ble_eq_true rfl) (by first | assumption | rfl) (by omega) (by omega) ?_
          refine go_iinc dX10_comesTo_28 rfl rfl ⟨by omega, by omega⟩ ?_
          refine go_goto (tgt := 3) dX10_comesTo_31 rfl ?_
          refine go_drop (ih _ _ (by omega) (by omega) ?_ ?_) rfl
          · intro q q0 q1
            rw [ud_s]
            by_cases e : q = i
            · rw [e, uf_same, if_pos h19]
            · rw [uf_ne e]; exact h6 q q0 (by omega)
          · intro q hq; rw [ud_n hq]; exact hf q hq
  refine go_iconst dX10_comesTo_0 rfl ?_
  refine go_istore dX10_comesTo_1 rfl ?_
  exact go_drop (ini 30 0 μ (by omega) (by omega) (fun q q0 q1 => absurd q1 (by omega)) (fun _ _ => rfl)) rfl

set_option maxRecDepth 100000 in
set_option maxHeartbeats 4000000 in
theorem ct_X10_wall {l : Launch} {D : va_G} {cA : Nat → ClassId} {μ : Mem} (hI : mdI (μ 88)) (fr to : Int) : CtN l D cA yX10_wall cX10_wall 5 (some .int) 4 [vr 87, vi fr, vi to] μ (Pi (fun x μ' => x = (if (0 ≤ fr ∧ fr ≤ 29) ∧ (0 ≤ to ∧ to ≤ 29) then sE (vm (μ 88) 34) fr 30 to else -1000000001) ∧ ∀ q, q ≠ 106 → μ' q = μ q)) := by
  refine Ct.of (own := RX10) (by decide +kernel) rfl (fun σ => Nat.le_of_ble_eq_true rfl) (fun hM hP ha => ?_)
  obtain ⟨m87, r88, s88, r89, s89, r90, s90, r91, s91, r92, s92, r93, s93, r94, s94, r95, s95, r96, s96, r97, s97, r98, s98, r99, s99, r100, s100, r101, s101, r102, s102, r103, s103, r104, s104, r105, s105, r106, s106, r107, s107, r108, s108, r109, s109, r110, s110, r111, s111, r112, s112⟩ := md_f
  have loop : ∀ (m : Nat) (t ma : Int) (μ1 : Mem), sE (vm (μ 88) 34) fr 30 to - t = (m : Nat) → ((0 ≤ fr ∧ fr ≤ 29) ∧ (0 ≤ to ∧ to ≤ 29)) → vm (μ 88) 34 fr ≤ t → t ≤ 60 → t ≤ sE (vm (μ 88) 34) fr 30 to → ((μ1 106 to = 1 ↔ sE (vm (μ 88) 34) fr 30 to ≤ t) ∧ (μ1 106 to = 0 ∨ μ1 106 to = 1)) → (∀ q, q ≠ 106 → μ1 q = μ q) → Go l D cA none RX10 cX10_wall 5 (some .int) (4, 0, 0) (QN (Pi (fun x μ' => x = (if (0 ≤ fr ∧ fr ≤ 29) ∧ (0 ≤ to ∧ to ≤ 29) then sE (vm (μ 88) 34) fr 30 to else -1000000001) ∧ ∀ q, q ≠ 106 → μ' q = μ q))) 113 ρ0 0 0 57 [(0, vr 87), (1, vi fr), (2, vi to), (3, vi t), (4, vi ma)] [] μ1 := by
    intro m
    induction m with
    | zero =>
      intro t ma μ1 hm hC ht0 ht60 hts hq hf
      refine go_aload_n dX10_wall_57 rfl ?_
      refine go_getR dX10_wall_58 fl_X10_64 (by first | assumption | exact Nat.le_of_ble_eq_true rfl) (by first | assumption | rfl) rfl (by first | assumption | rfl) ?_
      refine go_iload_n dX10_wall_61 rfl ?_
      refine go_zaload dX10_wall_62 (by first | assumption | exact Nat.le_of_ble_eq_true rfl) (by first | assumption | rfl) (by omega) (by omega) ?_
      first | refine go_bnz (tgt := 81) dX10_wall_63 rfl (fun h63 => ?_) (fun h63 => ?_) | refine go_if_ne (tgt := 81) dX10_wall_63 rfl (fun h63 => ?_) (fun h63 => ?_)
      ·
        refine go_iload_n dX10_wall_81 rfl ?_
        exact go_ri dX10_wall_82 tyI ⟨Nat.le_refl _, Nat.le_refl _⟩ (⟨by rw [if_pos hC]; omega, hf⟩)
      ·
        exact absurd (show sE (vm (μ 88) 34) fr 30 to = t by omega) (by omega)
    | succ m ih =>
      intro t ma μ1 hm hC ht0 ht60 hts hq hf
      have h60 := sE_30 (st := vm (μ 88) 34) (a := fr) (c := to) (by omega) (by omega) (by omega) (by omega) (fun c c0 c1 => (hI.1.2.1 c c0 c1).2)
      have h0s : 0 ≤ vm (μ 88) 34 fr := (hI.1.2.1 fr (by omega) (by omega)).1
      refine go_aload_n dX10_wall_57 rfl ?_
      refine go_getR dX10_wall_58 fl_X10_64 (by first | assumption | exact Nat.le_of_ble_eq_true rfl) (by first | assumption | rfl) rfl (by first | assumption | rfl) ?_
      refine go_iload_n dX10_wall_61 rfl ?_
      refine go_zaload dX10_wall_62 (by first | assumption | exact Nat.le_of_ble_eq_true rfl) (by first | assumption | rfl) (by omega) (by omega) ?_
      first | refine go_bnz (tgt := 81) dX10_wall_63 rfl (fun h63 => ?_) (fun h63 => ?_) | refine go_if_ne (tgt := 81) dX10_wall_63 rfl (fun h63 => ?_) (fun h63 => ?_)
      ·
        refine go_iload_n dX10_wall_81 rfl ?_
        exact go_ri dX10_wall_82 tyI ⟨Nat.le_refl _, Nat.le_refl _⟩ (⟨by rw [if_pos hC]; omega, hf⟩)
      ·
        refine go_iinc dX10_wall_66 rfl rfl ⟨by omega, by omega⟩ ?_
        refine go_aload_n dX10_wall_69 rfl ?_
        refine go_iload_n dX10_wall_70 rfl ?_
        refine go_iconst dX10_wall_71 rfl ?_
        refine go_iload_n dX10_wall_72 rfl ?_
        refine go_vI (ci := 9) dX10_wall_73 (ct_X10_comesTo (vm (μ 88) 34) _ _ _ (by omega) (by omega) (Or.inr rfl) (fun _ => by rw [hf 88 (by decide)]) (fun h => absurd h (by decide))) ml_X10_213 mc_X10_comesTo mv_X10_comesTo rfl (by first | assumption | exact Nat.le_of_ble_eq_true rfl) (by first | assumption | rfl) rfl ⟨rfl, rfl⟩ ⟨Nat.le_refl _, Nat.le_refl _⟩ rfl rfl rfl (fun x73 μ73 hc73 => ?_)
        obtain ⟨rfl, hq73, hf73⟩ := hc73
        have hqt := hq73 to (by omega) (by omega)
        rw [← sE_cE (by omega) (by omega) 30 to] at hqt
        have hfb : ∀ q, q ≠ 106 → μ73 q = μ q := fun q h => (hf73 q h).trans (hf q h)
        refine go_istore dX10_wall_76 rfl ?_
        refine go_goto (tgt := 57) dX10_wall_78 rfl ?_
        exact go_drop (ih _ _ μ73 (by omega) hC (by omega) (by omega) (by omega) hqt hfb) rfl
  refine go_iload_n dX10_wall_0 rfl ?_
  refine go_sI dX10_wall_1 (ct_X10_isCell _) ml_X10_116 mc_X10_isCell ms_X10_isCell ⟨rfl, rfl⟩ ⟨Nat.le_refl _, Nat.le_refl _⟩ rfl rfl rfl (fun x1 μ1 hc1 => ?_)
  obtain ⟨rfl, hm1⟩ := hc1
  rw [hm1]
  first | refine go_bz (tgt := 14) dX10_wall_4 rfl (fun h4 => ?_) (fun h4 => ?_) | refine go_if_eq (tgt := 14) dX10_wall_4 rfl (fun h4 => ?_) (fun h4 => ?_)
  ·
    refine go_ldc dX10_wall_14 kc_X10_126 rfl ?_
    exact go_ri dX10_wall_16 tyI ⟨Nat.le_refl _, Nat.le_refl _⟩ (⟨by rw [if_neg (by omega)], fun _ _ => rfl⟩)
  ·
    refine go_iload_n dX10_wall_7 rfl ?_
    refine go_sI dX10_wall_8 (ct_X10_isCell _) ml_X10_116 mc_X10_isCell ms_X10_isCell ⟨rfl, rfl⟩ ⟨Nat.le_refl _, Nat.le_refl _⟩ rfl rfl rfl (fun x8 μ8 hc8 => ?_)
    obtain ⟨rfl, hm8⟩ := hc8
    rw [hm8]
    first | refine go_bnz (tgt := 17) dX10_wall_11 rfl (fun h11 => ?_) (fun h11 => ?_) | refine go_if_ne (tgt := 17) dX10_wall_11 rfl (fun h11 => ?_) (fun h11 => ?_)
    ·
      have h60 := sE_30 (st := vm (μ 88) 34) (a := fr) (c := to) (by omega) (by omega) (by omega) (by omega) (fun c c0 c1 => (hI.1.2.1 c c0 c1).2)
      have hlo := sE_lo (st := vm (μ 88) 34) (a := fr) (hI.1.2.1 fr (by omega) (by omega)).2 (fun c c0 c1 => (hI.1.2.1 c c0 c1).2) 30 to (by omega) (by omega)
      refine go_aload_n dX10_wall_17 rfl ?_
      refine go_iload_n dX10_wall_18 rfl ?_
      refine go_iconst dX10_wall_19 rfl ?_
      refine go_vI (ci := 9) dX10_wall_20 (ct_X10_of _ _ (by omega) (by omega) (by omega) (by omega)) ml_X10_92 mc_X10_of mv_X10_of rfl (by first | assumption | exact Nat.le_of_ble_eq_true rfl) (by first | assumption | rfl) rfl ⟨rfl, rfl⟩ ⟨Nat.le_refl _, Nat.le_refl _⟩ rfl rfl rfl (fun x20 μ20 hc20 => ?_)
      rw [← vm_34 (f := μ 88) (c := fr) (by omega) (by omega)] at hc20
      obtain ⟨rfl, hm20⟩ := hc20
      rw [hm20]
      refine go_aload_n dX10_wall_23 rfl ?_
      refine go_iload_n dX10_wall_24 rfl ?_
      refine go_iconst dX10_wall_25 rfl ?_
      refine go_vI (ci := 9) dX10_wall_26 (ct_X10_of _ _ (by omega) (by omega) (by omega) (by omega)) ml_X10_92 mc_X10_of mv_X10_of rfl (by first | assumption | exact Nat.le_of_ble_eq_true rfl) (by first | assumption | rfl) rfl ⟨rfl, rfl⟩ ⟨Nat.le_refl _, Nat.le_refl _⟩ rfl rfl rfl (fun x26 μ26 hc26 => ?_)
      rw [← vm_34 (f := μ 88) (c := to) (by omega) (by omega)] at hc26
      obtain ⟨rfl, hm26⟩ := hc26
      rw [hm26]
      refine go_icmp_le (tgt := 41) dX10_wall_29 rfl (fun h29 => ?_) (fun h29 => ?_)
      ·
        refine go_aload_n dX10_wall_41 rfl ?_
        refine go_iload_n dX10_wall_42 rfl ?_
        refine go_iconst dX10_wall_43 rfl ?_
        refine go_vI (ci := 9) dX10_wall_44 (ct_X10_of _ _ (by omega) (by omega) (by omega) (by omega)) ml_X10_92 mc_X10_of mv_X10_of rfl (by first | assumption | exact Nat.le_of_ble_eq_true rfl) (by first | assumption | rfl) rfl ⟨rfl, rfl⟩ ⟨Nat.le_refl _, Nat.le_refl _⟩ rfl rfl rfl (fun x44 μ44 hc44 => ?_)
        rw [← vm_34 (f := μ 88) (c := to) (by omega) (by omega)] at hc44
        obtain ⟨rfl, hm44⟩ := hc44
        rw [hm44]
        refine go_istore_n dX10_wall_47 rfl ?_
        refine go_aload_n dX10_wall_48 rfl ?_
        refine go_iload_n dX10_wall_49 rfl ?_
        refine go_iconst dX10_wall_50 rfl ?_
        refine go_iload_n dX10_wall_51 rfl ?_
        refine go_vI (ci := 9) dX10_wall_52 (ct_X10_comesTo (vm (μ 88) 34) _ _ _ (by omega) (by omega) (Or.inr rfl) (fun _ => rfl) (fun h => absurd h (by decide))) ml_X10_213 mc_X10_comesTo mv_X10_comesTo rfl (by first | assumption | exact Nat.le_of_ble_eq_true rfl) (by first | assumption | rfl) rfl ⟨rfl, rfl⟩ ⟨Nat.le_refl _, Nat.le_refl _⟩ rfl rfl rfl (fun x52 μ52 hc52 => ?_)
        obtain ⟨rfl, hq52, hf52⟩ := hc52
        have hqt := hq52 to (by omega) (by omega)
        rw [← sE_cE (by omega) (by omega) 30 to] at hqt
        refine go_istore dX10_wall_55 rfl ?_
        exact go_drop (loop (sE (vm (μ 88) 34) fr 30 to - vm (μ 88) 34 to).toNat _ _ μ52 (by omega) (by omega) (by omega) (by omega) (by omega) hqt hf52) rfl
      ·
        refine go_aload_n dX10_wall_32 rfl ?_
        refine go_iload_n dX10_wall_33 rfl ?_
        refine go_iconst dX10_wall_34 rfl ?_
        refine go_vI (ci := 9) dX10_wall_35 (ct_X10_of _ _ (by omega) (by omega) (by omega) (by omega)) ml_X10_92 mc_X10_of mv_X10_of rfl (by first | assumption | exact Nat.le_of_ble_eq_true rfl) (by first | assumption | rfl) rfl ⟨rfl, rfl⟩ ⟨Nat.le_refl _, Nat.le_refl _⟩ rfl rfl rfl (fun x35 μ35 hc35 => ?_)
        rw [← vm_34 (f := μ 88) (c := fr) (by omega) (by omega)] at hc35
        obtain ⟨rfl, hm35⟩ := hc35
        rw [hm35]
        refine go_goto (tgt := 47) dX10_wall_38 rfl ?_
        refine go_istore_n dX10_wall_47 rfl ?_
        refine go_aload_n dX10_wall_48 rfl ?_
        refine go_iload_n dX10_wall_49 rfl ?_
        refine go_iconst dX10_wall_50 rfl ?_
        refine go_iload_n dX10_wall_51 rfl ?_
        refine go_vI (ci := 9) dX10_wall_52 (ct_X10_comesTo (vm (μ 88) 34) _ _ _ (by omega) (by omega) (Or.inr rfl) (fun _ => rfl) (fun h => absurd h (by decide))) ml_X10_213 mc_X10_comesTo mv_X10_comesTo rfl (by first | assumption | exact Nat.le_of_ble_eq_true rfl) (by first | assumption | rfl) rfl ⟨rfl, rfl⟩ ⟨Nat.le_refl _, Nat.le_refl _⟩ rfl rfl rfl (fun x52 μ52 hc52 => ?_)
        obtain ⟨rfl, hq52, hf52⟩ := hc52
        have hqt := hq52 to (by omega) (by omega)
        rw [← sE_cE (by omega) (by omega) 30 to] at hqt
        refine go_istore dX10_wall_55 rfl ?_
        exact go_drop (loop (sE (vm (μ 88) 34) fr 30 to - vm (μ 88) 34 fr).toNat _ _ μ52 (by omega) (by omega) (by omega) (by omega) (by omega) hqt hf52) rfl
    ·
      refine go_ldc dX10_wall_14 kc_X10_126 rfl ?_
      exact go_ri dX10_wall_16 tyI ⟨Nat.le_refl _, Nat.le_refl _⟩ (⟨by rw [if_neg (by omega)], fun _ _ => rfl⟩)

set_option maxRecDepth 100000 in
set_option maxHeartbeats 4000000 in
theorem ct_X10_reach {l : Launch} {D : va_G} {cA : Nat → ClassId} {μ : Mem} (hI : mdI (μ 88)) (c w : Int) : CtN l D cA yX10_reach cX10_reach 3 (some .int) 8 [vr 87, vi c, vi w] μ (Pi (fun x μ' => x = (if (0 ≤ c ∧ c ≤ 29) ∧ 0 ≤ w ∧ w ≤ 99999 then ((cnt (fun q => decide (cE (rkC (vm (μ 88)) 32) w c 30 q < 536870912)) 30 : Nat) : Int) else -1000000001) ∧ ∀ q, q ≠ 101 → q ≠ 106 → q ≠ 108 → q ≠ 109 → μ' q = μ q)) := by
  refine Ct.of (own := RX10) (by decide +kernel) rfl (fun σ => Nat.le_of_ble_eq_true rfl) (fun hM hP ha => ?_)
  obtain ⟨m87, r88, s88, r89, s89, r90, s90, r91, s91, r92, s92, r93, s93, r94, s94, r95, s95, r96, s96, r97, s97, r98, s98, r99, s99, r100, s100, r101, s101, r102, s102, r103, s103, r104, s104, r105, s105, r106, s106, r107, s107, r108, s108, r109, s109, r110, s110, r111, s111, r112, s112⟩ := md_f
  refine go_iload_n dX10_reach_0 rfl ?_
  refine go_sI dX10_reach_1 (ct_X10_isCell _) ml_X10_116 mc_X10_isCell ms_X10_isCell ⟨rfl, rfl⟩ ⟨Nat.le_refl _, Nat.le_refl _⟩ rfl rfl rfl (fun x1 μ1 hc1 => ?_)
  obtain ⟨rfl, hm1⟩ := hc1
  rw [hm1]
  first | refine go_bz (tgt := 14) dX10_reach_4 rfl (fun h4 => ?_) (fun h4 => ?_) | refine go_if_eq (tgt := 14) dX10_reach_4 rfl (fun h4 => ?_) (fun h4 => ?_)
  ·
    refine go_ldc dX10_reach_14 kc_X10_126 rfl ?_
    exact go_ri dX10_reach_16 tyI ⟨Nat.le_refl _, Nat.le_refl _⟩ (⟨by rw [if_neg (by omega)], fun _ _ _ _ _ => rfl⟩)
  ·
    refine go_iload_n dX10_reach_7 rfl ?_
    refine go_sI dX10_reach_8 (ct_X10_isBound _) ml_X10_197 mc_X10_isBound ms_X10_isBound ⟨rfl, rfl⟩ ⟨Nat.le_refl _, Nat.le_refl _⟩ rfl rfl rfl (fun x8 μ8 hc8 => ?_)
    obtain ⟨rfl, hm8⟩ := hc8
    rw [hm8]
    first | refine go_bnz (tgt := 17) dX10_reach_11 rfl (fun h11 => ?_) (fun h11 => ?_) | refine go_if_ne (tgt := 17) dX10_reach_11 rfl (fun h11 => ?_) (fun h11 => ?_)
    ·
      refine go_aload_n dX10_reach_17 rfl ?_
      refine go_vV (ci := 9) dX10_reach_18 (ct_X10_knowsRisks hI) ml_X10_201 mc_X10_knowsRisks mv_X10_knowsRisks rfl (by first | assumption | exact Nat.le_of_ble_eq_true rfl) (by first | assumption | rfl) rfl ⟨rfl, rfl⟩ ⟨Nat.le_refl _, Nat.le_refl _⟩ rfl rfl rfl (fun μ18 hc18 => ?_)
      obtain ⟨hk18, hf18⟩ := hc18
      refine go_aload_n dX10_reach_21 rfl ?_
      refine go_iload_n dX10_reach_22 rfl ?_
      refine go_iconst dX10_reach_23 rfl ?_
      refine go_iload_n dX10_reach_24 rfl ?_
      refine go_vI (ci := 9) dX10_reach_25 (ct_X10_comesTo (rkC (vm (μ 88)) 32) _ _ _ (by omega) (by omega) (Or.inl rfl) (fun h => absurd h (by decide)) (fun _ => hk18)) ml_X10_213 mc_X10_comesTo mv_X10_comesTo rfl (by first | assumption | exact Nat.le_of_ble_eq_true rfl) (by first | assumption | rfl) rfl ⟨rfl, rfl⟩ ⟨Nat.le_refl _, Nat.le_refl _⟩ rfl rfl rfl (fun x25 μ25 hc25 => ?_)
      obtain ⟨rfl, hq25, hf25⟩ := hc25
      exact go_ri dX10_reach_28 tyI ⟨Nat.le_refl _, Nat.le_refl _⟩ (⟨by rw [if_pos (by omega)], fun q x1 x2 x3 x4 => (hf25 q x2).trans (hf18 q x1 x3 x4)⟩)
    ·
      refine go_ldc dX10_reach_14 kc_X10_126 rfl ?_
      exact go_ri dX10_reach_16 tyI ⟨Nat.le_refl _, Nat.le_refl _⟩ (⟨by rw [if_neg (by omega)], fun _ _ _ _ _ => rfl⟩)

