/-! CALLS THAT ONLY TELL: both answer alike -/
theorem gE_cg {g g' : Int → Int → Int} {s s' : Int → Int} (hg : ∀ v c, 0 ≤ c → c < 30 → g v c = g' v c) (hs : EqR s s') : ∀ k : Nat, EqR (gE g s k) (gE g' s' k)
  | 0 => hs
  | k + 1 => fun c c0 c1 => by
    have ih := gE_cg hg hs k
    show min (gE g s k c) (g (lb (gE g s k) c) c) = min (gE g' s' k c) (g' (lb (gE g' s' k) c) c)
    rw [ih c c0 c1, lb_cg c0 c1 ih, hg _ c c0 c1]
theorem bE_cg {rk rk' : Int → Int} {a : Int} (h : EqR rk rk') (k : Nat) : EqR (bE rk a k) (bE rk' a k) := gE_cg (fun v c c0 c1 => by show v + rk c = v + rk' c; rw [h c c0 c1]) (fun _ _ _ => rfl) k
theorem sE_cg {st st' : Int → Int} {a : Int} (a0 : 0 ≤ a) (a1 : a < 30) (h : EqR st st') (k : Nat) : EqR (sE st a k) (sE st' a k) := gE_cg (fun v c c0 c1 => by show max v (st c) = max v (st' c); rw [h c c0 c1]) (fun c c0 c1 => by show (if c = a then st a else 536870912) = (if c = a then st' a else 536870912); rw [h a a0 a1]) k
theorem cE_cg {rk rk' : Int → Int} {w a : Int} (h : EqR rk rk') (k : Nat) : EqR (cE rk w a k) (cE rk' w a k) := gE_cg (fun v c c0 c1 => by show (if rk c ≤ w ∧ v < 536870912 then (0 : Int) else 536870912) = (if rk' c ≤ w ∧ v < 536870912 then 0 else 536870912); rw [h c c0 c1]) (fun _ _ _ => rfl) k
theorem wD_cg {rk rk' : Int → Int} {a : Int} (h : EqR rk rk') : ∀ k : Nat, EqR (wD rk a k) (wD rk' a k)
  | 0 => fun _ _ _ => rfl
  | k + 1 => fun c c0 c1 => by
    have ih := wD_cg (a := a) h k
    show min (wD rk a k c) (mB (wD rk a k) rk c) = min (wD rk' a k c) (mB (wD rk' a k) rk' c)
    have e : mB (wD rk a k) rk c = mB (wD rk' a k) rk' c := by unfold mB; rw [bdS_cg c0 c1 ih h]
    rw [ih c c0 c1, e]
theorem brN_sv {sv sv' : Int → Int → Int} {f rk : Int → Int} (h : ∀ a b, 0 ≤ b → b < 30 → sv a b = sv' a b) : ∀ (n : Nat) (c : Int), 0 ≤ c → c < 30 → brN sv f rk n c = brN sv' f rk n c
  | 0, _, _, _ => rfl
  | n + 1, c, c0, c1 => by
    rw [brN_s, brN_s]
    rcases nb_r (d := bD f rk c) c0 c1 with e | e
    · rw [if_pos e, if_pos e]
    · rw [if_neg (by omega), if_neg (by omega), h _ _ e.1 e.2, brN_sv h n _ e.1 e.2]
theorem wyV_cg {sv sv' : Int → Int → Int} {rk rk' : Int → Int} {fr to what : Int} (h : EqR rk rk') (hsv : ∀ a b, 0 ≤ b → b < 30 → sv a b = sv' a b) (f0 : 0 ≤ fr) (f1 : fr < 30) : wyV sv rk fr to what = wyV sv' rk' fr to what := by
  have hw : EqR (wF rk to) (wF rk' to) := wD_cg h 29
  unfold wyV
  rw [hw fr f0 f1, brN_cg hw h _ _ f0 f1, brN_sv hsv _ _ f0 f1, ceN_cg hw h _ _ f0 f1]
theorem trS_cg {g g' : Int → Int} : ∀ n : Nat, (∀ i : Int, 0 ≤ i → i < (n : Nat) → g i = g' i) → trS g n = trS g' n
  | 0, _ => rfl
  | n + 1, h => by
    show trS g n + (if 1 ≤ n then g (n : Nat) else 0) = trS g' n + (if 1 ≤ n then g' (n : Nat) else 0)
    rw [trS_cg n (fun i a b => h i a (by omega)), h (n : Nat) (by omega) (by omega)]
theorem mxN_cg {g g' : Int → Int} : ∀ n : Nat, (∀ i : Int, 0 ≤ i → i < (n : Nat) → g i = g' i) → mxN g n = mxN g' n
  | 0, _ => rfl
  | n + 1, h => by
    show max (mxN g n) (g (n : Nat)) = max (mxN g' n) (g' (n : Nat))
    rw [mxN_cg n (fun i a b => h i a (by omega)), h (n : Nat) (by omega) (by omega)]
theorem trT_cg {t t' : Int → Int} : ∀ n : Nat, (∀ i : Int, 0 ≤ i → i < (n : Nat) → t i = t' i) → trT t n = trT t' n
  | 0, _ => rfl
  | n + 1, h => by
    have ih := trT_cg n (fun i a b => h i a (by omega))
    by_cases e : 2 ≤ n
    · show trT t n + (if 2 ≤ n ∧ t (n : Nat) - t ((n : Nat) - 1) ≠ t ((n : Nat) - 1) - t ((n : Nat) - 2) then 1 else 0) = trT t' n + (if 2 ≤ n ∧ t' (n : Nat) - t' ((n : Nat) - 1) ≠ t' ((n : Nat) - 1) - t' ((n : Nat) - 2) then 1 else 0)
      rw [ih, h (n : Nat) (by omega) (by omega), h ((n : Nat) - 1) (by omega) (by omega), h ((n : Nat) - 2) (by omega) (by omega)]
    · show trT t n + (if 2 ≤ n ∧ t (n : Nat) - t ((n : Nat) - 1) ≠ t ((n : Nat) - 1) - t ((n : Nat) - 2) then 1 else 0) = trT t' n + (if 2 ≤ n ∧ t' (n : Nat) - t' ((n : Nat) - 1) ≠ t' ((n : Nat) - 1) - t' ((n : Nat) - 2) then 1 else 0)
      rw [ih, if_neg (fun q => e q.1), if_neg (fun q => e q.1)]
theorem tbk_cg {g g' : Int → Int} {r : Int} : ∀ (m : Nat) (i : Int), 0 ≤ i → (∀ j : Int, i ≤ j → j < i + (m : Nat) → g j = g' j) → tbk g r m i = tbk g' r m i
  | 0, _, _, _ => rfl
  | m + 1, i, h0, h => by
    show (if r < g i then i else tbk g r m (i + 1)) = (if r < g' i then i else tbk g' r m (i + 1))
    rw [h i (by omega) (by omega), tbk_cg m (i + 1) (by omega) (fun j a b => h j (by omega) (by omega))]
theorem rdN_cg {row row' rk rk' : Int → Int} : ∀ (m : Nat) (i : Int), 0 ≤ i → (∀ j : Int, i ≤ j → j < i + (m : Nat) → row j = row' j ∧ rk j = rk' j) → rdN row rk m i = rdN row' rk' m i
  | 0, _, _, _ => rfl
  | m + 1, i, h0, h => by
    show (if row i ≠ -1000000005 ∧ row i ≠ rk i then i else rdN row rk m (i + 1)) = (if row' i ≠ -1000000005 ∧ row' i ≠ rk' i then i else rdN row' rk' m (i + 1))
    rw [(h i (by omega) (by omega)).1, (h i (by omega) (by omega)).2, rdN_cg m (i + 1) (by omega) (fun j a b => h j (by omega) (by omega))]
theorem sim_s {μ : Mem} (h : Sim μ) : SM μ 32 (μ 88) := h.1

theorem trS_cg1 {g g' : Int → Int} : ∀ n : Nat, (∀ i : Int, 1 ≤ i → i < (n : Nat) → g i = g' i) → trS g n = trS g' n
  | 0, _ => rfl
  | n + 1, h => by
    have ih := trS_cg1 n (fun i a b => h i a (by omega))
    show trS g n + (if 1 ≤ n then g (n : Nat) else 0) = trS g' n + (if 1 ≤ n then g' (n : Nat) else 0)
    by_cases e : 1 ≤ n
    · rw [ih, h (n : Nat) (by omega) (by omega)]
    · rw [ih, if_neg e, if_neg e]

theorem st_told {μ μ1 μ2 : Mem} {x y : Int} (cell what : Int) (hS : Sim μ) (h1 : (fun x μ' => x = (if 0 ≤ cell ∧ cell ≤ 29 then (if what = 0 then μ 33 cell else if what = 1 then μ 34 cell else if what = 2 then μ 35 cell else if what = 3 then prC μ 32 cell else if what = 4 then abv (prC μ 32) cell else if what = 5 then rkC μ 32 cell else if what = 6 then kHold (μ 33 cell) (plainH (LM μ 32) (μ 34 cell) (cell / 6)) (sunV (μ 32 9)) else if what = 7 then kWorth (μ 33 cell) (μ 34 cell) (μ 35 cell) else -1000000001) else -1000000001) ∧ ∀ q, q ≠ 3 → μ' q = μ q) x μ1) (h2 : (fun x μ' => x = (if 0 ≤ cell ∧ cell ≤ 29 then (if what = 0 then vm (μ1 88) 33 cell else if what = 1 then vm (μ1 88) 34 cell else if what = 2 then vm (μ1 88) 35 cell else if what = 3 then prC (vm (μ1 88)) 32 cell else if what = 4 then abv (prC (vm (μ1 88)) 32) cell else if what = 5 then rkC (vm (μ1 88)) 32 cell else if what = 6 then kHold (vm (μ1 88) 33 cell) (plainH (LM (vm (μ1 88)) 32) (vm (μ1 88) 34 cell) (cell / 6)) (sunV (μ1 88 3)) else if what = 7 then kWorth (vm (μ1 88) 33 cell) (vm (μ1 88) 34 cell) (vm (μ1 88) 35 cell) else -1000000001) else -1000000001) ∧ ∀ q, q ≠ 108 → q ≠ 109 → μ' q = μ1 q) y μ2) : x = y ∧ Sim μ2 := by
  obtain ⟨e1, f1⟩ := h1
  obtain ⟨e2, f2⟩ := h2
  have hs := sim_s hS
  have h88 : μ1 88 = μ 88 := f1 88 (by decide)
  refine ⟨?_, sim_keep hS (fun q hq => (f2 q (by unfold scr at *; omega) (by unfold scr at *; omega)).trans (f1 q (by unfold scr at *; omega)))⟩
  rw [e1, e2, h88]
  by_cases hc : 0 ≤ cell ∧ cell ≤ 29
  · have b1 : cell < 30 := by omega
    rw [if_pos hc, if_pos hc]
    have e3 : μ 33 cell = vm (μ 88) 33 cell := sm_k hs cell hc.1 b1
    have e4 : μ 34 cell = vm (μ 88) 34 cell := sm_s hs cell hc.1 b1
    have e5 : μ 35 cell = vm (μ 88) 35 cell := sm_l hs cell hc.1 b1
    have e6 : μ 32 9 = μ 88 3 := (sm_n hs).2.2.1
    rw [e3, e4, e5, e6, sm_pr hs cell hc.1 b1, sm_ab hs cell hc.1 b1, sm_rk hs cell hc.1 b1, hs.2.2.2]
  · rw [if_neg hc, if_neg hc]
theorem st_as {μ μ1 μ2 : Mem} {x y : Int} (cell kind : Int) (hS : Sim μ) (h1 : (fun x μ' => x = (if 0 ≤ cell ∧ cell ≤ 29 ∧ 0 ≤ kind ∧ kind ≤ 5 then (if isUb (μ 33 cell) kind = true then μ 34 cell else -1000000012) else -1000000001) ∧ μ' = μ) x μ1) (h2 : (fun x μ' => x = (if 0 ≤ cell ∧ cell ≤ 29 ∧ 0 ≤ kind ∧ kind ≤ 5 then (if isUb (vm (μ1 88) 33 cell) kind = true then vm (μ1 88) 34 cell else -1000000012) else -1000000001) ∧ μ' = μ1) y μ2) : x = y ∧ Sim μ2 := by
  obtain ⟨e1, f1⟩ := h1
  obtain ⟨e2, f2⟩ := h2
  have hs := sim_s hS
  have h88 : μ1 88 = μ 88 := (congrFun f1 88)
  refine ⟨?_, sim_keep hS (fun q hq => ((congrFun f2 q)).trans ((congrFun f1 q)))⟩
  rw [e1, e2, h88]
  by_cases hc : 0 ≤ cell ∧ cell ≤ 29 ∧ 0 ≤ kind ∧ kind ≤ 5
  · have b1 : cell < 30 := by omega
    rw [if_pos hc, if_pos hc]
    have e3 : μ 33 cell = vm (μ 88) 33 cell := sm_k hs cell hc.1 b1
    have e4 : μ 34 cell = vm (μ 88) 34 cell := sm_s hs cell hc.1 b1
    rw [e3, e4]
  · rw [if_neg hc, if_neg hc]
theorem st_at {μ μ1 μ2 : Mem} {x y : Int} (i : Int) (hS : Sim μ) (h1 : (fun x μ' => x = (if i < 0 then -1000000001 else if i < μ 32 7 then μ 36 i else -1000000005) ∧ μ' = μ) x μ1) (h2 : (fun x μ' => x = (if i < 0 then -1000000001 else if i < μ1 88 0 then vm (μ1 88) 36 i else -1000000005) ∧ μ' = μ1) y μ2) : x = y ∧ Sim μ2 := by
  obtain ⟨e1, f1⟩ := h1
  obtain ⟨e2, f2⟩ := h2
  have hs := sim_s hS
  have h88 : μ1 88 = μ 88 := (congrFun f1 88)
  refine ⟨?_, sim_keep hS (fun q hq => ((congrFun f2 q)).trans ((congrFun f1 q)))⟩
  rw [e1, e2, h88]
  have e7 : μ 32 7 = μ 88 0 := (sm_n hs).1
  have hb : μ 32 7 ≤ 24 := hs.1.2.2.2.2.1.2
  rw [← e7]
  by_cases h0 : i < 0
  · rw [if_pos h0, if_pos h0]
  · rw [if_neg h0, if_neg h0]
    by_cases h1 : i < μ 32 7
    · rw [if_pos h1, if_pos h1]; exact sm_t hs i (by omega) (by omega)
    · rw [if_neg h1, if_neg h1]
theorem st_along {μ μ1 μ2 : Mem} {x y : Int} (what : Int) (hS : Sim μ) (h1 : (fun x μ' => x = (if 0 ≤ what ∧ what ≤ 4 then (if μ 32 7 = 0 then -1000000005 else if what = 0 then trS (fun i => rkC μ 32 (μ 36 i)) (μ 32 7).toNat else if what = 1 then trS (fun i => stepV (LM μ 32) (μ 34 (μ 36 i)) (upV (μ 36 (i - 1)) (μ 36 i))) (μ 32 7).toNat else if what = 2 then trT (μ 36) (μ 32 7).toNat else if what = 3 then mxN (fun i => μ 34 (μ 36 i)) (μ 32 7).toNat else mxN (fun i => rkC μ 32 (μ 36 i)) (μ 32 7).toNat) else -1000000001) ∧ ∀ q, q ≠ 3 → q ≠ 37 → μ' q = μ q) x μ1) (h2 : (fun x μ' => x = (if 0 ≤ what ∧ what ≤ 4 then (if μ1 88 0 = 0 then -1000000005 else if what = 0 then trS (fun i => rkC (vm (μ1 88)) 32 (vm (μ1 88) 36 i)) (μ1 88 0).toNat else if what = 1 then trS (fun i => stepV (LM (vm (μ1 88)) 32) (vm (μ1 88) 34 (vm (μ1 88) 36 i)) (upV (vm (μ1 88) 36 (i - 1)) (vm (μ1 88) 36 i))) (μ1 88 0).toNat else if what = 2 then trT (vm (μ1 88) 36) (μ1 88 0).toNat else if what = 3 then mxN (fun i => vm (μ1 88) 34 (vm (μ1 88) 36 i)) (μ1 88 0).toNat else mxN (fun i => rkC (vm (μ1 88)) 32 (vm (μ1 88) 36 i)) (μ1 88 0).toNat) else -1000000001) ∧ ∀ q, q ≠ 108 → q ≠ 109 → μ' q = μ1 q) y μ2) : x = y ∧ Sim μ2 := by
  obtain ⟨e1, f1⟩ := h1
  obtain ⟨e2, f2⟩ := h2
  have hs := sim_s hS
  have h88 : μ1 88 = μ 88 := f1 88 (by decide) (by decide)
  refine ⟨?_, sim_keep hS (fun q hq => (f2 q (by unfold scr at *; omega) (by unfold scr at *; omega)).trans (f1 q (by unfold scr at *; omega) (by unfold scr at *; omega)))⟩
  rw [e1, e2, h88]
  have e7 : μ 32 7 = μ 88 0 := (sm_n hs).1
  have hb : μ 32 7 ≤ 24 := hs.1.2.2.2.2.1.2
  have ht : ∀ i : Int, 0 ≤ i → i < ((μ 32 7).toNat : Nat) → μ 36 i = vm (μ 88) 36 i := fun i a b => sm_t hs i a (by omega)
  have hr : ∀ i : Int, 0 ≤ i → i < ((μ 32 7).toNat : Nat) → 0 ≤ vm (μ 88) 36 i ∧ vm (μ 88) 36 i < 30 := fun i a b => hs.2.1.1.2.2.2.1 i a (by omega)
  rw [← e7]
  have g1 : trS (fun i => rkC μ 32 (μ 36 i)) (μ 32 7).toNat = trS (fun i => rkC (vm (μ 88)) 32 (vm (μ 88) 36 i)) (μ 32 7).toNat := trS_cg _ (fun i a b => by show rkC μ 32 (μ 36 i) = _; rw [ht i a b]; exact sm_rk hs _ (hr i a b).1 (hr i a b).2)
  have g2 : mxN (fun i => rkC μ 32 (μ 36 i)) (μ 32 7).toNat = mxN (fun i => rkC (vm (μ 88)) 32 (vm (μ 88) 36 i)) (μ 32 7).toNat := mxN_cg _ (fun i a b => by show rkC μ 32 (μ 36 i) = _; rw [ht i a b]; exact sm_rk hs _ (hr i a b).1 (hr i a b).2)
  have g3 : trT (μ 36) (μ 32 7).toNat = trT (vm (μ 88) 36) (μ 32 7).toNat := trT_cg _ ht
  have g4 : mxN (fun i => μ 34 (μ 36 i)) (μ 32 7).toNat = mxN (fun i => vm (μ 88) 34 (vm (μ 88) 36 i)) (μ 32 7).toNat := mxN_cg _ (fun i a b => by show μ 34 (μ 36 i) = _; rw [ht i a b]; exact sm_s hs _ (hr i a b).1 (hr i a b).2)
  have g5 : trS (fun i => stepV (LM μ 32) (μ 34 (μ 36 i)) (upV (μ 36 (i - 1)) (μ 36 i))) (μ 32 7).toNat = trS (fun i => stepV (LM (vm (μ 88)) 32) (vm (μ 88) 34 (vm (μ 88) 36 i)) (upV (vm (μ 88) 36 (i - 1)) (vm (μ 88) 36 i))) (μ 32 7).toNat := by
    refine trS_cg1 _ (fun i a b => ?_)
    show stepV (LM μ 32) (μ 34 (μ 36 i)) (upV (μ 36 (i - 1)) (μ 36 i)) = _
    rw [ht i (by omega) b, ht (i - 1) (by omega) (by omega), hs.2.2.2]
    have e9 : μ 34 (vm (μ 88) 36 i) = vm (μ 88) 34 (vm (μ 88) 36 i) := sm_s hs _ (hr i (by omega) b).1 (hr i (by omega) b).2
    rw [e9]
  rw [g1, g2, g3, g4, g5]
theorem st_turnBack {μ μ1 μ2 : Mem} {x y : Int} (r : Int) (hS : Sim μ) (h1 : (fun x μ' => x = (if 0 ≤ r ∧ r ≤ 99999 then tbk (fun i => rkC μ 32 (μ 36 i)) r (μ 32 7).toNat 0 else -1000000001) ∧ ∀ q, q ≠ 3 → q ≠ 37 → μ' q = μ q) x μ1) (h2 : (fun x μ' => x = (if 0 ≤ r ∧ r ≤ 99999 then tbk (fun i => rkC (vm (μ1 88)) 32 (vm (μ1 88) 36 i)) r (μ1 88 0).toNat 0 else -1000000001) ∧ ∀ q, q ≠ 108 → q ≠ 109 → μ' q = μ1 q) y μ2) : x = y ∧ Sim μ2 := by
  obtain ⟨e1, f1⟩ := h1
  obtain ⟨e2, f2⟩ := h2
  have hs := sim_s hS
  have h88 : μ1 88 = μ 88 := f1 88 (by decide) (by decide)
  refine ⟨?_, sim_keep hS (fun q hq => (f2 q (by unfold scr at *; omega) (by unfold scr at *; omega)).trans (f1 q (by unfold scr at *; omega) (by unfold scr at *; omega)))⟩
  rw [e1, e2, h88]
  have e7 : μ 32 7 = μ 88 0 := (sm_n hs).1
  have hb : μ 32 7 ≤ 24 := hs.1.2.2.2.2.1.2
  have ht : ∀ i : Int, 0 ≤ i → i < ((μ 32 7).toNat : Nat) → μ 36 i = vm (μ 88) 36 i := fun i a b => sm_t hs i a (by omega)
  have hr : ∀ i : Int, 0 ≤ i → i < ((μ 32 7).toNat : Nat) → 0 ≤ vm (μ 88) 36 i ∧ vm (μ 88) 36 i < 30 := fun i a b => hs.2.1.1.2.2.2.1 i a (by omega)
  rw [← e7, tbk_cg (g := fun i => rkC μ 32 (μ 36 i)) (g' := fun i => rkC (vm (μ 88)) 32 (vm (μ 88) 36 i)) (μ 32 7).toNat 0 (by omega) (fun j a b => by show rkC μ 32 (μ 36 j) = _; rw [ht j a (by omega)]; exact sm_rk hs _ (hr j a (by omega)).1 (hr j a (by omega)).2)]
theorem st_way {μ μ1 μ2 : Mem} {x y : Int} (fr to what : Int) (hS : Sim μ) (h1 : (fun x μ' => x = (if (0 ≤ fr ∧ fr ≤ 29) ∧ (0 ≤ to ∧ to ≤ 29) ∧ 0 ≤ what ∧ ¬ (3 ≤ what ∧ what ≤ 9) then wyV (svC μ 32) (rkC μ 32) fr to what else -1000000001) ∧ ∀ q, q ≠ 3 → q ≠ 37 → q ≠ 54 → μ' q = μ q) x μ1) (h2 : (fun x μ' => x = (if (0 ≤ fr ∧ fr ≤ 29) ∧ (0 ≤ to ∧ to ≤ 29) ∧ 0 ≤ what ∧ ¬ (3 ≤ what ∧ what ≤ 9) then wyV (svC (vm (μ1 88)) 32) (rkC (vm (μ1 88)) 32) fr to what else -1000000001) ∧ ∀ q, q ≠ 101 → q ≠ 102 → q ≠ 103 → q ≠ 104 → q ≠ 108 → q ≠ 109 → μ' q = μ1 q) y μ2) : x = y ∧ Sim μ2 := by
  obtain ⟨e1, f1⟩ := h1
  obtain ⟨e2, f2⟩ := h2
  have hs := sim_s hS
  have h88 : μ1 88 = μ 88 := f1 88 (by decide) (by decide) (by decide)
  refine ⟨?_, sim_keep hS (fun q hq => (f2 q (by unfold scr at *; omega) (by unfold scr at *; omega) (by unfold scr at *; omega) (by unfold scr at *; omega) (by unfold scr at *; omega) (by unfold scr at *; omega)).trans (f1 q (by unfold scr at *; omega) (by unfold scr at *; omega) (by unfold scr at *; omega)))⟩
  rw [e1, e2, h88]
  by_cases hc : (0 ≤ fr ∧ fr ≤ 29) ∧ (0 ≤ to ∧ to ≤ 29) ∧ 0 ≤ what ∧ ¬ (3 ≤ what ∧ what ≤ 9)
  · rw [if_pos hc, if_pos hc]
    exact wyV_cg (sm_rk hs) (fun a b b0 b1 => sm_sv hs b0 b1) (by omega) (by omega)
  · rw [if_neg hc, if_neg hc]
theorem st_bound {μ μ1 μ2 : Mem} {x y : Int} (fr to n : Int) (hS : Sim μ) (h1 : (fun x μ' => x = (if (0 ≤ fr ∧ fr ≤ 29) ∧ (0 ≤ to ∧ to ≤ 29) ∧ 0 ≤ n ∧ n ≤ 40 then (if bE (rkC μ 32) fr n.toNat to < 536870912 then bE (rkC μ 32) fr n.toNat to else -1000000005) else -1000000001) ∧ ∀ q, q ≠ 3 → q ≠ 37 → q ≠ 54 → q ≠ 55 → μ' q = μ q) x μ1) (h2 : (fun x μ' => x = (if (0 ≤ fr ∧ fr ≤ 29) ∧ (0 ≤ to ∧ to ≤ 29) ∧ 0 ≤ n ∧ n ≤ 40 then (if bE (rkC (vm (μ1 88)) 32) fr n.toNat to < 536870912 then bE (rkC (vm (μ1 88)) 32) fr n.toNat to else -1000000005) else -1000000001) ∧ ∀ q, q ≠ 101 → q ≠ 102 → q ≠ 105 → q ≠ 108 → q ≠ 109 → μ' q = μ1 q) y μ2) : x = y ∧ Sim μ2 := by
  obtain ⟨e1, f1⟩ := h1
  obtain ⟨e2, f2⟩ := h2
  have hs := sim_s hS
  have h88 : μ1 88 = μ 88 := f1 88 (by decide) (by decide) (by decide) (by decide)
  refine ⟨?_, sim_keep hS (fun q hq => (f2 q (by unfold scr at *; omega) (by unfold scr at *; omega) (by unfold scr at *; omega) (by unfold scr at *; omega) (by unfold scr at *; omega)).trans (f1 q (by unfold scr at *; omega) (by unfold scr at *; omega) (by unfold scr at *; omega) (by unfold scr at *; omega)))⟩
  rw [e1, e2, h88]
  by_cases hc : (0 ≤ fr ∧ fr ≤ 29) ∧ (0 ≤ to ∧ to ≤ 29) ∧ 0 ≤ n ∧ n ≤ 40
  · rw [if_pos hc, if_pos hc, bE_cg (sm_rk hs) n.toNat to (by omega) (by omega)]
  · rw [if_neg hc, if_neg hc]
theorem st_wall {μ μ1 μ2 : Mem} {x y : Int} (fr to : Int) (hS : Sim μ) (h1 : (fun x μ' => x = (if (0 ≤ fr ∧ fr ≤ 29) ∧ (0 ≤ to ∧ to ≤ 29) then sE (μ 34) fr 30 to else -1000000001) ∧ ∀ q, q ≠ 54 → q ≠ 55 → μ' q = μ q) x μ1) (h2 : (fun x μ' => x = (if (0 ≤ fr ∧ fr ≤ 29) ∧ (0 ≤ to ∧ to ≤ 29) then sE (vm (μ1 88) 34) fr 30 to else -1000000001) ∧ ∀ q, q ≠ 106 → μ' q = μ1 q) y μ2) : x = y ∧ Sim μ2 := by
  obtain ⟨e1, f1⟩ := h1
  obtain ⟨e2, f2⟩ := h2
  have hs := sim_s hS
  have h88 : μ1 88 = μ 88 := f1 88 (by decide) (by decide)
  refine ⟨?_, sim_keep hS (fun q hq => (f2 q (by unfold scr at *; omega)).trans (f1 q (by unfold scr at *; omega) (by unfold scr at *; omega)))⟩
  rw [e1, e2, h88]
  by_cases hc : (0 ≤ fr ∧ fr ≤ 29) ∧ (0 ≤ to ∧ to ≤ 29)
  · rw [if_pos hc, if_pos hc]
    exact sE_cg (by omega) (by omega) (sm_s hs) 30 to (by omega) (by omega)
  · rw [if_neg hc, if_neg hc]
theorem st_reach {μ μ1 μ2 : Mem} {x y : Int} (c w : Int) (hS : Sim μ) (h1 : (fun x μ' => x = (if (0 ≤ c ∧ c ≤ 29) ∧ 0 ≤ w ∧ w ≤ 99999 then ((cnt (fun q => decide (cE (rkC μ 32) w c 30 q < 536870912)) 30 : Nat) : Int) else -1000000001) ∧ ∀ q, q ≠ 3 → q ≠ 37 → q ≠ 54 → q ≠ 55 → μ' q = μ q) x μ1) (h2 : (fun x μ' => x = (if (0 ≤ c ∧ c ≤ 29) ∧ 0 ≤ w ∧ w ≤ 99999 then ((cnt (fun q => decide (cE (rkC (vm (μ1 88)) 32) w c 30 q < 536870912)) 30 : Nat) : Int) else -1000000001) ∧ ∀ q, q ≠ 101 → q ≠ 106 → q ≠ 108 → q ≠ 109 → μ' q = μ1 q) y μ2) : x = y ∧ Sim μ2 := by
  obtain ⟨e1, f1⟩ := h1
  obtain ⟨e2, f2⟩ := h2
  have hs := sim_s hS
  have h88 : μ1 88 = μ 88 := f1 88 (by decide) (by decide) (by decide) (by decide)
  refine ⟨?_, sim_keep hS (fun q hq => (f2 q (by unfold scr at *; omega) (by unfold scr at *; omega) (by unfold scr at *; omega) (by unfold scr at *; omega)).trans (f1 q (by unfold scr at *; omega) (by unfold scr at *; omega) (by unfold scr at *; omega) (by unfold scr at *; omega)))⟩
  rw [e1, e2, h88]
  by_cases hc : (0 ≤ c ∧ c ≤ 29) ∧ 0 ≤ w ∧ w ≤ 99999
  · rw [if_pos hc, if_pos hc, cnt_cg (p := fun q => decide (cE (rkC μ 32) w c 30 q < 536870912)) (q := fun q => decide (cE (rkC (vm (μ 88)) 32) w c 30 q < 536870912)) (n := 30) (fun i a b => by show decide (cE (rkC μ 32) w c 30 i < 536870912) = decide (cE (rkC (vm (μ 88)) 32) w c 30 i < 536870912); rw [cE_cg (sm_rk hs) 30 i a (by omega)])]
  · rw [if_neg hc, if_neg hc]
theorem st_odds {μ μ1 μ2 : Mem} {x y : Int} (p m part : Int) (hS : Sim μ) (h1 : (fun x μ' => x = (if (0 ≤ p ∧ p ≤ 100) ∧ (0 ≤ m ∧ m ≤ 12) ∧ 0 ≤ part ∧ part ≤ 1 then odV p m.toNat part else -1000000001) ∧ μ' = μ) x μ1) (h2 : (fun x μ' => x = (if (0 ≤ p ∧ p ≤ 100) ∧ (0 ≤ m ∧ m ≤ 12) ∧ 0 ≤ part ∧ part ≤ 1 then odV p m.toNat part else -1000000001) ∧ μ' = μ1) y μ2) : x = y ∧ Sim μ2 := by
  obtain ⟨e1, f1⟩ := h1
  obtain ⟨e2, f2⟩ := h2
  have hs := sim_s hS
  have h88 : μ1 88 = μ 88 := (congrFun f1 88)
  refine ⟨?_, sim_keep hS (fun q hq => ((congrFun f2 q)).trans ((congrFun f1 q)))⟩
  rw [e1, e2]

theorem st_textTold {μ μ1 μ2 : Mem} {x y : Int} (t what : Int) (hS : Sim μ) (h1 : (fun x μ' => x = (if (0 ≤ t ∧ t ≤ μ 32 13 - 1) ∧ 0 ≤ what ∧ what ≤ 1 then (if what = 0 then μ (4 + 2 * t.toNat) 0 else μ (4 + 2 * t.toNat) 1) else -1000000001) ∧ μ' = μ) x μ1) (h2 : (fun x μ' => x = (if (0 ≤ t ∧ t ≤ μ1 88 1 - 1) ∧ 0 ≤ what ∧ what ≤ 1 then (if what = 0 then vm (μ1 88) (4 + 2 * t.toNat) 0 else vm (μ1 88) (4 + 2 * t.toNat) 1) else -1000000001) ∧ μ' = μ1) y μ2) : x = y ∧ Sim μ2 := by
  obtain ⟨e1, f1⟩ := h1
  obtain ⟨e2, f2⟩ := h2
  have hs := sim_s hS
  have h88 : μ1 88 = μ 88 := (congrFun f1 88)
  refine ⟨?_, sim_keep hS (fun q hq => ((congrFun f2 q)).trans ((congrFun f1 q)))⟩
  rw [e1, e2, h88]
  have e13 : μ 32 13 = μ 88 1 := (sm_n hs).2.2.2.2.2.2
  rw [e13]
  by_cases hc : (0 ≤ t ∧ t ≤ μ 88 1 - 1) ∧ 0 ≤ what ∧ what ≤ 1
  · have hx := sm_tx hs (i := t.toNat) (by omega)
    rw [if_pos hc, if_pos hc, hx.1, hx.2]
  · rw [if_neg hc, if_neg hc]
theorem st_why {μ μ1 μ2 : Mem} {x y : Int} (key : Int) (hS : Sim μ) (h1 : (fun x μ' => x = (if 0 ≤ key ∧ key ≤ 2 then onI (lastK (fun i => μ (4 + 2 * i) 0) key (μ 32 13).toNat) else -1000000001) ∧ μ' = μ) x μ1) (h2 : (fun x μ' => x = (if 0 ≤ key ∧ key ≤ 2 then onI (lastK (fun i => vm (μ1 88) (4 + 2 * i) 0) key (μ1 88 1).toNat) else -1000000001) ∧ μ' = μ1) y μ2) : x = y ∧ Sim μ2 := by
  obtain ⟨e1, f1⟩ := h1
  obtain ⟨e2, f2⟩ := h2
  have hs := sim_s hS
  have h88 : μ1 88 = μ 88 := (congrFun f1 88)
  refine ⟨?_, sim_keep hS (fun q hq => ((congrFun f2 q)).trans ((congrFun f1 q)))⟩
  rw [e1, e2, h88]
  rw [sm_lk hs]
theorem st_count {μ μ1 μ2 : Mem} {x y : Int} (what : Int) (hS : Sim μ) (h1 : (fun x μ' => x = (if what = 0 then sumN (μ 35) 30 else if what = 1 then μ 32 12 else if what = 2 then μ 32 8 else if what = 3 then μ 32 9 else if what = 4 then μ 32 10 else if what = 5 then μ 32 7 else if what = 6 then μ 32 13 else if what = 7 then μ 0 10 else if what = 8 then μ 56 1 else if what = 9 then μ 32 11 else -1000000001) ∧ μ' = μ) x μ1) (h2 : (fun x μ' => x = (if what = 0 then sumN (vm (μ1 88) 35) 30 else if what = 1 then μ1 88 5 else if what = 2 then μ1 88 2 else if what = 3 then μ1 88 3 else if what = 4 then μ1 88 4 else if what = 5 then μ1 88 0 else if what = 6 then μ1 88 1 else if what = 7 then μ1 87 36 else if what = 8 then μ1 87 21 else if what = 9 then μ1 88 6 else -1000000001) ∧ μ' = μ1) y μ2) : x = y ∧ Sim μ2 := by
  obtain ⟨e1, f1⟩ := h1
  obtain ⟨e2, f2⟩ := h2
  have hs := sim_s hS
  have h88 : μ1 88 = μ 88 := (congrFun f1 88)
  refine ⟨?_, sim_keep hS (fun q hq => ((congrFun f2 q)).trans ((congrFun f1 q)))⟩
  rw [e1, e2, h88]
  have h87 : μ1 87 = μ 87 := congrFun f1 87
  have e0 := sm_n hs
  rw [h87, sumN_cg (sm_l hs) 30 (by omega), e0.1, e0.2.1, e0.2.2.1, e0.2.2.2.1, e0.2.2.2.2.1, e0.2.2.2.2.2.1, e0.2.2.2.2.2.2, hS.2.2.1.2.1, hS.2.2.2.2.2.2.1]
theorem st_ahead {μ μ1 μ2 : Mem} {x y : Int} (n what : Int) (hS : Sim μ) (h1 : (fun x μ' => x = (if (0 ≤ n ∧ n ≤ 48) ∧ 0 ≤ what ∧ what ≤ 3 then (if what = 0 then sumN (tkM μ 32 n.toNat).1.1 30 else if what = 1 then (tkM μ 32 n.toNat).2 else if what = 2 then (tkM μ 32 n.toNat).1.1 (mstN (tkM μ 32 n.toNat).1.1 30) else mstN (tkM μ 32 n.toNat).1.1 30) else -1000000001) ∧ ∀ q, ¬ cs q → μ' q = μ q) x μ1) (h2 : (fun x μ' => x = (if (0 ≤ n ∧ n ≤ 48) ∧ 0 ≤ what ∧ what ≤ 3 then (if what = 0 then sumN (tkVN (μ1 88) n.toNat).1.1 30 else if what = 1 then (tkVN (μ1 88) n.toNat).2 else if what = 2 then (tkVN (μ1 88) n.toNat).1.1 (mstN (tkVN (μ1 88) n.toNat).1.1 30) else mstN (tkVN (μ1 88) n.toNat).1.1 30) else -1000000001) ∧ ∀ q, q ≠ 99 → q ≠ 100 → q ≠ 108 → q ≠ 109 → μ' q = μ1 q) y μ2) : x = y ∧ Sim μ2 := by
  obtain ⟨e1, f1⟩ := h1
  obtain ⟨e2, f2⟩ := h2
  have hs := sim_s hS
  have h88 : μ1 88 = μ 88 := f1 88 (by unfold cs; omega)
  refine ⟨?_, sim_keep hS (fun q hq => (f2 q (by unfold scr at *; omega) (by unfold scr at *; omega) (by unfold scr at *; omega) (by unfold scr at *; omega)).trans (f1 q (by unfold cs; unfold scr at hq; omega)))⟩
  rw [e1, e2, h88]
  have h := sm_tk hs n.toNat
  have hm := mstN_b (f := (tkVN (μ 88) n.toNat).1.1) 30
  rw [h.2, sumN_cg h.1.1 30 (by omega), mstN_cg h.1.1 30 (by omega), h.1.1 (mstN (tkVN (μ 88) n.toNat).1.1 30) (by omega) (by omega)]
theorem st_calm {μ μ1 μ2 : Mem} {x y : Int} (hS : Sim μ) (h1 : (fun x μ' => x = clmM μ 32 ∧ ∀ q, ¬ cs q → μ' q = μ q) x μ1) (h2 : (fun x μ' => x = clm (vm (μ1 88) 33) (vm (μ1 88) 34) (phC (vm (μ1 88)) 32) (μ1 88 4) 48 (tS (vm (μ1 88)) 32) 1 ∧ ∀ q, q ≠ 99 → q ≠ 100 → q ≠ 108 → q ≠ 109 → μ' q = μ1 q) y μ2) : x = y ∧ Sim μ2 := by
  obtain ⟨e1, f1⟩ := h1
  obtain ⟨e2, f2⟩ := h2
  have hs := sim_s hS
  have h88 : μ1 88 = μ 88 := f1 88 (by unfold cs; omega)
  refine ⟨?_, sim_keep hS (fun q hq => (f2 q (by unfold scr at *; omega) (by unfold scr at *; omega) (by unfold scr at *; omega) (by unfold scr at *; omega)).trans (f1 q (by unfold cs; unfold scr at hq; omega)))⟩
  rw [e1, e2, h88]
  have e10 : μ 32 10 = μ 88 4 := (sm_n hs).2.2.2.1
  show clm (μ (32 + 1)) (μ (32 + 2)) (phC μ 32) (μ 32 10) 48 (tS μ 32) 1 = _
  rw [e10]
  exact clm_cg (sm_k hs) (sm_s hs) (sm_ph hs) 48 _ _ 1 (sm_ts hs)
theorem st_reads {μ μ1 μ2 : Mem} {x y : Int} (sh : Int) (hS : Sim μ) (h1 : (fun x μ' => x = (if 0 ≤ sh ∧ sh ≤ 3 then (if μ (62 + 2 * sh.toNat) 0 = -1 then -1000000011 else rdN (μ ((62 + 2 * sh.toNat) + 1)) (rkC μ 32) (μ (62 + 2 * sh.toNat) 1).toNat 0) else -1000000001) ∧ ∀ q, q ≠ 3 → q ≠ 37 → μ' q = μ q) x μ1) (h2 : (fun x μ' => x = (if 0 ≤ sh ∧ sh ≤ 3 then (if μ1 91 sh = -1 then -1000000011 else rdN (fun k => μ1 93 (24 * sh + k)) (rkC (vm (μ1 88)) 32) (μ1 92 sh).toNat 0) else -1000000001) ∧ ∀ q, q ≠ 108 → q ≠ 109 → μ' q = μ1 q) y μ2) : x = y ∧ Sim μ2 := by
  obtain ⟨e1, f1⟩ := h1
  obtain ⟨e2, f2⟩ := h2
  have hs := sim_s hS
  have h88 : μ1 88 = μ 88 := f1 88 (by decide) (by decide)
  refine ⟨?_, sim_keep hS (fun q hq => (f2 q (by unfold scr at *; omega) (by unfold scr at *; omega)).trans (f1 q (by unfold scr at *; omega) (by unfold scr at *; omega)))⟩
  rw [e1, e2, h88]
  by_cases hc : 0 ≤ sh ∧ sh ≤ 3
  · have h4 := hS.2.2.2.1 sh.toNat (by omega)
    rw [show ((sh.toNat : Nat) : Int) = sh by omega] at h4
    rw [if_pos hc, if_pos hc, f1 91 (by decide) (by decide), f1 92 (by decide) (by decide), f1 93 (by decide) (by decide), h4.2.1, h4.2.2.1]
    rw [rdN_cg (row := μ (62 + 2 * sh.toNat + 1)) (row' := fun k => μ 93 (24 * sh + k)) (rk' := rkC (vm (μ 88)) 32) (μ (62 + 2 * sh.toNat) 1).toNat 0 (by omega) (fun j a b => ⟨(h4.2.2.2 j a (by omega)).symm, sm_rk hs j a (by omega)⟩)]
  · rw [if_neg hc, if_neg hc]
theorem st_ask {μ μ1 μ2 : Mem} {x y : Int} (sl kind : Int) (hS : Sim μ) (h1 : (fun x μ' => x = (if (0 ≤ sl ∧ sl ≤ 4) ∧ 0 ≤ kind ∧ kind ≤ 5 then (if μ (71 + 3 * sl.toNat) 0 = 0 then -1000000011 else if μ (71 + 3 * sl.toNat) 0 = 1 ∧ isUb (μ (71 + 3 * sl.toNat) 1) kind = true then kWorth (μ (71 + 3 * sl.toNat) 1) (μ (71 + 3 * sl.toNat) 2) (μ (71 + 3 * sl.toNat) 3) else -1000000012) else -1000000001) ∧ μ' = μ) x μ1) (h2 : (fun x μ' => x = (if (0 ≤ sl ∧ sl ≤ 4) ∧ 0 ≤ kind ∧ kind ≤ 5 then (if μ1 94 sl = 0 then -1000000011 else if μ1 94 sl = 1 ∧ isUb (μ1 95 sl) kind = true then μ1 96 sl else -1000000012) else -1000000001) ∧ μ' = μ1) y μ2) : x = y ∧ Sim μ2 := by
  obtain ⟨e1, f1⟩ := h1
  obtain ⟨e2, f2⟩ := h2
  have hs := sim_s hS
  have h88 : μ1 88 = μ 88 := (congrFun f1 88)
  refine ⟨?_, sim_keep hS (fun q hq => ((congrFun f2 q)).trans ((congrFun f1 q)))⟩
  rw [e1, e2]
  by_cases hc : (0 ≤ sl ∧ sl ≤ 4) ∧ 0 ≤ kind ∧ kind ≤ 5
  · have h5 := hS.2.2.2.2.1 sl.toNat (by omega)
    rw [show ((sl.toNat : Nat) : Int) = sl by omega] at h5
    obtain ⟨z1, z2, z3, z4, z5⟩ := h5
    rw [if_pos hc, if_pos hc, congrFun f1 94, congrFun f1 95, congrFun f1 96, z2]
    by_cases k0 : μ (71 + 3 * sl.toNat) 0 = 0
    · rw [if_pos k0, if_pos k0]
    · rw [if_neg k0, if_neg k0]
      by_cases k1 : μ (71 + 3 * sl.toNat) 0 = 1
      · obtain ⟨_, w1, w2⟩ := z3 k1
        rw [w1, w2]
      · rw [if_neg (fun h => k1 h.1), if_neg (fun h => k1 h.1)]
  · rw [if_neg hc, if_neg hc]
theorem st_item {μ μ1 μ2 : Mem} {x y : Int} (sl q : Int) (hS : Sim μ) (h1 : (fun x μ' => x = (if 0 ≤ sl ∧ sl ≤ 4 then (if μ (71 + 3 * sl.toNat) 0 = 0 then -1000000011 else if μ (71 + 3 * sl.toNat) 0 = 2 then (if 0 ≤ q ∧ q ≤ μ ((71 + 3 * sl.toNat) + 1) 1 - 1 then (if μ ((71 + 3 * sl.toNat) + 1 + 1) q = -1000000005 then -1000000012 else μ ((71 + 3 * sl.toNat) + 1 + 1) q) else -1000000013) else -1000000012) else -1000000001) ∧ μ' = μ) x μ1) (h2 : (fun x μ' => x = (if 0 ≤ sl ∧ sl ≤ 4 then (if μ1 94 sl = 0 then -1000000011 else if μ1 94 sl = 2 then (if 0 ≤ q ∧ q ≤ μ1 97 sl - 1 then (if μ1 98 (24 * sl + q) = -1000000005 then -1000000012 else μ1 98 (24 * sl + q)) else -1000000013) else -1000000012) else -1000000001) ∧ μ' = μ1) y μ2) : x = y ∧ Sim μ2 := by
  obtain ⟨e1, f1⟩ := h1
  obtain ⟨e2, f2⟩ := h2
  have hs := sim_s hS
  have h88 : μ1 88 = μ 88 := (congrFun f1 88)
  refine ⟨?_, sim_keep hS (fun q hq => ((congrFun f2 q)).trans ((congrFun f1 q)))⟩
  rw [e1, e2]
  by_cases hc : 0 ≤ sl ∧ sl ≤ 4
  · have h5 := hS.2.2.2.2.1 sl.toNat (by omega)
    rw [show ((sl.toNat : Nat) : Int) = sl by omega] at h5
    obtain ⟨z1, z2, z3, z4, z5⟩ := h5
    rw [if_pos hc, if_pos hc, congrFun f1 94, congrFun f1 97, congrFun f1 98, z2]
    by_cases k0 : μ (71 + 3 * sl.toNat) 0 = 0
    · rw [if_pos k0, if_pos k0]
    · rw [if_neg k0, if_neg k0]
      by_cases k1 : μ (71 + 3 * sl.toNat) 0 = 2
      · obtain ⟨w0, w1, w2⟩ := z4 k1
        rw [if_pos k1, if_pos k1, w1]
        by_cases k2 : 0 ≤ q ∧ q ≤ μ (71 + 3 * sl.toNat + 1) 1 - 1
        · rw [if_pos k2, if_pos k2, w2 q (by omega) (by omega)]
        · rw [if_neg k2, if_neg k2]
      · rw [if_neg k1, if_neg k1]
  · rw [if_neg hc, if_neg hc]
theorem st_rest {μ μ1 μ2 : Mem} {x y : Int} (sl n : Int) (hS : Sim μ) (h1 : (fun x μ' => x = (if 0 ≤ sl ∧ sl ≤ 4 then (if μ (71 + 3 * sl.toNat) 0 = 0 then -1000000011 else if μ (71 + 3 * sl.toNat) 0 = 3 then (if n = 0 then -1000000002 else wr (Int.tmod (μ (71 + 3 * sl.toNat) 4) n)) else -1000000012) else -1000000001) ∧ μ' = μ) x μ1) (h2 : (fun x μ' => x = (if 0 ≤ sl ∧ sl ≤ 4 then (if μ1 94 sl = 0 then -1000000011 else if μ1 94 sl = 3 then (if n = 0 then -1000000002 else wr (Int.tmod (μ1 95 sl) n)) else -1000000012) else -1000000001) ∧ μ' = μ1) y μ2) : x = y ∧ Sim μ2 := by
  obtain ⟨e1, f1⟩ := h1
  obtain ⟨e2, f2⟩ := h2
  have hs := sim_s hS
  have h88 : μ1 88 = μ 88 := (congrFun f1 88)
  refine ⟨?_, sim_keep hS (fun q hq => ((congrFun f2 q)).trans ((congrFun f1 q)))⟩
  rw [e1, e2]
  by_cases hc : 0 ≤ sl ∧ sl ≤ 4
  · have h5 := hS.2.2.2.2.1 sl.toNat (by omega)
    rw [show ((sl.toNat : Nat) : Int) = sl by omega] at h5
    obtain ⟨z1, z2, z3, z4, z5⟩ := h5
    rw [if_pos hc, if_pos hc, congrFun f1 94, congrFun f1 95, z2]
    by_cases k0 : μ (71 + 3 * sl.toNat) 0 = 0
    · rw [if_pos k0, if_pos k0]
    · rw [if_neg k0, if_neg k0]
      by_cases k1 : μ (71 + 3 * sl.toNat) 0 = 3
      · rw [if_pos k1, if_pos k1, z5 k1]
      · rw [if_neg k1, if_neg k1]
  · rw [if_neg hc, if_neg hc]
