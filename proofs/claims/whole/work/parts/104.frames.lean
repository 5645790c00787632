/-! THE CLASS'S CALLS leave the reference's cells alone -/
theorem tkK_f {μ μ' : Mem} (h : tkK μ μ' 32) : ∀ w, 87 ≤ w → μ' w = μ w := fun w hw => h.2 w (by omega) (by omega) (by omega) (by omega)
theorem cf_told {μ μ1 : Mem} {x : Int} {cell what : Int} (h1 : (fun x μ' => x = (if 0 ≤ cell ∧ cell ≤ 29 then (if what = 0 then μ 33 cell else if what = 1 then μ 34 cell else if what = 2 then μ 35 cell else if what = 3 then prC μ 32 cell else if what = 4 then abv (prC μ 32) cell else if what = 5 then rkC μ 32 cell else if what = 6 then kHold (μ 33 cell) (plainH (LM μ 32) (μ 34 cell) (cell / 6)) (sunV (μ 32 9)) else if what = 7 then kWorth (μ 33 cell) (μ 34 cell) (μ 35 cell) else -1000000001) else -1000000001) ∧ ∀ q, q ≠ 3 → μ' q = μ q) x μ1) : ∀ w, 87 ≤ w → μ1 w = μ w := by
  intro w hw
  exact h1.2 w (by (try unfold cs); omega)
theorem cf_run {μ μ1 : Mem} {x : Int} {n : Int} (h1 : (fun x μ' => ((1 ≤ n ∧ n ≤ 48) → x = (tkM μ 32 n.toNat).2 ∧ tS μ' 32 = (tkM μ 32 n.toNat).1 ∧ tkK μ μ' 32) ∧ (¬ (1 ≤ n ∧ n ≤ 48) → x = -1000000001 ∧ μ' = μ)) x μ1) : ∀ w, 87 ≤ w → μ1 w = μ w := by
  intro w hw
  by_cases c1 : (1 ≤ n ∧ n ≤ 48)
  ·
    exact tkK_f (h1.1 c1).2.2 w hw
  ·
    have d1_1 : ¬ (1 ≤ n ∧ n ≤ 48) := by first | exact c1 | omega | exact Decidable.byContradiction c1
    (rw [show μ1 = _ from (h1.2 d1_1).2]) <;> (simp (disch := omega) only [ud, ua_ne])
theorem cf_ahead {μ μ1 : Mem} {x : Int} {n what : Int} (h1 : (fun x μ' => x = (if (0 ≤ n ∧ n ≤ 48) ∧ 0 ≤ what ∧ what ≤ 3 then (if what = 0 then sumN (tkM μ 32 n.toNat).1.1 30 else if what = 1 then (tkM μ 32 n.toNat).2 else if what = 2 then (tkM μ 32 n.toNat).1.1 (mstN (tkM μ 32 n.toNat).1.1 30) else mstN (tkM μ 32 n.toNat).1.1 30) else -1000000001) ∧ ∀ q, ¬ cs q → μ' q = μ q) x μ1) : ∀ w, 87 ≤ w → μ1 w = μ w := by
  intro w hw
  exact h1.2 w (by (try unfold cs); omega)
theorem cf_calm {μ μ1 : Mem} {x : Int} (h1 : (fun x μ' => x = clmM μ 32 ∧ ∀ q, ¬ cs q → μ' q = μ q) x μ1) : ∀ w, 87 ≤ w → μ1 w = μ w := by
  intro w hw
  exact h1.2 w (by (try unfold cs); omega)
theorem cf_track {μ μ1 : Mem} {x : Int} {cell : Int} (h1 : (fun x μ' => (¬ (0 ≤ cell ∧ cell ≤ 29) → x = -1000000001 ∧ μ' = μ) ∧ ((0 ≤ cell ∧ cell ≤ 29) → (0 < μ 32 7 ∧ ¬ (bsdb (μ 36 (μ 32 7 - 1)) cell = true) → x = -1000000002 ∧ μ' = μ) ∧ (¬ (0 < μ 32 7 ∧ ¬ (bsdb (μ 36 (μ 32 7 - 1)) cell = true)) → (24 ≤ μ 32 7 → x = -1000000003 ∧ μ' = μ) ∧ (μ 32 7 < 24 → x = μ 32 7 + 1 ∧ μ' = ud (ud μ 36 (μ 32 7) cell) 32 7 (μ 32 7 + 1))))) x μ1) : ∀ w, 87 ≤ w → μ1 w = μ w := by
  intro w hw
  by_cases c1 : ¬ (0 ≤ cell ∧ cell ≤ 29)
  ·
    (rw [show μ1 = _ from (h1.1 c1).2]) <;> (simp (disch := omega) only [ud, ua_ne])
  ·
    have d1_1 : (0 ≤ cell ∧ cell ≤ 29) := by first | exact c1 | omega | exact Decidable.byContradiction c1
    by_cases c2 : 0 < μ 32 7 ∧ ¬ (bsdb (μ 36 (μ 32 7 - 1)) cell = true)
    ·
      (rw [show μ1 = _ from ((h1.2 d1_1).1 c2).2]) <;> (simp (disch := omega) only [ud, ua_ne])
    ·
      have d2_2 : ¬ (0 < μ 32 7 ∧ ¬ (bsdb (μ 36 (μ 32 7 - 1)) cell = true)) := by first | exact c2 | omega | exact Decidable.byContradiction c2
      by_cases c3 : 24 ≤ μ 32 7
      ·
        (rw [show μ1 = _ from (((h1.2 d1_1).2 d2_2).1 c3).2]) <;> (simp (disch := omega) only [ud, ua_ne])
      ·
        have d3_3 : μ 32 7 < 24 := by first | exact c3 | omega | exact Decidable.byContradiction c3
        (rw [show μ1 = _ from (((h1.2 d1_1).2 d2_2).2 d3_3).2]) <;> (simp (disch := omega) only [ud, ua_ne])
theorem cf_at {μ μ1 : Mem} {x : Int} {i : Int} (h1 : (fun x μ' => x = (if i < 0 then -1000000001 else if i < μ 32 7 then μ 36 i else -1000000005) ∧ μ' = μ) x μ1) : ∀ w, 87 ≤ w → μ1 w = μ w := by
  intro w hw
  (rw [show μ1 = _ from h1.2]) <;> (simp (disch := omega) only [ud, ua_ne])
theorem cf_along {μ μ1 : Mem} {x : Int} {what : Int} (h1 : (fun x μ' => x = (if 0 ≤ what ∧ what ≤ 4 then (if μ 32 7 = 0 then -1000000005 else if what = 0 then trS (fun i => rkC μ 32 (μ 36 i)) (μ 32 7).toNat else if what = 1 then trS (fun i => stepV (LM μ 32) (μ 34 (μ 36 i)) (upV (μ 36 (i - 1)) (μ 36 i))) (μ 32 7).toNat else if what = 2 then trT (μ 36) (μ 32 7).toNat else if what = 3 then mxN (fun i => μ 34 (μ 36 i)) (μ 32 7).toNat else mxN (fun i => rkC μ 32 (μ 36 i)) (μ 32 7).toNat) else -1000000001) ∧ ∀ q, q ≠ 3 → q ≠ 37 → μ' q = μ q) x μ1) : ∀ w, 87 ≤ w → μ1 w = μ w := by
  intro w hw
  exact h1.2 w (by (try unfold cs); omega) (by (try unfold cs); omega)
theorem cf_turnBack {μ μ1 : Mem} {x : Int} {r : Int} (h1 : (fun x μ' => x = (if 0 ≤ r ∧ r ≤ 99999 then tbk (fun i => rkC μ 32 (μ 36 i)) r (μ 32 7).toNat 0 else -1000000001) ∧ ∀ q, q ≠ 3 → q ≠ 37 → μ' q = μ q) x μ1) : ∀ w, 87 ≤ w → μ1 w = μ w := by
  intro w hw
  exact h1.2 w (by (try unfold cs); omega) (by (try unfold cs); omega)
theorem cf_way {μ μ1 : Mem} {x : Int} {fr to what : Int} (h1 : (fun x μ' => x = (if (0 ≤ fr ∧ fr ≤ 29) ∧ (0 ≤ to ∧ to ≤ 29) ∧ 0 ≤ what ∧ ¬ (3 ≤ what ∧ what ≤ 9) then wyV (svC μ 32) (rkC μ 32) fr to what else -1000000001) ∧ ∀ q, q ≠ 3 → q ≠ 37 → q ≠ 54 → μ' q = μ q) x μ1) : ∀ w, 87 ≤ w → μ1 w = μ w := by
  intro w hw
  exact h1.2 w (by (try unfold cs); omega) (by (try unfold cs); omega) (by (try unfold cs); omega)
theorem cf_bound {μ μ1 : Mem} {x : Int} {fr to n : Int} (h1 : (fun x μ' => x = (if (0 ≤ fr ∧ fr ≤ 29) ∧ (0 ≤ to ∧ to ≤ 29) ∧ 0 ≤ n ∧ n ≤ 40 then (if bE (rkC μ 32) fr n.toNat to < 536870912 then bE (rkC μ 32) fr n.toNat to else -1000000005) else -1000000001) ∧ ∀ q, q ≠ 3 → q ≠ 37 → q ≠ 54 → q ≠ 55 → μ' q = μ q) x μ1) : ∀ w, 87 ≤ w → μ1 w = μ w := by
  intro w hw
  exact h1.2 w (by (try unfold cs); omega) (by (try unfold cs); omega) (by (try unfold cs); omega) (by (try unfold cs); omega)
theorem cf_wall {μ μ1 : Mem} {x : Int} {fr to : Int} (h1 : (fun x μ' => x = (if (0 ≤ fr ∧ fr ≤ 29) ∧ (0 ≤ to ∧ to ≤ 29) then sE (μ 34) fr 30 to else -1000000001) ∧ ∀ q, q ≠ 54 → q ≠ 55 → μ' q = μ q) x μ1) : ∀ w, 87 ≤ w → μ1 w = μ w := by
  intro w hw
  exact h1.2 w (by (try unfold cs); omega) (by (try unfold cs); omega)
theorem cf_reach {μ μ1 : Mem} {x : Int} {c w : Int} (h1 : (fun x μ' => x = (if (0 ≤ c ∧ c ≤ 29) ∧ 0 ≤ w ∧ w ≤ 99999 then ((cnt (fun q => decide (cE (rkC μ 32) w c 30 q < 536870912)) 30 : Nat) : Int) else -1000000001) ∧ ∀ q, q ≠ 3 → q ≠ 37 → q ≠ 54 → q ≠ 55 → μ' q = μ q) x μ1) : ∀ w, 87 ≤ w → μ1 w = μ w := by
  intro w hw
  exact h1.2 w (by (try unfold cs); omega) (by (try unfold cs); omega) (by (try unfold cs); omega) (by (try unfold cs); omega)
theorem cf_feed {μ μ1 : Mem} {x : Int} {a b c : Int} (h1 : (fun x μ' => (96 < μ 56 1 + 12 → x = -1000000003 ∧ μ' = μ) ∧ (μ 56 1 + 12 ≤ 96 → x = μ 56 1 + 12 ∧ μ' 56 1 = μ 56 1 + 12 ∧ (∀ q, μ' 57 q = if μ 56 1 ≤ q ∧ q < μ 56 1 + 12 then byI (if q - μ 56 1 < 4 then a else if q - μ 56 1 < 8 then b else c) (24 - 8 * ((q - μ 56 1) % 4)) else μ 57 q) ∧ ∀ q, q ≠ 56 → q ≠ 57 → μ' q = μ q)) x μ1) : ∀ w, 87 ≤ w → μ1 w = μ w := by
  intro w hw
  by_cases c1 : 96 < μ 56 1 + 12
  ·
    (rw [show μ1 = _ from (h1.1 c1).2]) <;> (simp (disch := omega) only [ud, ua_ne])
  ·
    have d1_1 : μ 56 1 + 12 ≤ 96 := by first | exact c1 | omega | exact Decidable.byContradiction c1
    exact (h1.2 d1_1).2.2.2 w (by (try unfold cs); omega) (by (try unfold cs); omega)
theorem cf_textTold {μ μ1 : Mem} {x : Int} {t what : Int} (h1 : (fun x μ' => x = (if (0 ≤ t ∧ t ≤ μ 32 13 - 1) ∧ 0 ≤ what ∧ what ≤ 1 then (if what = 0 then μ (4 + 2 * t.toNat) 0 else μ (4 + 2 * t.toNat) 1) else -1000000001) ∧ μ' = μ) x μ1) : ∀ w, 87 ≤ w → μ1 w = μ w := by
  intro w hw
  (rw [show μ1 = _ from h1.2]) <;> (simp (disch := omega) only [ud, ua_ne])
theorem cf_why {μ μ1 : Mem} {x : Int} {key : Int} (h1 : (fun x μ' => x = (if 0 ≤ key ∧ key ≤ 2 then onI (lastK (fun i => μ (4 + 2 * i) 0) key (μ 32 13).toNat) else -1000000001) ∧ μ' = μ) x μ1) : ∀ w, 87 ≤ w → μ1 w = μ w := by
  intro w hw
  (rw [show μ1 = _ from h1.2]) <;> (simp (disch := omega) only [ud, ua_ne])
theorem cf_reads {μ μ1 : Mem} {x : Int} {sh : Int} (h1 : (fun x μ' => x = (if 0 ≤ sh ∧ sh ≤ 3 then (if μ (62 + 2 * sh.toNat) 0 = -1 then -1000000011 else rdN (μ ((62 + 2 * sh.toNat) + 1)) (rkC μ 32) (μ (62 + 2 * sh.toNat) 1).toNat 0) else -1000000001) ∧ ∀ q, q ≠ 3 → q ≠ 37 → μ' q = μ q) x μ1) : ∀ w, 87 ≤ w → μ1 w = μ w := by
  intro w hw
  exact h1.2 w (by (try unfold cs); omega) (by (try unfold cs); omega)
theorem cf_item {μ μ1 : Mem} {x : Int} {sl q : Int} (h1 : (fun x μ' => x = (if 0 ≤ sl ∧ sl ≤ 4 then (if μ (71 + 3 * sl.toNat) 0 = 0 then -1000000011 else if μ (71 + 3 * sl.toNat) 0 = 2 then (if 0 ≤ q ∧ q ≤ μ ((71 + 3 * sl.toNat) + 1) 1 - 1 then (if μ ((71 + 3 * sl.toNat) + 1 + 1) q = -1000000005 then -1000000012 else μ ((71 + 3 * sl.toNat) + 1 + 1) q) else -1000000013) else -1000000012) else -1000000001) ∧ μ' = μ) x μ1) : ∀ w, 87 ≤ w → μ1 w = μ w := by
  intro w hw
  (rw [show μ1 = _ from h1.2]) <;> (simp (disch := omega) only [ud, ua_ne])
theorem cf_rest {μ μ1 : Mem} {x : Int} {sl n : Int} (h1 : (fun x μ' => x = (if 0 ≤ sl ∧ sl ≤ 4 then (if μ (71 + 3 * sl.toNat) 0 = 0 then -1000000011 else if μ (71 + 3 * sl.toNat) 0 = 3 then (if n = 0 then -1000000002 else wr (Int.tmod (μ (71 + 3 * sl.toNat) 4) n)) else -1000000012) else -1000000001) ∧ μ' = μ) x μ1) : ∀ w, 87 ≤ w → μ1 w = μ w := by
  intro w hw
  (rw [show μ1 = _ from h1.2]) <;> (simp (disch := omega) only [ud, ua_ne])
theorem cf_tell {μ μ1 : Mem} {x : Int} {v : Int} (h1 : (fun x μ' => (60 ≤ μ 0 10 → x = -1000000003 ∧ μ' = μ) ∧ (μ 0 10 < 60 → x = μ 0 10 + 1 ∧ μ' = ud (ud μ 86 (μ 0 10) v) 0 10 (μ 0 10 + 1))) x μ1) : ∀ w, 87 ≤ w → μ1 w = μ w := by
  intro w hw
  by_cases c1 : 60 ≤ μ 0 10
  ·
    (rw [show μ1 = _ from (h1.1 c1).2]) <;> (simp (disch := omega) only [ud, ua_ne])
  ·
    have d1_1 : μ 0 10 < 60 := by first | exact c1 | omega | exact Decidable.byContradiction c1
    (rw [show μ1 = _ from (h1.2 d1_1).2]) <;> (simp (disch := omega) only [ud, ua_ne])
theorem cf_check {μ μ1 : Mem} {x : Int} {n : Int} (h1 : (fun x μ' => μ' 0 = uf (μ 0) 10 0 ∧ (∀ q, q ≠ 0 → ¬ cs q → μ' q = μ q) ∧ x = (if 1 ≤ n ∧ n ≤ 30 then (if μ 0 11 = 0 then -1000000002 else if rgM (μ 86) (μ 0 10) μ 39 n.toNat = μ 0 10 ∧ rgM (μ 86) (μ 0 10) μ 39 n.toNat = 2 * n then 0 else 1 + rgM (μ 86) (μ 0 10) μ 39 n.toNat) else -1000000001)) x μ1) : ∀ w, 87 ≤ w → μ1 w = μ w := by
  intro w hw
  exact h1.2.1 w (by (try unfold cs); omega) (by (try unfold cs); omega)
theorem cf_keep {μ μ1 : Mem} {x : Int} (h1 : (fun x μ' => x = sumN (μ 35) 30 ∧ asM μ' 39 μ 32 ∧ μ' 0 = uf (μ 0) 11 1 ∧ ∀ q, q ≠ 0 → q ≠ 39 → q ≠ 40 → q ≠ 41 → q ≠ 42 → q ≠ 43 → μ' q = μ q) x μ1) : ∀ w, 87 ≤ w → μ1 w = μ w := by
  intro w hw
  exact h1.2.2.2 w (by (try unfold cs); omega) (by (try unfold cs); omega) (by (try unfold cs); omega) (by (try unfold cs); omega) (by (try unfold cs); omega) (by (try unfold cs); omega)
theorem cf_back {μ μ1 : Mem} {x : Int} (h1 : (fun x μ' => (μ 0 11 = 0 → x = -1000000002 ∧ μ' = μ) ∧ (μ 0 11 ≠ 0 → x = sumN (μ 42) 30 ∧ asM μ' 32 μ 39 ∧ ∀ q, q ≠ 32 → q ≠ 33 → q ≠ 34 → q ≠ 35 → q ≠ 36 → μ' q = μ q)) x μ1) : ∀ w, 87 ≤ w → μ1 w = μ w := by
  intro w hw
  by_cases c1 : μ 0 11 = 0
  ·
    (rw [show μ1 = _ from (h1.1 c1).2]) <;> (simp (disch := omega) only [ud, ua_ne])
  ·
    have d1_1 : μ 0 11 ≠ 0 := by first | exact c1 | omega | exact Decidable.byContradiction c1
    exact (h1.2 d1_1).2.2 w (by (try unfold cs); omega) (by (try unfold cs); omega) (by (try unfold cs); omega) (by (try unfold cs); omega) (by (try unfold cs); omega)
theorem cf_count {μ μ1 : Mem} {x : Int} {what : Int} (h1 : (fun x μ' => x = (if what = 0 then sumN (μ 35) 30 else if what = 1 then μ 32 12 else if what = 2 then μ 32 8 else if what = 3 then μ 32 9 else if what = 4 then μ 32 10 else if what = 5 then μ 32 7 else if what = 6 then μ 32 13 else if what = 7 then μ 0 10 else if what = 8 then μ 56 1 else if what = 9 then μ 32 11 else -1000000001) ∧ μ' = μ) x μ1) : ∀ w, 87 ≤ w → μ1 w = μ w := by
  intro w hw
  (rw [show μ1 = _ from h1.2]) <;> (simp (disch := omega) only [ud, ua_ne])
theorem cf_mark {μ μ1 : Mem} {x : Int} {sh q v : Int} (h1 : (fun x μ' => (¬ (0 ≤ sh ∧ sh ≤ 3) → x = -1000000001 ∧ μ' = μ) ∧ ((0 ≤ sh ∧ sh ≤ 3) → (μ (62 + 2 * sh.toNat) 0 = -1 → x = -1000000011 ∧ μ' = μ) ∧ (μ (62 + 2 * sh.toNat) 0 ≠ -1 → (¬ (0 ≤ q ∧ q ≤ μ (62 + 2 * sh.toNat) 1 - 1) → x = -1000000013 ∧ μ' = μ) ∧ ((0 ≤ q ∧ q ≤ μ (62 + 2 * sh.toNat) 1 - 1) → (μ (62 + 2 * sh.toNat) 0 = 0 → (v = -1000000005 → x = -1000000012 ∧ μ' = μ) ∧ (v ≠ -1000000005 → x = 1 ∧ μ' = ud μ ((62 + 2 * sh.toNat) + 1) q (i2sI v))) ∧ (μ (62 + 2 * sh.toNat) 0 ≠ 0 → (v ≠ -1000000005 ∧ ¬ (-99999 ≤ v ∧ v ≤ 99999) → x = -1000000001 ∧ μ' = μ) ∧ (¬ (v ≠ -1000000005 ∧ ¬ (-99999 ≤ v ∧ v ≤ 99999)) → x = 1 ∧ μ' = ud μ ((62 + 2 * sh.toNat) + 1) q v)))))) x μ1) : ∀ w, 87 ≤ w → μ1 w = μ w := by
  intro w hw
  by_cases c1 : ¬ (0 ≤ sh ∧ sh ≤ 3)
  ·
    (rw [show μ1 = _ from (h1.1 c1).2]) <;> (simp (disch := omega) only [ud, ua_ne])
  ·
    have d1_1 : (0 ≤ sh ∧ sh ≤ 3) := by first | exact c1 | omega | exact Decidable.byContradiction c1
    by_cases c2 : μ (62 + 2 * sh.toNat) 0 = -1
    ·
      (rw [show μ1 = _ from ((h1.2 d1_1).1 c2).2]) <;> (simp (disch := omega) only [ud, ua_ne])
    ·
      have d2_2 : μ (62 + 2 * sh.toNat) 0 ≠ -1 := by first | exact c2 | omega | exact Decidable.byContradiction c2
      by_cases c3 : ¬ (0 ≤ q ∧ q ≤ μ (62 + 2 * sh.toNat) 1 - 1)
      ·
        (rw [show μ1 = _ from (((h1.2 d1_1).2 d2_2).1 c3).2]) <;> (simp (disch := omega) only [ud, ua_ne])
      ·
        have d3_3 : (0 ≤ q ∧ q ≤ μ (62 + 2 * sh.toNat) 1 - 1) := by first | exact c3 | omega | exact Decidable.byContradiction c3
        by_cases c4 : μ (62 + 2 * sh.toNat) 0 = 0
        ·
          by_cases c5 : v = -1000000005
          ·
            (rw [show μ1 = _ from (((((h1.2 d1_1).2 d2_2).2 d3_3).1 c4).1 c5).2]) <;> (simp (disch := omega) only [ud, ua_ne])
          ·
            have d5_5 : v ≠ -1000000005 := by first | exact c5 | omega | exact Decidable.byContradiction c5
            (rw [show μ1 = _ from (((((h1.2 d1_1).2 d2_2).2 d3_3).1 c4).2 d5_5).2]) <;> (simp (disch := omega) only [ud, ua_ne])
        ·
          have d5_4 : μ (62 + 2 * sh.toNat) 0 ≠ 0 := by first | exact c4 | omega | exact Decidable.byContradiction c4
          by_cases c6 : v ≠ -1000000005 ∧ ¬ (-99999 ≤ v ∧ v ≤ 99999)
          ·
            (rw [show μ1 = _ from (((((h1.2 d1_1).2 d2_2).2 d3_3).2 d5_4).1 c6).2]) <;> (simp (disch := omega) only [ud, ua_ne])
          ·
            have d6_5 : ¬ (v ≠ -1000000005 ∧ ¬ (-99999 ≤ v ∧ v ≤ 99999)) := by first | exact c6 | omega | exact Decidable.byContradiction c6
            (rw [show μ1 = _ from (((((h1.2 d1_1).2 d2_2).2 d3_3).2 d5_4).2 d6_5).2]) <;> (simp (disch := omega) only [ud, ua_ne])
theorem cf_pour {μ μ1 : Mem} {x : Int} {sh row : Int} (h1 : (fun x μ' => (¬ ((0 ≤ sh ∧ sh ≤ 3) ∧ 0 ≤ row ∧ row ≤ 4) → x = -1000000001 ∧ μ' = μ) ∧ (((0 ≤ sh ∧ sh ≤ 3) ∧ 0 ≤ row ∧ row ≤ 4) → (μ (62 + 2 * sh.toNat) 0 = -1 → x = -1000000011 ∧ μ' = μ) ∧ (μ (62 + 2 * sh.toNat) 0 ≠ -1 → x = (prS (μ ((62 + 2 * sh.toNat) + 1)) row (min 6 (μ (62 + 2 * sh.toNat) 1)).toNat (μ 35, 0) 0).2 ∧ μ' = ua μ 35 (prS (μ ((62 + 2 * sh.toNat) + 1)) row (min 6 (μ (62 + 2 * sh.toNat) 1)).toNat (μ 35, 0) 0).1))) x μ1) : ∀ w, 87 ≤ w → μ1 w = μ w := by
  intro w hw
  by_cases c1 : ¬ ((0 ≤ sh ∧ sh ≤ 3) ∧ 0 ≤ row ∧ row ≤ 4)
  ·
    (rw [show μ1 = _ from (h1.1 c1).2]) <;> (simp (disch := omega) only [ud, ua_ne])
  ·
    have d1_1 : ((0 ≤ sh ∧ sh ≤ 3) ∧ 0 ≤ row ∧ row ≤ 4) := by first | exact c1 | omega | exact Decidable.byContradiction c1
    by_cases c2 : μ (62 + 2 * sh.toNat) 0 = -1
    ·
      (rw [show μ1 = _ from ((h1.2 d1_1).1 c2).2]) <;> (simp (disch := omega) only [ud, ua_ne])
    ·
      have d2_2 : μ (62 + 2 * sh.toNat) 0 ≠ -1 := by first | exact c2 | omega | exact Decidable.byContradiction c2
      (rw [show μ1 = _ from ((h1.2 d1_1).2 d2_2).2]) <;> (simp (disch := omega) only [ud, ua_ne])
theorem cf_copy {μ μ1 : Mem} {x : Int} {fr pl to at_ many : Int} (h1 : (fun x μ' => (¬ ((0 ≤ fr ∧ fr ≤ 3) ∧ 0 ≤ to ∧ to ≤ 3) → x = -1000000001 ∧ μ' = μ) ∧ (((0 ≤ fr ∧ fr ≤ 3) ∧ 0 ≤ to ∧ to ≤ 3) → ((μ (62 + 2 * fr.toNat) 0 = -1 ∨ μ (62 + 2 * to.toNat) 0 = -1) → x = -1000000011 ∧ μ' = μ) ∧ (¬ (μ (62 + 2 * fr.toNat) 0 = -1 ∨ μ (62 + 2 * to.toNat) 0 = -1) → (μ (62 + 2 * fr.toNat) 0 ≠ μ (62 + 2 * to.toNat) 0 → x = -1000000012 ∧ μ' = μ) ∧ (μ (62 + 2 * fr.toNat) 0 = μ (62 + 2 * to.toNat) 0 → (¬ ((0 ≤ many ∧ (0 ≤ pl ∧ pl ≤ μ (62 + 2 * fr.toNat) 1) ∧ many ≤ μ (62 + 2 * fr.toNat) 1 - pl) ∧ 0 ≤ many ∧ (0 ≤ at_ ∧ at_ ≤ μ (62 + 2 * to.toNat) 1) ∧ many ≤ μ (62 + 2 * to.toNat) 1 - at_) → x = -1000000013 ∧ μ' = μ) ∧ (((0 ≤ many ∧ (0 ≤ pl ∧ pl ≤ μ (62 + 2 * fr.toNat) 1) ∧ many ≤ μ (62 + 2 * fr.toNat) 1 - pl) ∧ 0 ≤ many ∧ (0 ≤ at_ ∧ at_ ≤ μ (62 + 2 * to.toNat) 1) ∧ many ≤ μ (62 + 2 * to.toNat) 1 - at_) → x = many ∧ μ' = ua μ ((62 + 2 * to.toNat) + 1) (cpI (μ ((62 + 2 * fr.toNat) + 1)) (μ ((62 + 2 * to.toNat) + 1)) pl at_ many)))))) x μ1) : ∀ w, 87 ≤ w → μ1 w = μ w := by
  intro w hw
  by_cases c1 : ¬ ((0 ≤ fr ∧ fr ≤ 3) ∧ 0 ≤ to ∧ to ≤ 3)
  ·
    (rw [show μ1 = _ from (h1.1 c1).2]) <;> (simp (disch := omega) only [ud, ua_ne])
  ·
    have d1_1 : ((0 ≤ fr ∧ fr ≤ 3) ∧ 0 ≤ to ∧ to ≤ 3) := by first | exact c1 | omega | exact Decidable.byContradiction c1
    by_cases c2 : (μ (62 + 2 * fr.toNat) 0 = -1 ∨ μ (62 + 2 * to.toNat) 0 = -1)
    ·
      (rw [show μ1 = _ from ((h1.2 d1_1).1 c2).2]) <;> (simp (disch := omega) only [ud, ua_ne])
    ·
      have d2_2 : ¬ (μ (62 + 2 * fr.toNat) 0 = -1 ∨ μ (62 + 2 * to.toNat) 0 = -1) := by first | exact c2 | omega | exact Decidable.byContradiction c2
      by_cases c3 : μ (62 + 2 * fr.toNat) 0 ≠ μ (62 + 2 * to.toNat) 0
      ·
        (rw [show μ1 = _ from (((h1.2 d1_1).2 d2_2).1 c3).2]) <;> (simp (disch := omega) only [ud, ua_ne])
      ·
        have d3_3 : μ (62 + 2 * fr.toNat) 0 = μ (62 + 2 * to.toNat) 0 := by first | exact c3 | omega | exact Decidable.byContradiction c3
        by_cases c4 : ¬ ((0 ≤ many ∧ (0 ≤ pl ∧ pl ≤ μ (62 + 2 * fr.toNat) 1) ∧ many ≤ μ (62 + 2 * fr.toNat) 1 - pl) ∧ 0 ≤ many ∧ (0 ≤ at_ ∧ at_ ≤ μ (62 + 2 * to.toNat) 1) ∧ many ≤ μ (62 + 2 * to.toNat) 1 - at_)
        ·
          (rw [show μ1 = _ from ((((h1.2 d1_1).2 d2_2).2 d3_3).1 c4).2]) <;> (simp (disch := omega) only [ud, ua_ne])
        ·
          have d4_4 : ((0 ≤ many ∧ (0 ≤ pl ∧ pl ≤ μ (62 + 2 * fr.toNat) 1) ∧ many ≤ μ (62 + 2 * fr.toNat) 1 - pl) ∧ 0 ≤ many ∧ (0 ≤ at_ ∧ at_ ≤ μ (62 + 2 * to.toNat) 1) ∧ many ≤ μ (62 + 2 * to.toNat) 1 - at_) := by first | exact c4 | omega | exact Decidable.byContradiction c4
          (rw [show μ1 = _ from ((((h1.2 d1_1).2 d2_2).2 d3_3).2 d4_4).2]) <;> (simp (disch := omega) only [ud, ua_ne])
theorem cf_place {μ μ1 : Mem} {x : Int} {cell kind steep load : Int} (h1 : (fun x μ' => ((0 ≤ cell ∧ cell ≤ 29 ∧ 0 ≤ kind ∧ kind ≤ 5 ∧ 0 ≤ steep ∧ steep ≤ 60 ∧ 0 ≤ load ∧ load ≤ 999) → x = μ 33 cell ∧ μ' = ud (ud (ud μ 33 cell kind) 34 cell steep) 35 cell load) ∧ (¬ (0 ≤ cell ∧ cell ≤ 29 ∧ 0 ≤ kind ∧ kind ≤ 5 ∧ 0 ≤ steep ∧ steep ≤ 60 ∧ 0 ≤ load ∧ load ≤ 999) → x = -1000000001 ∧ μ' = μ)) x μ1) : ∀ w, 87 ≤ w → μ1 w = μ w := by
  intro w hw
  by_cases c1 : (0 ≤ cell ∧ cell ≤ 29 ∧ 0 ≤ kind ∧ kind ≤ 5 ∧ 0 ≤ steep ∧ steep ≤ 60 ∧ 0 ≤ load ∧ load ≤ 999)
  ·
    (rw [show μ1 = _ from (h1.1 c1).2]) <;> (simp (disch := omega) only [ud, ua_ne])
  ·
    have d1_1 : ¬ (0 ≤ cell ∧ cell ≤ 29 ∧ 0 ≤ kind ∧ kind ≤ 5 ∧ 0 ≤ steep ∧ steep ≤ 60 ∧ 0 ≤ load ∧ load ≤ 999) := by first | exact c1 | omega | exact Decidable.byContradiction c1
    (rw [show μ1 = _ from (h1.2 d1_1).2]) <;> (simp (disch := omega) only [ud, ua_ne])
theorem cf_as {μ μ1 : Mem} {x : Int} {cell kind : Int} (h1 : (fun x μ' => x = (if 0 ≤ cell ∧ cell ≤ 29 ∧ 0 ≤ kind ∧ kind ≤ 5 then (if isUb (μ 33 cell) kind = true then μ 34 cell else -1000000012) else -1000000001) ∧ μ' = μ) x μ1) : ∀ w, 87 ≤ w → μ1 w = μ w := by
  intro w hw
  (rw [show μ1 = _ from h1.2]) <;> (simp (disch := omega) only [ud, ua_ne])
theorem cf_turns {μ μ1 : Mem} {x : Int} {cell kind : Int} (h1 : (fun x μ' => ((0 ≤ cell ∧ cell ≤ 29 ∧ 0 ≤ kind ∧ kind ≤ 5) → x = μ 33 cell ∧ μ' = ud μ 33 cell kind) ∧ (¬ (0 ≤ cell ∧ cell ≤ 29 ∧ 0 ≤ kind ∧ kind ≤ 5) → x = -1000000001 ∧ μ' = μ)) x μ1) : ∀ w, 87 ≤ w → μ1 w = μ w := by
  intro w hw
  by_cases c1 : (0 ≤ cell ∧ cell ≤ 29 ∧ 0 ≤ kind ∧ kind ≤ 5)
  ·
    (rw [show μ1 = _ from (h1.1 c1).2]) <;> (simp (disch := omega) only [ud, ua_ne])
  ·
    have d1_1 : ¬ (0 ≤ cell ∧ cell ≤ 29 ∧ 0 ≤ kind ∧ kind ≤ 5) := by first | exact c1 | omega | exact Decidable.byContradiction c1
    (rw [show μ1 = _ from (h1.2 d1_1).2]) <;> (simp (disch := omega) only [ud, ua_ne])
theorem cf_set {μ μ1 : Mem} {x : Int} {cell what v : Int} (h1 : (fun x μ' => ((0 ≤ cell ∧ cell ≤ 29 ∧ what = 0 ∧ 0 ≤ v ∧ v ≤ 60) → x = μ 34 cell ∧ μ' = ud μ 34 cell v) ∧ ((0 ≤ cell ∧ cell ≤ 29 ∧ what = 1 ∧ 0 ≤ v ∧ v ≤ 999) → x = μ 35 cell ∧ μ' = ud μ 35 cell v) ∧ (¬ (0 ≤ cell ∧ cell ≤ 29 ∧ what = 0 ∧ 0 ≤ v ∧ v ≤ 60) ∧ ¬ (0 ≤ cell ∧ cell ≤ 29 ∧ what = 1 ∧ 0 ≤ v ∧ v ≤ 999) → x = -1000000001 ∧ μ' = μ)) x μ1) : ∀ w, 87 ≤ w → μ1 w = μ w := by
  intro w hw
  by_cases c1 : (0 ≤ cell ∧ cell ≤ 29 ∧ what = 0 ∧ 0 ≤ v ∧ v ≤ 60)
  ·
    (rw [show μ1 = _ from (h1.1 c1).2]) <;> (simp (disch := omega) only [ud, ua_ne])
  ·
    by_cases c2 : (0 ≤ cell ∧ cell ≤ 29 ∧ what = 1 ∧ 0 ≤ v ∧ v ≤ 999)
    ·
      (rw [show μ1 = _ from (h1.2.1 c2).2]) <;> (simp (disch := omega) only [ud, ua_ne])
    ·
      have dz1 : ¬ (0 ≤ cell ∧ cell ≤ 29 ∧ what = 0 ∧ 0 ≤ v ∧ v ≤ 60) ∧ ¬ (0 ≤ cell ∧ cell ≤ 29 ∧ what = 1 ∧ 0 ≤ v ∧ v ≤ 999) := by first | exact ⟨c1, c2⟩ | omega
      (rw [show μ1 = _ from (h1.2.2 dz1).2]) <;> (simp (disch := omega) only [ud, ua_ne])
theorem cf_today {μ μ1 : Mem} {x : Int} {what v : Int} (h1 : (fun x μ' => ((what = 0 ∧ 0 ≤ v ∧ v ≤ 5) → x = μ 32 8 ∧ μ' = ud μ 32 8 v) ∧ ((what = 1 ∧ 0 ≤ v ∧ v ≤ 23) → x = μ 32 9 ∧ μ' = ud μ 32 9 v) ∧ ((what = 2 ∧ 0 ≤ v ∧ v ≤ 9) → x = μ 32 10 ∧ μ' = ud μ 32 10 v) ∧ (¬ (what = 0 ∧ 0 ≤ v ∧ v ≤ 5) ∧ ¬ (what = 1 ∧ 0 ≤ v ∧ v ≤ 23) ∧ ¬ (what = 2 ∧ 0 ≤ v ∧ v ≤ 9) → x = -1000000001 ∧ μ' = μ)) x μ1) : ∀ w, 87 ≤ w → μ1 w = μ w := by
  intro w hw
  by_cases c1 : (what = 0 ∧ 0 ≤ v ∧ v ≤ 5)
  ·
    (rw [show μ1 = _ from (h1.1 c1).2]) <;> (simp (disch := omega) only [ud, ua_ne])
  ·
    by_cases c2 : (what = 1 ∧ 0 ≤ v ∧ v ≤ 23)
    ·
      (rw [show μ1 = _ from (h1.2.1 c2).2]) <;> (simp (disch := omega) only [ud, ua_ne])
    ·
      by_cases c3 : (what = 2 ∧ 0 ≤ v ∧ v ≤ 9)
      ·
        (rw [show μ1 = _ from (h1.2.2.1 c3).2]) <;> (simp (disch := omega) only [ud, ua_ne])
      ·
        have dz1 : ¬ (what = 0 ∧ 0 ≤ v ∧ v ≤ 5) ∧ ¬ (what = 1 ∧ 0 ≤ v ∧ v ≤ 23) ∧ ¬ (what = 2 ∧ 0 ≤ v ∧ v ≤ 9) := by first | exact ⟨c1, c2, c3⟩ | omega
        (rw [show μ1 = _ from (h1.2.2.2 dz1).2]) <;> (simp (disch := omega) only [ud, ua_ne])
theorem cf_deal {μ μ1 : Mem} {x : Int} (h1 : (fun x μ' => x = sumN (μ' 35) 30 ∧ (∀ c, 0 ≤ c → c < 30 → μ' 33 c = dv (zN (μ 32 11) (3 * c.toNat + 1)) % 6 ∧ μ' 34 c = dv (zN (μ 32 11) (3 * c.toNat + 2)) % 50 ∧ μ' 35 c = dv (zN (μ 32 11) (3 * c.toNat + 3)) % 40) ∧ μ' 32 = uf (μ 32) 11 (zN (μ 32 11) 90) ∧ ∀ q, q ≠ 32 → q ≠ 33 → q ≠ 34 → q ≠ 35 → μ' q = μ q) x μ1) : ∀ w, 87 ≤ w → μ1 w = μ w := by
  intro w hw
  exact h1.2.2.2 w (by (try unfold cs); omega) (by (try unfold cs); omega) (by (try unfold cs); omega) (by (try unfold cs); omega)
theorem cf_seed {μ μ1 : Mem} {x : Int} {v : Int} (h1 : (fun x μ' => x = μ 32 11 ∧ μ' = ud μ 32 11 v) x μ1) : ∀ w, 87 ≤ w → μ1 w = μ w := by
  intro w hw
  (rw [show μ1 = _ from h1.2]) <;> (simp (disch := omega) only [ud, ua_ne])
theorem cf_wipe {μ μ1 : Mem} {x : Int} (h1 : (fun x μ' => x = μ 32 7 ∧ μ' = ud μ 32 7 0) x μ1) : ∀ w, 87 ≤ w → μ1 w = μ w := by
  intro w hw
  (rw [show μ1 = _ from h1.2]) <;> (simp (disch := omega) only [ud, ua_ne])
theorem cf_trim {μ μ1 : Mem} {x : Int} {n : Int} (h1 : (fun x μ' => ((0 ≤ n ∧ n ≤ μ 56 1) → x = n ∧ μ' = ud μ 56 1 n) ∧ (¬ (0 ≤ n ∧ n ≤ μ 56 1) → x = -1000000001 ∧ μ' = μ)) x μ1) : ∀ w, 87 ≤ w → μ1 w = μ w := by
  intro w hw
  by_cases c1 : (0 ≤ n ∧ n ≤ μ 56 1)
  ·
    (rw [show μ1 = _ from (h1.1 c1).2]) <;> (simp (disch := omega) only [ud, ua_ne])
  ·
    have d1_1 : ¬ (0 ≤ n ∧ n ≤ μ 56 1) := by first | exact c1 | omega | exact Decidable.byContradiction c1
    (rw [show μ1 = _ from (h1.2 d1_1).2]) <;> (simp (disch := omega) only [ud, ua_ne])
theorem cf_sheet {μ μ1 : Mem} {x : Int} {sh so n : Int} (h1 : (fun x μ' => (¬ ((0 ≤ sh ∧ sh ≤ 3) ∧ -1 ≤ so ∧ so ≤ 1) → x = -1000000001 ∧ μ' = μ) ∧ (((0 ≤ sh ∧ sh ≤ 3) ∧ -1 ≤ so ∧ so ≤ 1) → (so = -1 → x = 0 ∧ μ' (62 + 2 * sh.toNat) 0 = -1 ∧ μ' (62 + 2 * sh.toNat) 1 = 0 ∧ (∀ q, 0 ≤ q → q < 24 → μ' ((62 + 2 * sh.toNat) + 1) q = 0) ∧ ∀ q, q ≠ (62 + 2 * sh.toNat) → q ≠ (62 + 2 * sh.toNat) + 1 → μ' q = μ q) ∧ (so ≠ -1 → (24 < n → x = -1000000001 ∧ μ' = μ) ∧ (n ≤ 24 → (n < 0 → x = -1000000014 ∧ μ' = μ) ∧ (0 ≤ n → x = n ∧ μ' (62 + 2 * sh.toNat) 0 = so ∧ μ' (62 + 2 * sh.toNat) 1 = n ∧ (∀ q, 0 ≤ q → q < 24 → μ' ((62 + 2 * sh.toNat) + 1) q = 0) ∧ ∀ q, q ≠ (62 + 2 * sh.toNat) → q ≠ (62 + 2 * sh.toNat) + 1 → μ' q = μ q))))) x μ1) : ∀ w, 87 ≤ w → μ1 w = μ w := by
  intro w hw
  by_cases c1 : ¬ ((0 ≤ sh ∧ sh ≤ 3) ∧ -1 ≤ so ∧ so ≤ 1)
  ·
    (rw [show μ1 = _ from (h1.1 c1).2]) <;> (simp (disch := omega) only [ud, ua_ne])
  ·
    have d1_1 : ((0 ≤ sh ∧ sh ≤ 3) ∧ -1 ≤ so ∧ so ≤ 1) := by first | exact c1 | omega | exact Decidable.byContradiction c1
    by_cases c2 : so = -1
    ·
      exact ((h1.2 d1_1).1 c2).2.2.2.2 w (by (try unfold cs); omega) (by (try unfold cs); omega)
    ·
      have d2_2 : so ≠ -1 := by first | exact c2 | omega | exact Decidable.byContradiction c2
      by_cases c3 : 24 < n
      ·
        (rw [show μ1 = _ from (((h1.2 d1_1).2 d2_2).1 c3).2]) <;> (simp (disch := omega) only [ud, ua_ne])
      ·
        have d3_3 : n ≤ 24 := by first | exact c3 | omega | exact Decidable.byContradiction c3
        by_cases c4 : n < 0
        ·
          (rw [show μ1 = _ from ((((h1.2 d1_1).2 d2_2).2 d3_3).1 c4).2]) <;> (simp (disch := omega) only [ud, ua_ne])
        ·
          have d4_4 : 0 ≤ n := by first | exact c4 | omega | exact Decidable.byContradiction c4
          exact ((((h1.2 d1_1).2 d2_2).2 d3_3).2 d4_4).2.2.2.2 w (by (try unfold cs); omega) (by (try unfold cs); omega)
theorem cf_ask {μ μ1 : Mem} {x : Int} {sl kind : Int} (h1 : (fun x μ' => x = (if (0 ≤ sl ∧ sl ≤ 4) ∧ 0 ≤ kind ∧ kind ≤ 5 then (if μ (71 + 3 * sl.toNat) 0 = 0 then -1000000011 else if μ (71 + 3 * sl.toNat) 0 = 1 ∧ isUb (μ (71 + 3 * sl.toNat) 1) kind = true then kWorth (μ (71 + 3 * sl.toNat) 1) (μ (71 + 3 * sl.toNat) 2) (μ (71 + 3 * sl.toNat) 3) else -1000000012) else -1000000001) ∧ μ' = μ) x μ1) : ∀ w, 87 ≤ w → μ1 w = μ w := by
  intro w hw
  (rw [show μ1 = _ from h1.2]) <;> (simp (disch := omega) only [ud, ua_ne])
theorem cf_lay {μ μ1 : Mem} {x : Int} {sl th k : Int} (h1 : (fun x μ' => (¬ ((0 ≤ sl ∧ sl ≤ 4) ∧ (0 ≤ th ∧ th ≤ 3) ∧ (th = 1 → 0 ≤ k ∧ k ≤ 29) ∧ (th = 2 → 0 ≤ k ∧ k ≤ 3)) → x = -1000000001 ∧ μ' = μ) ∧ (((0 ≤ sl ∧ sl ≤ 4) ∧ (0 ≤ th ∧ th ≤ 3) ∧ (th = 1 → 0 ≤ k ∧ k ≤ 29) ∧ (th = 2 → 0 ≤ k ∧ k ≤ 3)) → ((th = 2 ∧ μ (62 + 2 * k.toNat) 0 = -1) → x = -1000000011 ∧ μ' = μ) ∧ (¬ (th = 2 ∧ μ (62 + 2 * k.toNat) 0 = -1) → x = μ (71 + 3 * sl.toNat) 0 ∧ (th = 0 → μ' = ud μ (71 + 3 * sl.toNat) 0 0) ∧ (th = 1 → μ' = ud (ud (ud (ud μ (71 + 3 * sl.toNat) 0 1) (71 + 3 * sl.toNat) 1 (μ 33 k)) (71 + 3 * sl.toNat) 2 (μ 34 k)) (71 + 3 * sl.toNat) 3 (μ 35 k)) ∧ (th = 2 → μ' (71 + 3 * sl.toNat) = uf (μ (71 + 3 * sl.toNat)) 0 2 ∧ μ' ((71 + 3 * sl.toNat) + 1) 1 = μ (62 + 2 * k.toNat) 1 ∧ (∀ q, 0 ≤ q → q < 24 → μ' ((71 + 3 * sl.toNat) + 1 + 1) q = μ ((62 + 2 * k.toNat) + 1) q) ∧ ∀ q, q ≠ (71 + 3 * sl.toNat) → q ≠ (71 + 3 * sl.toNat) + 1 → q ≠ (71 + 3 * sl.toNat) + 1 + 1 → μ' q = μ q) ∧ (th = 3 → μ' = ud (ud μ (71 + 3 * sl.toNat) 0 3) (71 + 3 * sl.toNat) 4 k)))) x μ1) : ∀ w, 87 ≤ w → μ1 w = μ w := by
  intro w hw
  by_cases c1 : (0 ≤ sl ∧ sl ≤ 4) ∧ (0 ≤ th ∧ th ≤ 3) ∧ (th = 1 → 0 ≤ k ∧ k ≤ 29) ∧ (th = 2 → 0 ≤ k ∧ k ≤ 3)
  · by_cases c2 : th = 2 ∧ μ (62 + 2 * k.toNat) 0 = -1
    · rw [((h1.2 c1).1 c2).2]
    · obtain ⟨e1, a0, a1, a2, a3⟩ := (h1.2 c1).2 c2
      rcases (by omega : th = 0 ∨ th = 1 ∨ th = 2 ∨ th = 3) with t | t | t | t
      · rw [a0 t, ud_n (by omega)]
      · rw [a1 t, ud_n (by omega), ud_n (by omega), ud_n (by omega), ud_n (by omega)]
      · exact (a2 t).2.2.2 w (by omega) (by omega) (by omega)
      · rw [a3 t, ud_n (by omega), ud_n (by omega)]
  · rw [(h1.1 c1).2]
theorem cf_text {μ μ1 : Mem} {x : Int} (hx : 0 ≤ μ 32 13) (h1 : (fun x μ' => μ' 56 1 = 0 ∧ ((ftV (μ 57) (μ 56 1) (μ 60)) ≠ -1000000005 → x = -100 - (ftV (μ 57) (μ 56 1) (μ 60)) ∧ ∀ q, q ≠ 56 → q ≠ 58 → q ≠ 59 → q ≠ 60 → μ' q = μ q) ∧ ((ftV (μ 57) (μ 56 1) (μ 60)) = -1000000005 → (14 ≤ (μ 32 13) → x = -1000000003 ∧ ∀ q, q ≠ 56 → q ≠ 58 → q ≠ 59 → q ≠ 60 → μ' q = μ q) ∧ ((μ 32 13) < 14 → x = (μ 32 13) ∧ μ' 32 = uf (μ 32) 13 ((μ 32 13) + 1) ∧ μ' (4 + 2 * (μ 32 13).toNat) 0 = kyB (μ 57) (μ 56 1) ∧ μ' (4 + 2 * (μ 32 13).toNat) 1 = rPc (rdB (μ 57) (μ 56 1) (μ 60)) ∧ μ' (4 + 2 * (μ 32 13).toNat) 2 = rLn (rdB (μ 57) (μ 56 1) (μ 60)) ∧ (∀ k, 0 ≤ k → k < 96 → μ' (4 + 2 * (μ 32 13).toNat + 1) k = rCo (rdB (μ 57) (μ 56 1) (μ 60)) k) ∧ ∀ q, q ≠ 32 → q ≠ 4 + 2 * (μ 32 13).toNat → q ≠ 4 + 2 * (μ 32 13).toNat + 1 → q ≠ 56 → q ≠ 58 → q ≠ 59 → q ≠ 60 → μ' q = μ q))) x μ1) : ∀ w, 87 ≤ w → μ1 w = μ w := by
  intro w hw
  by_cases c1 : (ftV (μ 57) (μ 56 1) (μ 60)) = -1000000005
  · by_cases c2 : 14 ≤ μ 32 13
    · exact ((h1.2.2 c1).1 c2).2 w (by omega) (by omega) (by omega) (by omega)
    · exact ((h1.2.2 c1).2 (by omega)).2.2.2.2.2.2 w (by omega) (by omega) (by omega) (by omega) (by omega) (by omega) (by omega)
  · exact (h1.2.1 c1).2 w (by omega) (by omega) (by omega) (by omega)
