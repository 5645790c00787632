/-! PURE: ways as the reference finds them; what can be come to; the least steepness -/
theorem lbS_le {f : Int → Int} {c t : Int} (ht : t < 536870912) : ∀ n : Nat, lbS f c n ≤ t ↔ ∃ d : Int, 0 ≤ d ∧ d < (n : Nat) ∧ nb c d ≠ -1000000005 ∧ f (nb c d) ≤ t
  | 0 => by
    constructor
    · intro h; exact absurd h (by show ¬ ((536870912 : Int) ≤ t); omega)
    · rintro ⟨d, d0, d1, _⟩; exact absurd d1 (by omega)
  | n + 1 => by
    have ih := lbS_le (f := f) (c := c) ht n
    show (if nb c (n : Nat) = -1000000005 then lbS f c n else min (lbS f c n) (f (nb c (n : Nat)))) ≤ t ↔ _
    by_cases e : nb c (n : Nat) = -1000000005
    · rw [if_pos e, ih]
      constructor
      · rintro ⟨d, d0, d1, h⟩; exact ⟨d, d0, by omega, h⟩
      · rintro ⟨d, d0, d1, h1, h2⟩
        refine ⟨d, d0, ?_, h1, h2⟩
        by_cases e2 : d = (n : Nat)
        · rw [e2] at h1; exact absurd e h1
        · omega
    · rw [if_neg e]
      constructor
      · intro h
        by_cases e2 : f (nb c (n : Nat)) ≤ t
        · exact ⟨(n : Nat), by omega, by omega, e, e2⟩
        · obtain ⟨d, d0, d1, h1⟩ := ih.mp (by omega)
          exact ⟨d, d0, by omega, h1⟩
      · rintro ⟨d, d0, d1, h1, h2⟩
        by_cases e2 : d = (n : Nat)
        · rw [e2] at h2; omega
        · have := ih.mpr ⟨d, d0, by omega, h1, h2⟩
          omega
theorem lb_le {f : Int → Int} {c t : Int} (ht : t < 536870912) : lb f c ≤ t ↔ ∃ d : Int, 0 ≤ d ∧ d < 4 ∧ nb c d ≠ -1000000005 ∧ f (nb c d) ≤ t := lbS_le ht 4
/-! what can be come to -/
theorem cE_k {rk : Int → Int} {w a c : Int} {k : Nat} : cE rk w a (k + 1) c < 536870912 ↔ cE rk w a k c < 536870912 ∨ (rk c ≤ w ∧ ∃ d : Int, 0 ≤ d ∧ d < 4 ∧ nb c d ≠ -1000000005 ∧ cE rk w a k (nb c d) < 536870912) := by
  have e : cE rk w a (k + 1) c = min (cE rk w a k c) (if rk c ≤ w ∧ lb (cE rk w a k) c < 536870912 then 0 else 536870912) := rfl
  have hl : lb (cE rk w a k) c < 536870912 ↔ ∃ d : Int, 0 ≤ d ∧ d < 4 ∧ nb c d ≠ -1000000005 ∧ cE rk w a k (nb c d) < 536870912 := by
    have h := lb_le (f := cE rk w a k) (c := c) (t := 536870911) (by decide)
    constructor
    · intro q
      obtain ⟨d, d0, d1, d2, d3⟩ := h.mp (by omega)
      exact ⟨d, d0, d1, d2, by omega⟩
    · rintro ⟨d, d0, d1, d2, d3⟩
      have := h.mpr ⟨d, d0, d1, d2, by omega⟩
      omega
  rw [e, ← hl]
  by_cases q : rk c ≤ w ∧ lb (cE rk w a k) c < 536870912
  · rw [if_pos q]; constructor
    · intro _; exact Or.inr q
    · intro _; omega
  · rw [if_neg q]; constructor
    · intro h; exact Or.inl (by omega)
    · rintro (h | h)
      · omega
      · exact absurd h q
theorem cE_fix {rk : Int → Int} {w a : Int} (a0 : 0 ≤ a) (a1 : a < 30) : ∀ c : Int, 0 ≤ c → c < 30 → cE rk w a 31 c = cE rk w a 30 c := by
  have hm : ∀ (k : Nat) (c : Int), 0 ≤ c → c < 30 → cE rk w a (k + 1) c ≤ cE rk w a k c := fun k c _ _ => by
    show min (cE rk w a k c) _ ≤ _
    omega
  have h := stab (E := cE rk w a) a0 a1 hm (fun c c0 c1 _ => by
      have e : cE rk w a 0 a = 0 := by show (if a = a then 0 else (536870912 : Int)) = 0; rw [if_pos rfl]
      rw [e]
      rcases cE_01 (rk := rk) (w := w) (a := a) 1 c with q | q <;> omega) (fun k c c0 c1 q => by
      have h1 := cE_01 (rk := rk) (w := w) (a := a) (k + 2) c
      have h2 := cE_01 (rk := rk) (w := w) (a := a) (k + 1) c
      have h3 : cE rk w a (k + 2) c < 536870912 := by omega
      rcases cE_k.mp h3 with h4 | ⟨h4, d, d0, d1, d2, d3⟩
      · omega
      · have hr := nb_r (d := d) c0 c1
        refine ⟨nb c d, by omega, by omega, ?_, ?_⟩
        · have h5 := cE_01 (rk := rk) (w := w) (a := a) k (nb c d)
          by_cases h6 : cE rk w a k (nb c d) < 536870912
          · have := cE_k.mpr (Or.inr ⟨h4, d, d0, d1, d2, h6⟩)
            omega
          · omega
        · rcases cE_01 (rk := rk) (w := w) (a := a) (k + 1) (nb c d) with q2 | q2 <;> omega)
  have h2 := gE_st (g := fun v c => if rk c ≤ w ∧ v < 536870912 then 0 else 536870912) (s := fun c => if c = a then 0 else 536870912) (k := 29) h
  intro c c0 c1
  exact (h2 2 c c0 c1).trans (h2 1 c c0 c1).symm
/-- what was come to, closed and no further than it goes, is what can be come to -/
theorem cmQ_eq {rk : Int → Int} {w a : Int} {is : Int → Int} (a0 : 0 ≤ a) (a1 : a < 30) (ha : is a = 1) (hin : ∀ c, 0 ≤ c → c < 30 → is c = 1 → cE rk w a 30 c < 536870912) (hcl : ∀ c d : Int, 0 ≤ c → c < 30 → 0 ≤ d → d < 4 → nb c d ≠ -1000000005 → is (nb c d) = 1 → rk c ≤ w → is c = 1) : ∀ c, 0 ≤ c → c < 30 → (is c = 1 ↔ cE rk w a 30 c < 536870912) := by
  have h : ∀ (k : Nat) (c : Int), 0 ≤ c → c < 30 → cE rk w a k c < 536870912 → is c = 1 := by
    intro k
    induction k with
    | zero =>
      intro c c0 c1 h
      have e : cE rk w a 0 c = if c = a then 0 else 536870912 := rfl
      rw [e] at h
      split at h
      · rename_i e2; rw [e2]; exact ha
      · omega
    | succ k ih =>
      intro c c0 c1 h
      rcases cE_k.mp h with h1 | ⟨h1, d, d0, d1, d2, d3⟩
      · exact ih c c0 c1 h1
      · have hr := nb_r (d := d) c0 c1
        exact hcl c d c0 c1 d0 d1 d2 (ih _ (by omega) (by omega) d3) h1
  exact fun c c0 c1 => ⟨hin c c0 c1, h 30 c c0 c1⟩
/-! the least steepness -/
theorem sE_k {st : Int → Int} {a c t : Int} {k : Nat} (ht : t < 536870912) : sE st a (k + 1) c ≤ t ↔ sE st a k c ≤ t ∨ (st c ≤ t ∧ ∃ d : Int, 0 ≤ d ∧ d < 4 ∧ nb c d ≠ -1000000005 ∧ sE st a k (nb c d) ≤ t) := by
  have e : sE st a (k + 1) c = min (sE st a k c) (max (lb (sE st a k) c) (st c)) := rfl
  rw [e, ← lb_le ht]
  omega
theorem sE_cE {st : Int → Int} {a t : Int} (ht : t < 536870912) (hs : st a ≤ t) : ∀ (k : Nat) (c : Int), sE st a k c ≤ t ↔ cE st t a k c < 536870912
  | 0, c => by
    have e1 : sE st a 0 c = if c = a then st a else 536870912 := rfl
    have e2 : cE st t a 0 c = if c = a then 0 else 536870912 := rfl
    rw [e1, e2]
    split <;> omega
  | k + 1, c => by
    have ih := sE_cE ht hs k
    rw [sE_k ht, cE_k, ih c]
    constructor
    · rintro (h | ⟨h1, d, d0, d1, d2, d3⟩)
      · exact Or.inl h
      · exact Or.inr ⟨h1, d, d0, d1, d2, (ih _).mp d3⟩
    · rintro (h | ⟨h1, d, d0, d1, d2, d3⟩)
      · exact Or.inl h
      · exact Or.inr ⟨h1, d, d0, d1, d2, (ih _).mpr d3⟩
theorem sE_lo {st : Int → Int} {a : Int} (h60 : st a ≤ 60) (h61 : ∀ c, 0 ≤ c → c < 30 → st c ≤ 60) : ∀ (k : Nat) (c : Int), 0 ≤ c → c < 30 → st a ≤ sE st a k c ∧ st c ≤ sE st a k c
  | 0, c, c0, c1 => by
    have e1 : sE st a 0 c = if c = a then st a else 536870912 := rfl
    have := h61 c c0 c1
    rw [e1]
    split
    · rename_i e; rw [e]; omega
    · omega
  | k + 1, c, c0, c1 => by
    have h1 := sE_lo h60 h61 k c c0 c1
    have e : sE st a (k + 1) c = min (sE st a k c) (max (lb (sE st a k) c) (st c)) := rfl
    have h2 : st a ≤ lb (sE st a k) c := by
      by_cases q : lb (sE st a k) c ≤ st a - 1
      · obtain ⟨d, d0, d1, d2, d3⟩ := (lb_le (by omega)).mp q
        have hr := nb_r (d := d) c0 c1
        have := (sE_lo h60 h61 k (nb c d) (by omega) (by omega)).1
        omega
      · omega
    omega
/-- how far two cells are apart -/
def mhR (a c : Int) : Int := if a / 6 < c / 6 then c / 6 - a / 6 else a / 6 - c / 6
def mhC (a c : Int) : Int := if a % 6 < c % 6 then c % 6 - a % 6 else a % 6 - c % 6
theorem mh_0 {a c : Int} (h : mhR a c + mhC a c ≤ 0) : c = a := by
  unfold mhR mhC at h
  split at h <;> split at h <;> omega
theorem mh_s {a c : Int} (a0 : 0 ≤ a) (a1 : a < 30) (c0 : 0 ≤ c) (c1 : c < 30) (h : c ≠ a) : ∃ d : Int, 0 ≤ d ∧ d < 4 ∧ nb c d ≠ -1000000005 ∧ mhR a (nb c d) + mhC a (nb c d) + 1 = mhR a c + mhC a c := by
  by_cases h1 : c / 6 < a / 6
  · refine ⟨0, by omega, by omega, ?_⟩
    have e : nb c 0 = c + 6 := by unfold nb; rw [if_pos rfl, if_pos (by omega)]
    rw [e]
    refine ⟨by omega, ?_⟩
    unfold mhR mhC
    rw [show (c + 6) / 6 = c / 6 + 1 by omega, show (c + 6) % 6 = c % 6 by omega]
    split <;> split <;> (try split) <;> (try split) <;> omega
  · by_cases h2 : a / 6 < c / 6
    · refine ⟨2, by omega, by omega, ?_⟩
      have e : nb c 2 = c - 6 := by unfold nb; rw [if_neg (by decide), if_neg (by decide), if_pos rfl, if_pos (by omega)]
      rw [e]
      refine ⟨by omega, ?_⟩
      unfold mhR mhC
      rw [show (c - 6) / 6 = c / 6 - 1 by omega, show (c - 6) % 6 = c % 6 by omega]
      split <;> split <;> (try split) <;> (try split) <;> omega
    · by_cases h3 : c % 6 < a % 6
      · refine ⟨1, by omega, by omega, ?_⟩
        have e : nb c 1 = c + 1 := by unfold nb; rw [if_neg (by decide), if_pos rfl, if_pos (by omega)]
        rw [e]
        refine ⟨by omega, ?_⟩
        unfold mhR mhC
        rw [show (c + 1) / 6 = c / 6 by omega, show (c + 1) % 6 = c % 6 + 1 by omega]
        split <;> split <;> (try split) <;> (try split) <;> omega
      · refine ⟨3, by omega, by omega, ?_⟩
        have h4 : a % 6 < c % 6 := by omega
        have e : nb c 3 = c - 1 := by unfold nb; rw [if_neg (by decide), if_neg (by decide), if_neg (by decide), if_pos (by omega)]
        rw [e]
        refine ⟨by omega, ?_⟩
        unfold mhR mhC
        rw [show (c - 1) / 6 = c / 6 by omega, show (c - 1) % 6 = c % 6 - 1 by omega]
        split <;> split <;> (try split) <;> (try split) <;> omega
theorem mh_b {a c : Int} (a0 : 0 ≤ a) (a1 : a < 30) (c0 : 0 ≤ c) (c1 : c < 30) : mhR a c + mhC a c ≤ 9 := by
  unfold mhR mhC
  split <;> split <;> omega
theorem sE_60 {st : Int → Int} {a : Int} (a0 : 0 ≤ a) (a1 : a < 30) (h : ∀ c, 0 ≤ c → c < 30 → st c ≤ 60) : ∀ (k : Nat) (c : Int), 0 ≤ c → c < 30 → mhR a c + mhC a c ≤ (k : Nat) → sE st a k c ≤ 60
  | 0, c, c0, c1, hk => by
    have e := mh_0 hk
    have e1 : sE st a 0 c = if c = a then st a else 536870912 := rfl
    rw [e1, if_pos e]; exact h a a0 a1
  | k + 1, c, c0, c1, hk => by
    by_cases e : c = a
    · refine (sE_k (by decide)).mpr (Or.inl (sE_60 a0 a1 h k c c0 c1 ?_))
      rw [e]; unfold mhR mhC; rw [if_neg (by omega), if_neg (by omega)]; omega
    · obtain ⟨d, d0, d1, d2, d3⟩ := mh_s a0 a1 c0 c1 e
      have hr := nb_r (d := d) c0 c1
      exact (sE_k (by decide)).mpr (Or.inr ⟨h c c0 c1, d, d0, d1, d2, sE_60 a0 a1 h k _ (by omega) (by omega) (by omega)⟩)
theorem gE_m {g : Int → Int → Int} {s : Int → Int} {k : Nat} {c : Int} : ∀ j : Nat, gE g s (k + j) c ≤ gE g s k c
  | 0 => Int.le_refl _
  | j + 1 => by
    have := gE_m (g := g) (s := s) (k := k) (c := c) j
    show min (gE g s (k + j) c) _ ≤ _
    omega
theorem sE_30 {st : Int → Int} {a c : Int} (a0 : 0 ≤ a) (a1 : a < 30) (c0 : 0 ≤ c) (c1 : c < 30) (h : ∀ c, 0 ≤ c → c < 30 → st c ≤ 60) : sE st a 30 c ≤ 60 := by
  have h1 := sE_60 a0 a1 h 9 c c0 c1 (mh_b a0 a1 c0 c1)
  have h2 : sE st a 30 c ≤ sE st a 9 c := gE_m (k := 9) 21
  omega
/-! the ways -/
theorem wD_9 {rk : Int → Int} {a : Int} (a0 : 0 ≤ a) (a1 : a < 30) (h : ∀ c, 0 ≤ c → c < 30 → 0 ≤ rk c ∧ rk c ≤ 2996) : ∀ (k : Nat) (c : Int), 0 ≤ c → c < 30 → mhR a c + mhC a c ≤ (k : Nat) → wD rk a k c ≤ 191745 * (k : Nat)
  | 0, c, c0, c1, hk => by
    have e := mh_0 hk
    show (if c = a then 0 else (536870912 : Int)) ≤ _
    rw [if_pos e]; omega
  | k + 1, c, c0, c1, hk => by
    have e0 : wD rk a (k + 1) c = min (wD rk a k c) (mB (wD rk a k) rk c) := rfl
    by_cases e : c = a
    · have := wD_9 a0 a1 h k c c0 c1 (by rw [e]; unfold mhR mhC; rw [if_neg (by omega), if_neg (by omega)]; omega)
      omega
    · obtain ⟨d, d0, d1, d2, d3⟩ := mh_s a0 a1 c0 c1 e
      have hr := nb_r (d := d) c0 c1
      have h1 := wD_9 a0 a1 h k (nb c d) (by omega) (by omega) (by omega)
      have h2 := mB_le (f := wD rk a k) (rk := rk) (c := c) d0 (by omega)
      have h3 : cB (wD rk a k) rk c d = wD rk a k (nb c d) + rk (nb c d) * 64 + 1 := if_neg d2
      have h4 := h (nb c d) (by omega) (by omega)
      omega
theorem wF_lt {rk : Int → Int} {a c : Int} (a0 : 0 ≤ a) (a1 : a < 30) (h : ∀ c, 0 ≤ c → c < 30 → 0 ≤ rk c ∧ rk c ≤ 2996) (c0 : 0 ≤ c) (c1 : c < 30) : wF rk a c ≤ 1725705 := by
  have h1 := wD_9 a0 a1 h 9 c c0 c1 (mh_b a0 a1 c0 c1)
  have h2 : ∀ j : Nat, wD rk a (9 + j) c ≤ wD rk a 9 c := by
    intro j
    induction j with
    | zero => exact Int.le_refl _
    | succ j ih => have := wD_m (rk := rk) (to := a) (9 + j) c; exact Int.le_trans this ih
  have h3 : wD rk a 29 c ≤ wD rk a 9 c := h2 20
  show wD rk a 29 c ≤ _
  omega
theorem wD_eq {rk : Int → Int} {a c : Int} (c0 : 0 ≤ c) (c1 : c < 30) (h : c ≠ a) : ∀ k : Nat, wD rk a k c = 536870912 ∨ mB (wD rk a k) rk c ≤ wD rk a k c
  | 0 => by left; show (if c = a then 0 else (536870912 : Int)) = _; rw [if_neg h]
  | k + 1 => by
    have e0 : wD rk a (k + 1) c = min (wD rk a k c) (mB (wD rk a k) rk c) := rfl
    have hm : mB (wD rk a (k + 1)) rk c ≤ mB (wD rk a k) rk c := mB_mono c0 c1 (fun q _ _ => wD_m k q)
    rcases wD_eq (rk := rk) c0 c1 h k with q | q
    · by_cases e : wD rk a k c ≤ mB (wD rk a k) rk c
      · left; omega
      · right; omega
    · right; omega
theorem wF_eq {rk : Int → Int} {a c : Int} (a0 : 0 ≤ a) (a1 : a < 30) (h : ∀ c, 0 ≤ c → c < 30 → 0 ≤ rk c ∧ rk c ≤ 2996) (c0 : 0 ≤ c) (c1 : c < 30) (hc : c ≠ a) : mB (wF rk a) rk c = wF rk a c := by
  have h1 := wF_fix (fun q q0 q1 => (h q q0 q1).1) a0 a1 c c0 c1
  have h2 := wF_lt a0 a1 h c0 c1
  rcases wD_eq (rk := rk) c0 c1 hc 29 with q | q
  · have : wF rk a c = 536870912 := q
    omega
  · have : mB (wF rk a) rk c ≤ wF rk a c := q
    omega
/-- costs and steps in one number -/
def cC (le sp : Int → Int) (c : Int) : Int := if le c = 1000000000 then 536870912 else le c * 64 + sp c
def WI (rk le sp : Int → Int) (a : Int) : Prop := le a = 0 ∧ sp a = 0 ∧ ∀ c, 0 ≤ c → c < 30 → ((le c = 1000000000 ∧ sp c = 0) ∨ (0 ≤ sp c ∧ sp c ≤ (cnt (fun u => decide (cC le sp u < cC le sp c)) 30 : Nat) ∧ 0 ≤ le c ∧ le c ≤ 2996 * sp c)) ∧ wF rk a c ≤ cC le sp c
theorem WI_b {rk le sp : Int → Int} {a : Int} (h : WI rk le sp a) (c : Int) (c0 : 0 ≤ c) (c1 : c < 30) : (le c = 1000000000 ∧ sp c = 0 ∧ cC le sp c = 536870912) ∨ (0 ≤ sp c ∧ sp c ≤ 29 ∧ 0 ≤ le c ∧ le c ≤ 2996 * sp c ∧ cC le sp c = le c * 64 + sp c) := by
  rcases (h.2.2 c c0 c1).1 with q | ⟨q1, q2, q3, q4⟩
  · left; exact ⟨q.1, q.2, if_pos q.1⟩
  · right
    have h1 := cnt_not_full (p := fun u => decide (cC le sp u < cC le sp c)) (n := 30) c0 c1 (by rw [decide_eq_true_iff]; omega)
    refine ⟨q1, by omega, q3, q4, if_neg (by omega)⟩
theorem WI_0 {rk le sp : Int → Int} {a : Int} (a0 : 0 ≤ a) (a1 : a < 30) (hr : ∀ c, 0 ≤ c → c < 30 → 0 ≤ rk c ∧ rk c ≤ 2996) (h1 : ∀ c, 0 ≤ c → c < 30 → le c = if c = a then 0 else 1000000000) (h2 : ∀ c, 0 ≤ c → c < 30 → sp c = 0) : WI rk le sp a := by
  refine ⟨by rw [h1 a a0 a1, if_pos rfl], h2 a a0 a1, fun c c0 c1 => ?_⟩
  have hb := wD_b (to := a) (fun q q0 q1 => (hr q q0 q1).1) 29 c c0 c1
  by_cases e : c = a
  · have e1 : le c = 0 := by rw [h1 c c0 c1, if_pos e]
    have e2 := h2 c c0 c1
    refine ⟨Or.inr ⟨by omega, by omega, by omega, by omega⟩, ?_⟩
    have : wF rk a c = 0 := by rw [e]; exact wD_to (fun q q0 q1 => (hr q q0 q1).1) a0 a1 29
    unfold cC
    rw [if_neg (by omega)]; omega
  · have e1 : le c = 1000000000 := by rw [h1 c c0 c1, if_neg e]
    refine ⟨Or.inl ⟨e1, h2 c c0 c1⟩, ?_⟩
    unfold cC
    rw [if_pos e1]; exact hb.2
/-- by a cell it is less -/
def lsM (rk le sp : Int → Int) (c b : Int) : Prop := le b < 1000000000 ∧ (le b + rk b < le c ∨ le b + rk b = le c ∧ sp b + 1 < sp c)
theorem ls_c {rk le sp : Int → Int} {a c b : Int} (h : WI rk le sp a) (hr : ∀ c, 0 ≤ c → c < 30 → 0 ≤ rk c ∧ rk c ≤ 2996) (c0 : 0 ≤ c) (c1 : c < 30) (b0 : 0 ≤ b) (b1 : b < 30) : lsM rk le sp c b ↔ cC le sp b + rk b * 64 + 1 < cC le sp c := by
  have h1 := WI_b h c c0 c1
  have h2 := WI_b h b b0 b1
  have h3 := hr b b0 b1
  unfold lsM
  omega
theorem WI_up {rk le sp : Int → Int} {a c d : Int} (a0 : 0 ≤ a) (a1 : a < 30) (h : WI rk le sp a) (hr : ∀ c, 0 ≤ c → c < 30 → 0 ≤ rk c ∧ rk c ≤ 2996) (c0 : 0 ≤ c) (c1 : c < 30) (hca : c ≠ a) (d0 : 0 ≤ d) (d1 : d < 4) (hn : nb c d ≠ -1000000005) (hl : lsM rk le sp c (nb c d)) :
    WI rk (uf le c (le (nb c d) + rk (nb c d))) (uf sp c (sp (nb c d) + 1)) a ∧ (∀ q, 0 ≤ q → q < 30 → cC (uf le c (le (nb c d) + rk (nb c d))) (uf sp c (sp (nb c d) + 1)) q ≤ cC le sp q) ∧ cC (uf le c (le (nb c d) + rk (nb c d))) (uf sp c (sp (nb c d) + 1)) c < cC le sp c := by
  have hb := nb_r (d := d) c0 c1
  have b0 : 0 ≤ nb c d := by omega
  have b1 : nb c d < 30 := by omega
  obtain ⟨b, hbe⟩ : ∃ b, b = nb c d := ⟨_, rfl⟩
  rw [← hbe] at hl b0 b1 ⊢
  have hlc := (ls_c h hr c0 c1 b0 b1).mp hl
  have h2 := WI_b h b b0 b1
  have h3 := hr b b0 b1
  have h4 : le b < 1000000000 := hl.1
  have hcb : c ≠ b := fun e => by rw [e] at hlc; omega
  have hcn : cC (uf le c (le b + rk b)) (uf sp c (sp b + 1)) c = cC le sp b + rk b * 64 + 1 := by
    unfold cC
    rw [uf_same, uf_same, if_neg (by omega), if_neg (by omega)]; omega
  have hco : ∀ q, q ≠ c → cC (uf le c (le b + rk b)) (uf sp c (sp b + 1)) q = cC le sp q := fun q hq => by
    unfold cC; rw [uf_ne hq, uf_ne hq]
  have hle : ∀ q, 0 ≤ q → q < 30 → cC (uf le c (le b + rk b)) (uf sp c (sp b + 1)) q ≤ cC le sp q := fun q _ _ => by
    by_cases e : q = c
    · rw [e, hcn]; omega
    · rw [hco q e]; exact Int.le_refl _
  refine ⟨⟨by rw [uf_ne (Ne.symm hca)]; exact h.1, by rw [uf_ne (Ne.symm hca)]; exact h.2.1, fun q q0 q1 => ?_⟩, hle, by omega⟩
  by_cases e : q = c
  · rw [e]
    refine ⟨Or.inr ?_, ?_⟩
    · rw [uf_same, uf_same]
      refine ⟨by omega, ?_, by omega, by omega⟩
      rcases (h.2.2 b b0 b1).1 with q2 | ⟨_, q2, _, _⟩
      · omega
      · have := cnt_lt (p := fun u => decide (cC le sp u < cC le sp b)) (q := fun u => decide (cC (uf le c (le b + rk b)) (uf sp c (sp b + 1)) u < cC (uf le c (le b + rk b)) (uf sp c (sp b + 1)) c)) 30 (fun i i0 i1 hi => by
          have e1 := of_decide_eq_true hi
          have e2 := hle i i0 i1
          exact decide_eq_true (by omega)) ⟨b, b0, b1, decide_eq_true (by rw [hco b (Ne.symm hcb)]; omega), by rw [decide_eq_true_iff]; omega⟩
        omega
    · rw [hcn]
      have g1 := wF_fix (fun q q0 q1 => (hr q q0 q1).1) a0 a1 c c0 c1
      have g2 := mB_le (f := wF rk a) (rk := rk) (c := c) d0 (by omega)
      have g3 : cB (wF rk a) rk c d = wF rk a b + rk b * 64 + 1 := by rw [hbe]; exact if_neg hn
      have g4 := (h.2.2 b b0 b1).2
      omega
  · rw [uf_ne e, uf_ne e, hco q e]
    refine ⟨?_, (h.2.2 q q0 q1).2⟩
    rcases (h.2.2 q q0 q1).1 with q2 | ⟨p1, p2, p3, p4⟩
    · exact Or.inl q2
    · refine Or.inr ⟨p1, ?_, p3, p4⟩
      have := cnt_mono (p := fun u => decide (cC le sp u < cC le sp q)) (q := fun u => decide (cC (uf le c (le b + rk b)) (uf sp c (sp b + 1)) u < cC le sp q)) 30 (fun i i0 i1 hi => by
          have e1 := of_decide_eq_true hi
          have e2 := hle i i0 i1
          exact decide_eq_true (by omega))
      omega
theorem WI_end {rk le sp : Int → Int} {a : Int} (a0 : 0 ≤ a) (a1 : a < 30) (h : WI rk le sp a) (hr : ∀ c, 0 ≤ c → c < 30 → 0 ≤ rk c ∧ rk c ≤ 2996) (hn : ∀ c d : Int, 0 ≤ c → c < 30 → 0 ≤ d → d < 4 → c ≠ a → nb c d ≠ -1000000005 → ¬ lsM rk le sp c (nb c d)) : ∀ c, 0 ≤ c → c < 30 → le c = wF rk a c / 64 ∧ sp c = wF rk a c % 64 ∧ sp c ≤ 29 ∧ 0 ≤ sp c ∧ wF rk a c = le c * 64 + sp c := by
  have ha0 : cC le sp a = 0 := by unfold cC; rw [h.1, h.2.1, if_neg (by decide)]; rfl
  have h0 : ∀ c, 0 ≤ c → c < 30 → cC le sp c ≤ wD rk a 0 c := fun c c0 c1 => by
    show _ ≤ (if c = a then 0 else (536870912 : Int))
    have := WI_b h c c0 c1
    split
    · rename_i e; rw [e, ha0]; decide
    · omega
  have h1 : ∀ c, 0 ≤ c → c < 30 → cC le sp c ≤ mB (cC le sp) rk c := fun c c0 c1 => by
    rw [mB_at]
    have hd := bD_r (f := cC le sp) (rk := rk) (c := c)
    have hb := nb_r (d := bD (cC le sp) rk c) c0 c1
    have hc := WI_b h c c0 c1
    unfold cB
    by_cases e : nb c (bD (cC le sp) rk c) = -1000000005
    · rw [if_pos e]; omega
    · rw [if_neg e]
      have hbb := WI_b h (nb c (bD (cC le sp) rk c)) (by omega) (by omega)
      have hrb := hr (nb c (bD (cC le sp) rk c)) (by omega) (by omega)
      by_cases ea : c = a
      · rw [ea] at hbb hrb ⊢
        rw [ha0]; omega
      · have h2 := hn c _ c0 c1 hd.1 (by omega) ea e
        rw [ls_c h hr c0 c1 (by omega) (by omega)] at h2
        omega
  intro c c0 c1
  have h2 := sub_le h0 h1 29 c c0 c1
  have h3 := (h.2.2 c c0 c1).2
  have h4 := wF_lt a0 a1 hr c0 c1
  have h5 : cC le sp c = wF rk a c := Int.le_antisymm h2 h3
  have h6 := WI_b h c c0 c1
  omega
theorem sum_lt {f g : Int → Int} {j : Int} : ∀ n : Nat, (∀ q : Int, 0 ≤ q → q < (n : Nat) → f q ≤ g q) → sumN f n ≤ sumN g n ∧ (0 ≤ j → j < (n : Nat) → f j < g j → sumN f n < sumN g n)
  | 0, _ => ⟨Int.le_refl _, fun a b => absurd b (by omega)⟩
  | n + 1, h => by
    have ih := sum_lt (j := j) n (fun q a b => h q a (by omega))
    have h1 := h (n : Nat) (by omega) (by omega)
    have e1 : sumN f (n + 1) = sumN f n + f (n : Nat) := rfl
    have e2 : sumN g (n + 1) = sumN g n + g (n : Nat) := rfl
    refine ⟨by omega, fun a b c => ?_⟩
    by_cases e : j = (n : Nat)
    · rw [e] at c; have := ih.1; omega
    · have := ih.2 a (by omega) c; omega
theorem sum_0 {f : Int → Int} : ∀ n : Nat, (∀ q : Int, 0 ≤ q → q < (n : Nat) → 0 ≤ f q) → 0 ≤ sumN f n
  | 0, _ => Int.le_refl _
  | n + 1, h => by
    have ih := sum_0 n (fun q a b => h q a (by omega))
    have h1 := h (n : Nat) (by omega) (by omega)
    have e1 : sumN f (n + 1) = sumN f n + f (n : Nat) := rfl
    omega
/-! costs within so many steps: 10^9 stands for what is never come to -/
def nvM (v : Int) : Int := if v = 536870912 then 1000000000 else v
theorem bE_k {rk : Int → Int} {a : Int} (h : ∀ c, 0 ≤ c → c < 30 → 0 ≤ rk c ∧ rk c ≤ 2996) : ∀ (k : Nat) (c : Int), k ≤ 40 → 0 ≤ c → c < 30 → bE rk a k c = 536870912 ∨ (0 ≤ bE rk a k c ∧ bE rk a k c ≤ 2996 * (k : Nat))
  | 0, c, _, _, _ => by
    have e : bE rk a 0 c = if c = a then 0 else 536870912 := rfl
    rw [e]
    split <;> omega
  | k + 1, c, hk, c0, c1 => by
    have e : bE rk a (k + 1) c = min (bE rk a k c) (lb (bE rk a k) c + rk c) := rfl
    have h1 := bE_k (a := a) h k c (by omega) c0 c1
    have hb := lb_b c0 c1 (fun q a0 b0 => (bE_b (a := a) (fun q x y => (h q x y).1) k q a0 b0).1)
    have hc := h c c0 c1
    by_cases q : lb (bE rk a k) c ≤ 2996 * (k : Nat)
    · omega
    · have h2 : ¬ lb (bE rk a k) c ≤ 536870911 := fun q2 => by
        obtain ⟨d, d0, d1, d2, d3⟩ := (lb_le (by decide)).mp q2
        have hr := nb_r (d := d) c0 c1
        have h3 := bE_k (a := a) h k (nb c d) (by omega) (by omega) (by omega)
        have h4 : lb (bE rk a k) c ≤ 2996 * (k : Nat) := (lb_le (by omega)).mpr ⟨d, d0, d1, d2, by omega⟩
        exact q h4
      omega
