/-! PURE: counting cells; rows that only fall come to rest within 29 rounds -/
def cnt (p : Int → Bool) : Nat → Nat
  | 0 => 0
  | n + 1 => cnt p n + (if p (n : Nat) = true then 1 else 0)
theorem cnt_le {p : Int → Bool} : ∀ n : Nat, cnt p n ≤ n
  | 0 => Nat.le_refl _
  | n + 1 => by
    have := cnt_le (p := p) n
    unfold cnt
    split <;> omega
theorem cnt_mono {p q : Int → Bool} : ∀ n : Nat, (∀ i : Int, 0 ≤ i → i < (n : Nat) → p i = true → q i = true) → cnt p n ≤ cnt q n
  | 0, _ => Nat.le_refl _
  | n + 1, h => by
    have h1 := cnt_mono (p := p) (q := q) n (fun i a b => h i a (by omega))
    have h2 := h (n : Nat) (by omega) (by omega)
    unfold cnt
    by_cases e : p (n : Nat) = true
    · rw [if_pos e, if_pos (h2 e)]; omega
    · rw [if_neg e]; split <;> omega
theorem cnt_lt {p q : Int → Bool} : ∀ n : Nat, (∀ i : Int, 0 ≤ i → i < (n : Nat) → p i = true → q i = true) → (∃ j : Int, 0 ≤ j ∧ j < (n : Nat) ∧ q j = true ∧ ¬ p j = true) → cnt p n + 1 ≤ cnt q n
  | 0, _, ⟨j, h0, h1, _⟩ => absurd h1 (by omega)
  | n + 1, h, ⟨j, h0, h1, h2, h3⟩ => by
    by_cases e : j = (n : Nat)
    · subst e
      have h4 := cnt_mono (p := p) (q := q) n (fun i a b => h i a (by omega))
      unfold cnt
      rw [if_pos h2, if_neg h3]
      omega
    · have h4 := cnt_lt (p := p) (q := q) n (fun i a b => h i a (by omega)) ⟨j, h0, by omega, h2, h3⟩
      have h5 := h (n : Nat) (by omega) (by omega)
      unfold cnt
      by_cases e2 : p (n : Nat) = true
      · rw [if_pos e2, if_pos (h5 e2)]; omega
      · rw [if_neg e2]; split <;> omega
theorem cnt_all (n : Nat) : cnt (fun _ => true) n = n := by
  induction n with
  | zero => rfl
  | succ n ih => unfold cnt; rw [ih]; rfl
theorem cnt_not_full {p : Int → Bool} {n : Nat} {j : Int} (h0 : 0 ≤ j) (h1 : j < (n : Nat)) (h : ¬ p j = true) : cnt p n + 1 ≤ n := by
  have := cnt_lt (p := p) (q := fun _ => true) n (fun _ _ _ _ => rfl) ⟨j, h0, h1, rfl, h⟩
  rw [cnt_all] at this
  exact this
theorem cnt_pos {p : Int → Bool} {n : Nat} {j : Int} (h0 : 0 ≤ j) (h1 : j < (n : Nat)) (h : p j = true) : 1 ≤ cnt p n := by
  have := cnt_lt (p := fun _ => false) (q := p) n (fun _ _ _ e => by cases e) ⟨j, h0, h1, h, by decide⟩
  omega
theorem stab {E : Nat → Int → Int} {src : Int} (hs0 : 0 ≤ src) (hs1 : src < 30) (hm : ∀ (k : Nat) (c : Int), 0 ≤ c → c < 30 → E (k + 1) c ≤ E k c)
    (hb : ∀ c : Int, 0 ≤ c → c < 30 → E 1 c < E 0 c → E 0 src ≤ E 1 c)
    (hst : ∀ (k : Nat) (c : Int), 0 ≤ c → c < 30 → E (k + 2) c < E (k + 1) c → ∃ u : Int, 0 ≤ u ∧ u < 30 ∧ E (k + 1) u < E k u ∧ E (k + 1) u ≤ E (k + 2) c) :
    ∀ c : Int, 0 ≤ c → c < 30 → E 30 c = E 29 c := by
  have key : ∀ (k : Nat) (c : Int), 0 ≤ c → c < 30 → E (k + 1) c < E k c → k + 1 ≤ cnt (fun u => decide (E k u ≤ E (k + 1) c)) 30 := by
    intro k
    induction k with
    | zero =>
      intro c c0 c1 h
      exact cnt_pos hs0 hs1 (decide_eq_true (hb c c0 c1 h))
    | succ k ih =>
      intro c c0 c1 h
      obtain ⟨u, u0, u1, h1, h2⟩ := hst k c c0 c1 h
      have h3 := ih u u0 u1 h1
      have h4 := cnt_lt (p := fun q => decide (E k q ≤ E (k + 1) u)) (q := fun q => decide (E (k + 1) q ≤ E (k + 2) c)) 30 (fun i a b e => by
        have e1 := of_decide_eq_true e
        have e2 := hm k i a b
        exact decide_eq_true (by omega)) ⟨u, u0, u1, decide_eq_true h2, fun e => by
        have := of_decide_eq_true e
        omega⟩
      show k + 1 + 1 ≤ cnt (fun q => decide (E (k + 1) q ≤ E (k + 2) c)) 30
      omega
  intro c c0 c1
  have h1 : E 30 c ≤ E 29 c := hm 29 c c0 c1
  by_cases h : E 30 c < E 29 c
  · have h2 : 30 ≤ cnt (fun u => decide (E 29 u ≤ E 30 c)) 30 := key 29 c c0 c1 h
    have h3 := cnt_not_full (p := fun u => decide (E 29 u ≤ E 30 c)) (n := 30) c0 c1 (fun e => by
      have := of_decide_eq_true e
      omega)
    omega
  · omega
/-! the ways: costs by a neighbour, the best direction, rounds -/
def fFAR : Int := 536870912
def cB (co rk : Int → Int) (c d : Int) : Int := if nb c d = -1000000005 then 536870912 else co (nb c d) + rk (nb c d) * 64 + 1
def bdS (co rk : Int → Int) (c : Int) : Nat → Int × Int
  | 0 => (0, cB co rk c 0)
  | n + 1 => if cB co rk c ((n : Nat) + 1) < (bdS co rk c n).2 then (((n : Nat) : Int) + 1, cB co rk c ((n : Nat) + 1)) else bdS co rk c n
def bD (co rk : Int → Int) (c : Int) : Int := (bdS co rk c 3).1
def mB (co rk : Int → Int) (c : Int) : Int := (bdS co rk c 3).2
theorem bdS_p {co rk : Int → Int} {c : Int} : ∀ n : Nat, 0 ≤ (bdS co rk c n).1 ∧ (bdS co rk c n).1 ≤ (n : Nat) ∧ (bdS co rk c n).2 = cB co rk c (bdS co rk c n).1 ∧ ∀ d : Int, 0 ≤ d → d ≤ (n : Nat) → (bdS co rk c n).2 ≤ cB co rk c d ∧ (cB co rk c d = (bdS co rk c n).2 → (bdS co rk c n).1 ≤ d)
  | 0 => by
    refine ⟨Int.le_refl _, Int.le_refl _, rfl, fun d d0 d1 => ?_⟩
    have : d = 0 := by omega
    subst this
    exact ⟨Int.le_refl _, fun _ => Int.le_refl _⟩
  | n + 1 => by
    obtain ⟨h1, h2, h3, h4⟩ := bdS_p (co := co) (rk := rk) (c := c) n
    unfold bdS
    by_cases e : cB co rk c ((n : Nat) + 1) < (bdS co rk c n).2
    · rw [if_pos e]
      refine ⟨by show (0 : Int) ≤ (n : Nat) + 1; omega, by show ((n : Nat) : Int) + 1 ≤ ((n + 1 : Nat) : Int); omega, rfl, fun d d0 d1 => ?_⟩
      by_cases e2 : d = (n : Nat) + 1
      · subst e2; exact ⟨Int.le_refl _, fun _ => Int.le_refl _⟩
      · have := (h4 d d0 (by omega)).1
        exact ⟨by show cB co rk c ((n : Nat) + 1) ≤ _; omega, fun q => absurd q (by show ¬ (cB co rk c d = cB co rk c ((n : Nat) + 1)); omega)⟩
    · rw [if_neg e]
      refine ⟨h1, by omega, h3, fun d d0 d1 => ?_⟩
      by_cases e2 : d = (n : Nat) + 1
      · subst e2; exact ⟨by omega, fun _ => by omega⟩
      · exact h4 d d0 (by omega)
theorem nb_r {c d : Int} (h0 : 0 ≤ c) (h1 : c < 30) : nb c d = -1000000005 ∨ (0 ≤ nb c d ∧ nb c d < 30) := by
  unfold nb nNONE
  split
  · split <;> omega
  · split
    · split <;> omega
    · split
      · split <;> omega
      · split <;> omega
theorem cB_mono {f g rk : Int → Int} {c d : Int} (h0 : 0 ≤ c) (h1 : c < 30) (h : ∀ q, 0 ≤ q → q < 30 → f q ≤ g q) : cB f rk c d ≤ cB g rk c d := by
  unfold cB
  rcases nb_r (d := d) h0 h1 with e | e
  · rw [if_pos e, if_pos e]; exact Int.le_refl _
  · rw [if_neg (by omega), if_neg (by omega)]
    have := h _ e.1 e.2
    omega
theorem mB_le {f rk : Int → Int} {c d : Int} (d0 : 0 ≤ d) (d1 : d ≤ 3) : mB f rk c ≤ cB f rk c d := ((bdS_p 3).2.2.2 d d0 d1).1
theorem mB_at {f rk : Int → Int} {c : Int} : mB f rk c = cB f rk c (bD f rk c) := (bdS_p 3).2.2.1
theorem bD_r {f rk : Int → Int} {c : Int} : 0 ≤ bD f rk c ∧ bD f rk c ≤ 3 := ⟨(bdS_p 3).1, (bdS_p 3).2.1⟩
theorem mB_mono {f g rk : Int → Int} {c : Int} (h0 : 0 ≤ c) (h1 : c < 30) (h : ∀ q, 0 ≤ q → q < 30 → f q ≤ g q) : mB f rk c ≤ mB g rk c := by
  rw [mB_at (f := g)]
  exact Int.le_trans (mB_le bD_r.1 bD_r.2) (cB_mono h0 h1 h)
/-- rounds: what the ways cost within so many steps -/
def wD (rk : Int → Int) (to : Int) : Nat → Int → Int
  | 0 => fun c => if c = to then 0 else 536870912
  | k + 1 => fun c => min (wD rk to k c) (mB (wD rk to k) rk c)
def wF (rk : Int → Int) (to : Int) : Int → Int := wD rk to 29
theorem wD_b {rk : Int → Int} {to : Int} (hr : ∀ q, 0 ≤ q → q < 30 → 0 ≤ rk q) : ∀ (k : Nat) (c : Int), 0 ≤ c → c < 30 → 0 ≤ wD rk to k c ∧ wD rk to k c ≤ 536870912
  | 0, c, _, _ => by
    show 0 ≤ (if c = to then 0 else (536870912 : Int)) ∧ (if c = to then 0 else (536870912 : Int)) ≤ 536870912
    split <;> omega
  | k + 1, c, h0, h1 => by
    have h2 := wD_b (to := to) hr k c h0 h1
    have h3 : 0 ≤ mB (wD rk to k) rk c := by
      rw [mB_at]
      unfold cB
      rcases nb_r (d := bD (wD rk to k) rk c) h0 h1 with e | e
      · rw [if_pos e]; decide
      · rw [if_neg (by omega)]
        have := (wD_b (to := to) hr k _ e.1 e.2).1
        have := hr _ e.1 e.2
        omega
    show 0 ≤ min (wD rk to k c) (mB (wD rk to k) rk c) ∧ min (wD rk to k c) (mB (wD rk to k) rk c) ≤ 536870912
    omega
theorem wD_m {rk : Int → Int} {to : Int} (k : Nat) (c : Int) : wD rk to (k + 1) c ≤ wD rk to k c := by
  show min (wD rk to k c) (mB (wD rk to k) rk c) ≤ _
  omega
theorem wD_to {rk : Int → Int} {to : Int} (hr : ∀ q, 0 ≤ q → q < 30 → 0 ≤ rk q) (h0 : 0 ≤ to) (h1 : to < 30) : ∀ k : Nat, wD rk to k to = 0
  | 0 => by show (if to = to then 0 else (536870912 : Int)) = 0; rw [if_pos rfl]
  | k + 1 => by
    have h2 := wD_m (rk := rk) (to := to) k to
    have h3 := wD_to hr h0 h1 k
    have h4 := (wD_b (to := to) hr (k + 1) to h0 h1).1
    omega
theorem wD_fix {rk : Int → Int} {to : Int} (hr : ∀ q, 0 ≤ q → q < 30 → 0 ≤ rk q) (h0 : 0 ≤ to) (h1 : to < 30) : ∀ c : Int, 0 ≤ c → c < 30 → wD rk to 30 c = wF rk to c := by
  refine stab (E := wD rk to) h0 h1 (fun k c _ _ => wD_m k c) (fun c c0 c1 _ => ?_) (fun k c c0 c1 h => ?_)
  · rw [wD_to hr h0 h1 0]; exact (wD_b hr 1 c c0 c1).1
  · have h2 : wD rk to (k + 2) c = mB (wD rk to (k + 1)) rk c := by
      have e : wD rk to (k + 2) c = min (wD rk to (k + 1) c) (mB (wD rk to (k + 1)) rk c) := rfl
      omega
    have h3 : wD rk to (k + 1) c ≤ mB (wD rk to k) rk c := by
      have e : wD rk to (k + 1) c = min (wD rk to k c) (mB (wD rk to k) rk c) := rfl
      omega
    rw [h2, mB_at] at h ⊢
    obtain ⟨dd, hdd⟩ : ∃ q, q = bD (wD rk to (k + 1)) rk c := ⟨_, rfl⟩
    rw [← hdd] at h ⊢
    have hd := bD_r (f := wD rk to (k + 1)) (rk := rk) (c := c)
    rw [← hdd] at hd
    have h4 := mB_le (f := wD rk to k) (rk := rk) (c := c) hd.1 hd.2
    unfold cB at h h4 ⊢
    have hb := wD_b (to := to) hr (k + 1) c c0 c1
    rcases nb_r (d := dd) c0 c1 with e | e
    · rw [if_pos e] at h; omega
    · rw [if_neg (by omega)] at h h4 ⊢
      have hq := hr _ e.1 e.2
      refine ⟨nb c dd, e.1, e.2, by omega, by omega⟩
theorem wF_fix {rk : Int → Int} {to : Int} (hr : ∀ q, 0 ≤ q → q < 30 → 0 ≤ rk q) (h0 : 0 ≤ to) (h1 : to < 30) (c : Int) (c0 : 0 ≤ c) (c1 : c < 30) : wF rk to c ≤ mB (wF rk to) rk c := by
  have h := wD_fix hr h0 h1 c c0 c1
  have e : wD rk to 30 c = min (wF rk to c) (mB (wF rk to) rk c) := rfl
  omega
