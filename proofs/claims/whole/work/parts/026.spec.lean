/-! WHAT THE DOCUMENT SAYS, as functions on numbers: texts worked out, risks, holds, steps -/
def joinI (c a b : Int) : Int :=
  if c = 124 then (if a ≠ 0 ∨ b ≠ 0 then 1 else 0)
  else if c = 38 then (if a ≠ 0 ∧ b ≠ 0 then 1 else 0)
  else if c = 60 then (if a < b then 1 else 0)
  else if c = 61 then (if a = b then 1 else 0)
  else if c = 62 then (if b < a then 1 else 0)
  else if c = 43 then wr (a + b)
  else if c = 45 then wr (a - b)
  else if c = 42 then wr (a * b)
  else (if b = 0 then 0 else wr (Int.tdiv a b))
def pvW (steep second danger c : Int) : Int := if 0 ≤ c then c else if c = -115 then steep else if c = -100 then danger else second
def stE (pv : Int → Int) (S : List Int) (c : Int) : List Int :=
  if c = -33 then (match S with
    | [] => []
    | x :: t => (if x = 0 then 1 else 0) :: t)
  else if (0 ≤ c ∨ (97 ≤ -c ∧ -c ≤ 122)) then pv c :: S
  else match S with
    | b :: a :: t => joinI (-c) a b :: t
    | S => S
def evS (pv : Int → Int) (cs : List Int) : List Int := cs.foldl (stE pv) []
def evL (pv : Int → Int) (cs : List Int) : Int := (evS pv cs).getLastD 0
def stk (f : Int → Int) : List Int → Prop
  | [] => True
  | x :: t => f (t.length : Nat) = x ∧ stk f t
theorem stk_uf {f : Int → Int} {v : Int} {k : Int} : ∀ {S : List Int}, stk f S → (S.length : Int) ≤ k → stk (uf f k v) S
  | [], _, _ => trivial
  | x :: t, h, hk => by
    have hl : ((x :: t).length : Int) = t.length + 1 := by simp
    exact ⟨by rw [uf_ne (by omega)]; exact h.1, stk_uf h.2 (by omega)⟩
theorem stk_last {f : Int → Int} : ∀ {S : List Int}, stk f S → S ≠ [] → f 0 = S.getLastD 0
  | [], _, h => absurd rfl h
  | [x], h, _ => h.1
  | x :: y :: t, h, _ => by
    have := stk_last (S := y :: t) h.2 (by simp)
    rw [this]
    simp [List.getLastD]
theorem stE_len {pv : Int → Int} {S : List Int} {c : Int} : (stE pv S c).length ≤ S.length + 1 := by
  unfold stE
  split
  · split <;> simp
  · split
    · simp
    · split <;> simp <;> omega
/-! laws: a list of (key, pieces, codes); the last one of a key counts -/
abbrev LT : Type := List (Int × Int × List Int)
def lastK (keys : Nat → Int) (key : Int) : Nat → Option Nat
  | 0 => none
  | n + 1 => if keys n = key then some n else lastK keys key n
def onI (o : Option Nat) : Int := match o with
  | none => -1000000005
  | some i => (i : Nat)
theorem lastK_lt {keys : Nat → Int} {key : Int} : ∀ {n i : Nat}, lastK keys key n = some i → i < n ∧ keys i = key
  | 0, i, h => by cases h
  | n + 1, i, h => by
    unfold lastK at h
    by_cases hk : keys n = key
    · rw [if_pos hk] at h
      cases h
      exact ⟨Nat.lt_succ_self _, hk⟩
    · rw [if_neg hk] at h
      have := lastK_lt h
      exact ⟨by omega, this.2⟩
def lawOf (LL : LT) (key : Int) : Option (List Int) := (lastK (fun i => (LL.getD i (0, 0, [])).1) key LL.length).map (fun i => (LL.getD i (0, 0, [])).2.2)
def cl (v a b : Int) : Int := max a (min b v)
def plainR (LL : LT) (danger steep load : Int) : Int := match lawOf LL 0 with
  | none => if steep < 30 then 0 else (steep - 29) * danger + load / 10
  | some cs => cl (evL (pvW steep load danger) cs) 0 999
def plainH (LL : LT) (steep row : Int) : Int := match lawOf LL 1 with
  | none => 70 - steep
  | some cs => cl (evL (pvW steep row 0) cs) 0 99
def stepV (LL : LT) (steep up : Int) : Int := match lawOf LL 2 with
  | none => 1 + steep / 10 + 2 * up
  | some cs => cl (evL (pvW steep up 0) cs) 0 99
def sunV (hour : Int) : Int := max 0 (hour - 9)
/-- the greatest of what stands above a place in its column -/
def abvN (pr : Int → Int) : Nat → Int → Int
  | 0, _ => 0
  | n + 1, c => if c + 6 < 30 then max (pr (c + 6)) (abvN pr n (c + 6)) else 0
def abv (pr : Int → Int) (c : Int) : Int := abvN pr 5 c
def riskV (LL : LT) (danger hour : Int) (kinds steeps loads : Int → Int) (c : Int) : Int :=
  kRisk (kinds c) (plainR LL danger (steeps c) (loads c)) (abv (fun q => plainR LL danger (steeps q) (loads q)) c) (sunV hour)
def upV (a b : Int) : Int := if a / 6 < b / 6 then 1 else 0
/-! a text is well made: its depth is 1 at the end, never too low; its codes are those of its key -/
def dpS (o : Option Nat) (c : Int) : Option Nat := match o with
  | none => none
  | some d => if c = -33 then (if 1 ≤ d then some d else none) else if (0 ≤ c ∨ (97 ≤ -c ∧ -c ≤ 122)) then some (d + 1) else (if 2 ≤ d then some (d - 1) else none)
def dep (cs : List Int) : Option Nat := cs.foldl dpS (some 0)
def cdOK (key c : Int) : Prop := (0 ≤ c ∧ c ≤ 9999) ∨ c = -33 ∨ c = -124 ∨ c = -38 ∨ c = -60 ∨ c = -61 ∨ c = -62 ∨ c = -43 ∨ c = -45 ∨ c = -42 ∨ c = -47 ∨ c = -115 ∨ (key = 0 ∧ (c = -108 ∨ c = -100)) ∨ (key = 1 ∧ c = -114) ∨ (key = 2 ∧ c = -117)
def wfT (t : Int × Int × List Int) : Prop := 0 ≤ t.1 ∧ t.1 ≤ 2 ∧ t.2.2.length ≤ 96 ∧ dep t.2.2 = some 1 ∧ (∀ c ∈ t.2.2, cdOK t.1 c) ∧ 0 ≤ t.2.1 ∧ t.2.1 ≤ 96
def wfLL (LL : LT) : Prop := LL.length ≤ 14 ∧ ∀ t ∈ LL, wfT t
theorem dep_none (cs : List Int) : cs.foldl dpS none = none := by
  induction cs with
  | nil => rfl
  | cons c t ih => exact ih
theorem dep_step {pv : Int → Int} {S : List Int} {c : Int} {d : Nat} (h : dpS (some S.length) c = some d) : (stE pv S c).length = d := by
  unfold dpS at h
  unfold stE
  by_cases h1 : c = -33
  · simp only [h1, if_true] at h ⊢
    by_cases h2 : 1 ≤ S.length
    · rw [if_pos h2] at h
      cases S with
      | nil => simp at h2
      | cons x t => simp at h ⊢; exact h
    · rw [if_neg h2] at h; cases h
  · simp only [h1, if_false] at h ⊢
    by_cases h2 : (0 ≤ c ∨ (97 ≤ -c ∧ -c ≤ 122))
    · rw [if_pos h2] at h ⊢
      simp at h ⊢; exact h
    · rw [if_neg h2] at h ⊢
      by_cases h3 : 2 ≤ S.length
      · rw [if_pos h3] at h
        match S, h3 with
        | b :: a :: t, _ => simp at h ⊢; exact h
      · rw [if_neg h3] at h; cases h
theorem dep_len {pv : Int → Int} : ∀ (cs : List Int) (S : List Int) (d : Nat), cs.foldl dpS (some S.length) = some d → (cs.foldl (stE pv) S).length = d
  | [], S, d, h => Option.some.inj h
  | c :: t, S, d, h => by
    simp only [List.foldl_cons] at h ⊢
    cases hd : dpS (some S.length) c with
    | none => rw [hd, dep_none] at h; cases h
    | some e =>
      rw [hd] at h
      have hl := dep_step (pv := pv) hd
      rw [← hl] at h
      exact dep_len t _ d h
theorem wf_ne {pv : Int → Int} {cs : List Int} (h : dep cs = some 1) : evS pv cs ≠ [] := by
  have := dep_len (pv := pv) cs [] 1 h
  intro e
  unfold evS at e
  rw [e] at this
  cases this
