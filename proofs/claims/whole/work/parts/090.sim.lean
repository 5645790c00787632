/-! THE TWO SIDE BY SIDE: what must agree between the calls -/
/-- a mountain of the class and a row of the reference -/
def SM (μ : Mem) (M : Nat) (f : Int → Int) : Prop := mtI μ M ∧ mdI f ∧ asM μ M (vm f) 32 ∧ LM μ M = LM (vm f) 32
def Sim (μ : Mem) : Prop :=
  SM μ 32 (μ 88) ∧
  ((μ 0 11 = 0 ∨ μ 0 11 = 1) ∧ μ 87 3 = μ 0 11 ∧ (μ 0 11 ≠ 0 → SM μ 39 (μ 89) ∧ μ 39 13 ≤ μ 32 13)) ∧
  (μ 107 = μ 57 ∧ μ 87 21 = μ 56 1 ∧ (0 ≤ μ 56 1 ∧ μ 56 1 ≤ 96) ∧ ∀ q, 0 ≤ μ 57 q ∧ μ 57 q ≤ 255) ∧
  (∀ k : Nat, k < 4 → ((-1 ≤ μ (62 + 2 * k) 0 ∧ μ (62 + 2 * k) 0 ≤ 1) ∧ 0 ≤ μ (62 + 2 * k) 1 ∧ μ (62 + 2 * k) 1 ≤ 24) ∧ μ 91 (k : Nat) = μ (62 + 2 * k) 0 ∧ μ 92 (k : Nat) = μ (62 + 2 * k) 1 ∧ ∀ j, 0 ≤ j → j < 24 → μ 93 (24 * (k : Nat) + j) = μ (62 + 2 * k + 1) j) ∧
  (∀ k : Nat, k < 5 → (0 ≤ μ (71 + 3 * k) 0 ∧ μ (71 + 3 * k) 0 ≤ 3) ∧ μ 94 (k : Nat) = μ (71 + 3 * k) 0 ∧
    (μ (71 + 3 * k) 0 = 1 → ((0 ≤ μ (71 + 3 * k) 1 ∧ μ (71 + 3 * k) 1 ≤ 5) ∧ (0 ≤ μ (71 + 3 * k) 2 ∧ μ (71 + 3 * k) 2 ≤ 60) ∧ 0 ≤ μ (71 + 3 * k) 3 ∧ μ (71 + 3 * k) 3 ≤ 999) ∧ μ 95 (k : Nat) = μ (71 + 3 * k) 1 ∧ μ 96 (k : Nat) = kWorth (μ (71 + 3 * k) 1) (μ (71 + 3 * k) 2) (μ (71 + 3 * k) 3)) ∧
    (μ (71 + 3 * k) 0 = 2 → (0 ≤ μ (71 + 3 * k + 1) 1 ∧ μ (71 + 3 * k + 1) 1 ≤ 24) ∧ μ 97 (k : Nat) = μ (71 + 3 * k + 1) 1 ∧ ∀ j, 0 ≤ j → j < 24 → μ 98 (24 * (k : Nat) + j) = μ (71 + 3 * k + 2) j) ∧
    (μ (71 + 3 * k) 0 = 3 → μ 95 (k : Nat) = μ (71 + 3 * k) 4)) ∧
  (μ 111 = μ 86 ∧ μ 87 36 = μ 0 10 ∧ 0 ≤ μ 0 10 ∧ μ 0 10 ≤ 60)
/-- what the calls may leave as they like -/
def scr (q : Nat) : Prop := q = 3 ∨ q = 37 ∨ q = 38 ∨ (44 ≤ q ∧ q ≤ 55) ∨ (58 ≤ q ∧ q ≤ 60) ∨ q = 90 ∨ (99 ≤ q ∧ q ≤ 106) ∨ (108 ≤ q ∧ q ≤ 110) ∨ q = 112
theorem mtI_q {μ μ' : Mem} {M : Nat} (hl : ∀ q, 4 ≤ q → q < 32 → μ' q = μ q) (h0 : μ' M = μ M) (h1 : μ' (M + 1) = μ (M + 1)) (h2 : μ' (M + 2) = μ (M + 2)) (h3 : μ' (M + 3) = μ (M + 3)) (h4 : μ' (M + 4) = μ (M + 4)) (h : mtI μ M) : mtI μ' M := by
  unfold mtI at *
  rw [h0, h1, h2, h3, h4]
  exact ⟨h.1, h.2.1, h.2.2.1, h.2.2.2.1, h.2.2.2.2.1, h.2.2.2.2.2.1, h.2.2.2.2.2.2.1, h.2.2.2.2.2.2.2.1, h.2.2.2.2.2.2.2.2.1, lwI_fr hl h.2.2.2.2.2.2.2.2.2⟩
theorem SM_q {μ μ' : Mem} {M : Nat} {f : Int → Int} (hl : ∀ q, 4 ≤ q → q < 32 → μ' q = μ q) (h0 : μ' M = μ M) (h1 : μ' (M + 1) = μ (M + 1)) (h2 : μ' (M + 2) = μ (M + 2)) (h3 : μ' (M + 3) = μ (M + 3)) (h4 : μ' (M + 4) = μ (M + 4)) (h : SM μ M f) : SM μ' M f := by
  obtain ⟨a, b, c, d⟩ := h
  refine ⟨mtI_q hl h0 h1 h2 h3 h4 a, b, ?_, ?_⟩
  · unfold asM at *; rw [h0, h1, h2, h3, h4]; exact c
  · rw [← d]
    unfold LM
    rw [h0]
    exact LLc_fr (by have := a.2.2.2.2.2.2.2.2.1; omega) hl
theorem sim_keep {μ μ' : Mem} (h : Sim μ) (hf : ∀ q, ¬ scr q → μ' q = μ q) : Sim μ' := by
  have hl : ∀ q, 4 ≤ q → q < 32 → μ' q = μ q := fun q a b => hf q (by unfold scr; omega)
  have hz : ∀ q, (q < 3 ∨ (32 ≤ q ∧ q ≤ 36) ∨ (39 ≤ q ∧ q ≤ 43) ∨ (56 ≤ q ∧ q ≤ 57) ∨ (61 ≤ q ∧ q ≤ 89) ∨ (91 ≤ q ∧ q ≤ 98) ∨ q = 107 ∨ q = 111) → μ' q = μ q := fun q a => hf q (by unfold scr; omega)
  obtain ⟨s1, ⟨i1, i2, i3⟩, s3, s4, s5, s6⟩ := h
  refine ⟨?_, ⟨?_, ?_, fun hi => ?_⟩, ?_, fun k hk => ?_, fun k hk => ?_, ?_⟩
  · rw [hz 88 (by omega)]; exact SM_q hl (hz _ (by omega)) (hz _ (by omega)) (hz _ (by omega)) (hz _ (by omega)) (hz _ (by omega)) s1
  · rw [hz 0 (by omega)]; exact i1
  · rw [hz 0 (by omega), hz 87 (by omega)]; exact i2
  · rw [hz 0 (by omega)] at hi
    rw [hz 89 (by omega), hz 39 (by omega), hz 32 (by omega)]
    exact ⟨SM_q hl (hz _ (by omega)) (hz _ (by omega)) (hz _ (by omega)) (hz _ (by omega)) (hz _ (by omega)) (i3 hi).1, (i3 hi).2⟩
  · rw [hz 107 (by omega), hz 57 (by omega), hz 87 (by omega), hz 56 (by omega)]; exact s3
  · rw [hz (62 + 2 * k) (by omega), hz (62 + 2 * k + 1) (by omega), hz 91 (by omega), hz 92 (by omega), hz 93 (by omega)]; exact s4 k hk
  · rw [hz (71 + 3 * k) (by omega), hz (71 + 3 * k + 1) (by omega), hz (71 + 3 * k + 2) (by omega), hz 94 (by omega), hz 95 (by omega), hz 96 (by omega), hz 97 (by omega), hz 98 (by omega)]; exact s5 k hk
  · rw [hz 111 (by omega), hz 86 (by omega), hz 87 (by omega), hz 0 (by omega)]; exact s6
/-! what a mountain and its row tell alike -/
section Alike
variable {μ : Mem} {M : Nat} {f : Int → Int}
theorem sm_k (h : SM μ M f) : EqR (μ (M + 1)) (vm f 33) := fun c a b => (h.2.2.1.1 c a b).1
theorem sm_s (h : SM μ M f) : EqR (μ (M + 2)) (vm f 34) := fun c a b => (h.2.2.1.1 c a b).2.1
theorem sm_l (h : SM μ M f) : EqR (μ (M + 3)) (vm f 35) := fun c a b => (h.2.2.1.1 c a b).2.2
theorem sm_t (h : SM μ M f) : ∀ i, 0 ≤ i → i < 24 → μ (M + 4) i = vm f 36 i := h.2.2.1.2.1
theorem sm_n (h : SM μ M f) : μ M 7 = f 0 ∧ μ M 8 = f 2 ∧ μ M 9 = f 3 ∧ μ M 10 = f 4 ∧ μ M 11 = f 6 ∧ μ M 12 = f 5 ∧ μ M 13 = f 1 := h.2.2.1.2.2
theorem sm_pr (h : SM μ M f) : EqR (prC μ M) (prC (vm f) 32) := fun c a b => by
  unfold prC
  rw [h.2.2.2, (sm_n h).2.1, sm_s h c a b, sm_l h c a b]
  rfl
theorem abvN_cg {p q : Int → Int} (h : EqR p q) : ∀ (n : Nat) (c : Int), 0 ≤ c → abvN p n c = abvN q n c
  | 0, _, _ => rfl
  | n + 1, c, h0 => by
    rw [abvN_s, abvN_s]
    by_cases e : c + 6 < 30
    · rw [if_pos e, if_pos e, h (c + 6) (by omega) e, abvN_cg h n (c + 6) (by omega)]
    · rw [if_neg e, if_neg e]
theorem sm_ab (h : SM μ M f) : EqR (abv (prC μ M)) (abv (prC (vm f) 32)) := fun c a _ => abvN_cg (sm_pr h) 5 c a
theorem sm_rk (h : SM μ M f) : EqR (rkC μ M) (rkC (vm f) 32) := fun c a b => by
  have h1 := sm_pr h c a b
  have h2 := sm_ab h c a b
  unfold rkC riskV
  rw [sm_k h c a b, (sm_n h).2.2.1]
  show kRisk _ (prC μ M c) (abv (prC μ M) c) _ = kRisk _ (prC (vm f) 32 c) (abv (prC (vm f) 32) c) _
  rw [h1, h2]
  rfl
theorem sm_ph (h : SM μ M f) : EqR (phC μ M) (phC (vm f) 32) := fun c a b => by
  unfold phC
  rw [h.2.2.2, sm_s h c a b]
theorem sm_sv (h : SM μ M f) {a b : Int} (b0 : 0 ≤ b) (b1 : b < 30) : svC μ M a b = svC (vm f) 32 a b := by
  unfold svC
  rw [h.2.2.2, sm_s h b b0 b1]
theorem sm_ts (h : SM μ M f) : tsE (tS μ M) (tS (vm f) 32) := by
  refine ⟨sm_l h, ?_⟩
  show (μ M 11, μ M 9, μ M 12) = (f 6, f 3, f 5)
  rw [(sm_n h).2.2.1, (sm_n h).2.2.2.2.1, (sm_n h).2.2.2.2.2.1]
theorem sm_tk (h : SM μ M f) (n : Nat) : tsE (tkM μ M n).1 (tkVN f n).1 ∧ (tkM μ M n).2 = (tkVN f n).2 := by
  have := tkN_cg (fall := f 4) (sm_k h) (sm_s h) (sm_ph h) (sm_ts h) n
  unfold tkM tkVN
  rw [(sm_n h).2.2.2.1]
  exact this
theorem sm_lk (h : SM μ M f) {key : Int} : lastK (fun i => μ (4 + 2 * i) 0) key (μ M 13).toNat = lastK (fun i => vm f (4 + 2 * i) 0) key (f 1).toNat := by
  have e := h.2.2.2
  have hn : (μ M 13).toNat = (f 1).toNat := by rw [(sm_n h).2.2.2.2.2.2]
  have e2 : ∀ i, i < (f 1).toNat → μ (4 + 2 * i) 0 = vm f (4 + 2 * i) 0 := fun i hi => by
    have h1 := LLc_at (μ := μ) (n := (μ M 13).toNat) (i := i) (by rw [hn]; exact hi)
    have h2 := LLc_at (μ := vm f) (n := (f 1).toNat) (i := i) hi
    have h3 : (LLc μ (μ M 13).toNat).getD i (0, 0, []) = (LLc (vm f) (f 1).toNat).getD i (0, 0, []) := congrArg (fun z => z.getD i (0, 0, [])) e
    rw [h1, h2] at h3
    exact congrArg (fun z => z.1) h3
  rw [hn]
  exact lastK_congr e2
theorem sm_tx (h : SM μ M f) {i : Nat} (hi : i < (f 1).toNat) : μ (4 + 2 * i) 0 = vm f (4 + 2 * i) 0 ∧ μ (4 + 2 * i) 1 = vm f (4 + 2 * i) 1 := by
  have e := h.2.2.2
  have hn : (μ M 13).toNat = (f 1).toNat := by rw [(sm_n h).2.2.2.2.2.2]
  have h1 := LLc_at (μ := μ) (n := (μ M 13).toNat) (i := i) (by rw [hn]; exact hi)
  have h2 := LLc_at (μ := vm f) (n := (f 1).toNat) (i := i) hi
  have h3 : (LLc μ (μ M 13).toNat).getD i (0, 0, []) = (LLc (vm f) (f 1).toNat).getD i (0, 0, []) := congrArg (fun z => z.getD i (0, 0, [])) e
  rw [h1, h2] at h3
  exact ⟨congrArg (fun z => z.1) h3, congrArg (fun z => z.2.1) h3⟩
end Alike
