/-! CALLS THAT CHANGE THE MOUNTAIN: both change alike -/
theorem md_of {μ : Mem} {M : Nat} {f : Int → Int} (hI : mtI μ M) (ha : asM μ M (vm f) 32) (ht : tI f) : mdI f := by
  obtain ⟨iK, iS, iL, iT, iTn, iD, iH, iF, iX, iW⟩ := hI
  obtain ⟨h1, h2, h7, h8, h9, h10, h11, h12, h13⟩ := ha
  refine ⟨⟨fun c a b => ?_, fun c a b => ?_, fun c a b => ?_, fun i a b => ?_, ?_, ?_, ?_, ?_, ?_, ht.2.1⟩, ht.2.2⟩
  · rw [← (h1 c a b).1]; exact iK c a b
  · rw [← (h1 c a b).2.1]; exact iS c a b
  · rw [← (h1 c a b).2.2]; exact iL c a b
  · rw [← h2 i a b]; exact iT i a b
  · rw [← h7]; exact iTn
  · rw [← h8]; exact iD
  · rw [← h9]; exact iH
  · rw [← h10]; exact iF
  · rw [← h13]; exact iX
/-- a mountain and its row, after a change that leaves the texts -/
theorem sm_up {μ μ2 : Mem} {M : Nat} {f f' : Int → Int} (h : SM μ M f) (hl : ∀ q, 4 ≤ q → q < 32 → μ2 q = μ q) (h13 : μ2 M 13 = μ M 13) (hN : (∀ c, 0 ≤ c → c < 30 → 0 ≤ μ2 (M + 1) c ∧ μ2 (M + 1) c ≤ 5) ∧ (∀ c, 0 ≤ c → c < 30 → 0 ≤ μ2 (M + 2) c ∧ μ2 (M + 2) c ≤ 60) ∧ (∀ c, 0 ≤ c → c < 30 → 0 ≤ μ2 (M + 3) c ∧ μ2 (M + 3) c ≤ 999) ∧ (∀ i, 0 ≤ i → i < 24 → 0 ≤ μ2 (M + 4) i ∧ μ2 (M + 4) i < 30) ∧ (0 ≤ μ2 M 7 ∧ μ2 M 7 ≤ 24) ∧ (0 ≤ μ2 M 8 ∧ μ2 M 8 ≤ 5) ∧ (0 ≤ μ2 M 9 ∧ μ2 M 9 ≤ 23) ∧ (0 ≤ μ2 M 10 ∧ μ2 M 10 ≤ 9)) (ha : asM μ2 M (vm f') 32) (h1 : f' 1 = f 1) (hf : ∀ j, 122 ≤ j → j < 2922 → f' j = f j) : SM μ2 M f' := by
  obtain ⟨n1, n2, n3, n4, n5, n6, n7, n8⟩ := hN
  have hx := h.1.2.2.2.2.2.2.2.2.1
  have hI : mtI μ2 M := ⟨n1, n2, n3, n4, n5, n6, n7, n8, by rw [h13]; exact hx, by rw [h13]; exact lwI_fr hl h.1.2.2.2.2.2.2.2.2.2⟩
  have ht := tI_cg h1 hf (md_t h.2.1)
  refine ⟨hI, md_of hI ha ht, ha, ?_⟩
  have e1 : LM μ2 M = LM μ M := by unfold LM; rw [h13]; exact LLc_fr (by omega) hl
  rw [e1, h.2.2.2, LM_cg h1 hf (md_t h.2.1)]
theorem b_uf {g : Int → Int} {k v lo hi : Int} {n : Int} (h : ∀ c, 0 ≤ c → c < n → lo ≤ g c ∧ g c ≤ hi) (h0 : lo ≤ v) (h1 : v ≤ hi) : ∀ c, 0 ≤ c → c < n → lo ≤ uf g k v c ∧ uf g k v c ≤ hi := fun c a b => by
  by_cases e : c = k
  · rw [e, uf_same]; exact ⟨h0, h1⟩
  · rw [uf_ne e]; exact h c a b
theorem nN {μ : Mem} {M : Nat} {f : Int → Int} (h : SM μ M f) : (∀ c, 0 ≤ c → c < 30 → 0 ≤ μ (M + 1) c ∧ μ (M + 1) c ≤ 5) ∧ (∀ c, 0 ≤ c → c < 30 → 0 ≤ μ (M + 2) c ∧ μ (M + 2) c ≤ 60) ∧ (∀ c, 0 ≤ c → c < 30 → 0 ≤ μ (M + 3) c ∧ μ (M + 3) c ≤ 999) ∧ (∀ i, 0 ≤ i → i < 24 → 0 ≤ μ (M + 4) i ∧ μ (M + 4) i < 30) ∧ (0 ≤ μ M 7 ∧ μ M 7 ≤ 24) ∧ (0 ≤ μ M 8 ∧ μ M 8 ≤ 5) ∧ (0 ≤ μ M 9 ∧ μ M 9 ≤ 23) ∧ (0 ≤ μ M 10 ∧ μ M 10 ≤ 9) := ⟨h.1.1, h.1.2.1, h.1.2.2.1, h.1.2.2.2.1, h.1.2.2.2.2.1, h.1.2.2.2.2.2.1, h.1.2.2.2.2.2.2.1, h.1.2.2.2.2.2.2.2.1⟩
section One
variable {μ : Mem} {f : Int → Int}

theorem sm_uk (h : SM μ 32 f) {c v : Int} (c0 : 0 ≤ c) (c1 : c < 30) (v0 : 0 ≤ v) (v1 : v ≤ 5) : SM (ud μ 33 c v) 32 (uf f (8 + 3 * c + 0) v) := by
  obtain ⟨n1, n2, n3, n4, n5, n6, n7, n8⟩ := nN h
  refine sm_up h (fun q a b => ud_n (by omega)) (by rw [ud_n (by decide)]) ?_ ?_ (uf_ne (by omega)) (fun j a b => uf_ne (by omega))
  · refine ⟨?_, ?_, ?_, n4, n5, n6, n7, n8⟩
    · show ∀ c_1, 0 ≤ c_1 → c_1 < 30 → 0 ≤ ud μ 33 c v 33 c_1 ∧ ud μ 33 c v 33 c_1 ≤ 5
      rw [ud_s]; exact b_uf n1 v0 v1
    · show ∀ c_1, 0 ≤ c_1 → c_1 < 30 → 0 ≤ ud μ 33 c v 34 c_1 ∧ ud μ 33 c v 34 c_1 ≤ 60
      rw [ud_n (by decide)]; exact n2
    · show ∀ c_1, 0 ≤ c_1 → c_1 < 30 → 0 ≤ ud μ 33 c v 35 c_1 ∧ ud μ 33 c v 35 c_1 ≤ 999
      rw [ud_n (by decide)]; exact n3
  · refine ⟨fun q q0 q1 => ⟨?_, ?_, ?_⟩, fun i i0 i1 => ?_, ?_⟩
    · show ud μ 33 c v 33 q = vm (uf f (8 + 3 * c + 0) v) 33 q
      rw [vm_33 q0 q1]
      rw [ud_s]
      by_cases e : q = c
      · rw [e, uf_same, uf_same]
      · rw [uf_ne e, uf_ne (by omega), ← vm_33 (f := f) q0 q1]; exact sm_k h q q0 q1
    · show ud μ 33 c v 34 q = vm (uf f (8 + 3 * c + 0) v) 34 q
      rw [vm_34 q0 q1]
      rw [ud_n (by decide), uf_ne (by omega), ← vm_34 (f := f) q0 q1]; exact sm_s h q q0 q1
    · show ud μ 33 c v 35 q = vm (uf f (8 + 3 * c + 0) v) 35 q
      rw [vm_35 q0 q1]
      rw [ud_n (by decide), uf_ne (by omega), ← vm_35 (f := f) q0 q1]; exact sm_l h q q0 q1
    · show ud μ 33 c v 36 i = vm (uf f (8 + 3 * c + 0) v) 36 i
      rw [ud_n (by decide), vm_36 i0 i1, uf_ne (by omega), ← vm_36 (f := f) i0 i1]; exact sm_t h i i0 i1
    · have e := sm_n h
      rw [ud_n (by decide)]
      show _ = uf f _ v 0 ∧ _ = uf f _ v 2 ∧ _ = uf f _ v 3 ∧ _ = uf f _ v 4 ∧ _ = uf f _ v 6 ∧ _ = uf f _ v 5 ∧ _ = uf f _ v 1
      simp (disch := omega) only [uf_ne]
      exact e
theorem sm_us (h : SM μ 32 f) {c v : Int} (c0 : 0 ≤ c) (c1 : c < 30) (v0 : 0 ≤ v) (v1 : v ≤ 60) : SM (ud μ 34 c v) 32 (uf f (8 + 3 * c + 1) v) := by
  obtain ⟨n1, n2, n3, n4, n5, n6, n7, n8⟩ := nN h
  refine sm_up h (fun q a b => ud_n (by omega)) (by rw [ud_n (by decide)]) ?_ ?_ (uf_ne (by omega)) (fun j a b => uf_ne (by omega))
  · refine ⟨?_, ?_, ?_, n4, n5, n6, n7, n8⟩
    · show ∀ c_1, 0 ≤ c_1 → c_1 < 30 → 0 ≤ ud μ 34 c v 33 c_1 ∧ ud μ 34 c v 33 c_1 ≤ 5
      rw [ud_n (by decide)]; exact n1
    · show ∀ c_1, 0 ≤ c_1 → c_1 < 30 → 0 ≤ ud μ 34 c v 34 c_1 ∧ ud μ 34 c v 34 c_1 ≤ 60
      rw [ud_s]; exact b_uf n2 v0 v1
    · show ∀ c_1, 0 ≤ c_1 → c_1 < 30 → 0 ≤ ud μ 34 c v 35 c_1 ∧ ud μ 34 c v 35 c_1 ≤ 999
      rw [ud_n (by decide)]; exact n3
  · refine ⟨fun q q0 q1 => ⟨?_, ?_, ?_⟩, fun i i0 i1 => ?_, ?_⟩
    · show ud μ 34 c v 33 q = vm (uf f (8 + 3 * c + 1) v) 33 q
      rw [vm_33 q0 q1]
      rw [ud_n (by decide), uf_ne (by omega), ← vm_33 (f := f) q0 q1]; exact sm_k h q q0 q1
    · show ud μ 34 c v 34 q = vm (uf f (8 + 3 * c + 1) v) 34 q
      rw [vm_34 q0 q1]
      rw [ud_s]
      by_cases e : q = c
      · rw [e, uf_same, uf_same]
      · rw [uf_ne e, uf_ne (by omega), ← vm_34 (f := f) q0 q1]; exact sm_s h q q0 q1
    · show ud μ 34 c v 35 q = vm (uf f (8 + 3 * c + 1) v) 35 q
      rw [vm_35 q0 q1]
      rw [ud_n (by decide), uf_ne (by omega), ← vm_35 (f := f) q0 q1]; exact sm_l h q q0 q1
    · show ud μ 34 c v 36 i = vm (uf f (8 + 3 * c + 1) v) 36 i
      rw [ud_n (by decide), vm_36 i0 i1, uf_ne (by omega), ← vm_36 (f := f) i0 i1]; exact sm_t h i i0 i1
    · have e := sm_n h
      rw [ud_n (by decide)]
      show _ = uf f _ v 0 ∧ _ = uf f _ v 2 ∧ _ = uf f _ v 3 ∧ _ = uf f _ v 4 ∧ _ = uf f _ v 6 ∧ _ = uf f _ v 5 ∧ _ = uf f _ v 1
      simp (disch := omega) only [uf_ne]
      exact e
theorem sm_ul (h : SM μ 32 f) {c v : Int} (c0 : 0 ≤ c) (c1 : c < 30) (v0 : 0 ≤ v) (v1 : v ≤ 999) : SM (ud μ 35 c v) 32 (uf f (8 + 3 * c + 2) v) := by
  obtain ⟨n1, n2, n3, n4, n5, n6, n7, n8⟩ := nN h
  refine sm_up h (fun q a b => ud_n (by omega)) (by rw [ud_n (by decide)]) ?_ ?_ (uf_ne (by omega)) (fun j a b => uf_ne (by omega))
  · refine ⟨?_, ?_, ?_, n4, n5, n6, n7, n8⟩
    · show ∀ c_1, 0 ≤ c_1 → c_1 < 30 → 0 ≤ ud μ 35 c v 33 c_1 ∧ ud μ 35 c v 33 c_1 ≤ 5
      rw [ud_n (by decide)]; exact n1
    · show ∀ c_1, 0 ≤ c_1 → c_1 < 30 → 0 ≤ ud μ 35 c v 34 c_1 ∧ ud μ 35 c v 34 c_1 ≤ 60
      rw [ud_n (by decide)]; exact n2
    · show ∀ c_1, 0 ≤ c_1 → c_1 < 30 → 0 ≤ ud μ 35 c v 35 c_1 ∧ ud μ 35 c v 35 c_1 ≤ 999
      rw [ud_s]; exact b_uf n3 v0 v1
  · refine ⟨fun q q0 q1 => ⟨?_, ?_, ?_⟩, fun i i0 i1 => ?_, ?_⟩
    · show ud μ 35 c v 33 q = vm (uf f (8 + 3 * c + 2) v) 33 q
      rw [vm_33 q0 q1]
      rw [ud_n (by decide), uf_ne (by omega), ← vm_33 (f := f) q0 q1]; exact sm_k h q q0 q1
    · show ud μ 35 c v 34 q = vm (uf f (8 + 3 * c + 2) v) 34 q
      rw [vm_34 q0 q1]
      rw [ud_n (by decide), uf_ne (by omega), ← vm_34 (f := f) q0 q1]; exact sm_s h q q0 q1
    · show ud μ 35 c v 35 q = vm (uf f (8 + 3 * c + 2) v) 35 q
      rw [vm_35 q0 q1]
      rw [ud_s]
      by_cases e : q = c
      · rw [e, uf_same, uf_same]
      · rw [uf_ne e, uf_ne (by omega), ← vm_35 (f := f) q0 q1]; exact sm_l h q q0 q1
    · show ud μ 35 c v 36 i = vm (uf f (8 + 3 * c + 2) v) 36 i
      rw [ud_n (by decide), vm_36 i0 i1, uf_ne (by omega), ← vm_36 (f := f) i0 i1]; exact sm_t h i i0 i1
    · have e := sm_n h
      rw [ud_n (by decide)]
      show _ = uf f _ v 0 ∧ _ = uf f _ v 2 ∧ _ = uf f _ v 3 ∧ _ = uf f _ v 4 ∧ _ = uf f _ v 6 ∧ _ = uf f _ v 5 ∧ _ = uf f _ v 1
      simp (disch := omega) only [uf_ne]
      exact e
theorem sm_f7 (h : SM μ 32 f) {v : Int} (v0 : 0 ≤ v) (v1 : v ≤ 24) : SM (ud μ 32 7 v) 32 (uf f 0 v) := by
  obtain ⟨n1, n2, n3, n4, n5, n6, n7, n8⟩ := nN h
  refine sm_up h (fun q a b => ud_n (by omega)) (by rw [ud_s, uf_ne (by decide)]) ⟨n1, n2, n3, n4, ?_, ?_, ?_, ?_⟩ ?_ (uf_ne (by decide)) (fun j a b => uf_ne (by omega))
  · rw [ud_s, uf_same]; exact ⟨v0, v1⟩
  · rw [ud_s, uf_ne (by decide)]; exact n6
  · rw [ud_s, uf_ne (by decide)]; exact n7
  · rw [ud_s, uf_ne (by decide)]; exact n8
  · have e := sm_n h
    refine ⟨fun q q0 q1 => ⟨?_, ?_, ?_⟩, fun i i0 i1 => ?_, ?_⟩
    · show ud μ 32 7 v 33 q = vm (uf f 0 v) 33 q
      rw [ud_n (by decide), vm_33 q0 q1, uf_ne (by omega), ← vm_33 (f := f) q0 q1]; exact sm_k h q q0 q1
    · show ud μ 32 7 v 34 q = vm (uf f 0 v) 34 q
      rw [ud_n (by decide), vm_34 q0 q1, uf_ne (by omega), ← vm_34 (f := f) q0 q1]; exact sm_s h q q0 q1
    · show ud μ 32 7 v 35 q = vm (uf f 0 v) 35 q
      rw [ud_n (by decide), vm_35 q0 q1, uf_ne (by omega), ← vm_35 (f := f) q0 q1]; exact sm_l h q q0 q1
    · show ud μ 32 7 v 36 i = vm (uf f 0 v) 36 i
      rw [ud_n (by decide), vm_36 i0 i1, uf_ne (by omega), ← vm_36 (f := f) i0 i1]; exact sm_t h i i0 i1
    · rw [ud_s]
      show uf (μ 32) 7 v 7 = uf f 0 v 0 ∧ uf (μ 32) 7 v 8 = uf f 0 v 2 ∧ uf (μ 32) 7 v 9 = uf f 0 v 3 ∧ uf (μ 32) 7 v 10 = uf f 0 v 4 ∧ uf (μ 32) 7 v 11 = uf f 0 v 6 ∧ uf (μ 32) 7 v 12 = uf f 0 v 5 ∧ uf (μ 32) 7 v 13 = uf f 0 v 1
      simp (disch := decide) only [uf_ne, uf_same]
      simp only [e.1, e.2.1, e.2.2.1, e.2.2.2.1, e.2.2.2.2.1, e.2.2.2.2.2.1, e.2.2.2.2.2.2, and_self]
theorem sm_f8 (h : SM μ 32 f) {v : Int} (v0 : 0 ≤ v) (v1 : v ≤ 5) : SM (ud μ 32 8 v) 32 (uf f 2 v) := by
  obtain ⟨n1, n2, n3, n4, n5, n6, n7, n8⟩ := nN h
  refine sm_up h (fun q a b => ud_n (by omega)) (by rw [ud_s, uf_ne (by decide)]) ⟨n1, n2, n3, n4, ?_, ?_, ?_, ?_⟩ ?_ (uf_ne (by decide)) (fun j a b => uf_ne (by omega))
  · rw [ud_s, uf_ne (by decide)]; exact n5
  · rw [ud_s, uf_same]; exact ⟨v0, v1⟩
  · rw [ud_s, uf_ne (by decide)]; exact n7
  · rw [ud_s, uf_ne (by decide)]; exact n8
  · have e := sm_n h
    refine ⟨fun q q0 q1 => ⟨?_, ?_, ?_⟩, fun i i0 i1 => ?_, ?_⟩
    · show ud μ 32 8 v 33 q = vm (uf f 2 v) 33 q
      rw [ud_n (by decide), vm_33 q0 q1, uf_ne (by omega), ← vm_33 (f := f) q0 q1]; exact sm_k h q q0 q1
    · show ud μ 32 8 v 34 q = vm (uf f 2 v) 34 q
      rw [ud_n (by decide), vm_34 q0 q1, uf_ne (by omega), ← vm_34 (f := f) q0 q1]; exact sm_s h q q0 q1
    · show ud μ 32 8 v 35 q = vm (uf f 2 v) 35 q
      rw [ud_n (by decide), vm_35 q0 q1, uf_ne (by omega), ← vm_35 (f := f) q0 q1]; exact sm_l h q q0 q1
    · show ud μ 32 8 v 36 i = vm (uf f 2 v) 36 i
      rw [ud_n (by decide), vm_36 i0 i1, uf_ne (by omega), ← vm_36 (f := f) i0 i1]; exact sm_t h i i0 i1
    · rw [ud_s]
      show uf (μ 32) 8 v 7 = uf f 2 v 0 ∧ uf (μ 32) 8 v 8 = uf f 2 v 2 ∧ uf (μ 32) 8 v 9 = uf f 2 v 3 ∧ uf (μ 32) 8 v 10 = uf f 2 v 4 ∧ uf (μ 32) 8 v 11 = uf f 2 v 6 ∧ uf (μ 32) 8 v 12 = uf f 2 v 5 ∧ uf (μ 32) 8 v 13 = uf f 2 v 1
      simp (disch := decide) only [uf_ne, uf_same]
      simp only [e.1, e.2.1, e.2.2.1, e.2.2.2.1, e.2.2.2.2.1, e.2.2.2.2.2.1, e.2.2.2.2.2.2, and_self]
theorem sm_f9 (h : SM μ 32 f) {v : Int} (v0 : 0 ≤ v) (v1 : v ≤ 23) : SM (ud μ 32 9 v) 32 (uf f 3 v) := by
  obtain ⟨n1, n2, n3, n4, n5, n6, n7, n8⟩ := nN h
  refine sm_up h (fun q a b => ud_n (by omega)) (by rw [ud_s, uf_ne (by decide)]) ⟨n1, n2, n3, n4, ?_, ?_, ?_, ?_⟩ ?_ (uf_ne (by decide)) (fun j a b => uf_ne (by omega))
  · rw [ud_s, uf_ne (by decide)]; exact n5
  · rw [ud_s, uf_ne (by decide)]; exact n6
  · rw [ud_s, uf_same]; exact ⟨v0, v1⟩
  · rw [ud_s, uf_ne (by decide)]; exact n8
  · have e := sm_n h
    refine ⟨fun q q0 q1 => ⟨?_, ?_, ?_⟩, fun i i0 i1 => ?_, ?_⟩
    · show ud μ 32 9 v 33 q = vm (uf f 3 v) 33 q
      rw [ud_n (by decide), vm_33 q0 q1, uf_ne (by omega), ← vm_33 (f := f) q0 q1]; exact sm_k h q q0 q1
    · show ud μ 32 9 v 34 q = vm (uf f 3 v) 34 q
      rw [ud_n (by decide), vm_34 q0 q1, uf_ne (by omega), ← vm_34 (f := f) q0 q1]; exact sm_s h q q0 q1
    · show ud μ 32 9 v 35 q = vm (uf f 3 v) 35 q
      rw [ud_n (by decide), vm_35 q0 q1, uf_ne (by omega), ← vm_35 (f := f) q0 q1]; exact sm_l h q q0 q1
    · show ud μ 32 9 v 36 i = vm (uf f 3 v) 36 i
      rw [ud_n (by decide), vm_36 i0 i1, uf_ne (by omega), ← vm_36 (f := f) i0 i1]; exact sm_t h i i0 i1
    · rw [ud_s]
      show uf (μ 32) 9 v 7 = uf f 3 v 0 ∧ uf (μ 32) 9 v 8 = uf f 3 v 2 ∧ uf (μ 32) 9 v 9 = uf f 3 v 3 ∧ uf (μ 32) 9 v 10 = uf f 3 v 4 ∧ uf (μ 32) 9 v 11 = uf f 3 v 6 ∧ uf (μ 32) 9 v 12 = uf f 3 v 5 ∧ uf (μ 32) 9 v 13 = uf f 3 v 1
      simp (disch := decide) only [uf_ne, uf_same]
      simp only [e.1, e.2.1, e.2.2.1, e.2.2.2.1, e.2.2.2.2.1, e.2.2.2.2.2.1, e.2.2.2.2.2.2, and_self]
theorem sm_f10 (h : SM μ 32 f) {v : Int} (v0 : 0 ≤ v) (v1 : v ≤ 9) : SM (ud μ 32 10 v) 32 (uf f 4 v) := by
  obtain ⟨n1, n2, n3, n4, n5, n6, n7, n8⟩ := nN h
  refine sm_up h (fun q a b => ud_n (by omega)) (by rw [ud_s, uf_ne (by decide)]) ⟨n1, n2, n3, n4, ?_, ?_, ?_, ?_⟩ ?_ (uf_ne (by decide)) (fun j a b => uf_ne (by omega))
  · rw [ud_s, uf_ne (by decide)]; exact n5
  · rw [ud_s, uf_ne (by decide)]; exact n6
  · rw [ud_s, uf_ne (by decide)]; exact n7
  · rw [ud_s, uf_same]; exact ⟨v0, v1⟩
  · have e := sm_n h
    refine ⟨fun q q0 q1 => ⟨?_, ?_, ?_⟩, fun i i0 i1 => ?_, ?_⟩
    · show ud μ 32 10 v 33 q = vm (uf f 4 v) 33 q
      rw [ud_n (by decide), vm_33 q0 q1, uf_ne (by omega), ← vm_33 (f := f) q0 q1]; exact sm_k h q q0 q1
    · show ud μ 32 10 v 34 q = vm (uf f 4 v) 34 q
      rw [ud_n (by decide), vm_34 q0 q1, uf_ne (by omega), ← vm_34 (f := f) q0 q1]; exact sm_s h q q0 q1
    · show ud μ 32 10 v 35 q = vm (uf f 4 v) 35 q
      rw [ud_n (by decide), vm_35 q0 q1, uf_ne (by omega), ← vm_35 (f := f) q0 q1]; exact sm_l h q q0 q1
    · show ud μ 32 10 v 36 i = vm (uf f 4 v) 36 i
      rw [ud_n (by decide), vm_36 i0 i1, uf_ne (by omega), ← vm_36 (f := f) i0 i1]; exact sm_t h i i0 i1
    · rw [ud_s]
      show uf (μ 32) 10 v 7 = uf f 4 v 0 ∧ uf (μ 32) 10 v 8 = uf f 4 v 2 ∧ uf (μ 32) 10 v 9 = uf f 4 v 3 ∧ uf (μ 32) 10 v 10 = uf f 4 v 4 ∧ uf (μ 32) 10 v 11 = uf f 4 v 6 ∧ uf (μ 32) 10 v 12 = uf f 4 v 5 ∧ uf (μ 32) 10 v 13 = uf f 4 v 1
      simp (disch := decide) only [uf_ne, uf_same]
      simp only [e.1, e.2.1, e.2.2.1, e.2.2.2.1, e.2.2.2.2.1, e.2.2.2.2.2.1, e.2.2.2.2.2.2, and_self]
theorem sm_f11 (h : SM μ 32 f) {v : Int} : SM (ud μ 32 11 v) 32 (uf f 6 v) := by
  obtain ⟨n1, n2, n3, n4, n5, n6, n7, n8⟩ := nN h
  refine sm_up h (fun q a b => ud_n (by omega)) (by rw [ud_s, uf_ne (by decide)]) ⟨n1, n2, n3, n4, ?_, ?_, ?_, ?_⟩ ?_ (uf_ne (by decide)) (fun j a b => uf_ne (by omega))
  · rw [ud_s, uf_ne (by decide)]; exact n5
  · rw [ud_s, uf_ne (by decide)]; exact n6
  · rw [ud_s, uf_ne (by decide)]; exact n7
  · rw [ud_s, uf_ne (by decide)]; exact n8
  · have e := sm_n h
    refine ⟨fun q q0 q1 => ⟨?_, ?_, ?_⟩, fun i i0 i1 => ?_, ?_⟩
    · show ud μ 32 11 v 33 q = vm (uf f 6 v) 33 q
      rw [ud_n (by decide), vm_33 q0 q1, uf_ne (by omega), ← vm_33 (f := f) q0 q1]; exact sm_k h q q0 q1
    · show ud μ 32 11 v 34 q = vm (uf f 6 v) 34 q
      rw [ud_n (by decide), vm_34 q0 q1, uf_ne (by omega), ← vm_34 (f := f) q0 q1]; exact sm_s h q q0 q1
    · show ud μ 32 11 v 35 q = vm (uf f 6 v) 35 q
      rw [ud_n (by decide), vm_35 q0 q1, uf_ne (by omega), ← vm_35 (f := f) q0 q1]; exact sm_l h q q0 q1
    · show ud μ 32 11 v 36 i = vm (uf f 6 v) 36 i
      rw [ud_n (by decide), vm_36 i0 i1, uf_ne (by omega), ← vm_36 (f := f) i0 i1]; exact sm_t h i i0 i1
    · rw [ud_s]
      show uf (μ 32) 11 v 7 = uf f 6 v 0 ∧ uf (μ 32) 11 v 8 = uf f 6 v 2 ∧ uf (μ 32) 11 v 9 = uf f 6 v 3 ∧ uf (μ 32) 11 v 10 = uf f 6 v 4 ∧ uf (μ 32) 11 v 11 = uf f 6 v 6 ∧ uf (μ 32) 11 v 12 = uf f 6 v 5 ∧ uf (μ 32) 11 v 13 = uf f 6 v 1
      simp (disch := decide) only [uf_ne, uf_same]
      simp only [e.1, e.2.1, e.2.2.1, e.2.2.2.1, e.2.2.2.2.1, e.2.2.2.2.2.1, e.2.2.2.2.2.2, and_self]
theorem sm_f12 (h : SM μ 32 f) {v : Int} : SM (ud μ 32 12 v) 32 (uf f 5 v) := by
  obtain ⟨n1, n2, n3, n4, n5, n6, n7, n8⟩ := nN h
  refine sm_up h (fun q a b => ud_n (by omega)) (by rw [ud_s, uf_ne (by decide)]) ⟨n1, n2, n3, n4, ?_, ?_, ?_, ?_⟩ ?_ (uf_ne (by decide)) (fun j a b => uf_ne (by omega))
  · rw [ud_s, uf_ne (by decide)]; exact n5
  · rw [ud_s, uf_ne (by decide)]; exact n6
  · rw [ud_s, uf_ne (by decide)]; exact n7
  · rw [ud_s, uf_ne (by decide)]; exact n8
  · have e := sm_n h
    refine ⟨fun q q0 q1 => ⟨?_, ?_, ?_⟩, fun i i0 i1 => ?_, ?_⟩
    · show ud μ 32 12 v 33 q = vm (uf f 5 v) 33 q
      rw [ud_n (by decide), vm_33 q0 q1, uf_ne (by omega), ← vm_33 (f := f) q0 q1]; exact sm_k h q q0 q1
    · show ud μ 32 12 v 34 q = vm (uf f 5 v) 34 q
      rw [ud_n (by decide), vm_34 q0 q1, uf_ne (by omega), ← vm_34 (f := f) q0 q1]; exact sm_s h q q0 q1
    · show ud μ 32 12 v 35 q = vm (uf f 5 v) 35 q
      rw [ud_n (by decide), vm_35 q0 q1, uf_ne (by omega), ← vm_35 (f := f) q0 q1]; exact sm_l h q q0 q1
    · show ud μ 32 12 v 36 i = vm (uf f 5 v) 36 i
      rw [ud_n (by decide), vm_36 i0 i1, uf_ne (by omega), ← vm_36 (f := f) i0 i1]; exact sm_t h i i0 i1
    · rw [ud_s]
      show uf (μ 32) 12 v 7 = uf f 5 v 0 ∧ uf (μ 32) 12 v 8 = uf f 5 v 2 ∧ uf (μ 32) 12 v 9 = uf f 5 v 3 ∧ uf (μ 32) 12 v 10 = uf f 5 v 4 ∧ uf (μ 32) 12 v 11 = uf f 5 v 6 ∧ uf (μ 32) 12 v 12 = uf f 5 v 5 ∧ uf (μ 32) 12 v 13 = uf f 5 v 1
      simp (disch := decide) only [uf_ne, uf_same]
      simp only [e.1, e.2.1, e.2.2.1, e.2.2.2.1, e.2.2.2.2.1, e.2.2.2.2.2.1, e.2.2.2.2.2.2, and_self]
theorem sm_tr (h : SM μ 32 f) {i v : Int} (i0 : 0 ≤ i) (i1 : i < 24) (v0 : 0 ≤ v) (v1 : v < 30) : SM (ud μ 36 i v) 32 (uf f (98 + i) v) := by
  obtain ⟨n1, n2, n3, n4, n5, n6, n7, n8⟩ := nN h
  refine sm_up h (fun q a b => ud_n (by omega)) (by rw [ud_n (by decide)]) ⟨n1, n2, n3, ?_, n5, n6, n7, n8⟩ ?_ (uf_ne (by omega)) (fun j a b => uf_ne (by omega))
  · show ∀ i_1, 0 ≤ i_1 → i_1 < 24 → 0 ≤ ud μ 36 i v 36 i_1 ∧ ud μ 36 i v 36 i_1 < 30
    intro q a b
    rw [ud_s]
    by_cases e : q = i
    · rw [e, uf_same]; exact ⟨v0, v1⟩
    · rw [uf_ne e]; exact n4 q a b
  · have e := sm_n h
    refine ⟨fun q q0 q1 => ⟨?_, ?_, ?_⟩, fun j j0 j1 => ?_, ?_⟩
    · show ud μ 36 i v 33 q = vm (uf f (98 + i) v) 33 q
      rw [ud_n (by decide), vm_33 q0 q1, uf_ne (by omega), ← vm_33 (f := f) q0 q1]; exact sm_k h q q0 q1
    · show ud μ 36 i v 34 q = vm (uf f (98 + i) v) 34 q
      rw [ud_n (by decide), vm_34 q0 q1, uf_ne (by omega), ← vm_34 (f := f) q0 q1]; exact sm_s h q q0 q1
    · show ud μ 36 i v 35 q = vm (uf f (98 + i) v) 35 q
      rw [ud_n (by decide), vm_35 q0 q1, uf_ne (by omega), ← vm_35 (f := f) q0 q1]; exact sm_l h q q0 q1
    · show ud μ 36 i v 36 j = vm (uf f (98 + i) v) 36 j
      rw [ud_s, vm_36 j0 j1]
      by_cases e2 : j = i
      · rw [e2, uf_same, uf_same]
      · rw [uf_ne e2, uf_ne (by omega), ← vm_36 (f := f) j0 j1]; exact sm_t h j j0 j1
    · rw [ud_n (by decide)]
      show _ = uf f _ v 0 ∧ _ = uf f _ v 2 ∧ _ = uf f _ v 3 ∧ _ = uf f _ v 4 ∧ _ = uf f _ v 6 ∧ _ = uf f _ v 5 ∧ _ = uf f _ v 1
      simp (disch := omega) only [uf_ne]
      exact e
end One
/-- the whole, after a change of the mountain alone -/
theorem sim_m2 {μ μ2 : Mem} (h : Sim μ) (hm : SM μ2 32 (μ2 88)) (h13 : μ 0 11 ≠ 0 → μ 39 13 ≤ μ2 32 13) (hf : ∀ q, ¬ scr q → (q < 32 ∨ 36 < q) → q ≠ 88 → μ2 q = μ q) : Sim μ2 := by
  have hl : ∀ q, 4 ≤ q → q < 32 → μ2 q = μ q := fun q a b => hf q (by unfold scr; omega) (by omega) (by omega)
  have hz : ∀ q, (q < 3 ∨ (39 ≤ q ∧ q ≤ 43) ∨ (56 ≤ q ∧ q ≤ 57) ∨ (61 ≤ q ∧ q ≤ 87) ∨ q = 89 ∨ (91 ≤ q ∧ q ≤ 98) ∨ q = 107 ∨ q = 111) → μ2 q = μ q := fun q a => hf q (by unfold scr; omega) (by omega) (by omega)
  obtain ⟨s1, ⟨i1, i2, i3⟩, s3, s4, s5, s6⟩ := h
  refine ⟨hm, ⟨?_, ?_, fun hi => ?_⟩, ?_, fun k hk => ?_, fun k hk => ?_, ?_⟩
  · rw [hz 0 (by omega)]; exact i1
  · rw [hz 0 (by omega), hz 87 (by omega)]; exact i2
  · rw [hz 0 (by omega)] at hi
    rw [hz 89 (by omega), hz 39 (by omega)]
    exact ⟨SM_q hl (hz _ (by omega)) (hz _ (by omega)) (hz _ (by omega)) (hz _ (by omega)) (hz _ (by omega)) (i3 hi).1, h13 hi⟩
  · rw [hz 107 (by omega), hz 57 (by omega), hz 87 (by omega), hz 56 (by omega)]; exact s3
  · rw [hz (62 + 2 * k) (by omega), hz (62 + 2 * k + 1) (by omega), hz 91 (by omega), hz 92 (by omega), hz 93 (by omega)]; exact s4 k hk
  · rw [hz (71 + 3 * k) (by omega), hz (71 + 3 * k + 1) (by omega), hz (71 + 3 * k + 2) (by omega), hz 94 (by omega), hz 95 (by omega), hz 96 (by omega), hz 97 (by omega), hz 98 (by omega)]; exact s5 k hk
  · rw [hz 111 (by omega), hz 86 (by omega), hz 87 (by omega), hz 0 (by omega)]; exact s6
theorem sim_m {μ μ2 : Mem} (h : Sim μ) (hm : SM μ2 32 (μ2 88)) (h13 : μ 32 13 ≤ μ2 32 13) (hf : ∀ q, ¬ scr q → (q < 32 ∨ 36 < q) → q ≠ 88 → μ2 q = μ q) : Sim μ2 := sim_m2 h hm (fun hi => Int.le_trans (h.2.1.2.2 hi).2 h13) hf

theorem st_place {μ μ1 μ2 : Mem} {x y : Int} (cell kind steep load : Int) (hS : Sim μ) (h1 : (fun x μ' => ((0 ≤ cell ∧ cell ≤ 29 ∧ 0 ≤ kind ∧ kind ≤ 5 ∧ 0 ≤ steep ∧ steep ≤ 60 ∧ 0 ≤ load ∧ load ≤ 999) → x = μ 33 cell ∧ μ' = ud (ud (ud μ 33 cell kind) 34 cell steep) 35 cell load) ∧ (¬ (0 ≤ cell ∧ cell ≤ 29 ∧ 0 ≤ kind ∧ kind ≤ 5 ∧ 0 ≤ steep ∧ steep ≤ 60 ∧ 0 ≤ load ∧ load ≤ 999) → x = -1000000001 ∧ μ' = μ)) x μ1) (h2 : (fun x μ' => ((0 ≤ cell ∧ cell ≤ 29 ∧ 0 ≤ kind ∧ kind ≤ 5 ∧ 0 ≤ steep ∧ steep ≤ 60 ∧ 0 ≤ load ∧ load ≤ 999) → x = vm (μ1 88) 33 cell ∧ μ' = ud (ud (ud μ1 88 (8 + 3 * cell + 0) kind) 88 (8 + 3 * cell + 1) steep) 88 (8 + 3 * cell + 2) load) ∧ (¬ (0 ≤ cell ∧ cell ≤ 29 ∧ 0 ≤ kind ∧ kind ≤ 5 ∧ 0 ≤ steep ∧ steep ≤ 60 ∧ 0 ≤ load ∧ load ≤ 999) → x = -1000000001 ∧ μ' = μ1)) y μ2) : x = y ∧ Sim μ2 := by
  have hs := sim_s hS
  by_cases hc : 0 ≤ cell ∧ cell ≤ 29 ∧ 0 ≤ kind ∧ kind ≤ 5 ∧ 0 ≤ steep ∧ steep ≤ 60 ∧ 0 ≤ load ∧ load ≤ 999
  · obtain ⟨e1, m1⟩ := h1.1 hc
    subst m1
    obtain ⟨e2, m2⟩ := h2.1 hc
    have e88 : (ud (ud (ud μ 33 cell kind) 34 cell steep) 35 cell load) 88 = μ 88 := by simp (disch := omega) only [ud, ua_same, ua_ne]
    refine ⟨by rw [e1, e2, e88]; exact sm_k hs cell (by omega) (by omega), ?_⟩
    have g88 : μ2 88 = uf (uf (uf (μ 88) (8 + 3 * cell + 0) kind) (8 + 3 * cell + 1) steep) (8 + 3 * cell + 2) load := by rw [m2]; simp (disch := omega) only [ud, ua_same, ua_ne]
    refine sim_m hS ?_ ?_ (fun q hq a b => by rw [m2]; simp (disch := omega) only [ud, ua_same, ua_ne])
    · rw [g88]
      exact SM_q (μ := ud (ud (ud μ 33 cell kind) 34 cell steep) 35 cell load) (fun q a b => by rw [m2]; simp (disch := omega) only [ud, ua_same, ua_ne]) (by rw [m2]; simp (disch := omega) only [ud, ua_same, ua_ne]) (by rw [m2]; simp (disch := omega) only [ud, ua_same, ua_ne]) (by rw [m2]; simp (disch := omega) only [ud, ua_same, ua_ne]) (by rw [m2]; simp (disch := omega) only [ud, ua_same, ua_ne]) (by rw [m2]; simp (disch := omega) only [ud, ua_same, ua_ne]) (sm_ul (sm_us (sm_uk hs (by omega) (by omega) (by omega) (by omega)) (by omega) (by omega) (by omega) (by omega)) (by omega) (by omega) (by omega) (by omega))
    · rw [m2]; simp (disch := omega) only [ud, ua_same, ua_ne, uf_ne]; exact Int.le_refl _
  · obtain ⟨e1, m1⟩ := h1.2 hc
    subst m1
    obtain ⟨e2, m2⟩ := h2.2 hc
    subst m2
    exact ⟨by rw [e1, e2], hS⟩
theorem st_turns {μ μ1 μ2 : Mem} {x y : Int} (cell kind : Int) (hS : Sim μ) (h1 : (fun x μ' => ((0 ≤ cell ∧ cell ≤ 29 ∧ 0 ≤ kind ∧ kind ≤ 5) → x = μ 33 cell ∧ μ' = ud μ 33 cell kind) ∧ (¬ (0 ≤ cell ∧ cell ≤ 29 ∧ 0 ≤ kind ∧ kind ≤ 5) → x = -1000000001 ∧ μ' = μ)) x μ1) (h2 : (fun x μ' => ((0 ≤ cell ∧ cell ≤ 29 ∧ 0 ≤ kind ∧ kind ≤ 5) → x = vm (μ1 88) 33 cell ∧ μ' = ud μ1 88 (8 + 3 * cell + 0) kind) ∧ (¬ (0 ≤ cell ∧ cell ≤ 29 ∧ 0 ≤ kind ∧ kind ≤ 5) → x = -1000000001 ∧ μ' = μ1)) y μ2) : x = y ∧ Sim μ2 := by
  have hs := sim_s hS
  by_cases hc : 0 ≤ cell ∧ cell ≤ 29 ∧ 0 ≤ kind ∧ kind ≤ 5
  · obtain ⟨e1, m1⟩ := h1.1 hc
    subst m1
    obtain ⟨e2, m2⟩ := h2.1 hc
    have e88 : (ud μ 33 cell kind) 88 = μ 88 := by simp (disch := omega) only [ud, ua_same, ua_ne]
    refine ⟨by rw [e1, e2, e88]; exact sm_k hs cell (by omega) (by omega), ?_⟩
    have g88 : μ2 88 = uf (μ 88) (8 + 3 * cell + 0) kind := by rw [m2]; simp (disch := omega) only [ud, ua_same, ua_ne]
    refine sim_m hS ?_ ?_ (fun q hq a b => by rw [m2]; simp (disch := omega) only [ud, ua_same, ua_ne])
    · rw [g88]
      exact SM_q (μ := ud μ 33 cell kind) (fun q a b => by rw [m2]; simp (disch := omega) only [ud, ua_same, ua_ne]) (by rw [m2]; simp (disch := omega) only [ud, ua_same, ua_ne]) (by rw [m2]; simp (disch := omega) only [ud, ua_same, ua_ne]) (by rw [m2]; simp (disch := omega) only [ud, ua_same, ua_ne]) (by rw [m2]; simp (disch := omega) only [ud, ua_same, ua_ne]) (by rw [m2]; simp (disch := omega) only [ud, ua_same, ua_ne]) (sm_uk hs (by omega) (by omega) (by omega) (by omega))
    · rw [m2]; simp (disch := omega) only [ud, ua_same, ua_ne, uf_ne]; exact Int.le_refl _
  · obtain ⟨e1, m1⟩ := h1.2 hc
    subst m1
    obtain ⟨e2, m2⟩ := h2.2 hc
    subst m2
    exact ⟨by rw [e1, e2], hS⟩
theorem st_set {μ μ1 μ2 : Mem} {x y : Int} (cell what v : Int) (hS : Sim μ) (h1 : (fun x μ' => ((0 ≤ cell ∧ cell ≤ 29 ∧ what = 0 ∧ 0 ≤ v ∧ v ≤ 60) → x = μ 34 cell ∧ μ' = ud μ 34 cell v) ∧ ((0 ≤ cell ∧ cell ≤ 29 ∧ what = 1 ∧ 0 ≤ v ∧ v ≤ 999) → x = μ 35 cell ∧ μ' = ud μ 35 cell v) ∧ (¬ (0 ≤ cell ∧ cell ≤ 29 ∧ what = 0 ∧ 0 ≤ v ∧ v ≤ 60) ∧ ¬ (0 ≤ cell ∧ cell ≤ 29 ∧ what = 1 ∧ 0 ≤ v ∧ v ≤ 999) → x = -1000000001 ∧ μ' = μ)) x μ1) (h2 : (fun x μ' => ((0 ≤ cell ∧ cell ≤ 29 ∧ what = 0 ∧ 0 ≤ v ∧ v ≤ 60) → x = vm (μ1 88) 34 cell ∧ μ' = ud μ1 88 (8 + 3 * cell + 1) v) ∧ ((0 ≤ cell ∧ cell ≤ 29 ∧ what = 1 ∧ 0 ≤ v ∧ v ≤ 999) → x = vm (μ1 88) 35 cell ∧ μ' = ud μ1 88 (8 + 3 * cell + 2) v) ∧ (¬ (0 ≤ cell ∧ cell ≤ 29 ∧ what = 0 ∧ 0 ≤ v ∧ v ≤ 60) ∧ ¬ (0 ≤ cell ∧ cell ≤ 29 ∧ what = 1 ∧ 0 ≤ v ∧ v ≤ 999) → x = -1000000001 ∧ μ' = μ1)) y μ2) : x = y ∧ Sim μ2 := by
  have hs := sim_s hS
  by_cases hc0 : 0 ≤ cell ∧ cell ≤ 29 ∧ what = 0 ∧ 0 ≤ v ∧ v ≤ 60
  · obtain ⟨e1, m1⟩ := h1.1 hc0
    subst m1
    obtain ⟨e2, m2⟩ := h2.1 hc0
    have e88 : (ud μ 34 cell v) 88 = μ 88 := by simp (disch := omega) only [ud, ua_same, ua_ne]
    refine ⟨by rw [e1, e2, e88]; exact sm_s hs cell (by omega) (by omega), ?_⟩
    have g88 : μ2 88 = uf (μ 88) (8 + 3 * cell + 1) v := by rw [m2]; simp (disch := omega) only [ud, ua_same, ua_ne]
    refine sim_m hS ?_ ?_ (fun q hq a b => by rw [m2]; simp (disch := omega) only [ud, ua_same, ua_ne])
    · rw [g88]
      exact SM_q (μ := ud μ 34 cell v) (fun q a b => by rw [m2]; simp (disch := omega) only [ud, ua_same, ua_ne]) (by rw [m2]; simp (disch := omega) only [ud, ua_same, ua_ne]) (by rw [m2]; simp (disch := omega) only [ud, ua_same, ua_ne]) (by rw [m2]; simp (disch := omega) only [ud, ua_same, ua_ne]) (by rw [m2]; simp (disch := omega) only [ud, ua_same, ua_ne]) (by rw [m2]; simp (disch := omega) only [ud, ua_same, ua_ne]) (sm_us hs (by omega) (by omega) (by omega) (by omega))
    · rw [m2]; simp (disch := omega) only [ud, ua_same, ua_ne, uf_ne]; exact Int.le_refl _
  by_cases hc1 : 0 ≤ cell ∧ cell ≤ 29 ∧ what = 1 ∧ 0 ≤ v ∧ v ≤ 999
  · obtain ⟨e1, m1⟩ := h1.2.1 hc1
    subst m1
    obtain ⟨e2, m2⟩ := h2.2.1 hc1
    have e88 : (ud μ 35 cell v) 88 = μ 88 := by simp (disch := omega) only [ud, ua_same, ua_ne]
    refine ⟨by rw [e1, e2, e88]; exact sm_l hs cell (by omega) (by omega), ?_⟩
    have g88 : μ2 88 = uf (μ 88) (8 + 3 * cell + 2) v := by rw [m2]; simp (disch := omega) only [ud, ua_same, ua_ne]
    refine sim_m hS ?_ ?_ (fun q hq a b => by rw [m2]; simp (disch := omega) only [ud, ua_same, ua_ne])
    · rw [g88]
      exact SM_q (μ := ud μ 35 cell v) (fun q a b => by rw [m2]; simp (disch := omega) only [ud, ua_same, ua_ne]) (by rw [m2]; simp (disch := omega) only [ud, ua_same, ua_ne]) (by rw [m2]; simp (disch := omega) only [ud, ua_same, ua_ne]) (by rw [m2]; simp (disch := omega) only [ud, ua_same, ua_ne]) (by rw [m2]; simp (disch := omega) only [ud, ua_same, ua_ne]) (by rw [m2]; simp (disch := omega) only [ud, ua_same, ua_ne]) (sm_ul hs (by omega) (by omega) (by omega) (by omega))
    · rw [m2]; simp (disch := omega) only [ud, ua_same, ua_ne, uf_ne]; exact Int.le_refl _
  obtain ⟨e1, m1⟩ := h1.2.2 ⟨hc0, hc1⟩
  subst m1
  obtain ⟨e2, m2⟩ := h2.2.2 ⟨hc0, hc1⟩
  subst m2
  exact ⟨by rw [e1, e2], hS⟩
theorem st_today {μ μ1 μ2 : Mem} {x y : Int} (what v : Int) (hS : Sim μ) (h1 : (fun x μ' => ((what = 0 ∧ 0 ≤ v ∧ v ≤ 5) → x = μ 32 8 ∧ μ' = ud μ 32 8 v) ∧ ((what = 1 ∧ 0 ≤ v ∧ v ≤ 23) → x = μ 32 9 ∧ μ' = ud μ 32 9 v) ∧ ((what = 2 ∧ 0 ≤ v ∧ v ≤ 9) → x = μ 32 10 ∧ μ' = ud μ 32 10 v) ∧ (¬ (what = 0 ∧ 0 ≤ v ∧ v ≤ 5) ∧ ¬ (what = 1 ∧ 0 ≤ v ∧ v ≤ 23) ∧ ¬ (what = 2 ∧ 0 ≤ v ∧ v ≤ 9) → x = -1000000001 ∧ μ' = μ)) x μ1) (h2 : (fun x μ' => ((what = 0 ∧ 0 ≤ v ∧ v ≤ 5) → x = μ1 88 2 ∧ μ' = ud μ1 88 2 v) ∧ ((what = 1 ∧ 0 ≤ v ∧ v ≤ 23) → x = μ1 88 3 ∧ μ' = ud μ1 88 3 v) ∧ ((what = 2 ∧ 0 ≤ v ∧ v ≤ 9) → x = μ1 88 4 ∧ μ' = ud μ1 88 4 v) ∧ (¬ (what = 0 ∧ 0 ≤ v ∧ v ≤ 5) ∧ ¬ (what = 1 ∧ 0 ≤ v ∧ v ≤ 23) ∧ ¬ (what = 2 ∧ 0 ≤ v ∧ v ≤ 9) → x = -1000000001 ∧ μ' = μ1)) y μ2) : x = y ∧ Sim μ2 := by
  have hs := sim_s hS
  by_cases hc0 : what = 0 ∧ 0 ≤ v ∧ v ≤ 5
  · obtain ⟨e1, m1⟩ := h1.1 hc0
    subst m1
    obtain ⟨e2, m2⟩ := h2.1 hc0
    have e88 : (ud μ 32 8 v) 88 = μ 88 := by simp (disch := omega) only [ud, ua_same, ua_ne]
    refine ⟨by rw [e1, e2, e88]; exact (sm_n hs).2.1, ?_⟩
    have g88 : μ2 88 = uf (μ 88) 2 v := by rw [m2]; simp (disch := omega) only [ud, ua_same, ua_ne]
    refine sim_m hS ?_ ?_ (fun q hq a b => by rw [m2]; simp (disch := omega) only [ud, ua_same, ua_ne])
    · rw [g88]
      exact SM_q (μ := ud μ 32 8 v) (fun q a b => by rw [m2]; simp (disch := omega) only [ud, ua_same, ua_ne]) (by rw [m2]; simp (disch := omega) only [ud, ua_same, ua_ne]) (by rw [m2]; simp (disch := omega) only [ud, ua_same, ua_ne]) (by rw [m2]; simp (disch := omega) only [ud, ua_same, ua_ne]) (by rw [m2]; simp (disch := omega) only [ud, ua_same, ua_ne]) (by rw [m2]; simp (disch := omega) only [ud, ua_same, ua_ne]) (sm_f8 hs (by omega) (by omega))
    · rw [m2]; simp (disch := omega) only [ud, ua_same, ua_ne, uf_ne]; exact Int.le_refl _
  by_cases hc1 : what = 1 ∧ 0 ≤ v ∧ v ≤ 23
  · obtain ⟨e1, m1⟩ := h1.2.1 hc1
    subst m1
    obtain ⟨e2, m2⟩ := h2.2.1 hc1
    have e88 : (ud μ 32 9 v) 88 = μ 88 := by simp (disch := omega) only [ud, ua_same, ua_ne]
    refine ⟨by rw [e1, e2, e88]; exact (sm_n hs).2.2.1, ?_⟩
    have g88 : μ2 88 = uf (μ 88) 3 v := by rw [m2]; simp (disch := omega) only [ud, ua_same, ua_ne]
    refine sim_m hS ?_ ?_ (fun q hq a b => by rw [m2]; simp (disch := omega) only [ud, ua_same, ua_ne])
    · rw [g88]
      exact SM_q (μ := ud μ 32 9 v) (fun q a b => by rw [m2]; simp (disch := omega) only [ud, ua_same, ua_ne]) (by rw [m2]; simp (disch := omega) only [ud, ua_same, ua_ne]) (by rw [m2]; simp (disch := omega) only [ud, ua_same, ua_ne]) (by rw [m2]; simp (disch := omega) only [ud, ua_same, ua_ne]) (by rw [m2]; simp (disch := omega) only [ud, ua_same, ua_ne]) (by rw [m2]; simp (disch := omega) only [ud, ua_same, ua_ne]) (sm_f9 hs (by omega) (by omega))
    · rw [m2]; simp (disch := omega) only [ud, ua_same, ua_ne, uf_ne]; exact Int.le_refl _
  by_cases hc2 : what = 2 ∧ 0 ≤ v ∧ v ≤ 9
  · obtain ⟨e1, m1⟩ := h1.2.2.1 hc2
    subst m1
    obtain ⟨e2, m2⟩ := h2.2.2.1 hc2
    have e88 : (ud μ 32 10 v) 88 = μ 88 := by simp (disch := omega) only [ud, ua_same, ua_ne]
    refine ⟨by rw [e1, e2, e88]; exact (sm_n hs).2.2.2.1, ?_⟩
    have g88 : μ2 88 = uf (μ 88) 4 v := by rw [m2]; simp (disch := omega) only [ud, ua_same, ua_ne]
    refine sim_m hS ?_ ?_ (fun q hq a b => by rw [m2]; simp (disch := omega) only [ud, ua_same, ua_ne])
    · rw [g88]
      exact SM_q (μ := ud μ 32 10 v) (fun q a b => by rw [m2]; simp (disch := omega) only [ud, ua_same, ua_ne]) (by rw [m2]; simp (disch := omega) only [ud, ua_same, ua_ne]) (by rw [m2]; simp (disch := omega) only [ud, ua_same, ua_ne]) (by rw [m2]; simp (disch := omega) only [ud, ua_same, ua_ne]) (by rw [m2]; simp (disch := omega) only [ud, ua_same, ua_ne]) (by rw [m2]; simp (disch := omega) only [ud, ua_same, ua_ne]) (sm_f10 hs (by omega) (by omega))
    · rw [m2]; simp (disch := omega) only [ud, ua_same, ua_ne, uf_ne]; exact Int.le_refl _
  obtain ⟨e1, m1⟩ := h1.2.2.2 ⟨hc0, hc1, hc2⟩
  subst m1
  obtain ⟨e2, m2⟩ := h2.2.2.2 ⟨hc0, hc1, hc2⟩
  subst m2
  exact ⟨by rw [e1, e2], hS⟩
theorem st_seed {μ μ1 μ2 : Mem} {x y : Int} (v : Int) (hS : Sim μ) (h1 : (fun x μ' => x = μ 32 11 ∧ μ' = ud μ 32 11 v) x μ1) (h2 : (fun x μ' => x = μ1 88 6 ∧ μ' = ud μ1 88 6 v) y μ2) : x = y ∧ Sim μ2 := by
  have hs := sim_s hS
  obtain ⟨e1, m1⟩ := h1
  subst m1
  obtain ⟨e2, m2⟩ := h2
  have e88 : (ud μ 32 11 v) 88 = μ 88 := by simp (disch := omega) only [ud, ua_same, ua_ne]
  refine ⟨by rw [e1, e2, e88]; exact (sm_n hs).2.2.2.2.1, ?_⟩
  have g88 : μ2 88 = uf (μ 88) 6 v := by rw [m2]; simp (disch := omega) only [ud, ua_same, ua_ne]
  refine sim_m hS ?_ ?_ (fun q hq a b => by rw [m2]; simp (disch := omega) only [ud, ua_same, ua_ne])
  · rw [g88]
    exact SM_q (μ := ud μ 32 11 v) (fun q a b => by rw [m2]; simp (disch := omega) only [ud, ua_same, ua_ne]) (by rw [m2]; simp (disch := omega) only [ud, ua_same, ua_ne]) (by rw [m2]; simp (disch := omega) only [ud, ua_same, ua_ne]) (by rw [m2]; simp (disch := omega) only [ud, ua_same, ua_ne]) (by rw [m2]; simp (disch := omega) only [ud, ua_same, ua_ne]) (by rw [m2]; simp (disch := omega) only [ud, ua_same, ua_ne]) (sm_f11 hs)
  · rw [m2]; simp (disch := omega) only [ud, ua_same, ua_ne, uf_ne]; exact Int.le_refl _
theorem st_wipe {μ μ1 μ2 : Mem} {x y : Int} (hS : Sim μ) (h1 : (fun x μ' => x = μ 32 7 ∧ μ' = ud μ 32 7 0) x μ1) (h2 : (fun x μ' => x = μ1 88 0 ∧ μ' = ud μ1 88 0 0) y μ2) : x = y ∧ Sim μ2 := by
  have hs := sim_s hS
  obtain ⟨e1, m1⟩ := h1
  subst m1
  obtain ⟨e2, m2⟩ := h2
  have e88 : (ud μ 32 7 0) 88 = μ 88 := by simp (disch := omega) only [ud, ua_same, ua_ne]
  refine ⟨by rw [e1, e2, e88]; exact (sm_n hs).1, ?_⟩
  have g88 : μ2 88 = uf (μ 88) 0 0 := by rw [m2]; simp (disch := omega) only [ud, ua_same, ua_ne]
  refine sim_m hS ?_ ?_ (fun q hq a b => by rw [m2]; simp (disch := omega) only [ud, ua_same, ua_ne])
  · rw [g88]
    exact SM_q (μ := ud μ 32 7 0) (fun q a b => by rw [m2]; simp (disch := omega) only [ud, ua_same, ua_ne]) (by rw [m2]; simp (disch := omega) only [ud, ua_same, ua_ne]) (by rw [m2]; simp (disch := omega) only [ud, ua_same, ua_ne]) (by rw [m2]; simp (disch := omega) only [ud, ua_same, ua_ne]) (by rw [m2]; simp (disch := omega) only [ud, ua_same, ua_ne]) (by rw [m2]; simp (disch := omega) only [ud, ua_same, ua_ne]) (sm_f7 hs (by omega) (by omega))
  · rw [m2]; simp (disch := omega) only [ud, ua_same, ua_ne, uf_ne]; exact Int.le_refl _
theorem st_track {μ μ1 μ2 : Mem} {x y : Int} (cell : Int) (hS : Sim μ) (h1 : (fun x μ' => (¬ (0 ≤ cell ∧ cell ≤ 29) → x = -1000000001 ∧ μ' = μ) ∧ ((0 ≤ cell ∧ cell ≤ 29) → (0 < μ 32 7 ∧ ¬ (bsdb (μ 36 (μ 32 7 - 1)) cell = true) → x = -1000000002 ∧ μ' = μ) ∧ (¬ (0 < μ 32 7 ∧ ¬ (bsdb (μ 36 (μ 32 7 - 1)) cell = true)) → (24 ≤ μ 32 7 → x = -1000000003 ∧ μ' = μ) ∧ (μ 32 7 < 24 → x = μ 32 7 + 1 ∧ μ' = ud (ud μ 36 (μ 32 7) cell) 32 7 (μ 32 7 + 1))))) x μ1) (h2 : (fun x μ' => (¬ (0 ≤ cell ∧ cell ≤ 29) → x = -1000000001 ∧ μ' = μ1) ∧ ((0 ≤ cell ∧ cell ≤ 29) → (0 < μ1 88 0 ∧ ¬ (bsdb (vm (μ1 88) 36 (μ1 88 0 - 1)) cell = true) → x = -1000000002 ∧ μ' = μ1) ∧ (¬ (0 < μ1 88 0 ∧ ¬ (bsdb (vm (μ1 88) 36 (μ1 88 0 - 1)) cell = true)) → (24 ≤ μ1 88 0 → x = -1000000003 ∧ μ' = μ1) ∧ (μ1 88 0 < 24 → x = μ1 88 0 + 1 ∧ μ' = ud (ud μ1 88 (98 + μ1 88 0) cell) 88 0 (μ1 88 0 + 1))))) y μ2) : x = y ∧ Sim μ2 := by
  have hs := sim_s hS
  have e7 : μ 32 7 = μ 88 0 := (sm_n hs).1
  have hb := hs.1.2.2.2.2.1
  by_cases hc : 0 ≤ cell ∧ cell ≤ 29
  · have h1b := h1.2 hc
    have h2b := h2.2 hc
    have key : ∀ (ν : Mem), ν 88 = μ 88 → (0 < ν 88 0 ∧ ¬ (bsdb (vm (ν 88) 36 (ν 88 0 - 1)) cell = true) ↔ 0 < μ 32 7 ∧ ¬ (bsdb (μ 36 (μ 32 7 - 1)) cell = true)) := fun ν hv => by
      rw [hv, ← e7]
      constructor
      · rintro ⟨a, b⟩
        have e := sm_t hs (μ 32 7 - 1) (by omega) (by omega)
        exact ⟨a, by have e9 : μ 36 (μ 32 7 - 1) = vm (μ 88) 36 (μ 32 7 - 1) := e; rw [e9]; exact b⟩
      · rintro ⟨a, b⟩
        have e := sm_t hs (μ 32 7 - 1) (by omega) (by omega)
        exact ⟨a, by have e9 : μ 36 (μ 32 7 - 1) = vm (μ 88) 36 (μ 32 7 - 1) := e; rw [← e9]; exact b⟩
    by_cases hn : 0 < μ 32 7 ∧ ¬ (bsdb (μ 36 (μ 32 7 - 1)) cell = true)
    · obtain ⟨e1, m1⟩ := h1b.1 hn
      subst m1
      obtain ⟨e2, m2⟩ := h2b.1 ((key _ rfl).mpr hn)
      subst m2
      exact ⟨by rw [e1, e2], hS⟩
    · by_cases hf : 24 ≤ μ 32 7
      · obtain ⟨e1, m1⟩ := (h1b.2 hn).1 hf
        subst m1
        obtain ⟨e2, m2⟩ := (h2b.2 (fun q => hn ((key _ rfl).mp q))).1 (by omega)
        subst m2
        exact ⟨by rw [e1, e2], hS⟩
      · obtain ⟨e1, m1⟩ := (h1b.2 hn).2 (by omega)
        have e88 : μ1 88 = μ 88 := by rw [m1]; simp (disch := omega) only [ud, ua_same, ua_ne]
        obtain ⟨e2, m2⟩ := (h2b.2 (fun q => hn ((key _ e88).mp q))).2 (by rw [e88]; omega)
        rw [e88, ← e7] at e2 m2
        subst m1
        refine ⟨by rw [e1, e2], ?_⟩
        have g88 : μ2 88 = uf (uf (μ 88) (98 + μ 32 7) cell) 0 (μ 32 7 + 1) := by rw [m2]; simp (disch := omega) only [ud, ua_same, ua_ne]
        refine sim_m hS ?_ ?_ (fun q hq a b => by rw [m2]; simp (disch := omega) only [ud, ua_same, ua_ne])
        · rw [g88]
          exact SM_q (μ := ud (ud μ 36 (μ 32 7) cell) 32 7 (μ 32 7 + 1)) (fun q a b => by rw [m2]; simp (disch := omega) only [ud, ua_same, ua_ne]) (by rw [m2]; simp (disch := omega) only [ud, ua_same, ua_ne]) (by rw [m2]; simp (disch := omega) only [ud, ua_same, ua_ne]) (by rw [m2]; simp (disch := omega) only [ud, ua_same, ua_ne]) (by rw [m2]; simp (disch := omega) only [ud, ua_same, ua_ne]) (by rw [m2]; simp (disch := omega) only [ud, ua_same, ua_ne]) (sm_f7 (sm_tr hs (by omega) (by omega) (by omega) (by omega)) (by omega) (by omega))
        · rw [m2]; simp (disch := omega) only [ud, ua_same, ua_ne, uf_ne]; exact Int.le_refl _
  · obtain ⟨e1, m1⟩ := h1.1 hc
    subst m1
    obtain ⟨e2, m2⟩ := h2.1 hc
    subst m2
    exact ⟨by rw [e1, e2], hS⟩
