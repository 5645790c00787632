/-! THE CLASS: what a reading leaves; the fault of the tape; text -/
section Made
variable {B : Int → Int} {N ke ky : Int}
theorem rd_f : ∀ (d : Nat) (lv p n : Int) (s : RS), rFl s ≠ -1000000005 → rdL B N ke ky d lv p n s = s := by
  intro d
  induction d with
  | zero => intro lv p n s h; rfl
  | succ d ih =>
    intro lv p n s h
    show (if lv = 6 then pcS B N ke ky (rdL B N ke ky d 0 (p + 1) n) (rdL B N ke ky d 6 p (n + 1)) p n s else if lv = 5 then rdL B N ke ky d 6 p n s else lpS B N lv (rdL B N ke ky d (lv + 1) p n) (if lv = 2 then 1 else 96) (rdL B N ke ky d (lv + 1) p n s)) = s
    by_cases e6 : lv = 6
    · rw [if_pos e6]; unfold pcS; rw [if_neg h]
    · rw [if_neg e6]
      by_cases e5 : lv = 5
      · rw [if_pos e5]; exact ih 6 p n s h
      · rw [if_neg e5, ih (lv + 1) p n s h]; exact lp_f h
def cdl (s : RS) : List Int := (List.range (rLn s).toNat).map (fun k : Nat => rCo s k)
theorem cdl_ad {s : RS} {c : Int} (h : 0 ≤ rLn s) : cdl (adC s c) = cdl s ++ [c] := by
  have e : (rLn (adC s c)).toNat = (rLn s).toNat + 1 := by rw [rLn_adC]; omega
  unfold cdl
  rw [e, List.range_succ, List.map_append]
  congr 1
  · apply List.map_congr_left
    intro i hi
    have := List.mem_range.mp hi
    show uf (rCo s) (rLn s) c (i : Nat) = _
    exact uf_ne (by omega)
  · show [uf (rCo s) (rLn s) c (((rLn s).toNat : Nat) : Int)] = [c]
    rw [show (((rLn s).toNat : Nat) : Int) = rLn s by omega, uf_same]
theorem dep_ad {cs : List Int} {c : Int} : dep (cs ++ [c]) = dpS (dep cs) c := by unfold dep; rw [List.foldl_append]; rfl
theorem ok_ad {cs : List Int} {c : Int} (h : ∀ x ∈ cs, cdOK ky x) (hc : cdOK ky c) : ∀ x ∈ cs ++ [c], cdOK ky x := by
  intro x hx
  rcases List.mem_append.mp hx with q | q
  · exact h x q
  · rw [List.mem_singleton.mp q]; exact hc
def opS (c : Int) : Prop := c = 124 ∨ c = 38 ∨ c = 60 ∨ c = 61 ∨ c = 62 ∨ c = 43 ∨ c = 45 ∨ c = 42 ∨ c = 47
theorem lvO_op {c lv : Int} (h0 : 0 ≤ lv) (h : lvO c = lv) : opS c := by
  unfold lvO at h
  unfold opS
  split at h <;> (try split at h) <;> (try split at h) <;> (try split at h) <;> (try split at h) <;> omega
theorem dps_op {c : Int} {k : Nat} (h : opS c) : dpS (some (k + 2)) (-c) = some (k + 1) := by
  unfold opS at h
  show (if -c = -33 then (if 1 ≤ k + 2 then some (k + 2) else none) else if (0 ≤ -c ∨ (97 ≤ - -c ∧ - -c ≤ 122)) then some (k + 2 + 1) else (if 2 ≤ k + 2 then some (k + 2 - 1) else none)) = _
  rw [if_neg (by omega), if_neg (by omega), if_pos (by omega)]
  rfl
theorem dps_pu {c : Int} {k : Nat} (h : 0 ≤ c ∨ (97 ≤ -c ∧ -c ≤ 122)) : dpS (some k) c = some (k + 1) := by
  show (if c = -33 then (if 1 ≤ k then some k else none) else if (0 ≤ c ∨ (97 ≤ -c ∧ -c ≤ 122)) then some (k + 1) else (if 2 ≤ k then some (k - 1) else none)) = _
  rw [if_neg (by omega), if_pos h]
theorem dps_no {k : Nat} : dpS (some (k + 1)) (-33) = some (k + 1) := by
  show (if (-33 : Int) = -33 then (if 1 ≤ k + 1 then some (k + 1) else none) else if (0 ≤ (-33 : Int) ∨ (97 ≤ -(-33 : Int) ∧ -(-33 : Int) ≤ 122)) then some (k + 1 + 1) else (if 2 ≤ k + 1 then some (k + 1 - 1) else none)) = _
  rw [if_pos rfl, if_pos (by omega)]
theorem op_ok {c : Int} (h : opS c) : cdOK ky (-c) := by unfold opS at h; unfold cdOK; omega
def WR (ky : Int) (s s' : RS) : Prop := rFl s' = -1000000005 → (∀ k : Nat, dep (cdl s) = some k → dep (cdl s') = some (k + 1)) ∧ ((∀ c ∈ cdl s, cdOK ky c) → ∀ c ∈ cdl s', cdOK ky c)
theorem wr_lp {F : RS → RS} {lv : Int} (h0 : 0 ≤ lv) (hF : ∀ s, okR N s → WR ky s (F s)) (hg : ∀ s, okR N s → gw N s (F s)) : ∀ (k : Nat) (s : RS), okR N s → rFl (lpS B N lv F k s) = -1000000005 → (∀ j : Nat, dep (cdl s) = some (j + 1) → dep (cdl (lpS B N lv F k s)) = some (j + 1)) ∧ ((∀ c ∈ cdl s, cdOK ky c) → ∀ c ∈ cdl (lpS B N lv F k s), cdOK ky c) := by
  intro k
  induction k with
  | zero => intro s hs _; exact ⟨fun j h => h, fun h => h⟩
  | succ k ih =>
    intro s hs hr
    rw [lpS_s] at hr ⊢
    by_cases e1 : rFl s = -1000000005
    · rw [if_pos e1] at hr ⊢
      by_cases e2 : lvO (bA B N (skp B N (rAt s))) = lv
      · rw [if_pos e2] at hr ⊢
        have hsk := skp_r (B := B) hs.2.1
        have hlt := lvO_lt h0 e2
        have ha := (gw_at hs (v := (skp B N (rAt s)) + 1) (by omega) (by omega)).1
        have hgF := hg _ ha
        have hn := gw_s1 (c := -(bA B N (skp B N (rAt s)))) hs hsk.1 hlt hgF
        obtain ⟨r1, r2⟩ := ih _ hn.1 hr
        have hf : rFl (F (sAt s ((skp B N (rAt s)) + 1))) = -1000000005 := Decidable.byContradiction (fun h => by rw [lp_f (by exact h)] at hr; exact h hr)
        obtain ⟨f1, f2⟩ := hF _ ha hf
        have hop := lvO_op h0 e2
        refine ⟨fun j hj => r1 j ?_, fun hc => r2 ?_⟩
        · rw [cdl_ad hgF.1.2.2.1, dep_ad, f1 (j + 1) hj]; exact dps_op hop
        · rw [cdl_ad hgF.1.2.2.1]; exact ok_ad (f2 hc) (op_ok hop)
      · rw [if_neg e2] at hr ⊢; exact ⟨fun j h => h, fun h => h⟩
    · rw [if_neg e1] at hr; exact absurd hr e1
theorem wr_pu {s s' : RS} {c : Int} (h0 : 0 ≤ rLn s) (e : cdl s' = cdl (adC s c)) (hp : 0 ≤ c ∨ (97 ≤ -c ∧ -c ≤ 122)) (hc : cdOK ky c) : (∀ k : Nat, dep (cdl s) = some k → dep (cdl s') = some (k + 1)) ∧ ((∀ x ∈ cdl s, cdOK ky x) → ∀ x ∈ cdl s', cdOK ky x) := by
  rw [e, cdl_ad h0]
  exact ⟨fun k hk => by rw [dep_ad, hk]; exact dps_pu hp, fun h => ok_ad h hc⟩
theorem nm_ok {c : Int} (h : nmO ky c) : cdOK ky (-c) ∧ 97 ≤ c ∧ c ≤ 122 := by unfold nmO at h; unfold cdOK; omega
theorem nu_b {p : Int} (hq : qDg B N p = true) (hp : p ≤ N) (h4 : wEd B N p - p ≤ 4) : 0 ≤ nuV B p (wEd B N p - p).toNat ∧ nuV B p (wEd B N p - p).toNat ≤ 9999 := by
  have hwr := wEd_r (B := B) hp
  have hnb := nuV_b (B := B) (p := p) (wEd B N p - p).toNat (fun i a c => (wEd_dg hq hp i a (by omega)).2.2)
  have hp10 : (10 : Int) ^ (wEd B N p - p).toNat ≤ 10000 := by
    rcases (by omega : (wEd B N p - p).toNat = 0 ∨ (wEd B N p - p).toNat = 1 ∨ (wEd B N p - p).toNat = 2 ∨ (wEd B N p - p).toNat = 3 ∨ (wEd B N p - p).toNat = 4) with x | x | x | x | x <;> rw [x] <;> decide
  omega
theorem wr_all : ∀ (d : Nat) (lv p n : Int) (s : RS), 0 ≤ lv → lv ≤ 6 → 0 ≤ p → p ≤ 8 → 0 ≤ n → n ≤ 8 → (8 - p) * 7 + (8 - n) + (6 - lv) + 1 ≤ (d : Nat) → okR N s → WR ky s (rdL B N ke ky d lv p n s) := by
  intro d
  induction d with
  | zero => intro lv p n s h0 h6 p0 p8 n0 n8 hd; exact absurd hd (by omega)
  | succ d ih =>
    intro lv p n s h0 h6 p0 p8 n0 n8 hd hok
    have hsk := skp_r (B := B) hok.2.1
    have hr0 := hok.1
    by_cases e6 : lv = 6
    · subst e6
      intro hr
      have hfs : rFl s = -1000000005 := Decidable.byContradiction (fun h => by rw [rd_f _ _ _ _ _ h] at hr; exact h hr)
      rw [rdL_6] at hr ⊢
      unfold pcS at hr ⊢
      rw [if_pos hfs] at hr ⊢
      by_cases c1 : bA B N (skp B N (rAt s)) = 40 ∧ p < 8
      · rw [if_pos c1] at hr ⊢
        have hlt : (skp B N (rAt s)) < N := bA_lt (B := B) (by omega)
        have ha := (gw_at hok (v := (skp B N (rAt s)) + 1) (by omega) (by omega)).1
        have hfx : rFl (rdL B N ke ky d 0 (p + 1) n (sAt s ((skp B N (rAt s)) + 1))) = -1000000005 := Decidable.byContradiction (fun h => by unfold clS at hr; rw [if_neg h] at hr; exact h hr)
        have hcl : cdl (clS B N (rdL B N ke ky d 0 (p + 1) n (sAt s ((skp B N (rAt s)) + 1)))) = cdl (rdL B N ke ky d 0 (p + 1) n (sAt s ((skp B N (rAt s)) + 1))) := by
          unfold clS; rw [if_pos hfx]; split <;> rfl
        rw [hcl]
        exact ih 0 (p + 1) n _ (by omega) (by omega) (by omega) (by omega) n0 n8 (by omega) ha hfx
      · rw [if_neg c1] at hr ⊢
        by_cases c2 : bA B N (skp B N (rAt s)) = 33 ∧ n < 8
        · rw [if_pos c2] at hr ⊢
          have hlt : (skp B N (rAt s)) < N := bA_lt (B := B) (by omega)
          have ha := (gw_at hok (v := (skp B N (rAt s)) + 1) (by omega) (by omega)).1
          obtain ⟨f1, f2⟩ := ih 6 p (n + 1) _ (by omega) (by omega) p0 p8 (by omega) (by omega) (by omega) ha hr
          have hg := gw_rd (B := B) (N := N) (ke := ke) (ky := ky) d 6 p (n + 1) _ (by decide) ha
          refine ⟨fun k hk => ?_, fun hc => ?_⟩
          · rw [cdl_ad hg.1.2.2.1, dep_ad, f1 k hk]; exact dps_no
          · rw [cdl_ad hg.1.2.2.1]; exact ok_ad (f2 hc) (Or.inr (Or.inl rfl))
        · rw [if_neg c2] at hr ⊢
          by_cases c3 : qDg B N (skp B N (rAt s)) = true
          · rw [if_pos c3] at hr ⊢
            unfold nuS at hr ⊢
            by_cases c4 : rAt (sAt s (skp B N (rAt s))) = ke ∨ 4 < wEd B N (rAt (sAt s (skp B N (rAt s)))) - rAt (sAt s (skp B N (rAt s)))
            · rw [if_pos c4] at hr
              exact absurd (show (skp B N (rAt s)) = -1000000005 from hr) (by omega)
            · rw [if_neg c4]
              have h4 : wEd B N (skp B N (rAt s)) - (skp B N (rAt s)) ≤ 4 := by
                have : ¬ 4 < wEd B N (skp B N (rAt s)) - (skp B N (rAt s)) := fun q => c4 (Or.inr q)
                omega
              have hb := nu_b c3 hsk.2 h4
              exact wr_pu (c := nuV B (skp B N (rAt s)) (wEd B N (skp B N (rAt s)) - (skp B N (rAt s))).toNat) hok.2.2.1 rfl (Or.inl hb.1) (Or.inl hb)
          · rw [if_neg c3] at hr ⊢
            by_cases c4 : nmO ky (bA B N (skp B N (rAt s))) ∧ wEd B N (rAt (sAt s (skp B N (rAt s)))) = rAt (sAt s (skp B N (rAt s))) + 1
            · rw [naS_y c4.1 c4.2]
              have hb := nm_ok c4.1
              exact wr_pu (c := -(bA B N (skp B N (rAt s)))) hok.2.2.1 rfl (Or.inr (by omega)) hb.1
            · rw [naS_n c4] at hr
              exact absurd (show (skp B N (rAt s)) = -1000000005 from hr) (by omega)
    · by_cases e5 : lv = 5
      · subst e5
        rw [rdL_5]
        exact ih 6 p n s (by omega) (by omega) p0 p8 n0 n8 (by omega) hok
      · rw [rdL_l (by omega)]
        intro hr
        have hF : ∀ s, okR N s → WR ky s (rdL B N ke ky d (lv + 1) p n s) := fun s hs => ih (lv + 1) p n s (by omega) (by omega) p0 p8 n0 n8 (by omega) hs
        have hg : ∀ s, okR N s → gw N s (rdL B N ke ky d (lv + 1) p n s) := fun s hs => gw_rd d (lv + 1) p n s (by omega) hs
        have hf1 : rFl (rdL B N ke ky d (lv + 1) p n s) = -1000000005 := Decidable.byContradiction (fun h => by rw [lp_f h] at hr; exact h hr)
        obtain ⟨a1, a2⟩ := hF s hok hf1
        obtain ⟨b1, b2⟩ := wr_lp h0 hF hg _ _ (hg s hok).1 hr
        exact ⟨fun k hk => b1 k (a1 k hk), fun hc => b2 (a2 hc)⟩
end Made
/-! the fault of a tape -/
def keB (B : Int → Int) (N : Int) : Int := wEd B N (skp B N 0)
def kyB (B : Int → Int) (N : Int) : Int := kyC B (skp B N 0) (keB B N)
def rdB (B : Int → Int) (N : Int) (co : Int → Int) : RS := rdL B N (keB B N) (kyB B N) 71 0 0 0 (keB B N, -1000000005, 0, 0, co)
def ftV (B : Int → Int) (N : Int) (co : Int → Int) : Int := if kyB B N = -1 then skp B N 0 else if rFl (rdB B N co) ≠ -1000000005 then rFl (rdB B N co) else if skp B N (rAt (rdB B N co)) < N then skp B N (rAt (rdB B N co)) else -1000000005
theorem keB_r {B : Int → Int} {N : Int} (h : 0 ≤ N) : 0 ≤ skp B N 0 ∧ skp B N 0 ≤ keB B N ∧ keB B N ≤ N := by
  have h1 := skp_r (B := B) h
  have h2 := wEd_r (B := B) h1.2
  exact ⟨h1.1, h2.1, h2.2⟩
theorem rdB_g {B : Int → Int} {N : Int} {co : Int → Int} (h : 0 ≤ N) : okR N (rdB B N co) := by
  have h1 := keB_r (B := B) h
  exact (gw_rd (B := B) (N := N) (ke := keB B N) (ky := kyB B N) 71 0 0 0 (keB B N, -1000000005, 0, 0, co) (by decide) (show okR N (keB B N, -1000000005, 0, 0, co) from ⟨by show 0 ≤ keB B N; omega, h1.2.2, Int.le_refl _, by show 0 ≤ keB B N; omega, Int.le_refl _, Int.le_refl _⟩)).1
theorem ft_n {B : Int → Int} {N : Int} {co : Int → Int} (h : 0 ≤ N) (hf : ftV B N co = -1000000005) : kyB B N ≠ -1 ∧ rFl (rdB B N co) = -1000000005 := by
  have h1 := keB_r (B := B) h
  unfold ftV at hf
  by_cases e : kyB B N = -1
  · rw [if_pos e] at hf; omega
  · rw [if_neg e] at hf
    by_cases e2 : rFl (rdB B N co) ≠ -1000000005
    · rw [if_pos e2] at hf; exact absurd hf e2
    · exact ⟨e, Decidable.byContradiction e2⟩
theorem ft_w {B : Int → Int} {N : Int} {co : Int → Int} (h : 0 ≤ N) (hf : ftV B N co = -1000000005) : dep (cdl (rdB B N co)) = some 1 ∧ ∀ c ∈ cdl (rdB B N co), cdOK (kyB B N) c := by
  have h1 := keB_r (B := B) h
  have h2 := wr_all (B := B) (N := N) (ke := keB B N) (ky := kyB B N) 71 0 0 0 (keB B N, -1000000005, 0, 0, co) (by decide) (by decide) (by decide) (by decide) (by decide) (by decide) (by decide) (show okR N (keB B N, -1000000005, 0, 0, co) from ⟨by show 0 ≤ keB B N; omega, h1.2.2, Int.le_refl _, by show 0 ≤ keB B N; omega, Int.le_refl _, Int.le_refl _⟩) (ft_n h hf).2
  exact ⟨h2.1 0 rfl, h2.2 (fun c hc => absurd hc (by show ¬ c ∈ []; exact List.not_mem_nil))⟩
theorem mR_self {μ : Mem} : mR μ (μ 58 2, μ 58 3, μ 59 2, μ 59 1, μ 60) = μ := by
  refine (mR_ext ?_ ?_ ?_ (fun q _ _ _ => rfl)).symm
  · funext j
    show μ 58 j = uf (uf (μ 58) 2 (μ 58 2)) 3 (μ 58 3) j
    by_cases e : j = 3
    · rw [e, uf_same]
    · rw [uf_ne e]
      by_cases e2 : j = 2
      · rw [e2, uf_same]
      · rw [uf_ne e2]
  · funext j
    show μ 59 j = uf (uf (μ 59) 1 (μ 59 1)) 2 (μ 59 2) j
    by_cases e : j = 2
    · rw [e, uf_same]
    · rw [uf_ne e]
      by_cases e2 : j = 1
      · rw [e2, uf_same]
      · rw [uf_ne e2]
  · rfl

theorem rk_f {μ μ2 : Mem} (h : (kyC ((ud (ud (ud (ud μ 59 1 0) 59 2 0) 58 2 0) 58 3 (-1000000005)) 57) (skp ((ud (ud (ud (ud μ 59 1 0) 59 2 0) 58 2 0) 58 3 (-1000000005)) 57) ((ud (ud (ud (ud μ 59 1 0) 59 2 0) 58 2 0) 58 3 (-1000000005)) 56 1) ((ud (ud (ud (ud μ 59 1 0) 59 2 0) 58 2 0) 58 3 (-1000000005)) 58 2)) (wEd ((ud (ud (ud (ud μ 59 1 0) 59 2 0) 58 2 0) 58 3 (-1000000005)) 57) ((ud (ud (ud (ud μ 59 1 0) 59 2 0) 58 2 0) 58 3 (-1000000005)) 56 1) (skp ((ud (ud (ud (ud μ 59 1 0) 59 2 0) 58 2 0) 58 3 (-1000000005)) 57) ((ud (ud (ud (ud μ 59 1 0) 59 2 0) 58 2 0) 58 3 (-1000000005)) 56 1) ((ud (ud (ud (ud μ 59 1 0) 59 2 0) 58 2 0) 58 3 (-1000000005)) 58 2))) = -1 → μ2 = ud (ud (ud (ud (ud (ud (ud μ 59 1 0) 59 2 0) 58 2 0) 58 3 (-1000000005)) 58 2 (skp ((ud (ud (ud (ud μ 59 1 0) 59 2 0) 58 2 0) 58 3 (-1000000005)) 57) ((ud (ud (ud (ud μ 59 1 0) 59 2 0) 58 2 0) 58 3 (-1000000005)) 56 1) ((ud (ud (ud (ud μ 59 1 0) 59 2 0) 58 2 0) 58 3 (-1000000005)) 58 2))) 58 4 (wEd ((ud (ud (ud (ud μ 59 1 0) 59 2 0) 58 2 0) 58 3 (-1000000005)) 57) ((ud (ud (ud (ud μ 59 1 0) 59 2 0) 58 2 0) 58 3 (-1000000005)) 56 1) (skp ((ud (ud (ud (ud μ 59 1 0) 59 2 0) 58 2 0) 58 3 (-1000000005)) 57) ((ud (ud (ud (ud μ 59 1 0) 59 2 0) 58 2 0) 58 3 (-1000000005)) 56 1) ((ud (ud (ud (ud μ 59 1 0) 59 2 0) 58 2 0) 58 3 (-1000000005)) 58 2)))) 58 3 (skp ((ud (ud (ud (ud μ 59 1 0) 59 2 0) 58 2 0) 58 3 (-1000000005)) 57) ((ud (ud (ud (ud μ 59 1 0) 59 2 0) 58 2 0) 58 3 (-1000000005)) 56 1) ((ud (ud (ud (ud μ 59 1 0) 59 2 0) 58 2 0) 58 3 (-1000000005)) 58 2))) ∧ (kyC ((ud (ud (ud (ud μ 59 1 0) 59 2 0) 58 2 0) 58 3 (-1000000005)) 57) (skp ((ud (ud (ud (ud μ 59 1 0) 59 2 0) 58 2 0) 58 3 (-1000000005)) 57) ((ud (ud (ud (ud μ 59 1 0) 59 2 0) 58 2 0) 58 3 (-1000000005)) 56 1) ((ud (ud (ud (ud μ 59 1 0) 59 2 0) 58 2 0) 58 3 (-1000000005)) 58 2)) (wEd ((ud (ud (ud (ud μ 59 1 0) 59 2 0) 58 2 0) 58 3 (-1000000005)) 57) ((ud (ud (ud (ud μ 59 1 0) 59 2 0) 58 2 0) 58 3 (-1000000005)) 56 1) (skp ((ud (ud (ud (ud μ 59 1 0) 59 2 0) 58 2 0) 58 3 (-1000000005)) 57) ((ud (ud (ud (ud μ 59 1 0) 59 2 0) 58 2 0) 58 3 (-1000000005)) 56 1) ((ud (ud (ud (ud μ 59 1 0) 59 2 0) 58 2 0) 58 3 (-1000000005)) 58 2))) ≠ -1 → μ2 = ud (ud (ud (ud (ud (ud (ud (ud μ 59 1 0) 59 2 0) 58 2 0) 58 3 (-1000000005)) 58 2 (skp ((ud (ud (ud (ud μ 59 1 0) 59 2 0) 58 2 0) 58 3 (-1000000005)) 57) ((ud (ud (ud (ud μ 59 1 0) 59 2 0) 58 2 0) 58 3 (-1000000005)) 56 1) ((ud (ud (ud (ud μ 59 1 0) 59 2 0) 58 2 0) 58 3 (-1000000005)) 58 2))) 58 4 (wEd ((ud (ud (ud (ud μ 59 1 0) 59 2 0) 58 2 0) 58 3 (-1000000005)) 57) ((ud (ud (ud (ud μ 59 1 0) 59 2 0) 58 2 0) 58 3 (-1000000005)) 56 1) (skp ((ud (ud (ud (ud μ 59 1 0) 59 2 0) 58 2 0) 58 3 (-1000000005)) 57) ((ud (ud (ud (ud μ 59 1 0) 59 2 0) 58 2 0) 58 3 (-1000000005)) 56 1) ((ud (ud (ud (ud μ 59 1 0) 59 2 0) 58 2 0) 58 3 (-1000000005)) 58 2)))) 59 0 (kyC ((ud (ud (ud (ud μ 59 1 0) 59 2 0) 58 2 0) 58 3 (-1000000005)) 57) (skp ((ud (ud (ud (ud μ 59 1 0) 59 2 0) 58 2 0) 58 3 (-1000000005)) 57) ((ud (ud (ud (ud μ 59 1 0) 59 2 0) 58 2 0) 58 3 (-1000000005)) 56 1) ((ud (ud (ud (ud μ 59 1 0) 59 2 0) 58 2 0) 58 3 (-1000000005)) 58 2)) (wEd ((ud (ud (ud (ud μ 59 1 0) 59 2 0) 58 2 0) 58 3 (-1000000005)) 57) ((ud (ud (ud (ud μ 59 1 0) 59 2 0) 58 2 0) 58 3 (-1000000005)) 56 1) (skp ((ud (ud (ud (ud μ 59 1 0) 59 2 0) 58 2 0) 58 3 (-1000000005)) 57) ((ud (ud (ud (ud μ 59 1 0) 59 2 0) 58 2 0) 58 3 (-1000000005)) 56 1) ((ud (ud (ud (ud μ 59 1 0) 59 2 0) 58 2 0) 58 3 (-1000000005)) 58 2))))) 58 2 (wEd ((ud (ud (ud (ud μ 59 1 0) 59 2 0) 58 2 0) 58 3 (-1000000005)) 57) ((ud (ud (ud (ud μ 59 1 0) 59 2 0) 58 2 0) 58 3 (-1000000005)) 56 1) (skp ((ud (ud (ud (ud μ 59 1 0) 59 2 0) 58 2 0) 58 3 (-1000000005)) 57) ((ud (ud (ud (ud μ 59 1 0) 59 2 0) 58 2 0) 58 3 (-1000000005)) 56 1) ((ud (ud (ud (ud μ 59 1 0) 59 2 0) 58 2 0) 58 3 (-1000000005)) 58 2))))) :
    (∀ q, q ≠ 58 → q ≠ 59 → q ≠ 60 → μ2 q = μ q) ∧ μ2 60 = μ 60 ∧ μ2 58 4 = keB (μ 57) (μ 56 1) ∧ μ2 59 1 = 0 ∧ μ2 59 2 = 0 ∧ ((kyB (μ 57) (μ 56 1) = -1 ∧ μ2 58 2 = (skp (μ 57) (μ 56 1) 0) ∧ μ2 58 3 = (skp (μ 57) (μ 56 1) 0)) ∨ (kyB (μ 57) (μ 56 1) ≠ -1 ∧ μ2 58 2 = keB (μ 57) (μ 56 1) ∧ μ2 58 3 = -1000000005 ∧ μ2 59 0 = kyB (μ 57) (μ 56 1))) := by
  have e57 : (ud (ud (ud (ud μ 59 1 0) 59 2 0) 58 2 0) 58 3 (-1000000005)) 57 = μ 57 := rfl
  have e56 : (ud (ud (ud (ud μ 59 1 0) 59 2 0) 58 2 0) 58 3 (-1000000005)) 56 1 = μ 56 1 := rfl
  have e58 : (ud (ud (ud (ud μ 59 1 0) 59 2 0) 58 2 0) 58 3 (-1000000005)) 58 2 = 0 := by simp (disch := omega) only [ud, ua_same, ua_ne, uf_same, uf_ne]
  rw [e57, e56, e58] at h
  by_cases e : kyB (μ 57) (μ 56 1) = -1
  · have e2 := h.1 e
    refine ⟨fun q a b c => ?_, ?_, ?_, ?_, ?_, Or.inl ⟨e, ?_, ?_⟩⟩
    · rw [e2]; rw [ud_n a, ud_n a, ud_n a, ud_n a, ud_n a, ud_n b, ud_n b]
    · rw [e2]; rfl
    · rw [e2]; simp (disch := omega) only [ud, ua_same, ua_ne, uf_same, uf_ne]; rfl
    · rw [e2]; simp (disch := omega) only [ud, ua_same, ua_ne, uf_same, uf_ne]
    · rw [e2]; simp (disch := omega) only [ud, ua_same, ua_ne, uf_same, uf_ne]
    · rw [e2]; simp (disch := omega) only [ud, ua_same, ua_ne, uf_same, uf_ne]
    · rw [e2]; simp (disch := omega) only [ud, ua_same, ua_ne, uf_same, uf_ne]
  · have e2 := h.2 e
    refine ⟨fun q a b c => ?_, ?_, ?_, ?_, ?_, Or.inr ⟨e, ?_, ?_, ?_⟩⟩
    · rw [e2]; rw [ud_n a, ud_n b, ud_n a, ud_n a, ud_n a, ud_n a, ud_n b, ud_n b]
    · rw [e2]; rfl
    · rw [e2]; simp (disch := omega) only [ud, ua_same, ua_ne, uf_same, uf_ne]; rfl
    · rw [e2]; simp (disch := omega) only [ud, ua_same, ua_ne, uf_same, uf_ne]
    · rw [e2]; simp (disch := omega) only [ud, ua_same, ua_ne, uf_same, uf_ne]
    · rw [e2]; simp (disch := omega) only [ud, ua_same, ua_ne, uf_same, uf_ne]; rfl
    · rw [e2]; simp (disch := omega) only [ud, ua_same, ua_ne, uf_same, uf_ne]
    · rw [e2]; simp (disch := omega) only [ud, ua_same, ua_ne, uf_same, uf_ne]; rfl

set_option maxRecDepth 100000 in
set_option maxHeartbeats 4000000 in
theorem ct_X4_faultOfTape {l : Launch} {D : va_G} {cA : Nat → ClassId} {μ : Mem} (hN0 : 0 ≤ μ 56 1) (hN1 : μ 56 1 ≤ 96) (hB : ∀ q, 0 ≤ μ 57 q ∧ μ 57 q ≤ 255) : CtN l D cA yX4_faultOfTape cX4_faultOfTape 1 (some .int) 75 [vr 58] μ (Pi (fun x μ' => x = (ftV (μ 57) (μ 56 1) (μ 60)) ∧ ((ftV (μ 57) (μ 56 1) (μ 60)) = -1000000005 → μ' 59 0 = kyB (μ 57) (μ 56 1) ∧ μ' 59 1 = rPc (rdB (μ 57) (μ 56 1) (μ 60)) ∧ μ' 59 2 = rLn (rdB (μ 57) (μ 56 1) (μ 60)) ∧ μ' 60 = rCo (rdB (μ 57) (μ 56 1) (μ 60))) ∧ ∀ q, q ≠ 58 → q ≠ 59 → q ≠ 60 → μ' q = μ q)) := by
  refine Ct.of (own := RX4) (by decide +kernel) rfl (fun σ => Nat.le_of_ble_eq_true rfl) (fun hM hP ha => ?_)
  have w58_0 : ρ0 58 (0 : Nat) = some 56 := by decide +kernel
  have w58_1 : ρ0 58 (1 : Nat) = some 59 := by decide +kernel
  have w56_0 : ρ0 56 (0 : Nat) = some 57 := by decide +kernel
  refine go_aload_n dX4_faultOfTape_0 rfl ?_
  refine go_getR dX4_faultOfTape_1 fl_X4_12 (by first | assumption | exact Nat.le_of_ble_eq_true rfl) (by first | assumption | rfl) rfl (by first | assumption | rfl) ?_
  refine go_vV (ci := 0) dX4_faultOfTape_4 (ct_X1_begin (j := 59) (by unfold isLw; omega)) ml_X4_22 mc_X1_begin mv_X1_begin rfl (by first | assumption | exact Nat.le_of_ble_eq_true rfl) (by first | assumption | rfl) rfl ⟨rfl, rfl⟩ ⟨Nat.le_refl _, Nat.le_refl _⟩ rfl rfl rfl (fun μ4 hc4 => ?_)
  subst hc4
  refine go_aload_n dX4_faultOfTape_7 rfl ?_
  refine go_iconst dX4_faultOfTape_8 rfl ?_
  refine go_putI 2 dX4_faultOfTape_9 pl_X4_25 (by first | assumption | exact Nat.le_of_ble_eq_true rfl) (by first | assumption | rfl) rfl rfl ?_
  refine go_aload_n dX4_faultOfTape_12 rfl ?_
  refine go_ldc dX4_faultOfTape_13 kc_X4_29 rfl ?_
  refine go_putI 3 dX4_faultOfTape_15 pl_X4_30 (by first | assumption | exact Nat.le_of_ble_eq_true rfl) (by first | assumption | rfl) rfl rfl ?_
  refine go_aload_n dX4_faultOfTape_18 rfl ?_
  refine go_vV (ci := 3) dX4_faultOfTape_19 (ct_X4_readKey (μ := (ud (ud (ud (ud μ 59 1 0) 59 2 0) 58 2 0) 58 3 (-1000000005))) hN0 hN1 (by simp (disch := omega) only [ud, ua_same, ua_ne, uf_same, uf_ne]; omega) (by simp (disch := omega) only [ud, ua_same, ua_ne, uf_same, uf_ne]; exact hN0)) ml_X4_33 mc_X4_readKey mv_X4_readKey rfl (by first | assumption | exact Nat.le_of_ble_eq_true rfl) (by first | assumption | rfl) rfl ⟨rfl, rfl⟩ ⟨Nat.le_refl _, Nat.le_refl _⟩ rfl rfl rfl (fun μ19 hc19 => ?_)
  obtain ⟨g1, g2, g3, g4, g5, g6⟩ := rk_f hc19
  have hkr := keB_r (B := μ 57) hN0
  have g7 : μ19 57 = μ 57 := g1 57 (by decide) (by decide) (by decide)
  have g8 : μ19 56 = μ 56 := g1 56 (by decide) (by decide) (by decide)
  have hat : 0 ≤ μ19 58 2 ∧ μ19 58 2 ≤ μ 56 1 := by rcases g6 with g | g <;> omega
  have hok : okR (μ19 56 1) ((μ19 58 2, μ19 58 3, μ19 59 2, μ19 59 1, μ19 60) : RS) := ⟨hat.1, by rw [g8]; exact hat.2, by show 0 ≤ μ19 59 2; omega, by show μ19 59 2 ≤ μ19 58 2; omega, by show 0 ≤ μ19 59 1; omega, by show μ19 59 1 ≤ μ19 59 2; omega⟩
  have hcl := (ct_rd (l := l) (D := D) (cA := cA) (μ := μ19) (by rw [g8]; exact hN0) (by rw [g8]; exact hN1) 71).2 0 0 0 ((μ19 58 2, μ19 58 3, μ19 59 2, μ19 59 1, μ19 60) : RS) (by decide) (by decide) (by decide) (by decide) (by decide) (by decide) hok (by decide)
  rw [mR_self] at hcl
  refine go_aload_n dX4_faultOfTape_22 rfl ?_
  refine go_iconst dX4_faultOfTape_23 rfl ?_
  refine go_iconst dX4_faultOfTape_24 rfl ?_
  refine go_iconst dX4_faultOfTape_25 rfl ?_
  refine go_vV (ci := 3) dX4_faultOfTape_26 (hcl) ml_X4_36 mc_X4_readLevel mv_X4_readLevel rfl (by first | assumption | exact Nat.le_of_ble_eq_true rfl) (by first | assumption | rfl) rfl ⟨rfl, rfl⟩ ⟨Nat.le_refl _, Nat.le_refl _⟩ rfl rfl rfl (fun μ26 hc26 => ?_)
  have hgS := (gw_rd (B := μ19 57) (N := μ19 56 1) (ke := μ19 58 4) (ky := μ19 59 0) 71 0 0 0 ((μ19 58 2, μ19 58 3, μ19 59 2, μ19 59 1, μ19 60) : RS) (by decide) hok).1
  have hS : (kyB (μ 57) (μ 56 1) = -1 ∧ (rdL (μ19 57) (μ19 56 1) (μ19 58 4) (μ19 59 0) 71 0 0 0 ((μ19 58 2, μ19 58 3, μ19 59 2, μ19 59 1, μ19 60) : RS)) = ((μ19 58 2, μ19 58 3, μ19 59 2, μ19 59 1, μ19 60) : RS) ∧ rFl ((μ19 58 2, μ19 58 3, μ19 59 2, μ19 59 1, μ19 60) : RS) = (skp (μ 57) (μ 56 1) 0)) ∨ (kyB (μ 57) (μ 56 1) ≠ -1 ∧ (rdL (μ19 57) (μ19 56 1) (μ19 58 4) (μ19 59 0) 71 0 0 0 ((μ19 58 2, μ19 58 3, μ19 59 2, μ19 59 1, μ19 60) : RS)) = (rdB (μ 57) (μ 56 1) (μ 60))) := by
    rcases g6 with ⟨k1, k2, k3⟩ | ⟨k1, k2, k3, k4⟩
    · exact Or.inl ⟨k1, rd_f _ _ _ _ _ (by show μ19 58 3 ≠ -1000000005; omega), k3⟩
    · exact Or.inr ⟨k1, by rw [g7, g8, g3, k4, k2, k3, g4, g5, g2]; rfl⟩
  have hfr : ∀ (s : RS) q, q ≠ 58 → q ≠ 59 → q ≠ 60 → mR μ19 s q = μ q := fun s q a b c => (mR_n a b c).trans (g1 q a b c)
  have hky : ∀ s : RS, kyB (μ 57) (μ 56 1) ≠ -1 → mR μ19 s 59 0 = kyB (μ 57) (μ 56 1) := fun s k => by
    rw [mR_ky]
    rcases g6 with ⟨k1, k2, k3⟩ | ⟨k1, k2, k3, k4⟩
    · exact absurd k1 k
    · exact k4
  generalize (rdL (μ19 57) (μ19 56 1) (μ19 58 4) (μ19 59 0) 71 0 0 0 ((μ19 58 2, μ19 58 3, μ19 59 2, μ19 59 1, μ19 60) : RS)) = S at hc26 hgS hS
  subst hc26
  refine go_aload_n dX4_faultOfTape_29 rfl ?_
  refine go_getI 3 dX4_faultOfTape_30 fl_X4_30 (by first | assumption | exact Nat.le_of_ble_eq_true rfl) (by first | assumption | rfl) rfl rfl ?_
  try simp (disch := omega) only [ua_same, ua_ne, uf_same, uf_ne]
  refine go_ldc dX4_faultOfTape_33 kc_X4_29 rfl ?_
  refine go_icmp_ne (tgt := 55) dX4_faultOfTape_35 rfl (fun h35 => ?_) (fun h35 => ?_)
  ·
    refine go_aload_n dX4_faultOfTape_55 rfl ?_
    refine go_getI 3 dX4_faultOfTape_56 fl_X4_30 (by first | assumption | exact Nat.le_of_ble_eq_true rfl) (by first | assumption | rfl) rfl rfl ?_
    try simp (disch := omega) only [ua_same, ua_ne, uf_same, uf_ne]
    refine go_ri dX4_faultOfTape_59 tyI ⟨Nat.le_refl _, Nat.le_refl _⟩ (?_)
    rw [mR_fl] at h35 ⊢
    have hx : rFl S = (ftV (μ 57) (μ 56 1) (μ 60)) := by
      unfold ftV
      rcases hS with ⟨k1, k2, k3⟩ | ⟨k1, k2⟩
      · rw [if_pos k1, k2]; exact k3
      · rw [if_neg k1, if_pos (by rw [← k2]; exact h35), k2]
    exact ⟨hx, fun h => absurd (hx.trans h) h35, hfr _⟩
  ·
    refine go_aload_n dX4_faultOfTape_38 rfl ?_
    refine go_vI (ci := 3) dX4_faultOfTape_39 (cr_nextByte (by rw [g8]; exact hN0) (by rw [g8]; exact hN1) hgS.1 hgS.2.1) ml_X4_40 mc_X4_nextByte mv_X4_nextByte rfl (by first | assumption | exact Nat.le_of_ble_eq_true rfl) (by first | assumption | rfl) rfl ⟨rfl, rfl⟩ ⟨Nat.le_refl _, Nat.le_refl _⟩ rfl rfl rfl (fun x39 μ39 hc39 => ?_)
    obtain ⟨rfl, hm39⟩ := hc39
    subst hm39
    refine go_ldc dX4_faultOfTape_42 kc_X4_29 rfl ?_
    refine go_icmp_eq (tgt := 55) dX4_faultOfTape_44 rfl (fun h44 => ?_) (fun h44 => ?_)
    ·
      refine go_aload_n dX4_faultOfTape_55 rfl ?_
      refine go_getI 3 dX4_faultOfTape_56 fl_X4_30 (by first | assumption | exact Nat.le_of_ble_eq_true rfl) (by first | assumption | rfl) rfl rfl ?_
      try simp (disch := omega) only [ua_same, ua_ne, uf_same, uf_ne]
      refine go_ri dX4_faultOfTape_59 tyI ⟨Nat.le_refl _, Nat.le_refl _⟩ (?_)
      rw [mR_fl] at h35
      have hk : kyB (μ 57) (μ 56 1) ≠ -1 ∧ S = (rdB (μ 57) (μ 56 1) (μ 60)) := by
        rcases hS with ⟨k1, k2, k3⟩ | k
        · rw [k2, k3] at h35; exact absurd h35 (by omega)
        · exact k
      have hlt : ¬ skp (μ 57) (μ 56 1) (rAt (rdB (μ 57) (μ 56 1) (μ 60))) < μ 56 1 := fun h => by
        rw [g7, g8, hk.2] at h44
        have : bA (μ 57) (μ 56 1) (skp (μ 57) (μ 56 1) (rAt (rdB (μ 57) (μ 56 1) (μ 60)))) = μ 57 (skp (μ 57) (μ 56 1) (rAt (rdB (μ 57) (μ 56 1) (μ 60)))) := if_pos h
        have := hB (skp (μ 57) (μ 56 1) (rAt (rdB (μ 57) (μ 56 1) (μ 60))))
        omega
      have hx : (ftV (μ 57) (μ 56 1) (μ 60)) = -1000000005 := by
        unfold ftV
        rw [if_neg hk.1, if_neg (by rw [← hk.2]; exact fun h => h h35), if_neg hlt]
      rw [mR_fl, hx]
      refine ⟨h35, fun _ => ⟨hky _ hk.1, ?_, ?_, ?_⟩, hfr _⟩
      · rw [mR_pc, ← hk.2]; rfl
      · rw [mR_ln, ← hk.2]; rfl
      · rw [mR_60, ← hk.2]; rfl
    ·
      refine go_aload_n dX4_faultOfTape_47 rfl ?_
      refine go_aload_n dX4_faultOfTape_48 rfl ?_
      refine go_getI 2 dX4_faultOfTape_49 fl_X4_25 (by first | assumption | exact Nat.le_of_ble_eq_true rfl) (by first | assumption | rfl) rfl rfl ?_
      try simp (disch := omega) only [ua_same, ua_ne, uf_same, uf_ne]
      refine go_putI 3 dX4_faultOfTape_52 pl_X4_30 (by first | assumption | exact Nat.le_of_ble_eq_true rfl) (by first | assumption | rfl) rfl rfl ?_
      refine go_aload_n dX4_faultOfTape_55 rfl ?_
      refine go_getI 3 dX4_faultOfTape_56 fl_X4_30 (by first | assumption | exact Nat.le_of_ble_eq_true rfl) (by first | assumption | rfl) rfl rfl ?_
      try simp (disch := omega) only [ua_same, ua_ne, uf_same, uf_ne]
      refine go_ri dX4_faultOfTape_59 tyI ⟨Nat.le_refl _, Nat.le_refl _⟩ (?_)
      rw [mR_fl] at h35
      have hk : kyB (μ 57) (μ 56 1) ≠ -1 ∧ S = (rdB (μ 57) (μ 56 1) (μ 60)) := by
        rcases hS with ⟨k1, k2, k3⟩ | k
        · rw [k2, k3] at h35; exact absurd h35 (by omega)
        · exact k
      have hlt : skp (μ 57) (μ 56 1) (rAt (rdB (μ 57) (μ 56 1) (μ 60))) < μ 56 1 := by
        have := bA_lt (B := μ19 57) (N := μ19 56 1) h44
        rw [g7, g8, hk.2] at this
        exact this
      have hx : (ftV (μ 57) (μ 56 1) (μ 60)) = skp (μ 57) (μ 56 1) (rAt (rdB (μ 57) (μ 56 1) (μ 60))) := by
        unfold ftV
        rw [if_neg hk.1, if_neg (by rw [← hk.2]; exact fun h => h h35), if_pos hlt]
      have hr0 := hgS.1
      have hsr := skp_r (B := μ 57) (p := rAt S) (N := μ 56 1) (by have := hgS.2.1; rw [g8] at this; exact this)
      rw [mR_sfl, mR_at, rAt_sAt, g7, g8]
      refine ⟨by rw [hx, hk.2], fun h => absurd (hx.symm.trans h) (by rw [← hk.2]; omega), hfr _⟩

theorem rd_fl {B : Int → Int} {N ke ky : Int} : ∀ (d : Nat) (lv p n : Int) (s : RS), 0 ≤ lv → okR N s → (rFl s = -1000000005 ∨ (0 ≤ rFl s ∧ rFl s ≤ N)) → rFl (rdL B N ke ky d lv p n s) = -1000000005 ∨ (0 ≤ rFl (rdL B N ke ky d lv p n s) ∧ rFl (rdL B N ke ky d lv p n s) ≤ N) := by
  intro d
  induction d with
  | zero => intro lv p n s _ _ h; exact h
  | succ d ih =>
    intro lv p n s h0 hok h
    have hsk := skp_r (B := B) hok.2.1
    have hr0 := hok.1
    by_cases hfs : rFl s = -1000000005
    · by_cases e6 : lv = 6
      · subst e6
        rw [rdL_6]
        unfold pcS
        rw [if_pos hfs]
        split
        · rename_i c1
          have hlt : (skp B N (rAt s)) < N := bA_lt (B := B) (by omega)
          have ha := (gw_at hok (v := (skp B N (rAt s)) + 1) (by omega) (by omega)).1
          have hi := ih 0 (p + 1) n _ (by decide) ha h
          have hg := (gw_rd (B := B) (N := N) (ke := ke) (ky := ky) d 0 (p + 1) n _ (by decide) ha).1
          have hs2 := skp_r (B := B) hg.2.1
          have hg0 := hg.1
          unfold clS
          split
          · split
            · exact hi
            · exact Or.inr ⟨by show 0 ≤ skp B N _; omega, hs2.2⟩
          · exact hi
        · split
          · rename_i c2
            have hlt : (skp B N (rAt s)) < N := bA_lt (B := B) (by omega)
            have ha := (gw_at hok (v := (skp B N (rAt s)) + 1) (by omega) (by omega)).1
            exact ih 6 p (n + 1) _ (by decide) ha h
          · split
            · unfold nuS
              split
              · exact Or.inr ⟨by show 0 ≤ (skp B N (rAt s)); omega, hsk.2⟩
              · exact h
            · by_cases c4 : nmO ky (bA B N (skp B N (rAt s))) ∧ wEd B N (rAt (sAt s (skp B N (rAt s)))) = rAt (sAt s (skp B N (rAt s))) + 1
              · rw [naS_y c4.1 c4.2]; exact h
              · rw [naS_n c4]; exact Or.inr ⟨by show 0 ≤ (skp B N (rAt s)); omega, hsk.2⟩
      · by_cases e5 : lv = 5
        · subst e5; rw [rdL_5]; exact ih 6 p n s (by decide) hok h
        · have e : rdL B N ke ky (d + 1) lv p n s = lpS B N lv (rdL B N ke ky d (lv + 1) p n) (if lv = 2 then 1 else 96) (rdL B N ke ky d (lv + 1) p n s) := by
            show (if lv = 6 then _ else if lv = 5 then _ else _) = _
            rw [if_neg e6, if_neg e5]
          rw [e]
          have hl : ∀ (k : Nat) (t : RS), okR N t → (rFl t = -1000000005 ∨ (0 ≤ rFl t ∧ rFl t ≤ N)) → rFl (lpS B N lv (rdL B N ke ky d (lv + 1) p n) k t) = -1000000005 ∨ (0 ≤ rFl (lpS B N lv (rdL B N ke ky d (lv + 1) p n) k t) ∧ rFl (lpS B N lv (rdL B N ke ky d (lv + 1) p n) k t) ≤ N) := by
            intro k
            induction k with
            | zero => intro t _ ht; exact ht
            | succ k ihk =>
              intro t hot ht
              have hst := skp_r (B := B) hot.2.1
              rw [lpS_s]
              split
              · split
                · rename_i e1 e2
                  have hlt := lvO_lt h0 e2
                  have ha := (gw_at hot (v := skp B N (rAt t) + 1) (by omega) (by omega)).1
                  have hg := gw_rd (B := B) (N := N) (ke := ke) (ky := ky) d (lv + 1) p n _ (by omega) ha
                  exact ihk _ (gw_s1 hot hst.1 hlt hg).1 (ih (lv + 1) p n _ (by omega) ha ht)
                · exact ht
              · exact ht
          exact hl _ _ (gw_rd (B := B) (N := N) (ke := ke) (ky := ky) d (lv + 1) p n s (by omega) hok).1 (ih (lv + 1) p n s (by omega) hok h)
    · rw [rd_f _ _ _ _ _ hfs]; exact h
theorem ft_r {B : Int → Int} {N : Int} {co : Int → Int} (h : 0 ≤ N) (h2 : N ≤ 96) : -1000000005 ≤ ftV B N co ∧ ftV B N co ≤ 96 := by
  have h1 := keB_r (B := B) h
  have h3 := rd_fl (B := B) (N := N) (ke := keB B N) (ky := kyB B N) 71 0 0 0 (keB B N, -1000000005, 0, 0, co) (by decide) (show okR N (keB B N, -1000000005, 0, 0, co) from ⟨by show 0 ≤ keB B N; omega, h1.2.2, Int.le_refl _, by show 0 ≤ keB B N; omega, Int.le_refl _, Int.le_refl _⟩) (Or.inl rfl)
  have h4 : rFl (rdB B N co) = -1000000005 ∨ (0 ≤ rFl (rdB B N co) ∧ rFl (rdB B N co) ≤ N) := h3
  have h5 := rdB_g (B := B) (co := co) h
  have h6 := skp_r (B := B) h5.2.1
  have h7 := h5.1
  unfold ftV
  split
  · omega
  · split
    · omega
    · split <;> omega

set_option maxRecDepth 100000 in
set_option maxHeartbeats 4000000 in
theorem ct_X9_text {l : Launch} {D : va_G} {cA : Nat → ClassId} {μ : Mem} (hI : mtI μ 32) (hN0 : 0 ≤ μ 56 1) (hN1 : μ 56 1 ≤ 96) (hB : ∀ q, 0 ≤ μ 57 q ∧ μ 57 q ≤ 255) : CtN l D cA yX9_text cX9_text 3 (some .int) 76 [vr 0] μ (Pi (fun x μ' => μ' 56 1 = 0 ∧ ((ftV (μ 57) (μ 56 1) (μ 60)) ≠ -1000000005 → x = -100 - (ftV (μ 57) (μ 56 1) (μ 60)) ∧ ∀ q, q ≠ 56 → q ≠ 58 → q ≠ 59 → q ≠ 60 → μ' q = μ q) ∧ ((ftV (μ 57) (μ 56 1) (μ 60)) = -1000000005 → (14 ≤ (μ 32 13) → x = -1000000003 ∧ ∀ q, q ≠ 56 → q ≠ 58 → q ≠ 59 → q ≠ 60 → μ' q = μ q) ∧ ((μ 32 13) < 14 → x = (μ 32 13) ∧ μ' 32 = uf (μ 32) 13 ((μ 32 13) + 1) ∧ μ' (4 + 2 * (μ 32 13).toNat) 0 = kyB (μ 57) (μ 56 1) ∧ μ' (4 + 2 * (μ 32 13).toNat) 1 = rPc (rdB (μ 57) (μ 56 1) (μ 60)) ∧ μ' (4 + 2 * (μ 32 13).toNat) 2 = rLn (rdB (μ 57) (μ 56 1) (μ 60)) ∧ (∀ k, 0 ≤ k → k < 96 → μ' (4 + 2 * (μ 32 13).toNat + 1) k = rCo (rdB (μ 57) (μ 56 1) (μ 60)) k) ∧ ∀ q, q ≠ 32 → q ≠ 4 + 2 * (μ 32 13).toNat → q ≠ 4 + 2 * (μ 32 13).toNat + 1 → q ≠ 56 → q ≠ 58 → q ≠ 59 → q ≠ 60 → μ' q = μ q)))) := by
  refine Ct.of (own := RX9) (by decide +kernel) rfl (fun σ => Nat.le_of_ble_eq_true rfl) (fun hM hP ha => ?_)
  obtain ⟨w0_0, w0_1, w0_2, w0_3, w0_4, w0_5, w0_6, w0_7, w0_8, w0_9, w1_0, w1_1, w32_1, w32_2, w32_3, w32_4, w32_5, w32_6, w39_1, w39_2, w39_3, w39_4, w39_5, w39_6, w46_1, w46_2, w46_3, w46_4, w46_5, w46_6, w56_0, w58_0, w58_1, w53_0, w53_1⟩ := ws_f
  have hMt : isMt 32 := Or.inl rfl
  obtain ⟨iK, iS, iL, iT, iTn, iD, iH, iF, iX, iW⟩ := id hI
  simp only [Nat.reduceAdd] at iK iS iL iT
  refine go_aload_n dX9_text_0 rfl ?_
  refine go_getR dX9_text_1 fl_X9_50 (by first | assumption | exact Nat.le_of_ble_eq_true rfl) (by first | assumption | rfl) rfl (by first | assumption | rfl) ?_
  refine go_vI (ci := 3) dX9_text_4 (ct_X4_faultOfTape hN0 hN1 hB) ml_X9_237 mc_X4_faultOfTape mv_X4_faultOfTape rfl (by first | assumption | exact Nat.le_of_ble_eq_true rfl) (by first | assumption | rfl) rfl ⟨rfl, rfl⟩ ⟨Nat.le_refl _, Nat.le_refl _⟩ rfl rfl rfl (fun x4 μ4 hc4 => ?_)
  obtain ⟨rfl, f2, f3⟩ := hc4
  have e32 : μ4 32 = μ 32 := f3 32 (by decide) (by decide) (by decide)
  have hft : -1000000005 ≤ (ftV (μ 57) (μ 56 1) (μ 60)) ∧ (ftV (μ 57) (μ 56 1) (μ 60)) ≤ 96 := ft_r hN0 hN1
  refine go_istore_n dX9_text_7 rfl ?_
  refine go_aload_n dX9_text_8 rfl ?_
  refine go_getR dX9_text_9 fl_X9_41 (by first | assumption | exact Nat.le_of_ble_eq_true rfl) (by first | assumption | rfl) rfl (by first | assumption | rfl) ?_
  refine go_iconst dX9_text_12 rfl ?_
  refine go_putI 1 dX9_text_13 pl_X9_234 (by first | assumption | exact Nat.le_of_ble_eq_true rfl) (by first | assumption | rfl) rfl rfl ?_
  refine go_iload_n dX9_text_16 rfl ?_
  refine go_ldc dX9_text_17 kc_X9_159 rfl ?_
  refine go_icmp_eq (tgt := 27) dX9_text_19 rfl (fun h19 => ?_) (fun h19 => ?_)
  ·
    refine go_aload_n dX9_text_27 rfl ?_
    refine go_getR dX9_text_28 fl_X9_21 (by first | assumption | exact Nat.le_of_ble_eq_true rfl) (by first | assumption | rfl) rfl (by first | assumption | rfl) ?_
    refine go_getI 13 dX9_text_31 fl_X9_240 (by first | assumption | exact Nat.le_of_ble_eq_true rfl) (by first | assumption | rfl) rfl rfl ?_
    try simp (disch := omega) only [ua_same, ua_ne, uf_same, uf_ne]
    rw [e32]
    refine go_istore_n dX9_text_34 rfl ?_
    refine go_iload_n dX9_text_35 rfl ?_
    refine go_bipush dX9_text_36 rfl (by decide) ?_
    refine go_icmp_lt (tgt := 44) dX9_text_38 rfl (fun h38 => ?_) (fun h38 => ?_)
    ·
      refine go_aload_n dX9_text_44 rfl ?_
      refine go_getR dX9_text_45 fl_X9_10 (by first | assumption | exact Nat.le_of_ble_eq_true rfl) (by first | assumption | rfl) rfl (by first | assumption | rfl) ?_
      refine go_getR dX9_text_48 fl_X9_243 (by first | assumption | exact Nat.le_of_ble_eq_true rfl) (by first | assumption | rfl) rfl (by first | assumption | rfl) ?_
      refine go_iload_n dX9_text_51 rfl ?_
      refine go_rows dX9_text_52 (by omega) (by omega) (fun hj52_0 hj52_1 hj52_2 hj52_3 hj52_4 => ?_)
      refine go_aload_n dX9_text_53 rfl ?_
      refine go_getR dX9_text_54 fl_X9_50 (by first | assumption | exact Nat.le_of_ble_eq_true rfl) (by first | assumption | rfl) rfl (by first | assumption | rfl) ?_
      refine go_getR dX9_text_57 fl_X9_247 (by first | assumption | exact Nat.le_of_ble_eq_true rfl) (by first | assumption | rfl) rfl (by first | assumption | rfl) ?_
      refine go_vV (ci := 0) dX9_text_60 (ct_X1_become (j := (4 + 2 * (μ 32 13).toNat)) (i := 59) (by unfold isLw; omega) (by unfold isLw; omega) (by omega) (by omega) (by omega)) ml_X9_251 mc_X1_become mv_X1_become rfl (by first | assumption | exact Nat.le_of_ble_eq_true rfl) (by first | assumption | rfl) rfl ⟨rfl, rfl⟩ ⟨Nat.le_refl _, Nat.le_refl _⟩ rfl rfl rfl (fun μ60 hc60 => ?_)
      refine go_aload_n dX9_text_63 rfl ?_
      refine go_getR dX9_text_64 fl_X9_21 (by first | assumption | exact Nat.le_of_ble_eq_true rfl) (by first | assumption | rfl) rfl (by first | assumption | rfl) ?_
      refine go_iload_n dX9_text_67 rfl ?_
      refine go_iconst dX9_text_68 rfl ?_
      refine go_iadd dX9_text_69 ⟨by omega, by omega⟩ ?_
      refine go_putI 13 dX9_text_70 pl_X9_240 (by first | assumption | exact Nat.le_of_ble_eq_true rfl) (by first | assumption | rfl) rfl rfl ?_
      refine go_iload_n dX9_text_73 rfl ?_
      refine go_ri dX9_text_74 tyI ⟨Nat.le_refl _, Nat.le_refl _⟩ (?_)
      obtain ⟨v0, v1, v2, v3⟩ := f2 h19
      obtain ⟨b0, b1, b2, b3, b4⟩ := hc60
      refine ⟨?_, fun h => absurd h19 h, fun _ => ⟨fun h => absurd h (by omega), fun _ => ⟨rfl, ?_, ?_, ?_, ?_, ?_, ?_⟩⟩⟩
      · rw [ud_n (by decide), b4 56 (by omega) (by omega), ud_s, uf_same]
      · rw [ud_s, b4 32 (by omega) (by omega), ud_n (by decide), e32]
      · rw [ud_n (by omega), b0, ud_n (by decide), v0]
      · rw [ud_n (by omega), b1, ud_n (by decide), v1]
      · rw [ud_n (by omega), b2, ud_n (by decide), v2]
      · intro k k0 k1
        rw [ud_n (by omega), b3 k k0 k1, ud_n (by decide), v3]
      · intro q q0 q1 q2 q3 q4 q5 q6
        rw [ud_n q0, b4 q q1 q2, ud_n q3]; exact f3 q q4 q5 q6
    ·
      refine go_ldc dX9_text_41 kc_X9_170 rfl ?_
      refine go_ri dX9_text_43 tyI ⟨Nat.le_refl _, Nat.le_refl _⟩ (?_)
      rw [ud_s, uf_same]
      exact ⟨rfl, fun h => absurd h19 h, fun _ => ⟨fun _ => ⟨rfl, fun q a b c d => by rw [ud_n a]; exact f3 q b c d⟩, fun h => absurd h (by omega)⟩⟩
  ·
    refine go_bipush dX9_text_22 rfl (by decide) ?_
    refine go_iload_n dX9_text_24 rfl ?_
    refine go_isub dX9_text_25 ⟨by omega, by omega⟩ ?_
    refine go_ri dX9_text_26 tyI ⟨Nat.le_refl _, Nat.le_refl _⟩ (?_)
    rw [ud_s, uf_same]
    exact ⟨rfl, fun _ => ⟨rfl, fun q a b c d => by rw [ud_n a]; exact f3 q b c d⟩, fun h => absurd h h19⟩

