/-! PURE: the reader's levels, by depth; level 6 is a piece -/
theorem skN_stop {B : Int → Int} : ∀ (n : Nat) (p : Int), skN B n p = p + (n : Nat) ∨ B (skN B n p) ≠ 32
  | 0, p => by left; unfold skN; omega
  | n + 1, p => by
    unfold skN
    by_cases e : B p = 32
    · rw [if_pos e]
      rcases skN_stop (B := B) n (p + 1) with h | h
      · left; omega
      · right; exact h
    · rw [if_neg e]; right; exact e
theorem skp_skp {B : Int → Int} {N p : Int} (h : p ≤ N) : skp B N (skp B N p) = skp B N p := by
  have hr := skp_r (B := B) h
  have hs := skN_stop (B := B) (N - p).toNat p
  have e : skN B (N - p).toNat p = skp B N p := rfl
  rw [e] at hs
  generalize skp B N p = q at *
  unfold skp
  rcases hs with h1 | h1
  · rw [show (N - q).toNat = 0 by omega]; rfl
  · by_cases e2 : q = N
    · rw [show (N - q).toNat = 0 by omega]; rfl
    · rw [show (N - q).toNat = (N - (q + 1)).toNat + 1 by omega]
      unfold skN
      rw [if_neg h1]
def lpS (B : Int → Int) (N lv : Int) (f : RS → RS) : Nat → RS → RS
  | 0, s => s
  | k + 1, s => if rFl s = -1000000005 then (if lvO (bA B N (skp B N (rAt s))) = lv then lpS B N lv f k (adC (f (sAt s (skp B N (rAt s) + 1))) (-(bA B N (skp B N (rAt s))))) else sAt s (skp B N (rAt s))) else s
def pcS (B : Int → Int) (N ke ky : Int) (f g : RS → RS) (p n : Int) (s : RS) : RS :=
  if rFl s = -1000000005 then
    (if bA B N (skp B N (rAt s)) = 40 ∧ p < 8 then clS B N (f (sAt s (skp B N (rAt s) + 1)))
     else if bA B N (skp B N (rAt s)) = 33 ∧ n < 8 then adC (g (sAt s (skp B N (rAt s) + 1))) (-33)
     else if qDg B N (skp B N (rAt s)) = true then nuS B N ke (sAt s (skp B N (rAt s)))
     else naS B N ky (bA B N (skp B N (rAt s))) (sAt s (skp B N (rAt s))))
  else s
def rdL (B : Int → Int) (N ke ky : Int) : Nat → Int → Int → Int → RS → RS
  | 0, _, _, _, s => s
  | d + 1, lv, p, n, s =>
    if lv = 6 then pcS B N ke ky (rdL B N ke ky d 0 (p + 1) n) (rdL B N ke ky d 6 p (n + 1)) p n s
    else if lv = 5 then rdL B N ke ky d 6 p n s
    else lpS B N lv (rdL B N ke ky d (lv + 1) p n) (if lv = 2 then 1 else 96) (rdL B N ke ky d (lv + 1) p n s)
def okR (N : Int) (s : RS) : Prop := 0 ≤ rAt s ∧ rAt s ≤ N ∧ 0 ≤ rLn s ∧ rLn s ≤ rAt s ∧ 0 ≤ rPc s ∧ rPc s ≤ rLn s
def gw (N : Int) (s s' : RS) : Prop := okR N s' ∧ rAt s ≤ rAt s' ∧ rLn s ≤ rLn s' ∧ rLn s' - rLn s ≤ rAt s' - rAt s
theorem gw_tr {N : Int} {a b c : RS} (h1 : gw N a b) (h2 : gw N b c) : gw N a c := by
  obtain ⟨p1, p2, p3, p4⟩ := h1
  obtain ⟨q1, q2, q3, q4⟩ := h2
  exact ⟨q1, by omega, by omega, by omega⟩
theorem gw_rf {N : Int} {a : RS} (h : okR N a) : gw N a a := ⟨h, by omega, by omega, by omega⟩
theorem gw_at {N : Int} {a : RS} {v : Int} (h : okR N a) (h0 : rAt a ≤ v) (h1 : v ≤ N) : gw N a (sAt a v) := by
  obtain ⟨p1, p2, p3, p4, p5, p6⟩ := h
  refine ⟨⟨?_, ?_, ?_, ?_, ?_, ?_⟩, ?_, ?_, ?_⟩ <;> simp only [rAt_sAt, rLn_sAt, rPc_sAt] <;> omega
theorem gw_fl {N : Int} {a : RS} {v : Int} (h : okR N a) : gw N a (sFl a v) := gw_rf h
theorem gw_ad {N : Int} {a b : RS} {v c : Int} (hv : v = rAt a + 1) (h : okR N a) (hvN : v ≤ N) (hb : gw N (sAt a v) b) : gw N a (adC b c) := by
  obtain ⟨⟨p1, p2, p3, p4, p5, p6⟩, q2, q3, q4⟩ := hb
  obtain ⟨r1, r2, r3, r4, r5, r6⟩ := h
  simp only [rAt_sAt, rLn_sAt, rPc_sAt] at q2 q3 q4
  refine ⟨⟨?_, ?_, ?_, ?_, ?_, ?_⟩, ?_, ?_, ?_⟩ <;> simp only [rAt_adC, rLn_adC, rPc_adC] <;> omega
theorem bA_lt {B : Int → Int} {N p : Int} (h : bA B N p ≠ -1000000005) : p < N := by
  by_cases e : p < N
  · exact e
  · exact absurd (by unfold bA; rw [if_neg e]) h
theorem gw_nu {B : Int → Int} {N ke : Int} {a : RS} (h : okR N a) (hq : qDg B N (rAt a) = true) : gw N a (nuS B N ke a) := by
  unfold nuS
  obtain ⟨r1, r2, r3, r4, r5, r6⟩ := id h
  have hd : 48 ≤ bA B N (rAt a) ∧ bA B N (rAt a) ≤ 57 := of_decide_eq_true hq
  have hl : rAt a < N := bA_lt (B := B) (by omega)
  have h1 := wEd_p hq hl
  have h2 := wEd_r (B := B) r2
  split
  · exact gw_fl h
  · refine ⟨⟨?_, ?_, ?_, ?_, ?_, ?_⟩, ?_, ?_, ?_⟩ <;> simp only [rAt_sAt, rLn_sAt, rPc_sAt, rAt_adP, rLn_adP, rPc_adP] <;> omega
theorem gw_na {B : Int → Int} {N ky c : Int} {a : RS} (h : okR N a) : gw N a (naS B N ky c a) := by
  obtain ⟨r1, r2, r3, r4, r5, r6⟩ := id h
  have h2 := wEd_r (B := B) r2
  cases nmO_d ky c with
  | isTrue y =>
    by_cases e : wEd B N (rAt a) = rAt a + 1
    · rw [naS_y y e]
      refine ⟨⟨?_, ?_, ?_, ?_, ?_, ?_⟩, ?_, ?_, ?_⟩ <;> simp only [rAt_sAt, rLn_sAt, rPc_sAt, rAt_adP, rLn_adP, rPc_adP] <;> omega
    · rw [naS_n (fun q => e q.2)]; exact gw_fl h
  | isFalse y => rw [naS_n (fun q => y q.1)]; exact gw_fl h
theorem gw_cl {B : Int → Int} {N : Int} {a : RS} (h : okR N a) : gw N a (clS B N a) := by
  have hs := skp_r (B := B) h.2.1
  unfold clS
  split
  · split
    · rename_i e
      have hl := bA_lt (B := B) (N := N) (p := skp B N (rAt a)) (by omega)
      exact gw_at h (by omega) (by omega)
    · exact gw_tr (gw_at h hs.1 hs.2) (gw_fl (gw_at h hs.1 hs.2).1)
  · exact gw_rf h
theorem lvO_lt {B : Int → Int} {N lv p : Int} (h0 : 0 ≤ lv) (h : lvO (bA B N p) = lv) : p < N := by
  refine bA_lt (B := B) (fun e => ?_)
  rw [e] at h
  have : lvO (-1000000005) = -1000000005 := by decide
  omega
theorem gw_s1 {N : Int} {a b : RS} {v c : Int} (h : okR N a) (h0 : rAt a ≤ v) (h1 : v < N) (hb : gw N (sAt a (v + 1)) b) : gw N a (adC b c) := by
  have h2 := gw_at h h0 (Int.le_of_lt h1)
  exact gw_tr h2 (gw_ad (v := v + 1) rfl h2.1 (by omega) hb)
theorem gw_lp {B : Int → Int} {N lv : Int} {f : RS → RS} (h0 : 0 ≤ lv) (hf : ∀ s, okR N s → gw N s (f s)) : ∀ (k : Nat) (s : RS), okR N s → gw N s (lpS B N lv f k s)
  | 0, s, h => gw_rf h
  | k + 1, s, h => by
    have hs := skp_r (B := B) h.2.1
    unfold lpS
    split
    · split
      · rename_i e
        have hl := lvO_lt h0 e
        have h1 := gw_s1 (c := -(bA B N (skp B N (rAt s)))) h hs.1 hl (hf _ (gw_at h (by omega) (by omega)).1)
        exact gw_tr h1 (gw_lp h0 hf k _ h1.1)
      · exact gw_at h hs.1 hs.2
    · exact gw_rf h
theorem gw_rd {B : Int → Int} {N ke ky : Int} : ∀ (d : Nat) (lv p n : Int) (s : RS), 0 ≤ lv → okR N s → gw N s (rdL B N ke ky d lv p n s)
  | 0, _, _, _, s, _, h => gw_rf h
  | d + 1, lv, p, n, s, h0, h => by
    have hs := skp_r (B := B) h.2.1
    unfold rdL
    split
    · unfold pcS
      split
      · split
        · rename_i e
          have hl := bA_lt (B := B) (N := N) (p := skp B N (rAt s)) (by omega)
          have h1 := gw_at h (v := skp B N (rAt s) + 1) (by omega) (by omega)
          have h2 := gw_tr h1 (gw_rd (B := B) (ke := ke) (ky := ky) d 0 (p + 1) n _ (by omega) h1.1)
          exact gw_tr h2 (gw_cl h2.1)
        · split
          · rename_i e
            have hl := bA_lt (B := B) (N := N) (p := skp B N (rAt s)) (by omega)
            exact gw_s1 h hs.1 hl (gw_rd d 6 p (n + 1) _ (by omega) (gw_at h (by omega) (by omega)).1)
          · have h1 := gw_at h hs.1 hs.2
            split
            · rename_i e
              exact gw_tr h1 (gw_nu h1.1 e)
            · exact gw_tr h1 (gw_na h1.1)
      · exact gw_rf h
    · split
      · exact gw_rd d 6 p n s (by omega) h
      · have h1 := gw_rd (B := B) (ke := ke) (ky := ky) d (lv + 1) p n s (by omega) h
        exact gw_tr h1 (gw_lp h0 (fun t ht => gw_rd d (lv + 1) p n t (by omega) ht) _ _ h1.1)
