/-! THE CLASS: the reader's state, closings, numbers, names -/
def RS : Type := Int × Int × Int × Int × (Int → Int)
def rAt (s : RS) : Int := s.1
def rFl (s : RS) : Int := s.2.1
def rLn (s : RS) : Int := s.2.2.1
def rPc (s : RS) : Int := s.2.2.2.1
def rCo (s : RS) : Int → Int := s.2.2.2.2
def sAt (s : RS) (v : Int) : RS := (v, s.2.1, s.2.2.1, s.2.2.2.1, s.2.2.2.2)
def sFl (s : RS) (v : Int) : RS := (s.1, v, s.2.2.1, s.2.2.2.1, s.2.2.2.2)
def sLn (s : RS) (v : Int) : RS := (s.1, s.2.1, v, s.2.2.2.1, s.2.2.2.2)
def sPc (s : RS) (v : Int) : RS := (s.1, s.2.1, s.2.2.1, v, s.2.2.2.2)
def sCo (s : RS) (v : Int → Int) : RS := (s.1, s.2.1, s.2.2.1, s.2.2.2.1, v)
theorem rAt_sAt {s : RS} {v : Int} : rAt (sAt s v) = v := rfl
theorem rAt_sFl {s : RS} {v : Int} : rAt (sFl s v) = rAt s := rfl
theorem rAt_sLn {s : RS} {v : Int} : rAt (sLn s v) = rAt s := rfl
theorem rAt_sPc {s : RS} {v : Int} : rAt (sPc s v) = rAt s := rfl
theorem rAt_sCo {s : RS} {v : Int → Int} : rAt (sCo s v) = rAt s := rfl
theorem rFl_sAt {s : RS} {v : Int} : rFl (sAt s v) = rFl s := rfl
theorem rFl_sFl {s : RS} {v : Int} : rFl (sFl s v) = v := rfl
theorem rFl_sLn {s : RS} {v : Int} : rFl (sLn s v) = rFl s := rfl
theorem rFl_sPc {s : RS} {v : Int} : rFl (sPc s v) = rFl s := rfl
theorem rFl_sCo {s : RS} {v : Int → Int} : rFl (sCo s v) = rFl s := rfl
theorem rLn_sAt {s : RS} {v : Int} : rLn (sAt s v) = rLn s := rfl
theorem rLn_sFl {s : RS} {v : Int} : rLn (sFl s v) = rLn s := rfl
theorem rLn_sLn {s : RS} {v : Int} : rLn (sLn s v) = v := rfl
theorem rLn_sPc {s : RS} {v : Int} : rLn (sPc s v) = rLn s := rfl
theorem rLn_sCo {s : RS} {v : Int → Int} : rLn (sCo s v) = rLn s := rfl
theorem rPc_sAt {s : RS} {v : Int} : rPc (sAt s v) = rPc s := rfl
theorem rPc_sFl {s : RS} {v : Int} : rPc (sFl s v) = rPc s := rfl
theorem rPc_sLn {s : RS} {v : Int} : rPc (sLn s v) = rPc s := rfl
theorem rPc_sPc {s : RS} {v : Int} : rPc (sPc s v) = v := rfl
theorem rPc_sCo {s : RS} {v : Int → Int} : rPc (sCo s v) = rPc s := rfl
theorem rCo_sAt {s : RS} {v : Int} : rCo (sAt s v) = rCo s := rfl
theorem rCo_sFl {s : RS} {v : Int} : rCo (sFl s v) = rCo s := rfl
theorem rCo_sLn {s : RS} {v : Int} : rCo (sLn s v) = rCo s := rfl
theorem rCo_sPc {s : RS} {v : Int} : rCo (sPc s v) = rCo s := rfl
theorem rCo_sCo {s : RS} {v : Int → Int} : rCo (sCo s v) = v := rfl
def mR (μ : Mem) (s : RS) : Mem := fun q => if q = 58 then uf (uf (μ 58) 2 (rAt s)) 3 (rFl s) else if q = 59 then uf (uf (μ 59) 1 (rPc s)) 2 (rLn s) else if q = 60 then rCo s else μ q
theorem mR_58 {μ : Mem} {s : RS} : mR μ s 58 = uf (uf (μ 58) 2 (rAt s)) 3 (rFl s) := rfl
theorem mR_59 {μ : Mem} {s : RS} : mR μ s 59 = uf (uf (μ 59) 1 (rPc s)) 2 (rLn s) := rfl
theorem mR_60 {μ : Mem} {s : RS} : mR μ s 60 = rCo s := rfl
theorem mR_56 {μ : Mem} {s : RS} : mR μ s 56 = μ 56 := rfl
theorem mR_57 {μ : Mem} {s : RS} : mR μ s 57 = μ 57 := rfl
theorem mR_n {μ : Mem} {s : RS} {q : Nat} (h0 : q ≠ 58) (h1 : q ≠ 59) (h2 : q ≠ 60) : mR μ s q = μ q := by unfold mR; rw [if_neg h0, if_neg h1, if_neg h2]
theorem mR_at {μ : Mem} {s : RS} : mR μ s 58 2 = rAt s := by rw [mR_58, uf_ne (by decide), uf_same]
theorem mR_fl {μ : Mem} {s : RS} : mR μ s 58 3 = rFl s := by rw [mR_58, uf_same]
theorem mR_ke {μ : Mem} {s : RS} : mR μ s 58 4 = μ 58 4 := by rw [mR_58, uf_ne (by decide), uf_ne (by decide)]
theorem mR_ky {μ : Mem} {s : RS} : mR μ s 59 0 = μ 59 0 := by rw [mR_59, uf_ne (by decide), uf_ne (by decide)]
theorem mR_pc {μ : Mem} {s : RS} : mR μ s 59 1 = rPc s := by rw [mR_59, uf_ne (by decide), uf_same]
theorem mR_ln {μ : Mem} {s : RS} : mR μ s 59 2 = rLn s := by rw [mR_59, uf_same]
theorem mR_ext {μ : Mem} {s : RS} {ν : Mem} (h8 : ν 58 = mR μ s 58) (h9 : ν 59 = mR μ s 59) (h6 : ν 60 = mR μ s 60) (h : ∀ q, q ≠ 58 → q ≠ 59 → q ≠ 60 → ν q = μ q) : ν = mR μ s := by
  funext q
  by_cases e1 : q = 58
  · rw [e1]; exact h8
  · by_cases e2 : q = 59
    · rw [e2]; exact h9
    · by_cases e3 : q = 60
      · rw [e3]; exact h6
      · rw [mR_n e1 e2 e3]; exact h q e1 e2 e3
theorem uf_uf {f : Int → Int} {i v w : Int} : uf (uf f i v) i w = uf f i w := by
  funext j
  by_cases e : j = i
  · rw [e, uf_same, uf_same]
  · rw [uf_ne e, uf_ne e, uf_ne e]
theorem uf_cm {f : Int → Int} {i k v w : Int} (h : i ≠ k) : uf (uf f i v) k w = uf (uf f k w) i v := by
  funext j
  by_cases e : j = i
  · rw [e, uf_ne h, uf_same, uf_same]
  · by_cases e2 : j = k
    · rw [e2, uf_same, uf_ne (Ne.symm h), uf_same]
    · rw [uf_ne e2, uf_ne e, uf_ne e, uf_ne e2]
theorem mR_sat {μ : Mem} {s : RS} {v : Int} : ud (mR μ s) 58 2 v = mR μ (sAt s v) := by
  refine mR_ext ?_ ?_ ?_ (fun q h1 h2 h3 => by rw [ud_n h1, mR_n h1 h2 h3])
  · rw [ud_s, mR_58, mR_58, uf_cm (by decide), uf_uf]; rfl
  · rw [ud_n (by decide), mR_59, mR_59]; rfl
  · rw [ud_n (by decide), mR_60, mR_60]; rfl
theorem mR_sfl {μ : Mem} {s : RS} {v : Int} : ud (mR μ s) 58 3 v = mR μ (sFl s v) := by
  refine mR_ext ?_ ?_ ?_ (fun q h1 h2 h3 => by rw [ud_n h1, mR_n h1 h2 h3])
  · rw [ud_s, mR_58, mR_58, uf_uf]; rfl
  · rw [ud_n (by decide), mR_59, mR_59]; rfl
  · rw [ud_n (by decide), mR_60, mR_60]; rfl
theorem mR_spc {μ : Mem} {s : RS} {v : Int} : ud (mR μ s) 59 1 v = mR μ (sPc s v) := by
  refine mR_ext ?_ ?_ ?_ (fun q h1 h2 h3 => by rw [ud_n h2, mR_n h1 h2 h3])
  · rw [ud_n (by decide), mR_58, mR_58]; rfl
  · rw [ud_s, mR_59, mR_59, uf_cm (by decide), uf_uf]; rfl
  · rw [ud_n (by decide), mR_60, mR_60]; rfl
theorem mR_sln {μ : Mem} {s : RS} {v : Int} : ud (mR μ s) 59 2 v = mR μ (sLn s v) := by
  refine mR_ext ?_ ?_ ?_ (fun q h1 h2 h3 => by rw [ud_n h2, mR_n h1 h2 h3])
  · rw [ud_n (by decide), mR_58, mR_58]; rfl
  · rw [ud_s, mR_59, mR_59, uf_uf]; rfl
  · rw [ud_n (by decide), mR_60, mR_60]; rfl
theorem mR_sco {μ : Mem} {s : RS} {i v : Int} : ud (mR μ s) 60 i v = mR μ (sCo s (uf (rCo s) i v)) := by
  refine mR_ext ?_ ?_ ?_ (fun q h1 h2 h3 => by rw [ud_n h3, mR_n h1 h2 h3])
  · rw [ud_n (by decide), mR_58, mR_58]; rfl
  · rw [ud_n (by decide), mR_59, mR_59]; rfl
  · rw [ud_s, mR_60, mR_60]; rfl
/-- a code is added -/
def adC (s : RS) (c : Int) : RS := sLn (sCo s (uf (rCo s) (rLn s) c)) (rLn s + 1)
def adP (s : RS) (c : Int) : RS := sPc (adC s c) (rPc s + 1)
theorem rAt_adC {s : RS} {c : Int} : rAt (adC s c) = rAt s := rfl
theorem rFl_adC {s : RS} {c : Int} : rFl (adC s c) = rFl s := rfl
theorem rLn_adC {s : RS} {c : Int} : rLn (adC s c) = rLn s + 1 := rfl
theorem rPc_adC {s : RS} {c : Int} : rPc (adC s c) = rPc s := rfl
theorem rAt_adP {s : RS} {c : Int} : rAt (adP s c) = rAt s := rfl
theorem rFl_adP {s : RS} {c : Int} : rFl (adP s c) = rFl s := rfl
theorem rLn_adP {s : RS} {c : Int} : rLn (adP s c) = rLn s + 1 := rfl
theorem rPc_adP {s : RS} {c : Int} : rPc (adP s c) = rPc s + 1 := rfl
/-- a closing is read -/
def clS (B : Int → Int) (N : Int) (s : RS) : RS := if rFl s = -1000000005 then (if bA B N (skp B N (rAt s)) = 41 then sAt s (skp B N (rAt s) + 1) else sFl (sAt s (skp B N (rAt s))) (skp B N (rAt s))) else s
def nuV (B : Int → Int) (p : Int) : Nat → Int
  | 0 => 0
  | k + 1 => nuV B p k * 10 + B (p + (k : Nat)) - 48
theorem nuV_s {B : Int → Int} {p : Int} {k : Nat} : nuV B p (k + 1) = nuV B p k * 10 + B (p + (k : Nat)) - 48 := rfl
theorem nuV_b {B : Int → Int} {p : Int} : ∀ k : Nat, (∀ i : Int, p ≤ i → i < p + (k : Nat) → 48 ≤ B i ∧ B i ≤ 57) → 0 ≤ nuV B p k ∧ nuV B p k < 10 ^ k
  | 0, _ => by unfold nuV; decide
  | k + 1, h => by
    have h1 := nuV_b (B := B) (p := p) k (fun i a b => h i a (by omega))
    have h2 := h (p + (k : Nat)) (by omega) (by omega)
    have h3 : (10 : Int) ^ (k + 1) = 10 ^ k * 10 := Int.pow_succ 10 k
    unfold nuV
    rw [h3]
    omega
def nuS (B : Int → Int) (N ke : Int) (s : RS) : RS := if rAt s = ke ∨ 4 < wEd B N (rAt s) - rAt s then (sFl s (rAt s)) else sAt (adP s (nuV B (rAt s) (wEd B N (rAt s) - rAt s).toNat)) (wEd B N (rAt s))
def naS (B : Int → Int) (N ky : Int) (c : Int) (s : RS) : RS := @ite _ (nmO ky c ∧ wEd B N (rAt s) = rAt s + 1) (@instDecidableAnd _ _ (nmO_d _ _) inferInstance)  (sAt (adP s (-c)) (rAt s + 1)) (sFl s (rAt s))

theorem cr_nextByte {l : Launch} {D : va_G} {cA : Nat → ClassId} {μ : Mem} {s : RS} (hN0 : 0 ≤ μ 56 1) (hN1 : μ 56 1 ≤ 96) (ha0 : 0 ≤ rAt s) (ha1 : rAt s ≤ μ 56 1) : CtN l D cA yX4_nextByte cX4_nextByte 1 (some .int) 1 [vr 58] (mR μ s) (Pi (fun x μ' => x = bA (μ 57) (μ 56 1) (skp (μ 57) (μ 56 1) (rAt s)) ∧ μ' = mR μ (sAt s (skp (μ 57) (μ 56 1) (rAt s))))) := by
  have h := ct_X4_nextByte (l := l) (D := D) (cA := cA) (μ := mR μ s) hN0 hN1 (by rw [mR_at]; exact ha0) (by rw [mR_at]; exact ha1)
  rw [mR_at, mR_56, mR_57, mR_sat] at h
  exact h
theorem cr_byteAt {l : Launch} {D : va_G} {cA : Nat → ClassId} {μ : Mem} {s : RS} (hN0 : 0 ≤ μ 56 1) (hN1 : μ 56 1 ≤ 96) (p : Int) (hp : 0 ≤ p) : CtN l D cA yX7_byteAt cX7_byteAt 2 (some .int) 0 [vr 56, vi p] (mR μ s) (Pi (fun x μ' => x = bA (μ 57) (μ 56 1) p ∧ μ' = mR μ s)) := by
  have h := ct_X7_byteAt (l := l) (D := D) (cA := cA) (μ := mR μ s) hN0 hN1 p hp
  rw [mR_56, mR_57] at h
  exact h
theorem cr_isDigitAt {l : Launch} {D : va_G} {cA : Nat → ClassId} {μ : Mem} {s : RS} (hN0 : 0 ≤ μ 56 1) (hN1 : μ 56 1 ≤ 96) (p : Int) (hp : 0 ≤ p) : CtN l D cA yX7_isDigitAt cX7_isDigitAt 3 (some .boolean) 1 [vr 56, vi p] (mR μ s) (Pi (fun x μ' => x = tv (48 ≤ bA (μ 57) (μ 56 1) p ∧ bA (μ 57) (μ 56 1) p ≤ 57) inferInstance ∧ μ' = mR μ s)) := by
  have h := ct_X7_isDigitAt (l := l) (D := D) (cA := cA) (μ := mR μ s) hN0 hN1 p hp
  rw [mR_56, mR_57] at h
  exact h
theorem cr_wordEnd {l : Launch} {D : va_G} {cA : Nat → ClassId} {μ : Mem} {s : RS} (hN0 : 0 ≤ μ 56 1) (hN1 : μ 56 1 ≤ 96) (p : Int) (hp : 0 ≤ p) (hp1 : p ≤ μ 56 1) : CtN l D cA yX7_wordEnd cX7_wordEnd 4 (some .int) 2 [vr 56, vi p] (mR μ s) (Pi (fun x μ' => x = wEd (μ 57) (μ 56 1) p ∧ μ' = mR μ s)) := by
  have h := ct_X7_wordEnd (l := l) (D := D) (cA := cA) (μ := mR μ s) hN0 hN1 p hp hp1
  rw [mR_56, mR_57] at h
  exact h
theorem cr_isName {l : Launch} {D : va_G} {cA : Nat → ClassId} {μ : Mem} {s : RS} (c : Int) : CtN l D cA yX4_isName cX4_isName 2 (some .boolean) 0 [vr 58, vi c] (mR μ s) (Pi (fun x μ' => x = tv (nmO (μ 59 0) c) (nmO_d _ _) ∧ μ' = mR μ s)) := by
  have h := ct_X4_isName (l := l) (D := D) (cA := cA) (μ := mR μ s) c
  rw [mR_ky] at h
  exact h
theorem cr_add {l : Launch} {D : va_G} {cA : Nat → ClassId} {μ : Mem} {s : RS} (c : Int) (h0 : 0 ≤ rLn s) (h1 : rLn s < 96) : CtN l D cA yX1_add cX1_add 2 none 1 [vr 59, vi c] (mR μ s) (Pv (fun μ' => μ' = mR μ (adC s c))) := by
  have h := ct_X1_add (l := l) (D := D) (cA := cA) (μ := mR μ s) (j := 59) (show isLw 59 from by unfold isLw; omega) c (by rw [mR_ln]; exact h0) (by rw [mR_ln]; omega)
  rw [mR_ln, if_pos h1, show (59 + 1 : Nat) = 60 from rfl, mR_sco, mR_sln] at h
  exact h
theorem cr_addPiece {l : Launch} {D : va_G} {cA : Nat → ClassId} {μ : Mem} {s : RS} (c : Int) (h0 : 0 ≤ rLn s) (h1 : rLn s < 96) (h2 : 0 ≤ rPc s) (h3 : rPc s ≤ 1000) : CtN l D cA yX1_addPiece cX1_addPiece 2 none 2 [vr 59, vi c] (mR μ s) (Pv (fun μ' => μ' = mR μ (adP s c))) := by
  have h := ct_X1_addPiece (l := l) (D := D) (cA := cA) (μ := mR μ s) (j := 59) (show isLw 59 from by unfold isLw; omega) c (by rw [mR_ln]; exact h0) (by rw [mR_ln]; exact h1) (by rw [mR_pc]; exact h2) (by rw [mR_pc]; exact h3)
  rw [mR_ln, mR_pc, show (59 + 1 : Nat) = 60 from rfl, mR_sco, mR_sln, mR_spc] at h
  exact h
set_option maxRecDepth 100000 in
set_option maxHeartbeats 4000000 in
theorem ct_X4_readClosing {l : Launch} {D : va_G} {cA : Nat → ClassId} {μ : Mem} {s : RS} (hN0 : 0 ≤ μ 56 1) (hN1 : μ 56 1 ≤ 96) (ha0 : 0 ≤ rAt s) (ha1 : rAt s ≤ μ 56 1) : CtN l D cA yX4_readClosing cX4_readClosing 1 none 2 [vr 58] (mR μ s) (Pv (fun μ' => μ' = mR μ (clS (μ 57) (μ 56 1) s))) := by
  refine Ct.of (own := RX4) (by decide +kernel) rfl (fun σ => Nat.le_of_ble_eq_true rfl) (fun hM hP ha => ?_)
  have w58_0 : ρ0 58 (0 : Nat) = some 56 := by decide +kernel
  have w58_1 : ρ0 58 (1 : Nat) = some 59 := by decide +kernel
  have w56_0 : ρ0 56 (0 : Nat) = some 57 := by decide +kernel
  refine go_aload_n dX4_readClosing_0 rfl ?_
  refine go_getI 3 dX4_readClosing_1 fl_X4_30 (by first | assumption | exact Nat.le_of_ble_eq_true rfl) (by first | assumption | rfl) rfl rfl ?_
  try simp (disch := omega) only [ud, ua_same, ua_ne, uf_same, uf_ne, mR_at, mR_fl, mR_ke, mR_ky, mR_pc, mR_ln, mR_56, mR_57, mR_60, rAt_adC, rFl_adC, rLn_adC, rPc_adC, rAt_adP, rFl_adP, rLn_adP, rPc_adP, rAt_sAt, rAt_sFl, rAt_sLn, rAt_sPc, rAt_sCo, rFl_sAt, rFl_sFl, rFl_sLn, rFl_sPc, rFl_sCo, rLn_sAt, rLn_sFl, rLn_sLn, rLn_sPc, rLn_sCo, rPc_sAt, rPc_sFl, rPc_sLn, rPc_sPc, rPc_sCo, rCo_sAt, rCo_sFl, rCo_sLn, rCo_sPc, rCo_sCo]
  refine go_ldc dX4_readClosing_4 kc_X4_29 rfl ?_
  refine go_icmp_eq (tgt := 10) dX4_readClosing_6 rfl (fun h6 => ?_) (fun h6 => ?_)
  ·
    refine go_aload_n dX4_readClosing_10 rfl ?_
    refine go_vI (ci := 3) dX4_readClosing_11 (cr_nextByte hN0 hN1 ha0 ha1) ml_X4_40 mc_X4_nextByte mv_X4_nextByte rfl (by first | assumption | exact Nat.le_of_ble_eq_true rfl) (by first | assumption | rfl) rfl ⟨rfl, rfl⟩ ⟨Nat.le_refl _, Nat.le_refl _⟩ rfl rfl rfl (fun x11 μ11 hc11 => ?_)
    obtain ⟨rfl, rfl⟩ := hc11
    have hsk := skp_r (B := μ 57) ha1
    refine go_bipush dX4_readClosing_14 rfl (by decide) ?_
    refine go_icmp_ne (tgt := 32) dX4_readClosing_16 rfl (fun h16 => ?_) (fun h16 => ?_)
    ·
      refine go_aload_n dX4_readClosing_32 rfl ?_
      refine go_aload_n dX4_readClosing_33 rfl ?_
      refine go_getI 2 dX4_readClosing_34 fl_X4_25 (by first | assumption | exact Nat.le_of_ble_eq_true rfl) (by first | assumption | rfl) rfl rfl ?_
      try simp (disch := omega) only [ud, ua_same, ua_ne, uf_same, uf_ne, mR_at, mR_fl, mR_ke, mR_ky, mR_pc, mR_ln, mR_56, mR_57, mR_60, rAt_adC, rFl_adC, rLn_adC, rPc_adC, rAt_adP, rFl_adP, rLn_adP, rPc_adP, rAt_sAt, rAt_sFl, rAt_sLn, rAt_sPc, rAt_sCo, rFl_sAt, rFl_sFl, rFl_sLn, rFl_sPc, rFl_sCo, rLn_sAt, rLn_sFl, rLn_sLn, rLn_sPc, rLn_sCo, rPc_sAt, rPc_sFl, rPc_sLn, rPc_sPc, rPc_sCo, rCo_sAt, rCo_sFl, rCo_sLn, rCo_sPc, rCo_sCo]
      refine go_putI 3 dX4_readClosing_37 pl_X4_30 (by first | assumption | exact Nat.le_of_ble_eq_true rfl) (by first | assumption | rfl) rfl rfl ?_
      rw [mR_sfl]
      exact go_rv dX4_readClosing_40 rfl ⟨Nat.le_refl _, Nat.le_refl _⟩ (by unfold clS; rw [if_pos h6, if_neg h16]; try rfl)
    ·
      refine go_aload_n dX4_readClosing_19 rfl ?_
      refine go_dup dX4_readClosing_20 rfl ?_
      refine go_getI 2 dX4_readClosing_21 fl_X4_25 (by first | assumption | exact Nat.le_of_ble_eq_true rfl) (by first | assumption | rfl) rfl rfl ?_
      try simp (disch := omega) only [ud, ua_same, ua_ne, uf_same, uf_ne, mR_at, mR_fl, mR_ke, mR_ky, mR_pc, mR_ln, mR_56, mR_57, mR_60, rAt_adC, rFl_adC, rLn_adC, rPc_adC, rAt_adP, rFl_adP, rLn_adP, rPc_adP, rAt_sAt, rAt_sFl, rAt_sLn, rAt_sPc, rAt_sCo, rFl_sAt, rFl_sFl, rFl_sLn, rFl_sPc, rFl_sCo, rLn_sAt, rLn_sFl, rLn_sLn, rLn_sPc, rLn_sCo, rPc_sAt, rPc_sFl, rPc_sLn, rPc_sPc, rPc_sCo, rCo_sAt, rCo_sFl, rCo_sLn, rCo_sPc, rCo_sCo]
      refine go_iconst dX4_readClosing_24 rfl ?_
      refine go_iadd dX4_readClosing_25 ⟨by omega, by omega⟩ ?_
      refine go_putI 2 dX4_readClosing_26 pl_X4_25 (by first | assumption | exact Nat.le_of_ble_eq_true rfl) (by first | assumption | rfl) rfl rfl ?_
      rw [mR_sat]
      refine go_goto (tgt := 40) dX4_readClosing_29 rfl ?_
      exact go_rv dX4_readClosing_40 rfl ⟨Nat.le_refl _, Nat.le_refl _⟩ (by unfold clS; rw [if_pos h6, if_pos (by omega)]; try rfl)
  ·
    exact go_rv dX4_readClosing_9 rfl ⟨Nat.le_refl _, Nat.le_refl _⟩ (by unfold clS; rw [if_neg h6])

theorem wEd_dg {B : Int → Int} {N p : Int} (h : qDg B N p = true) (hp : p ≤ N) : ∀ i : Int, p ≤ i → i < wEd B N p → i < N ∧ bA B N i = B i ∧ 48 ≤ B i ∧ B i ≤ 57 := by
  intro i h0 h1
  have hr := wEd_r (B := B) hp
  unfold wEd at h1
  rw [if_pos h] at h1
  have h2 := wE1_in _ _ _ h0 h1
  have h3 : 48 ≤ bA B N i ∧ bA B N i ≤ 57 := of_decide_eq_true h2
  have h4 : i < N := by
    unfold wEd at hr
    rw [if_pos h] at hr
    omega
  have h5 : bA B N i = B i := by unfold bA; rw [if_pos h4]
  rw [h5] at h3
  exact ⟨h4, h5, h3⟩
theorem wEd_p {B : Int → Int} {N p : Int} (h : qDg B N p = true) (hp : p < N) : p < wEd B N p := by
  unfold wEd
  rw [if_pos h, show (N - p).toNat = (N - (p + 1)).toNat + 1 by omega]
  unfold wE1
  rw [if_pos h]
  have := wE1_r (q := qDg B N) (N - (p + 1)).toNat (p + 1)
  omega

set_option maxRecDepth 100000 in
set_option maxHeartbeats 4000000 in
theorem ct_X4_readNumber {l : Launch} {D : va_G} {cA : Nat → ClassId} {μ : Mem} {s : RS} (hN0 : 0 ≤ μ 56 1) (hN1 : μ 56 1 ≤ 96) (ha0 : 0 ≤ rAt s) (ha1 : rAt s ≤ μ 56 1) (hq : qDg (μ 57) (μ 56 1) (rAt s) = true) (ha2 : rAt s < μ 56 1) (hl0 : 0 ≤ rLn s) (hl1 : rLn s ≤ rAt s) (hp0 : 0 ≤ rPc s) (hp1 : rPc s ≤ rLn s) : CtN l D cA yX4_readNumber cX4_readNumber 4 none 3 [vr 58] (mR μ s) (Pv (fun μ' => μ' = mR μ (nuS (μ 57) (μ 56 1) (μ 58 4) s))) := by
  refine Ct.of (own := RX4) (by decide +kernel) rfl (fun σ => Nat.le_of_ble_eq_true rfl) (fun hM hP ha => ?_)
  have w58_0 : ρ0 58 (0 : Nat) = some 56 := by decide +kernel
  have w58_1 : ρ0 58 (1 : Nat) = some 59 := by decide +kernel
  have w56_0 : ρ0 56 (0 : Nat) = some 57 := by decide +kernel
  have hwr := wEd_r (B := μ 57) ha1
  have hwp := wEd_p hq ha2
  have hdg := wEd_dg hq ha1
  have loop : ∀ (m : Nat) (i : Int) (v : Int), (wEd (μ 57) (μ 56 1) (rAt s)) - i = (m : Nat) → 0 ≤ i → (¬ (rAt s = μ 58 4 ∨ 4 < wEd (μ 57) (μ 56 1) (rAt s) - rAt s)) → (rAt s ≤ i) → (v = nuV (μ 57) (rAt s) (i - rAt s).toNat) → Go l D cA none RX4 cX4_readNumber 4 none (3, 0, 0) (QN (Pv (fun μ' => μ' = mR μ (nuS (μ 57) (μ 56 1) (μ 58 4) s)))) 113 ρ0 0 0 49 [(0, vr 58), (1, vi (wEd (μ 57) (μ 56 1) (rAt s))), (2, vi v), (3, vi i)] [] (mR μ s) := by
    intro m
    induction m with
    | zero =>
      intro i v hm hv hno hi hx
      refine go_iload_n dX4_readNumber_49 rfl ?_
      refine go_iload_n dX4_readNumber_50 rfl ?_
      refine go_icmp_ge (tgt := 77) dX4_readNumber_51 rfl (fun h51 => ?_) (fun h51 => ?_)
      ·
        refine go_aload_n dX4_readNumber_77 rfl ?_
        refine go_getR dX4_readNumber_78 fl_X4_12 (by first | assumption | exact Nat.le_of_ble_eq_true rfl) (by first | assumption | rfl) rfl (by first | assumption | rfl) ?_
        refine go_iload_n dX4_readNumber_81 rfl ?_
        refine go_vV (ci := 0) dX4_readNumber_82 (cr_addPiece _ hl0 (by omega) hp0 (by omega)) ml_X4_108 mc_X1_addPiece mv_X1_addPiece rfl (by first | assumption | exact Nat.le_of_ble_eq_true rfl) (by first | assumption | rfl) rfl ⟨rfl, rfl⟩ ⟨Nat.le_refl _, Nat.le_refl _⟩ rfl rfl rfl (fun μ82 hc82 => ?_)
        subst hc82
        refine go_aload_n dX4_readNumber_85 rfl ?_
        refine go_iload_n dX4_readNumber_86 rfl ?_
        refine go_putI 2 dX4_readNumber_87 pl_X4_25 (by first | assumption | exact Nat.le_of_ble_eq_true rfl) (by first | assumption | rfl) rfl rfl ?_
        rw [mR_sat]
        exact go_rv dX4_readNumber_90 rfl ⟨Nat.le_refl _, Nat.le_refl _⟩ (by unfold nuS; rw [if_neg hno, hx, show (i - rAt s).toNat = (wEd (μ 57) (μ 56 1) (rAt s) - rAt s).toNat by omega])
      ·
        exact absurd h51 (by omega)
    | succ m ih =>
      intro i v hm hv hno hi hx
      refine go_iload_n dX4_readNumber_49 rfl ?_
      refine go_iload_n dX4_readNumber_50 rfl ?_
      refine go_icmp_ge (tgt := 77) dX4_readNumber_51 rfl (fun h51 => ?_) (fun h51 => ?_)
      ·
        exact absurd h51 (by omega)
      ·
        have hd := hdg i hi (by omega)
        have hnb := nuV_b (B := μ 57) (p := rAt s) (i - rAt s).toNat (fun j a b => (hdg j a (by omega)).2.2)
        have hp10 : (10 : Int) ^ (i - rAt s).toNat ≤ 1000 := by
          rcases (by omega : (i - rAt s).toNat = 0 ∨ (i - rAt s).toNat = 1 ∨ (i - rAt s).toNat = 2 ∨ (i - rAt s).toNat = 3) with e | e | e | e <;> rw [e] <;> decide
        refine go_iload_n dX4_readNumber_54 rfl ?_
        refine go_bipush dX4_readNumber_55 rfl (by decide) ?_
        refine go_imul dX4_readNumber_57 ⟨by omega, by omega⟩ ?_
        refine go_aload_n dX4_readNumber_58 rfl ?_
        refine go_getR dX4_readNumber_59 fl_X4_18 (by first | assumption | exact Nat.le_of_ble_eq_true rfl) (by first | assumption | rfl) rfl (by first | assumption | rfl) ?_
        refine go_iload_n dX4_readNumber_62 rfl ?_
        refine go_vI (ci := 6) dX4_readNumber_63 (cr_byteAt hN0 hN1 _ (by omega)) ml_X4_53 mc_X7_byteAt mv_X7_byteAt rfl (by first | assumption | exact Nat.le_of_ble_eq_true rfl) (by first | assumption | rfl) rfl ⟨rfl, rfl⟩ ⟨Nat.le_refl _, Nat.le_refl _⟩ rfl rfl rfl (fun x63 μ63 hc63 => ?_)
        obtain ⟨rfl, hm63⟩ := hc63
        rw [hm63, hd.2.1]
        refine go_iadd dX4_readNumber_66 ⟨by omega, by omega⟩ ?_
        refine go_bipush dX4_readNumber_67 rfl (by decide) ?_
        refine go_isub dX4_readNumber_69 ⟨by omega, by omega⟩ ?_
        refine go_istore_n dX4_readNumber_70 rfl ?_
        refine go_iinc dX4_readNumber_71 rfl rfl ⟨by omega, by omega⟩ ?_
        refine go_goto (tgt := 49) dX4_readNumber_74 rfl ?_
        exact go_drop (ih _ _ (by omega) (by omega) hno (by omega) (by rw [show (i + 1 - rAt s).toNat = (i - rAt s).toNat + 1 by omega, hx, nuV_s, show rAt s + (((i - rAt s).toNat : Nat) : Int) = i by omega])) rfl
  refine go_aload_n dX4_readNumber_0 rfl ?_
  refine go_getR dX4_readNumber_1 fl_X4_18 (by first | assumption | exact Nat.le_of_ble_eq_true rfl) (by first | assumption | rfl) rfl (by first | assumption | rfl) ?_
  refine go_aload_n dX4_readNumber_4 rfl ?_
  refine go_getI 2 dX4_readNumber_5 fl_X4_25 (by first | assumption | exact Nat.le_of_ble_eq_true rfl) (by first | assumption | rfl) rfl rfl ?_
  try simp (disch := omega) only [ud, ua_same, ua_ne, uf_same, uf_ne, mR_at, mR_fl, mR_ke, mR_ky, mR_pc, mR_ln, mR_56, mR_57, mR_60, rAt_adC, rFl_adC, rLn_adC, rPc_adC, rAt_adP, rFl_adP, rLn_adP, rPc_adP, rAt_sAt, rAt_sFl, rAt_sLn, rAt_sPc, rAt_sCo, rFl_sAt, rFl_sFl, rFl_sLn, rFl_sPc, rFl_sCo, rLn_sAt, rLn_sFl, rLn_sLn, rLn_sPc, rLn_sCo, rPc_sAt, rPc_sFl, rPc_sLn, rPc_sPc, rPc_sCo, rCo_sAt, rCo_sFl, rCo_sLn, rCo_sPc, rCo_sCo]
  refine go_vI (ci := 6) dX4_readNumber_8 (cr_wordEnd hN0 hN1 _ ha0 ha1) ml_X4_57 mc_X7_wordEnd mv_X7_wordEnd rfl (by first | assumption | exact Nat.le_of_ble_eq_true rfl) (by first | assumption | rfl) rfl ⟨rfl, rfl⟩ ⟨Nat.le_refl _, Nat.le_refl _⟩ rfl rfl rfl (fun x8 μ8 hc8 => ?_)
  obtain ⟨rfl, hm8⟩ := hc8
  rw [hm8]
  refine go_istore_n dX4_readNumber_11 rfl ?_
  refine go_aload_n dX4_readNumber_12 rfl ?_
  refine go_getI 2 dX4_readNumber_13 fl_X4_25 (by first | assumption | exact Nat.le_of_ble_eq_true rfl) (by first | assumption | rfl) rfl rfl ?_
  try simp (disch := omega) only [ud, ua_same, ua_ne, uf_same, uf_ne, mR_at, mR_fl, mR_ke, mR_ky, mR_pc, mR_ln, mR_56, mR_57, mR_60, rAt_adC, rFl_adC, rLn_adC, rPc_adC, rAt_adP, rFl_adP, rLn_adP, rPc_adP, rAt_sAt, rAt_sFl, rAt_sLn, rAt_sPc, rAt_sCo, rFl_sAt, rFl_sFl, rFl_sLn, rFl_sPc, rFl_sCo, rLn_sAt, rLn_sFl, rLn_sLn, rLn_sPc, rLn_sCo, rPc_sAt, rPc_sFl, rPc_sLn, rPc_sPc, rPc_sCo, rCo_sAt, rCo_sFl, rCo_sLn, rCo_sPc, rCo_sCo]
  refine go_aload_n dX4_readNumber_16 rfl ?_
  refine go_getI 4 dX4_readNumber_17 fl_X4_60 (by first | assumption | exact Nat.le_of_ble_eq_true rfl) (by first | assumption | rfl) rfl rfl ?_
  try simp (disch := omega) only [ud, ua_same, ua_ne, uf_same, uf_ne, mR_at, mR_fl, mR_ke, mR_ky, mR_pc, mR_ln, mR_56, mR_57, mR_60, rAt_adC, rFl_adC, rLn_adC, rPc_adC, rAt_adP, rFl_adP, rLn_adP, rPc_adP, rAt_sAt, rAt_sFl, rAt_sLn, rAt_sPc, rAt_sCo, rFl_sAt, rFl_sFl, rFl_sLn, rFl_sPc, rFl_sCo, rLn_sAt, rLn_sFl, rLn_sLn, rLn_sPc, rLn_sCo, rPc_sAt, rPc_sFl, rPc_sLn, rPc_sPc, rPc_sCo, rCo_sAt, rCo_sFl, rCo_sLn, rCo_sPc, rCo_sCo]
  refine go_icmp_eq (tgt := 33) dX4_readNumber_20 rfl (fun h20 => ?_) (fun h20 => ?_)
  ·
    refine go_aload_n dX4_readNumber_33 rfl ?_
    refine go_aload_n dX4_readNumber_34 rfl ?_
    refine go_getI 2 dX4_readNumber_35 fl_X4_25 (by first | assumption | exact Nat.le_of_ble_eq_true rfl) (by first | assumption | rfl) rfl rfl ?_
    try simp (disch := omega) only [ud, ua_same, ua_ne, uf_same, uf_ne, mR_at, mR_fl, mR_ke, mR_ky, mR_pc, mR_ln, mR_56, mR_57, mR_60, rAt_adC, rFl_adC, rLn_adC, rPc_adC, rAt_adP, rFl_adP, rLn_adP, rPc_adP, rAt_sAt, rAt_sFl, rAt_sLn, rAt_sPc, rAt_sCo, rFl_sAt, rFl_sFl, rFl_sLn, rFl_sPc, rFl_sCo, rLn_sAt, rLn_sFl, rLn_sLn, rLn_sPc, rLn_sCo, rPc_sAt, rPc_sFl, rPc_sLn, rPc_sPc, rPc_sCo, rCo_sAt, rCo_sFl, rCo_sLn, rCo_sPc, rCo_sCo]
    refine go_putI 3 dX4_readNumber_38 pl_X4_30 (by first | assumption | exact Nat.le_of_ble_eq_true rfl) (by first | assumption | rfl) rfl rfl ?_
    rw [mR_sfl]
    exact go_rv dX4_readNumber_41 rfl ⟨Nat.le_refl _, Nat.le_refl _⟩ (by unfold nuS; rw [if_pos (by omega)])
  ·
    refine go_iload_n dX4_readNumber_23 rfl ?_
    refine go_aload_n dX4_readNumber_24 rfl ?_
    refine go_getI 2 dX4_readNumber_25 fl_X4_25 (by first | assumption | exact Nat.le_of_ble_eq_true rfl) (by first | assumption | rfl) rfl rfl ?_
    try simp (disch := omega) only [ud, ua_same, ua_ne, uf_same, uf_ne, mR_at, mR_fl, mR_ke, mR_ky, mR_pc, mR_ln, mR_56, mR_57, mR_60, rAt_adC, rFl_adC, rLn_adC, rPc_adC, rAt_adP, rFl_adP, rLn_adP, rPc_adP, rAt_sAt, rAt_sFl, rAt_sLn, rAt_sPc, rAt_sCo, rFl_sAt, rFl_sFl, rFl_sLn, rFl_sPc, rFl_sCo, rLn_sAt, rLn_sFl, rLn_sLn, rLn_sPc, rLn_sCo, rPc_sAt, rPc_sFl, rPc_sLn, rPc_sPc, rPc_sCo, rCo_sAt, rCo_sFl, rCo_sLn, rCo_sPc, rCo_sCo]
    refine go_isub dX4_readNumber_28 ⟨by omega, by omega⟩ ?_
    refine go_iconst dX4_readNumber_29 rfl ?_
    refine go_icmp_le (tgt := 42) dX4_readNumber_30 rfl (fun h30 => ?_) (fun h30 => ?_)
    ·
      refine go_iconst dX4_readNumber_42 rfl ?_
      refine go_istore_n dX4_readNumber_43 rfl ?_
      refine go_aload_n dX4_readNumber_44 rfl ?_
      refine go_getI 2 dX4_readNumber_45 fl_X4_25 (by first | assumption | exact Nat.le_of_ble_eq_true rfl) (by first | assumption | rfl) rfl rfl ?_
      try simp (disch := omega) only [ud, ua_same, ua_ne, uf_same, uf_ne, mR_at, mR_fl, mR_ke, mR_ky, mR_pc, mR_ln, mR_56, mR_57, mR_60, rAt_adC, rFl_adC, rLn_adC, rPc_adC, rAt_adP, rFl_adP, rLn_adP, rPc_adP, rAt_sAt, rAt_sFl, rAt_sLn, rAt_sPc, rAt_sCo, rFl_sAt, rFl_sFl, rFl_sLn, rFl_sPc, rFl_sCo, rLn_sAt, rLn_sFl, rLn_sLn, rLn_sPc, rLn_sCo, rPc_sAt, rPc_sFl, rPc_sLn, rPc_sPc, rPc_sCo, rCo_sAt, rCo_sFl, rCo_sLn, rCo_sPc, rCo_sCo]
      refine go_istore_n dX4_readNumber_48 rfl ?_
      exact go_drop (loop (wEd (μ 57) (μ 56 1) (rAt s) - rAt s).toNat _ 0 (by omega) ha0 (by omega) (by omega) (by rw [Int.sub_self]; rfl)) rfl
    ·
      refine go_aload_n dX4_readNumber_33 rfl ?_
      refine go_aload_n dX4_readNumber_34 rfl ?_
      refine go_getI 2 dX4_readNumber_35 fl_X4_25 (by first | assumption | exact Nat.le_of_ble_eq_true rfl) (by first | assumption | rfl) rfl rfl ?_
      try simp (disch := omega) only [ud, ua_same, ua_ne, uf_same, uf_ne, mR_at, mR_fl, mR_ke, mR_ky, mR_pc, mR_ln, mR_56, mR_57, mR_60, rAt_adC, rFl_adC, rLn_adC, rPc_adC, rAt_adP, rFl_adP, rLn_adP, rPc_adP, rAt_sAt, rAt_sFl, rAt_sLn, rAt_sPc, rAt_sCo, rFl_sAt, rFl_sFl, rFl_sLn, rFl_sPc, rFl_sCo, rLn_sAt, rLn_sFl, rLn_sLn, rLn_sPc, rLn_sCo, rPc_sAt, rPc_sFl, rPc_sLn, rPc_sPc, rPc_sCo, rCo_sAt, rCo_sFl, rCo_sLn, rCo_sPc, rCo_sCo]
      refine go_putI 3 dX4_readNumber_38 pl_X4_30 (by first | assumption | exact Nat.le_of_ble_eq_true rfl) (by first | assumption | rfl) rfl rfl ?_
      rw [mR_sfl]
      exact go_rv dX4_readNumber_41 rfl ⟨Nat.le_refl _, Nat.le_refl _⟩ (by unfold nuS; rw [if_pos (by omega)])

theorem naS_y {B : Int → Int} {N ky c : Int} {s : RS} (h : nmO ky c) (h2 : wEd B N (rAt s) = rAt s + 1) : naS B N ky c s = sAt (adP s (-c)) (rAt s + 1) := by unfold naS; exact if_pos ⟨h, h2⟩
theorem naS_n {B : Int → Int} {N ky c : Int} {s : RS} (h : ¬ (nmO ky c ∧ wEd B N (rAt s) = rAt s + 1)) : naS B N ky c s = sFl s (rAt s) := by unfold naS; exact if_neg h

set_option maxRecDepth 100000 in
set_option maxHeartbeats 4000000 in
theorem ct_X4_readName {l : Launch} {D : va_G} {cA : Nat → ClassId} {μ : Mem} {s : RS} (hN0 : 0 ≤ μ 56 1) (hN1 : μ 56 1 ≤ 96) (ha0 : 0 ≤ rAt s) (ha1 : rAt s ≤ μ 56 1) (hl0 : 0 ≤ rLn s) (hl1 : rLn s ≤ rAt s) (hp0 : 0 ≤ rPc s) (hp1 : rPc s ≤ rLn s) (c : Int) : CtN l D cA yX4_readName cX4_readName 2 none 3 [vr 58, vi c] (mR μ s) (Pv (fun μ' => μ' = mR μ (naS (μ 57) (μ 56 1) (μ 59 0) c s))) := by
  refine Ct.of (own := RX4) (by decide +kernel) rfl (fun σ => Nat.le_of_ble_eq_true rfl) (fun hM hP ha => ?_)
  have w58_0 : ρ0 58 (0 : Nat) = some 56 := by decide +kernel
  have w58_1 : ρ0 58 (1 : Nat) = some 59 := by decide +kernel
  have w56_0 : ρ0 56 (0 : Nat) = some 57 := by decide +kernel
  refine go_aload_n dX4_readName_0 rfl ?_
  refine go_iload_n dX4_readName_1 rfl ?_
  refine go_vI (ci := 3) dX4_readName_2 (cr_isName _) ml_X4_111 mc_X4_isName mv_X4_isName rfl (by first | assumption | exact Nat.le_of_ble_eq_true rfl) (by first | assumption | rfl) rfl ⟨rfl, rfl⟩ ⟨Nat.le_refl _, Nat.le_refl _⟩ rfl rfl rfl (fun x2 μ2 hc2 => ?_)
  obtain ⟨rfl, hm2⟩ := hc2
  rw [hm2]
  first | refine go_bz (tgt := 28) dX4_readName_5 rfl (fun h5 => ?_) (fun h5 => ?_) | refine go_if_eq (tgt := 28) dX4_readName_5 rfl (fun h5 => ?_) (fun h5 => ?_)
  ·
    refine go_aload_n dX4_readName_28 rfl ?_
    refine go_aload_n dX4_readName_29 rfl ?_
    refine go_getI 2 dX4_readName_30 fl_X4_25 (by first | assumption | exact Nat.le_of_ble_eq_true rfl) (by first | assumption | rfl) rfl rfl ?_
    try simp (disch := omega) only [ud, ua_same, ua_ne, uf_same, uf_ne, mR_at, mR_fl, mR_ke, mR_ky, mR_pc, mR_ln, mR_56, mR_57, mR_60, rAt_adC, rFl_adC, rLn_adC, rPc_adC, rAt_adP, rFl_adP, rLn_adP, rPc_adP, rAt_sAt, rAt_sFl, rAt_sLn, rAt_sPc, rAt_sCo, rFl_sAt, rFl_sFl, rFl_sLn, rFl_sPc, rFl_sCo, rLn_sAt, rLn_sFl, rLn_sLn, rLn_sPc, rLn_sCo, rPc_sAt, rPc_sFl, rPc_sLn, rPc_sPc, rPc_sCo, rCo_sAt, rCo_sFl, rCo_sLn, rCo_sPc, rCo_sCo]
    refine go_putI 3 dX4_readName_33 pl_X4_30 (by first | assumption | exact Nat.le_of_ble_eq_true rfl) (by first | assumption | rfl) rfl rfl ?_
    rw [mR_sfl]
    exact go_rv dX4_readName_36 rfl ⟨Nat.le_refl _, Nat.le_refl _⟩ (by rw [naS_n (fun h => h5 h.1)])
  ·
    refine go_aload_n dX4_readName_8 rfl ?_
    refine go_getR dX4_readName_9 fl_X4_18 (by first | assumption | exact Nat.le_of_ble_eq_true rfl) (by first | assumption | rfl) rfl (by first | assumption | rfl) ?_
    refine go_aload_n dX4_readName_12 rfl ?_
    refine go_getI 2 dX4_readName_13 fl_X4_25 (by first | assumption | exact Nat.le_of_ble_eq_true rfl) (by first | assumption | rfl) rfl rfl ?_
    try simp (disch := omega) only [ud, ua_same, ua_ne, uf_same, uf_ne, mR_at, mR_fl, mR_ke, mR_ky, mR_pc, mR_ln, mR_56, mR_57, mR_60, rAt_adC, rFl_adC, rLn_adC, rPc_adC, rAt_adP, rFl_adP, rLn_adP, rPc_adP, rAt_sAt, rAt_sFl, rAt_sLn, rAt_sPc, rAt_sCo, rFl_sAt, rFl_sFl, rFl_sLn, rFl_sPc, rFl_sCo, rLn_sAt, rLn_sFl, rLn_sLn, rLn_sPc, rLn_sCo, rPc_sAt, rPc_sFl, rPc_sLn, rPc_sPc, rPc_sCo, rCo_sAt, rCo_sFl, rCo_sLn, rCo_sPc, rCo_sCo]
    refine go_vI (ci := 6) dX4_readName_16 (cr_wordEnd hN0 hN1 _ ha0 ha1) ml_X4_57 mc_X7_wordEnd mv_X7_wordEnd rfl (by first | assumption | exact Nat.le_of_ble_eq_true rfl) (by first | assumption | rfl) rfl ⟨rfl, rfl⟩ ⟨Nat.le_refl _, Nat.le_refl _⟩ rfl rfl rfl (fun x16 μ16 hc16 => ?_)
    obtain ⟨rfl, hm16⟩ := hc16
    rw [hm16]
    refine go_aload_n dX4_readName_19 rfl ?_
    refine go_getI 2 dX4_readName_20 fl_X4_25 (by first | assumption | exact Nat.le_of_ble_eq_true rfl) (by first | assumption | rfl) rfl rfl ?_
    try simp (disch := omega) only [ud, ua_same, ua_ne, uf_same, uf_ne, mR_at, mR_fl, mR_ke, mR_ky, mR_pc, mR_ln, mR_56, mR_57, mR_60, rAt_adC, rFl_adC, rLn_adC, rPc_adC, rAt_adP, rFl_adP, rLn_adP, rPc_adP, rAt_sAt, rAt_sFl, rAt_sLn, rAt_sPc, rAt_sCo, rFl_sAt, rFl_sFl, rFl_sLn, rFl_sPc, rFl_sCo, rLn_sAt, rLn_sFl, rLn_sLn, rLn_sPc, rLn_sCo, rPc_sAt, rPc_sFl, rPc_sLn, rPc_sPc, rPc_sCo, rCo_sAt, rCo_sFl, rCo_sLn, rCo_sPc, rCo_sCo]
    refine go_iconst dX4_readName_23 rfl ?_
    refine go_iadd dX4_readName_24 ⟨by omega, by omega⟩ ?_
    refine go_icmp_eq (tgt := 37) dX4_readName_25 rfl (fun h25 => ?_) (fun h25 => ?_)
    ·
      refine go_aload_n dX4_readName_37 rfl ?_
      refine go_getR dX4_readName_38 fl_X4_12 (by first | assumption | exact Nat.le_of_ble_eq_true rfl) (by first | assumption | rfl) rfl (by first | assumption | rfl) ?_
      refine go_iload_n dX4_readName_41 rfl ?_
      have hc : c = 115 ∨ c = 108 ∨ c = 100 ∨ c = 114 ∨ c = 117 := by unfold nmO at h5; omega
      have hwr := wEd_r (B := μ 57) ha1
      refine go_ineg dX4_readName_42 ?_
      rw [wr_id ⟨by omega, by omega⟩]
      refine go_vV (ci := 0) dX4_readName_43 (cr_addPiece _ hl0 (by omega) hp0 (by omega)) ml_X4_108 mc_X1_addPiece mv_X1_addPiece rfl (by first | assumption | exact Nat.le_of_ble_eq_true rfl) (by first | assumption | rfl) rfl ⟨rfl, rfl⟩ ⟨Nat.le_refl _, Nat.le_refl _⟩ rfl rfl rfl (fun μ43 hc43 => ?_)
      subst hc43
      refine go_aload_n dX4_readName_46 rfl ?_
      refine go_dup dX4_readName_47 rfl ?_
      refine go_getI 2 dX4_readName_48 fl_X4_25 (by first | assumption | exact Nat.le_of_ble_eq_true rfl) (by first | assumption | rfl) rfl rfl ?_
      try simp (disch := omega) only [ud, ua_same, ua_ne, uf_same, uf_ne, mR_at, mR_fl, mR_ke, mR_ky, mR_pc, mR_ln, mR_56, mR_57, mR_60, rAt_adC, rFl_adC, rLn_adC, rPc_adC, rAt_adP, rFl_adP, rLn_adP, rPc_adP, rAt_sAt, rAt_sFl, rAt_sLn, rAt_sPc, rAt_sCo, rFl_sAt, rFl_sFl, rFl_sLn, rFl_sPc, rFl_sCo, rLn_sAt, rLn_sFl, rLn_sLn, rLn_sPc, rLn_sCo, rPc_sAt, rPc_sFl, rPc_sLn, rPc_sPc, rPc_sCo, rCo_sAt, rCo_sFl, rCo_sLn, rCo_sPc, rCo_sCo]
      refine go_iconst dX4_readName_51 rfl ?_
      refine go_iadd dX4_readName_52 ⟨by omega, by omega⟩ ?_
      refine go_putI 2 dX4_readName_53 pl_X4_25 (by first | assumption | exact Nat.le_of_ble_eq_true rfl) (by first | assumption | rfl) rfl rfl ?_
      rw [mR_sat]
      exact go_rv dX4_readName_56 rfl ⟨Nat.le_refl _, Nat.le_refl _⟩ (by rw [naS_y h5 h25])
    ·
      refine go_aload_n dX4_readName_28 rfl ?_
      refine go_aload_n dX4_readName_29 rfl ?_
      refine go_getI 2 dX4_readName_30 fl_X4_25 (by first | assumption | exact Nat.le_of_ble_eq_true rfl) (by first | assumption | rfl) rfl rfl ?_
      try simp (disch := omega) only [ud, ua_same, ua_ne, uf_same, uf_ne, mR_at, mR_fl, mR_ke, mR_ky, mR_pc, mR_ln, mR_56, mR_57, mR_60, rAt_adC, rFl_adC, rLn_adC, rPc_adC, rAt_adP, rFl_adP, rLn_adP, rPc_adP, rAt_sAt, rAt_sFl, rAt_sLn, rAt_sPc, rAt_sCo, rFl_sAt, rFl_sFl, rFl_sLn, rFl_sPc, rFl_sCo, rLn_sAt, rLn_sFl, rLn_sLn, rLn_sPc, rLn_sCo, rPc_sAt, rPc_sFl, rPc_sLn, rPc_sPc, rPc_sCo, rCo_sAt, rCo_sFl, rCo_sLn, rCo_sPc, rCo_sCo]
      refine go_putI 3 dX4_readName_33 pl_X4_30 (by first | assumption | exact Nat.le_of_ble_eq_true rfl) (by first | assumption | rfl) rfl rfl ?_
      rw [mR_sfl]
      exact go_rv dX4_readName_36 rfl ⟨Nat.le_refl _, Nat.le_refl _⟩ (by rw [naS_n (fun h => h25 h.2)])

