/-! THE CLASS: public methods: deal, ticks, images, rows that wait, the tape -/
def EqR (f g : Int → Int) : Prop := ∀ c, 0 ≤ c → c < 30 → f c = g c
def tsE (s t : TS) : Prop := EqR s.1 t.1 ∧ s.2 = t.2
theorem EqR.rf {f : Int → Int} : EqR f f := fun _ _ _ => rfl
theorem EqR.symm {f g : Int → Int} (h : EqR f g) : EqR g f := fun c a b => (h c a b).symm
theorem EqR.trans {f g k : Int → Int} (h : EqR f g) (h2 : EqR g k) : EqR f k := fun c a b => (h c a b).trans (h2 c a b)
theorem snw_cg {f g : Int → Int} {m : Int} (h : EqR f g) : EqR (snwF f m 30) (snwF g m 30) := by
  intro c a b; unfold snwF; rw [if_pos ⟨a, b⟩, if_pos ⟨a, b⟩, h c a b]
theorem dftD_cg {k k' f g : Int → Int} {c : Int} (hk : k c = k' c) (h : f c = g c) : dftD k f c = dftD k' g c := by unfold dftD; rw [hk, h]
theorem dft_cg {k k' f g : Int → Int} (hk : EqR k k') (h : EqR f g) : EqR (dftA k f) (dftA k' g) := by
  intro c a b
  unfold dftA dftI
  rw [if_pos (show 0 ≤ c ∧ c < 30 from ⟨a, b⟩), if_pos (show 0 ≤ c ∧ c < 30 from ⟨a, b⟩), dftD_cg (hk c a b) (h c a b), h c a b]
  by_cases e : c % 6 = 0
  · rw [if_pos e, if_pos e]
  · rw [if_neg e, if_neg e, dftD_cg (hk (c - 1) (by omega) (by omega)) (h (c - 1) (by omega) (by omega))]
theorem slS_cf {h h' st st' : Int → Int} {s t : (Int → Int) × Int} {c : Int} (e1 : h c = h' c) (e2 : st c = st' c) (hs : EqR s.1 t.1) (hn : s.2 = t.2) (c0 : 0 ≤ c) (c1 : c < 30) : EqR (slS h st s c).1 (slS h' st' t c).1 ∧ (slS h st s c).2 = (slS h' st' t c).2 := by
  by_cases hy : 30 ≤ st c ∧ h c < s.1 c
  · have hy2 : 30 ≤ st' c ∧ h' c < t.1 c := by rw [← e1, ← e2, ← hs c c0 c1]; exact hy
    by_cases h6 : 6 ≤ c
    · rw [slS_up hy h6, slS_up hy2 h6]
      refine ⟨fun q a b => ?_, by show s.2 + 1 = t.2 + 1; rw [hn]⟩
      show uf (uf s.1 (c - 6) (s.1 (c - 6) + s.1 c)) c 0 q = uf (uf t.1 (c - 6) (t.1 (c - 6) + t.1 c)) c 0 q
      unfold uf
      rw [hs c c0 c1, hs (c - 6) (by omega) (by omega), hs q a b]
    · rw [slS_lo hy h6, slS_lo hy2 h6]
      refine ⟨fun q a b => ?_, by show s.2 + 1 = t.2 + 1; rw [hn]⟩
      show uf s.1 c 0 q = uf t.1 c 0 q
      unfold uf
      rw [hs q a b]
  · have hy2 : ¬ (30 ≤ st' c ∧ h' c < t.1 c) := by rw [← e1, ← e2, ← hs c c0 c1]; exact hy
    rw [slS_no hy, slS_no hy2]
    exact ⟨hs, hn⟩
theorem slR_cf {h h' st st' : Int → Int} (e1 : EqR h h') (e2 : EqR st st') : ∀ (n : Nat) (s t : (Int → Int) × Int) (c : Int), 0 ≤ c → c + (n : Nat) ≤ 30 → EqR s.1 t.1 → s.2 = t.2 → EqR (slR h st n s c).1 (slR h' st' n t c).1 ∧ (slR h st n s c).2 = (slR h' st' n t c).2
  | 0, s, t, c, _, _, hs, hn => ⟨hs, hn⟩
  | n + 1, s, t, c, c0, c1, hs, hn => by
    obtain ⟨a, b⟩ := slS_cf (e1 c c0 (by omega)) (e2 c c0 (by omega)) hs hn c0 (by omega)
    rw [slR_s, slR_s]
    exact slR_cf e1 e2 n _ _ _ (by omega) (by omega) a b
theorem slN_cf {h h' st st' : Int → Int} (e1 : EqR h h') (e2 : EqR st st') : ∀ (r : Nat) (s t : (Int → Int) × Int), r ≤ 5 → EqR s.1 t.1 → s.2 = t.2 → EqR (slN h st r s).1 (slN h' st' r t).1 ∧ (slN h st r s).2 = (slN h' st' r t).2
  | 0, s, t, _, hs, hn => ⟨hs, hn⟩
  | r + 1, s, t, hr, hs, hn => by
    obtain ⟨a, b⟩ := slR_cf e1 e2 6 s t (6 * (r : Nat)) (by omega) (by omega) hs hn
    exact slN_cf e1 e2 r _ _ (by omega) a b
theorem tkF_cg {k k' st st' ph ph' : Int → Int} {fall : Int} {s t : TS} (hk : EqR k k') (hst : EqR st st') (hp : EqR ph ph') (h : tsE s t) : tsE (tkF k st ph fall s).1 (tkF k' st' ph' fall t).1 ∧ (tkF k st ph fall s).2 = (tkF k' st' ph' fall t).2 := by
  obtain ⟨f, z, hr, sl⟩ := s
  obtain ⟨g, z', hr', sl'⟩ := t
  obtain ⟨h1, h2⟩ := h
  cases h2
  have e1 : EqR (fun c => kHold (k c) (ph c) (sunV hr)) (fun c => kHold (k' c) (ph' c) (sunV hr)) := fun c a b => by show kHold _ _ _ = kHold _ _ _; rw [hk c a b, hp c a b]
  obtain ⟨a, b⟩ := slN_cf e1 hst 5 (dftA k (snwF f (fall + dv (dz z) % 3) 30), 0) (dftA k' (snwF g (fall + dv (dz z) % 3) 30), 0) (by omega) (dft_cg hk (snw_cg h1)) rfl
  refine ⟨⟨fun c c0 c1 => ?_, ?_⟩, b⟩
  · show clpF _ 30 c = clpF _ 30 c
    unfold clpF
    rw [if_pos ⟨c0, c1⟩, if_pos ⟨c0, c1⟩]
    have := a c c0 c1
    show min ((slN _ _ 5 _).1 c) 999 = min ((slN _ _ 5 _).1 c) 999
    rw [this]
  · show (dz z, _, wr (sl + _)) = (dz z, _, wr (sl + _))
    have b2 : (slN (fun c => kHold (k c) (ph c) (sunV hr)) st 5 (dftA k (snwF f (fall + dv (dz z) % 3) 30), 0)).2 = (slN (fun c => kHold (k' c) (ph' c) (sunV hr)) st' 5 (dftA k' (snwF g (fall + dv (dz z) % 3) 30), 0)).2 := b
    show (dz z, (if hr < 23 then hr + 1 else 0), wr (sl + (slN (fun c => kHold (k c) (ph c) (sunV hr)) st 5 (dftA k (snwF f (fall + dv (dz z) % 3) 30), 0)).2)) = (dz z, (if hr < 23 then hr + 1 else 0), wr (sl + (slN (fun c => kHold (k' c) (ph' c) (sunV hr)) st' 5 (dftA k' (snwF g (fall + dv (dz z) % 3) 30), 0)).2))
    rw [b2]
theorem tkN_cg {k k' st st' ph ph' : Int → Int} {fall : Int} {s t : TS} (hk : EqR k k') (hst : EqR st st') (hp : EqR ph ph') (h : tsE s t) : ∀ n : Nat, tsE (tkN k st ph fall s n).1 (tkN k' st' ph' fall t n).1 ∧ (tkN k st ph fall s n).2 = (tkN k' st' ph' fall t n).2
  | 0 => ⟨h, rfl⟩
  | n + 1 => by
    obtain ⟨a, b⟩ := tkN_cg (fall := fall) hk hst hp h n
    obtain ⟨a2, b2⟩ := tkF_cg (fall := fall) hk hst hp a
    exact ⟨a2, by show _ + _ = _ + _; rw [b, b2]⟩
theorem sumN_cg {f g : Int → Int} (h : EqR f g) : ∀ n : Nat, n ≤ 30 → sumN f n = sumN g n
  | 0, _ => rfl
  | n + 1, hn => by
    show sumN f n + f (n : Nat) = sumN g n + g (n : Nat)
    rw [sumN_cg h n (by omega), h _ (by omega) (by omega)]
theorem mstN_cg {f g : Int → Int} (h : EqR f g) : ∀ n : Nat, n ≤ 30 → mstN f n = mstN g n
  | 0, _ => rfl
  | n + 1, hn => by
    have e := mstN_cg h n (by omega)
    have b := mstN_b (f := g) n
    show (if f (mstN f n) < f (n : Nat) then ((n : Nat) : Int) else mstN f n) = if g (mstN g n) < g (n : Nat) then ((n : Nat) : Int) else mstN g n
    rw [e, h (n : Nat) (by omega) (by omega), h (mstN g n) b.1 (by omega)]
/-- a mountain is as another (in the same memory or an earlier one) -/
def asM (μ' : Mem) (M : Nat) (μ : Mem) (N : Nat) : Prop := (∀ c, 0 ≤ c → c < 30 → μ' (M + 1) c = μ (N + 1) c ∧ μ' (M + 2) c = μ (N + 2) c ∧ μ' (M + 3) c = μ (N + 3) c) ∧ (∀ i, 0 ≤ i → i < 24 → μ' (M + 4) i = μ (N + 4) i) ∧ (μ' M 7 = μ N 7 ∧ μ' M 8 = μ N 8 ∧ μ' M 9 = μ N 9 ∧ μ' M 10 = μ N 10 ∧ μ' M 11 = μ N 11 ∧ μ' M 12 = μ N 12 ∧ μ' M 13 = μ N 13)
theorem asM_I {μ μ' : Mem} {M N : Nat} (h : asM μ' M μ N) (hl : ∀ q, 4 ≤ q → q < 32 → μ' q = μ q) (hI : mtI μ N) : mtI μ' M := by
  obtain ⟨iK, iS, iL, iT, iTn, iD, iH, iF, iX, iW⟩ := hI
  obtain ⟨h1, h2, h7, h8, h9, h10, h11, h12, h13⟩ := h
  refine ⟨fun c a b => ?_, fun c a b => ?_, fun c a b => ?_, fun i a b => ?_, by rw [h7]; exact iTn, by rw [h8]; exact iD, by rw [h9]; exact iH, by rw [h10]; exact iF, by rw [h13]; exact iX, by rw [h13]; exact lwI_fr hl iW⟩
  · rw [(h1 c a b).1]; exact iK c a b
  · rw [(h1 c a b).2.1]; exact iS c a b
  · rw [(h1 c a b).2.2]; exact iL c a b
  · rw [h2 i a b]; exact iT i a b
theorem asM_LM {μ μ' : Mem} {M N : Nat} (h : asM μ' M μ N) (hl : ∀ q, 4 ≤ q → q < 32 → μ' q = μ q) (hI : mtI μ N) : LM μ' M = LM μ N := by
  unfold LM
  rw [h.2.2.2.2.2.2.2.2]
  exact LLc_fr hI.2.2.2.2.2.2.2.2.2.1 hl
theorem asM_ph {μ μ' : Mem} {M N : Nat} (h : asM μ' M μ N) (hl : ∀ q, 4 ≤ q → q < 32 → μ' q = μ q) (hI : mtI μ N) : EqR (phC μ' M) (phC μ N) := by
  intro c a b
  unfold phC
  rw [asM_LM h hl hI, (h.1 c a b).2.1]
theorem asM_ts {μ μ' : Mem} {M N : Nat} (h : asM μ' M μ N) : tsE (tS μ' M) (tS μ N) := by
  obtain ⟨h1, h2, h7, h8, h9, h10, h11, h12, h13⟩ := h
  refine ⟨fun c a b => (h1 c a b).2.2, ?_⟩
  show (μ' M 11, μ' M 9, μ' M 12) = (μ N 11, μ N 9, μ N 12)
  rw [h9, h11, h12]
/-- the numbers that the class uses as scratch alone -/
def cs (q : Nat) : Prop := q = 3 ∨ q = 37 ∨ q = 38 ∨ (44 ≤ q ∧ q ≤ 55) ∨ (58 ≤ q ∧ q ≤ 60)
abbrev tkM (μ : Mem) (M : Nat) (n : Nat) : TS × Int := tkN (μ (M + 1)) (μ (M + 2)) (phC μ M) (μ M 10) (tS μ M) n
theorem asM_tk {μ μ' : Mem} {M N : Nat} (h : asM μ' M μ N) (hl : ∀ q, 4 ≤ q → q < 32 → μ' q = μ q) (hI : mtI μ N) (n : Nat) : tsE (tkM μ' M n).1 (tkM μ N n).1 ∧ (tkM μ' M n).2 = (tkM μ N n).2 := by
  have e10 : μ' M 10 = μ N 10 := h.2.2.2.2.2.1
  have hcg := tkN_cg (fall := μ N 10) (fun c a b => (h.1 c a b).1) (fun c a b => (h.1 c a b).2.1) (asM_ph h hl hI) (asM_ts h) n
  show tsE (tkN (μ' (M + 1)) (μ' (M + 2)) (phC μ' M) (μ' M 10) (tS μ' M) n).1 _ ∧ (tkN (μ' (M + 1)) (μ' (M + 2)) (phC μ' M) (μ' M 10) (tS μ' M) n).2 = _
  rw [e10]
  exact hcg
theorem mtI_tk {μ μ' : Mem} {M : Nat} (hM : 32 ≤ M) (hI : mtI μ M) {s : TS} {n : Nat} (hs : s = (tkM μ M n).1) (ht : tS μ' M = s) (hk : tkK μ μ' M) : mtI μ' M := by
  obtain ⟨iK, iS, iL, iT, iTn, iD, iH, iF, iX, iW⟩ := id hI
  have hb := tkN_b (kinds := μ (M + 1)) (steeps := μ (M + 2)) (ph := phC μ M) (fall := μ M 10) (s := tS μ M) iF.1 iL iH n
  rw [← hs, ← ht] at hb
  exact mtI_up hM hI hb.1 hb.2.1 hk.1 (fun q a b c d e => hk.2 q a b c e)

set_option maxRecDepth 100000 in
set_option maxHeartbeats 4000000 in
theorem ct_X9_deal {l : Launch} {D : va_G} {cA : Nat → ClassId} {μ : Mem} (hI : mtI μ 32) : CtN l D cA yX9_deal cX9_deal 1 (some .int) 3 [vr 0] μ (Pi (fun x μ' => x = sumN (μ' 35) 30 ∧ (∀ c, 0 ≤ c → c < 30 → μ' 33 c = dv (zN (μ 32 11) (3 * c.toNat + 1)) % 6 ∧ μ' 34 c = dv (zN (μ 32 11) (3 * c.toNat + 2)) % 50 ∧ μ' 35 c = dv (zN (μ 32 11) (3 * c.toNat + 3)) % 40) ∧ μ' 32 = uf (μ 32) 11 (zN (μ 32 11) 90) ∧ ∀ q, q ≠ 32 → q ≠ 33 → q ≠ 34 → q ≠ 35 → μ' q = μ q)) := by
  refine Ct.of (own := RX9) (by decide +kernel) rfl (fun σ => Nat.le_of_ble_eq_true rfl) (fun hM hP ha => ?_)
  obtain ⟨w0_0, w0_1, w0_2, w0_3, w0_4, w0_5, w0_6, w0_7, w0_8, w0_9, w1_0, w1_1, w32_1, w32_2, w32_3, w32_4, w32_5, w32_6, w39_1, w39_2, w39_3, w39_4, w39_5, w39_6, w46_1, w46_2, w46_3, w46_4, w46_5, w46_6, w56_0, w58_0, w58_1, w53_0, w53_1⟩ := ws_f
  have hMt : isMt 32 := Or.inl rfl
  obtain ⟨iK, iS, iL, iT, iTn, iD, iH, iF, iX, iW⟩ := id hI
  simp only [Nat.reduceAdd] at iK iS iL iT
  refine go_aload_n dX9_deal_0 rfl ?_
  refine go_getR dX9_deal_1 fl_X9_21 (by first | assumption | exact Nat.le_of_ble_eq_true rfl) (by first | assumption | rfl) rfl (by first | assumption | rfl) ?_
  refine go_vV (ci := 2) dX9_deal_4 (ct_X3_drawByLot hMt) ml_X9_134 mc_X3_drawByLot mv_X3_drawByLot rfl (by first | assumption | exact Nat.le_of_ble_eq_true rfl) (by first | assumption | rfl) rfl ⟨rfl, rfl⟩ ⟨Nat.le_refl _, Nat.le_refl _⟩ rfl rfl rfl (fun μ4 hc4 => ?_)
  simp only [Nat.reduceAdd] at hc4
  obtain ⟨hd, hz, hf⟩ := hc4
  have hI4 : mtI μ4 32 := by
    have n7 : ∀ k, k ≠ 11 → μ4 32 k = μ 32 k := fun k hk => by rw [hz, uf_ne hk]
    refine ⟨fun c a b => ?_, fun c a b => ?_, fun c a b => ?_, fun i a b => ?_, by rw [n7 7 (by decide)]; exact iTn, by rw [n7 8 (by decide)]; exact iD, by rw [n7 9 (by decide)]; exact iH, by rw [n7 10 (by decide)]; exact iF, by rw [n7 13 (by decide)]; exact iX, by rw [n7 13 (by decide)]; exact lwI_fr (fun q a b => hf q (by omega) (by omega) (by omega) (by omega)) iW⟩
    · have := dv_b (zN (μ 32 11) (3 * c.toNat + 1)); simp only [Nat.reduceAdd]; rw [(hd c a b).1]; omega
    · have := dv_b (zN (μ 32 11) (3 * c.toNat + 2)); simp only [Nat.reduceAdd]; rw [(hd c a b).2.1]; omega
    · have := dv_b (zN (μ 32 11) (3 * c.toNat + 3)); simp only [Nat.reduceAdd]; rw [(hd c a b).2.2]; omega
    · simp only [Nat.reduceAdd]; rw [hf 36 (by omega) (by omega) (by omega) (by omega)]; exact iT i a b
  refine go_aload_n dX9_deal_7 rfl ?_
  refine go_getR dX9_deal_8 fl_X9_21 (by first | assumption | exact Nat.le_of_ble_eq_true rfl) (by first | assumption | rfl) rfl (by first | assumption | rfl) ?_
  refine go_vI (ci := 2) dX9_deal_11 (ct_X3_allLoad hMt hI4) ml_X9_137 mc_X3_allLoad mv_X3_allLoad rfl (by first | assumption | exact Nat.le_of_ble_eq_true rfl) (by first | assumption | rfl) rfl ⟨rfl, rfl⟩ ⟨Nat.le_refl _, Nat.le_refl _⟩ rfl rfl rfl (fun x11 μ11 hc11 => ?_)
  obtain ⟨rfl, hm11⟩ := hc11
  rw [hm11]
  exact go_ri dX9_deal_14 tyI ⟨Nat.le_refl _, Nat.le_refl _⟩ (⟨rfl, hd, hz, hf⟩)

set_option maxRecDepth 100000 in
set_option maxHeartbeats 4000000 in
theorem ct_X9_run {l : Launch} {D : va_G} {cA : Nat → ClassId} {μ : Mem} (hI : mtI μ 32) (n : Int) : CtN l D cA yX9_run cX9_run 2 (some .int) 7 [vr 0, vi n] μ (Pi (fun x μ' => ((1 ≤ n ∧ n ≤ 48) → x = (tkM μ 32 n.toNat).2 ∧ tS μ' 32 = (tkM μ 32 n.toNat).1 ∧ tkK μ μ' 32) ∧ (¬ (1 ≤ n ∧ n ≤ 48) → x = -1000000001 ∧ μ' = μ))) := by
  refine Ct.of (own := RX9) (by decide +kernel) rfl (fun σ => Nat.le_of_ble_eq_true rfl) (fun hM hP ha => ?_)
  obtain ⟨w0_0, w0_1, w0_2, w0_3, w0_4, w0_5, w0_6, w0_7, w0_8, w0_9, w1_0, w1_1, w32_1, w32_2, w32_3, w32_4, w32_5, w32_6, w39_1, w39_2, w39_3, w39_4, w39_5, w39_6, w46_1, w46_2, w46_3, w46_4, w46_5, w46_6, w56_0, w58_0, w58_1, w53_0, w53_1⟩ := ws_f
  have hMt : isMt 32 := Or.inl rfl
  obtain ⟨iK, iS, iL, iT, iTn, iD, iH, iF, iX, iW⟩ := id hI
  simp only [Nat.reduceAdd] at iK iS iL iT
  refine go_iload_n dX9_run_0 rfl ?_
  refine go_iconst dX9_run_1 rfl ?_
  refine go_bipush dX9_run_2 rfl (by decide) ?_
  refine go_sI dX9_run_4 (ct_X9_isWithin _ _ _) ml_X9_81 mc_X9_isWithin ms_X9_isWithin ⟨rfl, rfl⟩ ⟨Nat.le_refl _, Nat.le_refl _⟩ rfl rfl rfl (fun x4 μ4 hc4 => ?_)
  obtain ⟨rfl, hm4⟩ := hc4
  rw [hm4]
  first | refine go_bnz (tgt := 13) dX9_run_7 rfl (fun h7 => ?_) (fun h7 => ?_) | refine go_if_ne (tgt := 13) dX9_run_7 rfl (fun h7 => ?_) (fun h7 => ?_)
  ·
    refine go_aload_n dX9_run_13 rfl ?_
    refine go_getR dX9_run_14 fl_X9_21 (by first | assumption | exact Nat.le_of_ble_eq_true rfl) (by first | assumption | rfl) rfl (by first | assumption | rfl) ?_
    refine go_iload_n dX9_run_17 rfl ?_
    refine go_vI (ci := 2) dX9_run_18 (ct_X3_tickOften hMt hI _ (by omega) (by omega)) ml_X9_143 mc_X3_tickOften mv_X3_tickOften rfl (by first | assumption | exact Nat.le_of_ble_eq_true rfl) (by first | assumption | rfl) rfl ⟨rfl, rfl⟩ ⟨Nat.le_refl _, Nat.le_refl _⟩ rfl rfl rfl (fun x18 μ18 hc18 => ?_)
    obtain ⟨rfl, ht, hk⟩ := hc18
    exact go_ri dX9_run_21 tyI ⟨Nat.le_refl _, Nat.le_refl _⟩ (⟨fun _ => ⟨rfl, ht, hk⟩, fun h => absurd h7 h⟩)
  ·
    refine go_ldc dX9_run_10 kc_X9_85 rfl ?_
    exact go_ri dX9_run_12 tyI ⟨Nat.le_refl _, Nat.le_refl _⟩ (⟨fun h => absurd h h7, fun _ => ⟨rfl, rfl⟩⟩)

set_option maxRecDepth 100000 in
set_option maxHeartbeats 4000000 in
theorem ct_X9_ahead {l : Launch} {D : va_G} {cA : Nat → ClassId} {μ : Mem} (hI : mtI μ 32) (n what : Int) : CtN l D cA yX9_ahead cX9_ahead 4 (some .int) 7 [vr 0, vi n, vi what] μ (Pi (fun x μ' => x = (if (0 ≤ n ∧ n ≤ 48) ∧ 0 ≤ what ∧ what ≤ 3 then (if what = 0 then sumN (tkM μ 32 n.toNat).1.1 30 else if what = 1 then (tkM μ 32 n.toNat).2 else if what = 2 then (tkM μ 32 n.toNat).1.1 (mstN (tkM μ 32 n.toNat).1.1 30) else mstN (tkM μ 32 n.toNat).1.1 30) else -1000000001) ∧ ∀ q, ¬ cs q → μ' q = μ q)) := by
  refine Ct.of (own := RX9) (by decide +kernel) rfl (fun σ => Nat.le_of_ble_eq_true rfl) (fun hM hP ha => ?_)
  obtain ⟨w0_0, w0_1, w0_2, w0_3, w0_4, w0_5, w0_6, w0_7, w0_8, w0_9, w1_0, w1_1, w32_1, w32_2, w32_3, w32_4, w32_5, w32_6, w39_1, w39_2, w39_3, w39_4, w39_5, w39_6, w46_1, w46_2, w46_3, w46_4, w46_5, w46_6, w56_0, w58_0, w58_1, w53_0, w53_1⟩ := ws_f
  have hMt : isMt 32 := Or.inl rfl
  obtain ⟨iK, iS, iL, iT, iTn, iD, iH, iF, iX, iW⟩ := id hI
  simp only [Nat.reduceAdd] at iK iS iL iT
  refine go_iload_n dX9_ahead_0 rfl ?_
  refine go_iconst dX9_ahead_1 rfl ?_
  refine go_bipush dX9_ahead_2 rfl (by decide) ?_
  refine go_sI dX9_ahead_4 (ct_X9_isWithin _ _ _) ml_X9_81 mc_X9_isWithin ms_X9_isWithin ⟨rfl, rfl⟩ ⟨Nat.le_refl _, Nat.le_refl _⟩ rfl rfl rfl (fun x4 μ4 hc4 => ?_)
  obtain ⟨rfl, hm4⟩ := hc4
  rw [hm4]
  first | refine go_bz (tgt := 19) dX9_ahead_7 rfl (fun h7 => ?_) (fun h7 => ?_) | refine go_if_eq (tgt := 19) dX9_ahead_7 rfl (fun h7 => ?_) (fun h7 => ?_)
  ·
    refine go_ldc dX9_ahead_19 kc_X9_85 rfl ?_
    exact go_ri dX9_ahead_21 tyI ⟨Nat.le_refl _, Nat.le_refl _⟩ (⟨by rw [if_neg (by omega)], fun _ _ => rfl⟩)
  ·
    refine go_iload_n dX9_ahead_10 rfl ?_
    refine go_iconst dX9_ahead_11 rfl ?_
    refine go_iconst dX9_ahead_12 rfl ?_
    refine go_sI dX9_ahead_13 (ct_X9_isWithin _ _ _) ml_X9_81 mc_X9_isWithin ms_X9_isWithin ⟨rfl, rfl⟩ ⟨Nat.le_refl _, Nat.le_refl _⟩ rfl rfl rfl (fun x13 μ13 hc13 => ?_)
    obtain ⟨rfl, hm13⟩ := hc13
    rw [hm13]
    first | refine go_bnz (tgt := 22) dX9_ahead_16 rfl (fun h16 => ?_) (fun h16 => ?_) | refine go_if_ne (tgt := 22) dX9_ahead_16 rfl (fun h16 => ?_) (fun h16 => ?_)
    ·
      refine go_aload_n dX9_ahead_22 rfl ?_
      refine go_getR dX9_ahead_23 fl_X9_28 (by first | assumption | exact Nat.le_of_ble_eq_true rfl) (by first | assumption | rfl) rfl (by first | assumption | rfl) ?_
      refine go_aload_n dX9_ahead_26 rfl ?_
      refine go_getR dX9_ahead_27 fl_X9_21 (by first | assumption | exact Nat.le_of_ble_eq_true rfl) (by first | assumption | rfl) rfl (by first | assumption | rfl) ?_
      refine go_vV (ci := 2) dX9_ahead_30 (ct_X3_become (M := 46) (N := 32) (by unfold isMt; omega) (by unfold isMt; omega) (by decide)) ml_X9_146 mc_X3_become mv_X3_become rfl (by first | assumption | exact Nat.le_of_ble_eq_true rfl) (by first | assumption | rfl) rfl ⟨rfl, rfl⟩ ⟨Nat.le_refl _, Nat.le_refl _⟩ rfl rfl rfl (fun μ30 hc30 => ?_)
      have ha30 : asM μ30 46 μ 32 := ⟨hc30.1, hc30.2.1, hc30.2.2.1⟩
      have hfb30 := hc30.2.2.2
      simp only [Nat.reduceAdd] at hfb30
      have hl30 : ∀ q, 4 ≤ q → q < 32 → μ30 q = μ q := fun q a b => hfb30 q (by omega) (by omega) (by omega) (by omega) (by omega)
      have hI30 : mtI μ30 46 := asM_I ha30 hl30 hI
      refine go_aload_n dX9_ahead_33 rfl ?_
      refine go_getR dX9_ahead_34 fl_X9_28 (by first | assumption | exact Nat.le_of_ble_eq_true rfl) (by first | assumption | rfl) rfl (by first | assumption | rfl) ?_
      refine go_iload_n dX9_ahead_37 rfl ?_
      refine go_vI (ci := 2) dX9_ahead_38 (ct_X3_tickOften (M := 46) (by unfold isMt; omega) hI30 _ (by omega) (by omega)) ml_X9_143 mc_X3_tickOften mv_X3_tickOften rfl (by first | assumption | exact Nat.le_of_ble_eq_true rfl) (by first | assumption | rfl) rfl ⟨rfl, rfl⟩ ⟨Nat.le_refl _, Nat.le_refl _⟩ rfl rfl rfl (fun x38 μ38 hc38 => ?_)
      obtain ⟨rfl, ht38, hk38⟩ := hc38
      have hI38 : mtI μ38 46 := mtI_tk (by omega) hI30 rfl ht38 hk38
      have hcg := asM_tk ha30 hl30 hI n.toNat
      have hlo : EqR (μ38 49) (tkM μ 32 n.toNat).1.1 := by
        have e : μ38 49 = (tkM μ30 46 n.toNat).1.1 := congrArg Prod.fst ht38
        rw [e]
        exact hcg.1.1
      have hsl : (tkM μ30 46 n.toNat).2 = (tkM μ 32 n.toNat).2 := hcg.2
      have hf : ∀ q, ¬ cs q → μ38 q = μ q := fun q hq => by
        unfold cs at hq
        rw [hk38.2 q (by omega) (by omega) (by omega) (by omega)]
        exact hfb30 q (by omega) (by omega) (by omega) (by omega) (by omega)
      have hmb := mstN_b (f := (tkM μ 32 n.toNat).1.1) 30
      refine go_istore_n dX9_ahead_41 rfl ?_
      refine go_iload_n dX9_ahead_42 rfl ?_
      refine go_case (0) (fun h43_0 => ?_) (fun h43_0 => ?_)
      ·
        refine go_tabIn (tgt := 68) dX9_ahead_43 (by rw [h43_0]; decide) (by rw [h43_0]; decide) (by rw [h43_0]; try rfl) rfl ?_
        refine go_aload_n dX9_ahead_68 rfl ?_
        refine go_getR dX9_ahead_69 fl_X9_28 (by first | assumption | exact Nat.le_of_ble_eq_true rfl) (by first | assumption | rfl) rfl (by first | assumption | rfl) ?_
        refine go_vI (ci := 2) dX9_ahead_72 (ct_X3_allLoad (M := 46) (by unfold isMt; omega) hI38) ml_X9_137 mc_X3_allLoad mv_X3_allLoad rfl (by first | assumption | exact Nat.le_of_ble_eq_true rfl) (by first | assumption | rfl) rfl ⟨rfl, rfl⟩ ⟨Nat.le_refl _, Nat.le_refl _⟩ rfl rfl rfl (fun x72 μ72 hc72 => ?_)
        simp only [Nat.reduceAdd] at hc72
        obtain ⟨rfl, hm72⟩ := hc72
        rw [hm72, sumN_cg hlo 30 (by omega)]
        exact go_ri dX9_ahead_75 tyI ⟨Nat.le_refl _, Nat.le_refl _⟩ (⟨by (repeat (first | rw [if_pos (by omega)] | rw [if_neg (by omega)])), hf⟩)
      refine go_case (1) (fun h43_1 => ?_) (fun h43_1 => ?_)
      ·
        refine go_tabIn (tgt := 76) dX9_ahead_43 (by rw [h43_1]; decide) (by rw [h43_1]; decide) (by rw [h43_1]; try rfl) rfl ?_
        refine go_iload_n dX9_ahead_76 rfl ?_
        exact go_ri dX9_ahead_77 tyI ⟨Nat.le_refl _, Nat.le_refl _⟩ (⟨by (repeat (first | rw [if_pos (by omega)] | rw [if_neg (by omega)])); exact hsl, hf⟩)
      refine go_case (2) (fun h43_2 => ?_) (fun h43_2 => ?_)
      ·
        refine go_tabIn (tgt := 78) dX9_ahead_43 (by rw [h43_2]; decide) (by rw [h43_2]; decide) (by rw [h43_2]; try rfl) rfl ?_
        refine go_aload_n dX9_ahead_78 rfl ?_
        refine go_getR dX9_ahead_79 fl_X9_28 (by first | assumption | exact Nat.le_of_ble_eq_true rfl) (by first | assumption | rfl) rfl (by first | assumption | rfl) ?_
        refine go_getR dX9_ahead_82 fl_X9_92 (by first | assumption | exact Nat.le_of_ble_eq_true rfl) (by first | assumption | rfl) rfl (by first | assumption | rfl) ?_
        refine go_aload_n dX9_ahead_85 rfl ?_
        refine go_getR dX9_ahead_86 fl_X9_28 (by first | assumption | exact Nat.le_of_ble_eq_true rfl) (by first | assumption | rfl) rfl (by first | assumption | rfl) ?_
        refine go_vI (ci := 2) dX9_ahead_89 (ct_X3_mostLoaded (M := 46) (by unfold isMt; omega) hI38) ml_X9_150 mc_X3_mostLoaded mv_X3_mostLoaded rfl (by first | assumption | exact Nat.le_of_ble_eq_true rfl) (by first | assumption | rfl) rfl ⟨rfl, rfl⟩ ⟨Nat.le_refl _, Nat.le_refl _⟩ rfl rfl rfl (fun x89 μ89 hc89 => ?_)
        simp only [Nat.reduceAdd] at hc89
        obtain ⟨rfl, hm89⟩ := hc89
        rw [hm89, mstN_cg hlo 30 (by omega)]
        refine go_iaload dX9_ahead_92 (by first | assumption | exact Nat.le_of_ble_eq_true rfl) (by first | assumption | rfl) (by omega) (by omega) ?_
        try simp (disch := omega) only [ud, ua_same, ua_ne, uf_same, uf_ne]
        exact go_ri dX9_ahead_93 tyI ⟨Nat.le_refl _, Nat.le_refl _⟩ (⟨by (repeat (first | rw [if_pos (by omega)] | rw [if_neg (by omega)])); exact hlo _ hmb.1 (by omega), hf⟩)
      refine go_tabOut (tgt := 94) dX9_ahead_43 (by omega) rfl ?_
      refine go_aload_n dX9_ahead_94 rfl ?_
      refine go_getR dX9_ahead_95 fl_X9_28 (by first | assumption | exact Nat.le_of_ble_eq_true rfl) (by first | assumption | rfl) rfl (by first | assumption | rfl) ?_
      refine go_vI (ci := 2) dX9_ahead_98 (ct_X3_mostLoaded (M := 46) (by unfold isMt; omega) hI38) ml_X9_150 mc_X3_mostLoaded mv_X3_mostLoaded rfl (by first | assumption | exact Nat.le_of_ble_eq_true rfl) (by first | assumption | rfl) rfl ⟨rfl, rfl⟩ ⟨Nat.le_refl _, Nat.le_refl _⟩ rfl rfl rfl (fun x98 μ98 hc98 => ?_)
      simp only [Nat.reduceAdd] at hc98
      obtain ⟨rfl, hm98⟩ := hc98
      rw [hm98, mstN_cg hlo 30 (by omega)]
      exact go_ri dX9_ahead_101 tyI ⟨Nat.le_refl _, Nat.le_refl _⟩ (⟨by (repeat (first | rw [if_pos (by omega)] | rw [if_neg (by omega)])), hf⟩)
    ·
      refine go_ldc dX9_ahead_19 kc_X9_85 rfl ?_
      exact go_ri dX9_ahead_21 tyI ⟨Nat.le_refl _, Nat.le_refl _⟩ (⟨by rw [if_neg (by omega)], fun _ _ => rfl⟩)

