/-! THE REFERENCE: ticks -/
def isLd (j : Int) : Prop := 8 ≤ j ∧ j < 98 ∧ (j - 8) % 3 = 2
/-- a row with other loads -/
def ldF (f g : Int → Int) : Int → Int := fun j => if 8 ≤ j ∧ j < 98 ∧ (j - 8) % 3 = 2 then g ((j - 10) / 3) else f j
theorem ldF_at {f g : Int → Int} {c : Int} (h0 : 0 ≤ c) (h1 : c < 30) : ldF f g (8 + 3 * c + 2) = g c := by
  unfold ldF
  rw [if_pos (by omega), show (8 + 3 * c + 2 - 10) / 3 = c by omega]
theorem ldF_ne {f g : Int → Int} {j : Int} (h : ¬ (8 ≤ j ∧ j < 98 ∧ (j - 8) % 3 = 2)) : ldF f g j = f j := if_neg h
theorem ldF_uf {f g : Int → Int} {c v : Int} (h0 : 0 ≤ c) (h1 : c < 30) : uf (ldF f g) (8 + 3 * c + 2) v = ldF f (uf g c v) := by
  funext j
  by_cases e : j = 8 + 3 * c + 2
  · rw [e, uf_same, ldF_at h0 h1, uf_same]
  · rw [uf_ne e]
    by_cases h : 8 ≤ j ∧ j < 98 ∧ (j - 8) % 3 = 2
    · unfold ldF
      rw [if_pos h, if_pos h, uf_ne (by omega)]
    · rw [ldF_ne h, ldF_ne h]
theorem ldF_self {f : Int → Int} : ldF f (vm f 35) = f := by
  funext j
  by_cases h : 8 ≤ j ∧ j < 98 ∧ (j - 8) % 3 = 2
  · unfold ldF
    rw [if_pos h, vm_35 (by omega) (by omega), show 8 + 3 * ((j - 10) / 3) + 2 = j by omega]
  · rw [ldF_ne h]
theorem ldF_cg {f g g' : Int → Int} (h : EqR g g') : ldF f g = ldF f g' := by
  funext j
  by_cases e : 8 ≤ j ∧ j < 98 ∧ (j - 8) % 3 = 2
  · unfold ldF
    rw [if_pos e, if_pos e, h _ (by omega) (by omega)]
  · rw [ldF_ne e, ldF_ne e]
theorem ldF_ld {f g g' : Int → Int} : ldF (ldF f g) g' = ldF f g' := by
  funext j
  by_cases e : 8 ≤ j ∧ j < 98 ∧ (j - 8) % 3 = 2
  · unfold ldF; rw [if_pos e, if_pos e]
  · rw [ldF_ne e, ldF_ne e, ldF_ne e]
theorem ldF_o {f g : Int → Int} {k v : Int} (h : ¬ (8 ≤ k ∧ k < 98 ∧ (k - 8) % 3 = 2)) : ldF (uf f k v) g = uf (ldF f g) k v := by
  funext j
  by_cases e : j = k
  · rw [e, uf_same, ldF_ne h, uf_same]
  · rw [uf_ne e]
    unfold ldF
    rw [uf_ne e]
/-- what the texts are hangs on the row from 122 on alone -/
theorem vm_q {f : Int → Int} {q : Nat} {k : Int} (h4 : 4 ≤ q) (h32 : q < 32) : vm f q k = if q % 2 = 0 then (if 0 ≤ k ∧ k < 3 then f (122 + 200 * ((q - 4) / 2 : Nat) + k) else 0) else (if 0 ≤ k ∧ k < 96 then cdV (f (122 + 200 * ((q - 4) / 2 : Nat) + 4 + 2 * k)) (f (122 + 200 * ((q - 4) / 2 : Nat) + 4 + 2 * k + 1)) else 0) := by
  unfold vm
  rw [if_neg (by omega), if_neg (by omega), if_neg (by omega), if_neg (by omega), if_neg (by omega), if_pos ⟨h4, h32⟩]
theorem vm_lw2 {f f' : Int → Int} (h : ∀ j, 122 ≤ j → j < 2922 → f' j = f j) : ∀ q, 4 ≤ q → q < 32 → vm f' q = vm f q := by
  intro q h4 h32
  funext k
  rw [vm_q h4 h32, vm_q h4 h32]
  have h14 : ((q - 4) / 2 : Nat) < 14 := by omega
  split
  · split
    · rw [h _ (by omega) (by omega)]
    · rfl
  · split
    · rw [h _ (by omega) (by omega), h _ (by omega) (by omega)]
    · rfl
theorem txI_cg {f f' : Int → Int} (h1 : f' 1 = f 1) (h : ∀ j, 122 ≤ j → j < 2922 → f' j = f j) (hx : 0 ≤ f 1 ∧ f 1 ≤ 14) (hb : lwI (vm f) (f 1).toNat) (ht : txI f) : txI f' := by
  intro i k hi h0 hk
  rw [h1] at hi
  have hl := hb.2.1 i hi
  rw [vm_lw (by omega) (by omega) (by omega)] at hl
  rw [h _ (by omega) (by omega)] at hk
  rw [h _ (by omega) (by omega), h _ (by omega) (by omega)]
  exact ht i k hi h0 hk
theorem tI_cg {f f' : Int → Int} (h1 : f' 1 = f 1) (h : ∀ j, 122 ≤ j → j < 2922 → f' j = f j) (hT : tI f) : tI f' := by
  obtain ⟨a, b, c⟩ := hT
  refine ⟨by rw [h1]; exact a, by rw [h1]; exact lwI_fr (vm_lw2 h) b, txI_cg h1 h a b c⟩
theorem LM_cg {f f' : Int → Int} (h1 : f' 1 = f 1) (h : ∀ j, 122 ≤ j → j < 2922 → f' j = f j) (hT : tI f) : LM (vm f') 32 = LM (vm f) 32 := by
  show LLc (vm f') (f' 1).toNat = LLc (vm f) (f 1).toNat
  rw [h1]
  exact LLc_fr (by have := hT.1; omega) (vm_lw2 h)
theorem vm_r {f f' : Int → Int} {w : Int} (h : ∀ c, 0 ≤ c → c < 30 → f' (8 + 3 * c + w) = f (8 + 3 * c + w)) : (w = 0 → vm f' 33 = vm f 33) ∧ (w = 1 → vm f' 34 = vm f 34) ∧ (w = 2 → vm f' 35 = vm f 35) := by
  refine ⟨fun e => ?_, fun e => ?_, fun e => ?_⟩ <;> subst e <;> funext c <;> by_cases hc : 0 ≤ c ∧ c < 30
  · rw [vm_33 hc.1 hc.2, vm_33 hc.1 hc.2]; exact h c hc.1 hc.2
  · exact (if_neg hc).trans (if_neg hc).symm
  · rw [vm_34 hc.1 hc.2, vm_34 hc.1 hc.2]; exact h c hc.1 hc.2
  · exact (if_neg hc).trans (if_neg hc).symm
  · rw [vm_35 hc.1 hc.2, vm_35 hc.1 hc.2]; exact h c hc.1 hc.2
  · exact (if_neg hc).trans (if_neg hc).symm
theorem vm_t {f f' : Int → Int} (h : ∀ i, 0 ≤ i → i < 24 → f' (98 + i) = f (98 + i)) : vm f' 36 = vm f 36 := by
  funext c
  by_cases hc : 0 ≤ c ∧ c < 24
  · rw [vm_36 hc.1 hc.2, vm_36 hc.1 hc.2]; exact h c hc.1 hc.2
  · exact (if_neg hc).trans (if_neg hc).symm
/-- a row behind a tick -/
def tkR (f : Int → Int) (s : TS) : Int → Int := uf (uf (uf (ldF f s.1) 6 s.2.1) 3 s.2.2.1) 5 s.2.2.2
theorem tkR_o {f : Int → Int} {s : TS} {j : Int} (h : ¬ (8 ≤ j ∧ j < 98 ∧ (j - 8) % 3 = 2)) (h3 : j ≠ 3) (h5 : j ≠ 5) (h6 : j ≠ 6) : tkR f s j = f j := by
  unfold tkR; rw [uf_ne h5, uf_ne h3, uf_ne h6, ldF_ne h]
theorem tkR_l {f : Int → Int} {s : TS} {c : Int} (h0 : 0 ≤ c) (h1 : c < 30) : tkR f s (8 + 3 * c + 2) = s.1 c := by
  unfold tkR; rw [uf_ne (by omega), uf_ne (by omega), uf_ne (by omega), ldF_at h0 h1]
theorem tkR_3 {f : Int → Int} {s : TS} : tkR f s 3 = s.2.2.1 ∧ tkR f s 5 = s.2.2.2 ∧ tkR f s 6 = s.2.1 := by
  unfold tkR
  refine ⟨?_, ?_, ?_⟩
  · rw [uf_ne (by decide), uf_same]
  · rw [uf_same]
  · rw [uf_ne (by decide), uf_ne (by decide), uf_same]
theorem tkR_cg {f : Int → Int} {s t : TS} (h : tsE s t) : tkR f s = tkR f t := by
  unfold tkR; rw [ldF_cg h.1, h.2]
theorem tkR_ext {f g : Int → Int} {s : TS} (h : ∀ j, ¬ (8 ≤ j ∧ j < 98 ∧ (j - 8) % 3 = 2) → j ≠ 3 → j ≠ 5 → j ≠ 6 → g j = f j) (hl : ∀ c, 0 ≤ c → c < 30 → g (8 + 3 * c + 2) = s.1 c) (h3 : g 3 = s.2.2.1) (h5 : g 5 = s.2.2.2) (h6 : g 6 = s.2.1) : g = tkR f s := by
  funext j
  by_cases e3 : j = 3
  · rw [e3, h3, tkR_3.1]
  by_cases e5 : j = 5
  · rw [e5, h5, tkR_3.2.1]
  by_cases e6 : j = 6
  · rw [e6, h6, tkR_3.2.2]
  by_cases e : 8 ≤ j ∧ j < 98 ∧ (j - 8) % 3 = 2
  · have := hl ((j - 10) / 3) (by omega) (by omega)
    have e2 := tkR_l (f := f) (s := s) (c := (j - 10) / 3) (by omega) (by omega)
    rw [show 8 + 3 * ((j - 10) / 3) + 2 = j by omega] at this e2
    rw [this, e2]
  · rw [h j e e3 e5 e6, tkR_o e e3 e5 e6]
theorem tkR_tk {f : Int → Int} {s t : TS} : tkR (tkR f s) t = tkR f t := by
  refine tkR_ext (fun j h h3 h5 h6 => ?_) (fun c h0 h1 => tkR_l h0 h1) tkR_3.1 tkR_3.2.1 tkR_3.2.2
  rw [tkR_o h h3 h5 h6, tkR_o h h3 h5 h6]
theorem tkR_self {f : Int → Int} : f = tkR f (tS (vm f) 32) := by
  refine tkR_ext (fun _ _ _ _ _ => rfl) (fun c h0 h1 => ?_) rfl rfl rfl
  exact (vm_35 h0 h1).symm
theorem tkR_vm {f : Int → Int} {s : TS} : vm (tkR f s) 33 = vm f 33 ∧ vm (tkR f s) 34 = vm f 34 ∧ vm (tkR f s) 36 = vm f 36 ∧ (∀ q, 4 ≤ q → q < 32 → vm (tkR f s) q = vm f q) ∧ tkR f s 0 = f 0 ∧ tkR f s 1 = f 1 ∧ tkR f s 2 = f 2 ∧ tkR f s 4 = f 4 := by
  refine ⟨(vm_r (w := 0) (fun c h0 h1 => tkR_o (by omega) (by omega) (by omega) (by omega))).1 rfl, (vm_r (w := 1) (fun c h0 h1 => tkR_o (by omega) (by omega) (by omega) (by omega))).2.1 rfl, vm_t (fun c h0 h1 => tkR_o (by omega) (by omega) (by omega) (by omega)), vm_lw2 (fun j h0 h1 => tkR_o (by omega) (by omega) (by omega) (by omega)), tkR_o (by omega) (by omega) (by omega) (by omega), tkR_o (by omega) (by omega) (by omega) (by omega), tkR_o (by omega) (by omega) (by omega) (by omega), tkR_o (by omega) (by omega) (by omega) (by omega)⟩
theorem tkR_ts {f : Int → Int} {s : TS} : tsE (tS (vm (tkR f s)) 32) s := by
  refine ⟨fun c h0 h1 => ?_, ?_⟩
  · show vm (tkR f s) 35 c = _
    rw [vm_35 h0 h1, tkR_l h0 h1]
  · show (tkR f s 6, tkR f s 3, tkR f s 5) = _
    rw [tkR_3.1, tkR_3.2.1, tkR_3.2.2]
theorem mdI_tk {f : Int → Int} {s : TS} (h : mdI f) (hl : lB s.1) (h9 : 0 ≤ s.2.2.1 ∧ s.2.2.1 ≤ 23) : mdI (tkR f s) := by
  obtain ⟨v3, v4, v6, vl, e0, e1, e2, e4⟩ := tkR_vm (f := f) (s := s)
  have ht := md_t h
  obtain ⟨⟨iK, iS, iL, iT, iTn, iD, iH, iF, iX, iW⟩, hx⟩ := h
  refine ⟨⟨by rw [v3]; exact iK, by rw [v4]; exact iS, fun c h0 h1 => ?_, by rw [v6]; exact iT, ?_, ?_, ?_, ?_, ?_, ?_⟩, txI_cg e1 (fun j h0 h1 => tkR_o (by omega) (by omega) (by omega) (by omega)) iX iW hx⟩
  · show 0 ≤ vm (tkR f s) 35 c ∧ _
    rw [vm_35 h0 h1, tkR_l h0 h1]; exact hl c h0 h1
  · show 0 ≤ tkR f s 0 ∧ tkR f s 0 ≤ 24
    rw [e0]; exact iTn
  · show 0 ≤ tkR f s 2 ∧ tkR f s 2 ≤ 5
    rw [e2]; exact iD
  · show 0 ≤ tkR f s 3 ∧ tkR f s 3 ≤ 23
    rw [tkR_3.1]; exact h9
  · show 0 ≤ tkR f s 4 ∧ tkR f s 4 ≤ 9
    rw [e4]; exact iF
  · show 0 ≤ tkR f s 1 ∧ tkR f s 1 ≤ 14
    rw [e1]; exact iX
  · show lwI (vm (tkR f s)) (tkR f s 1).toNat
    rw [e1]; exact lwI_fr vl iW
theorem ph_tk {f : Int → Int} {s : TS} (hT : tI f) : phC (vm (tkR f s)) 32 = phC (vm f) 32 := by
  funext c
  unfold phC
  rw [LM_cg (f := f) (f' := tkR f s) tkR_vm.2.2.2.2.2.1 (fun j h0 h1 => tkR_o (by omega) (by omega) (by omega) (by omega)) hT]
  show plainH _ (vm (tkR f s) 34 c) _ = plainH _ (vm f 34 c) _
  rw [tkR_vm.2.1]
/-- a tick of a row -/
abbrev tkV (f : Int → Int) : TS × Int := tkF (vm f 33) (vm f 34) (phC (vm f) 32) (f 4) (tS (vm f) 32)
abbrev tkVN (f : Int → Int) (n : Nat) : TS × Int := tkN (vm f 33) (vm f 34) (phC (vm f) 32) (f 4) (tS (vm f) 32) n
theorem tkV_s {f : Int → Int} {n : Nat} (hT : tI f) : tsE (tkV (tkR f (tkVN f n).1)).1 (tkVN f (n + 1)).1 ∧ (tkVN f (n + 1)).2 = (tkVN f n).2 + (tkV (tkR f (tkVN f n).1)).2 := by
  have h := tkF_cg (k := vm f 33) (st := vm f 34) (ph := phC (vm f) 32) (fall := f 4) EqR.rf EqR.rf EqR.rf (tkR_ts (f := f) (s := (tkVN f n).1))
  have e : tkV (tkR f (tkVN f n).1) = tkF (vm f 33) (vm f 34) (phC (vm f) 32) (f 4) (tS (vm (tkR f (tkVN f n).1)) 32) := by
    unfold tkV
    rw [tkR_vm.1, tkR_vm.2.1, ph_tk hT, tkR_vm.2.2.2.2.2.2.2]
  rw [e]
  refine ⟨h.1, ?_⟩
  rw [h.2]
  rfl
def hlF (g : Int → Int) : Int → Int := fun c => max 0 (min 999 (g c))
def hlN (g : Int → Int) (i : Int) : Int → Int := fun c => if c < i then max 0 (min 999 (g c)) else g c

set_option maxRecDepth 100000 in
set_option maxHeartbeats 4000000 in
theorem ct_X10_holdsLoads {l : Launch} {D : va_G} {cA : Nat → ClassId} {μ : Mem} : CtN l D cA yX10_holdsLoads cX10_holdsLoads 2 none 1 [vr 87] μ (Pv (fun μ' => μ' = ua μ 88 (ldF (μ 88) (hlF (vm (μ 88) 35))))) := by
  refine Ct.of (own := RX10) (by decide +kernel) rfl (fun σ => Nat.le_of_ble_eq_true rfl) (fun hM hP ha => ?_)
  obtain ⟨m87, r88, s88, r89, s89, r90, s90, r91, s91, r92, s92, r93, s93, r94, s94, r95, s95, r96, s96, r97, s97, r98, s98, r99, s99, r100, s100, r101, s101, r102, s102, r103, s103, r104, s104, r105, s105, r106, s106, r107, s107, r108, s108, r109, s109, r110, s110, r111, s111, r112, s112⟩ := md_f
  have loop : ∀ (m : Nat) (i : Int) (μ1 : Mem), 30 - i = (m : Nat) → 0 ≤ i → (μ1 = ua μ 88 (ldF (μ 88) (hlN (vm (μ 88) 35) i))) → Go l D cA none RX10 cX10_holdsLoads 2 none (1, 0, 0) (QN (Pv (fun μ' => μ' = ua μ 88 (ldF (μ 88) (hlF (vm (μ 88) 35)))))) 113 ρ0 0 0 2 [(0, vr 87), (1, vi i)] [] μ1 := by
    intro m
    induction m with
    | zero =>
      intro i μ1 hm hv hm1
      refine go_iload_n dX10_holdsLoads_2 rfl ?_
      refine go_bipush dX10_holdsLoads_3 rfl (by decide) ?_
      refine go_icmp_ge (tgt := 32) dX10_holdsLoads_5 rfl (fun h5 => ?_) (fun h5 => ?_)
      ·
        exact go_rv dX10_holdsLoads_32 rfl ⟨Nat.le_refl _, Nat.le_refl _⟩ (by rw [hm1]; congr 1; exact ldF_cg (fun c h0 h1 => if_pos (by omega)))
      ·
        exact absurd h5 (by omega)
    | succ m ih =>
      intro i μ1 hm hv hm1
      refine go_iload_n dX10_holdsLoads_2 rfl ?_
      refine go_bipush dX10_holdsLoads_3 rfl (by decide) ?_
      refine go_icmp_ge (tgt := 32) dX10_holdsLoads_5 rfl (fun h5 => ?_) (fun h5 => ?_)
      ·
        exact absurd h5 (by omega)
      ·
        subst hm1
        refine go_aload_n dX10_holdsLoads_8 rfl ?_
        refine go_iload_n dX10_holdsLoads_9 rfl ?_
        refine go_iconst dX10_holdsLoads_10 rfl ?_
        refine go_aload_n dX10_holdsLoads_11 rfl ?_
        refine go_iload_n dX10_holdsLoads_12 rfl ?_
        refine go_iconst dX10_holdsLoads_13 rfl ?_
        refine go_vI (ci := 9) dX10_holdsLoads_14 (ct_X10_of _ _ (by omega) (by omega) (by omega) (by omega)) ml_X10_92 mc_X10_of mv_X10_of rfl (by first | assumption | exact Nat.le_of_ble_eq_true rfl) (by first | assumption | rfl) rfl ⟨rfl, rfl⟩ ⟨Nat.le_refl _, Nat.le_refl _⟩ rfl rfl rfl (fun x14 μ14 hc14 => ?_)
        rw [ua_same, ldF_at hv (by omega), show hlN (vm (μ 88) 35) i i = vm (μ 88) 35 i from if_neg (by omega)] at hc14
        obtain ⟨rfl, hm14⟩ := hc14
        rw [hm14]
        refine go_sipush dX10_holdsLoads_17 rfl (by decide) ?_
        refine go_sI dX10_holdsLoads_20 (ct_X10_within _ _ (by omega)) ml_X10_103 mc_X10_within ms_X10_within ⟨rfl, rfl⟩ ⟨Nat.le_refl _, Nat.le_refl _⟩ rfl rfl rfl (fun x20 μ20 hc20 => ?_)
        obtain ⟨rfl, hm20⟩ := hc20
        rw [hm20]
        refine go_vV (ci := 9) dX10_holdsLoads_23 (ct_X10_sets _ _ _ (by omega) (by omega) (by omega) (by omega)) ml_X10_127 mc_X10_sets mv_X10_sets rfl (by first | assumption | exact Nat.le_of_ble_eq_true rfl) (by first | assumption | rfl) rfl ⟨rfl, rfl⟩ ⟨Nat.le_refl _, Nat.le_refl _⟩ rfl rfl rfl (fun μ23 hc23 => ?_)
        subst hc23
        refine go_iinc dX10_holdsLoads_26 rfl rfl ⟨by omega, by omega⟩ ?_
        refine go_goto (tgt := 2) dX10_holdsLoads_29 rfl ?_
        refine go_drop (ih _ _ (by omega) (by omega) ?_) rfl
        rw [ud_ua, ldF_uf hv (by omega)]
        congr 2
        funext c
        unfold uf hlN
        by_cases e : c = i
        · rw [if_pos e, if_pos (by omega), e]
        · rw [if_neg e]
          by_cases e2 : c < i
          · rw [if_pos e2, if_pos (by omega)]
          · rw [if_neg e2, if_neg (by omega)]
  refine go_iconst dX10_holdsLoads_0 rfl ?_
  refine go_istore_n dX10_holdsLoads_1 rfl ?_
  refine go_drop (loop 30 0 μ (by omega) (by omega) ?_) rfl
  rw [show ldF (μ 88) (hlN (vm (μ 88) 35) 0) = μ 88 from (ldF_cg (fun c h0 h1 => if_neg (by omega))).trans ldF_self, ua_id]

def adN (g : Int → Int) (m i : Int) : Int → Int := fun c => if c < i then g c + m else g c
def dfN (k g : Int → Int) (i : Int) : Int → Int := fun c => if c < i then g c - dftD k g c + dftI k g c else g c
theorem adN_up {g : Int → Int} {m i : Int} : uf (adN g m i) i (g i + m) = adN g m (i + 1) := by
  funext c
  unfold uf adN
  by_cases e : c = i
  · rw [if_pos e, if_pos (by omega), e]
  · rw [if_neg e]
    by_cases e2 : c < i
    · rw [if_pos e2, if_pos (by omega)]
    · rw [if_neg e2, if_neg (by omega)]
theorem dfN_up {k g : Int → Int} {i : Int} : uf (dfN k g i) i (g i - dftD k g i + dftI k g i) = dfN k g (i + 1) := by
  funext c
  unfold uf dfN
  by_cases e : c = i
  · rw [if_pos e, if_pos (by omega), e]
  · rw [if_neg e]
    by_cases e2 : c < i
    · rw [if_pos e2, if_pos (by omega)]
    · rw [if_neg e2, if_neg (by omega)]
theorem vm_ld {f g : Int → Int} : EqR (vm (ldF f g) 35) g := fun c h0 h1 => by rw [vm_35 h0 h1, ldF_at h0 h1]
theorem hl_ld {f g g' : Int → Int} (h : EqR (hlF g) g') : ldF (ldF f g) (hlF (vm (ldF f g) 35)) = ldF f g' := by
  rw [ldF_ld]
  refine ldF_cg (fun c h0 h1 => ?_)
  rw [← h c h0 h1]
  show max 0 (min 999 (vm (ldF f g) 35 c)) = max 0 (min 999 (g c))
  rw [vm_ld c h0 h1]
theorem hl_1 {g : Int → Int} {m : Int} (hb : lB g) (hm : 0 ≤ m) : EqR (hlF (adN g m 30)) (snwF g m 30) := by
  intro c h0 h1
  have := hb c h0 h1
  unfold hlF adN snwF
  rw [if_pos h1, if_pos ⟨h0, h1⟩]
  omega
theorem hl_2 {k g : Int → Int} (hb : lB g) : EqR (hlF (dfN k g 30)) (dftA k g) := by
  intro c h0 h1
  have b1 := hb c h0 h1
  have b2 := dftD_b (kinds := k) b1.1 b1.2
  have b3 : 0 ≤ dftI k g c := by
    unfold dftI
    split
    · omega
    · have b4 := hb (c - 1) (by omega) (by omega)
      exact (dftD_b b4.1 b4.2).1
  unfold hlF dfN dftA
  rw [if_pos h1, if_pos ⟨h0, h1⟩]
  omega
theorem hl_3 {g : Int → Int} (h : slB g (-1) 0) : EqR (hlF g) (clpF g 30) := by
  intro c h0 h1
  have := h c h0 h1
  unfold hlF clpF
  rw [if_pos ⟨h0, h1⟩]
  omega

set_option maxRecDepth 100000 in
set_option maxHeartbeats 4000000 in
theorem ct_X10_ticks {l : Launch} {D : va_G} {cA : Nat → ClassId} {μ : Mem} (hI : mdI (μ 88)) : CtN l D cA yX10_ticks cX10_ticks 6 (some .int) 7 [vr 87] μ (Pi (fun x μ' => x = (tkV (μ 88)).2 ∧ μ' 88 = tkR (μ 88) (tkV (μ 88)).1 ∧ ∀ q, q ≠ 88 → q ≠ 99 → q ≠ 108 → q ≠ 109 → μ' q = μ q)) := by
  refine Ct.of (own := RX10) (by decide +kernel) rfl (fun σ => Nat.le_of_ble_eq_true rfl) (fun hM hP ha => ?_)
  obtain ⟨m87, r88, s88, r89, s89, r90, s90, r91, s91, r92, s92, r93, s93, r94, s94, r95, s95, r96, s96, r97, s97, r98, s98, r99, s99, r100, s100, r101, s101, r102, s102, r103, s103, r104, s104, r105, s105, r106, s106, r107, s107, r108, s108, r109, s109, r110, s110, r111, s111, r112, s112⟩ := md_f
  obtain ⟨iK, iS, iL, iT, iTn, iD, iH, iF, iX⟩ := md_b hI
  have hT := md_t hI
  have iLv : lB (vm (μ 88) 35) := hI.1.2.2.1
  have hdb := dv_b (dz (μ 88 6))
  have hm0 : 0 ≤ (μ 88 4 + dv (dz (μ 88 6)) % 3) := by omega
  have hb1 : lB (snwF (vm (μ 88) 35) (μ 88 4 + dv (dz (μ 88 6)) % 3) 30) := snw_b iLv hm0
  have hb2 : lB (dftA (vm (μ 88) 33) (snwF (vm (μ 88) 35) (μ 88 4 + dv (dz (μ 88 6)) % 3) 30)) := dftA_b hb1
  have hsl0 : slB (dftA (vm (μ 88) 33) (snwF (vm (μ 88) 35) (μ 88 4 + dv (dz (μ 88 6)) % 3) 30)) 4 0 := fun q q0 q1 => by have := hb2 q q0 q1; omega
  have lpD : ∀ (m : Nat) (row n : Int) (g : Int → Int) (μ1 : Mem), row + 1 = (m : Nat) → row ≤ 4 → (slN (fun c => kHold (vm (μ 88) 33 c) (phC (vm (μ 88)) 32 c) (sunV (μ 88 3))) (vm (μ 88) 34) 5 ((dftA (vm (μ 88) 33) (snwF (vm (μ 88) 35) (μ 88 4 + dv (dz (μ 88 6)) % 3) 30)), 0)) = slN (fun c => kHold (vm (μ 88) 33 c) (phC (vm (μ 88)) 32 c) (sunV (μ 88 3))) (vm (μ 88) 34) (row + 1).toNat (g, n) → μ1 88 = ldF (uf (μ 88) 6 (dz (μ 88 6))) g → slB g row 0 → 0 ≤ n → n ≤ 24 - 6 * row → (∀ q, q ≠ 88 → q ≠ 99 → q ≠ 108 → q ≠ 109 → μ1 q = μ q) → Go l D cA none RX10 cX10_ticks 6 (some .int) (7, 0, 0) (QN (Pi (fun x μ' => x = (tkV (μ 88)).2 ∧ μ' 88 = tkR (μ 88) (tkV (μ 88)).1 ∧ ∀ q, q ≠ 88 → q ≠ 99 → q ≠ 108 → q ≠ 109 → μ' q = μ q))) 113 ρ0 0 0 164 [(0, vr 87), (2, vi n), (3, vi row)] [] μ1 := by
    intro m
    induction m with
    | zero =>
      intro row n g μ1 hm hr4 hres h88 hsb hn0 hn1 hf
      refine go_iload_n dX10_ticks_164 rfl ?_
      refine go_if_lt (tgt := 273) dX10_ticks_165 rfl (fun h165 => ?_) (fun h165 => ?_)
      ·
        refine go_aload_n dX10_ticks_273 rfl ?_
        have hfA : ∀ q, q ≠ 88 → q ≠ 99 → q ≠ 108 → q ≠ 109 → ua μ1 88 (ldF (μ1 88) (hlF (vm (μ1 88) 35))) q = μ q := fun q a b c d => (ua_ne a).trans (hf q a b c d)
        rw [show (row + 1).toNat = 0 by omega, show slN (fun c => kHold (vm (μ 88) 33 c) (phC (vm (μ 88)) 32 c) (sunV (μ 88 3))) (vm (μ 88) 34) 0 (g, n) = (g, n) from rfl] at hres
        refine go_vV (ci := 9) dX10_ticks_274 (ct_X10_holdsLoads) ml_X10_160 mc_X10_holdsLoads mv_X10_holdsLoads rfl (by first | assumption | exact Nat.le_of_ble_eq_true rfl) (by first | assumption | rfl) rfl ⟨rfl, rfl⟩ ⟨Nat.le_refl _, Nat.le_refl _⟩ rfl rfl rfl (fun μ274 hc274 => ?_)
        subst hc274
        have h88b : ua μ1 88 (ldF (μ1 88) (hlF (vm (μ1 88) 35))) 88 = ldF (uf (μ 88) 6 (dz (μ 88 6))) (clpF g 30) := by rw [ua_same, h88]; exact hl_ld (hl_3 (by rw [show row = -1 by omega] at hsb; exact hsb))
        generalize ua μ1 88 (ldF (μ1 88) (hlF (vm (μ1 88) 35))) = μ2 at h88b hfA ⊢
        have e3 : μ2 88 3 = μ 88 3 := by rw [h88b, ldF_ne (by omega), uf_ne (by omega)]
        have e5 : μ2 88 5 = μ 88 5 := by rw [h88b, ldF_ne (by omega), uf_ne (by omega)]
        refine go_aload_n dX10_ticks_277 rfl ?_
        refine go_getR dX10_ticks_278 fl_X10_7 (by first | assumption | exact Nat.le_of_ble_eq_true rfl) (by first | assumption | rfl) rfl (by first | assumption | rfl) ?_
        refine go_iconst dX10_ticks_281 rfl ?_
        refine go_dup2 dX10_ticks_282 rfl rfl ?_
        refine go_iaload dX10_ticks_283 (by first | assumption | exact Nat.le_of_ble_eq_true rfl) (by first | assumption | rfl) (by omega) (by omega) ?_
        try simp (disch := omega) only [ud, ua_same, ua_ne, uf_same, uf_ne]
        rw [e5]
        refine go_iload_n dX10_ticks_284 rfl ?_
        refine go_iaddw dX10_ticks_285 ?_
        refine go_iastore dX10_ticks_286 (by first | assumption | exact Nat.le_of_ble_eq_true rfl) (by first | assumption | rfl) (by omega) (by omega) ?_
        refine go_aload_n dX10_ticks_287 rfl ?_
        refine go_getR dX10_ticks_288 fl_X10_7 (by first | assumption | exact Nat.le_of_ble_eq_true rfl) (by first | assumption | rfl) rfl (by first | assumption | rfl) ?_
        refine go_iconst dX10_ticks_291 rfl ?_
        refine go_aload_n dX10_ticks_292 rfl ?_
        refine go_getR dX10_ticks_293 fl_X10_7 (by first | assumption | exact Nat.le_of_ble_eq_true rfl) (by first | assumption | rfl) rfl (by first | assumption | rfl) ?_
        refine go_iconst dX10_ticks_296 rfl ?_
        refine go_iaload dX10_ticks_297 (by first | assumption | exact Nat.le_of_ble_eq_true rfl) (by first | assumption | rfl) (by omega) (by omega) ?_
        try simp (disch := omega) only [ud, ua_same, ua_ne, uf_same, uf_ne]
        rw [e3]
        refine go_bipush dX10_ticks_298 rfl (by decide) ?_
        refine go_icmp_ne (tgt := 307) dX10_ticks_300 rfl (fun h300 => ?_) (fun h300 => ?_)
        ·
          refine go_aload_n dX10_ticks_307 rfl ?_
          refine go_getR dX10_ticks_308 fl_X10_7 (by first | assumption | exact Nat.le_of_ble_eq_true rfl) (by first | assumption | rfl) rfl (by first | assumption | rfl) ?_
          refine go_iconst dX10_ticks_311 rfl ?_
          refine go_iaload dX10_ticks_312 (by first | assumption | exact Nat.le_of_ble_eq_true rfl) (by first | assumption | rfl) (by omega) (by omega) ?_
          try simp (disch := omega) only [ud, ua_same, ua_ne, uf_same, uf_ne]
          rw [e3]
          refine go_iconst dX10_ticks_313 rfl ?_
          refine go_iadd dX10_ticks_314 ⟨by omega, by omega⟩ ?_
          refine go_iastore dX10_ticks_315 (by first | assumption | exact Nat.le_of_ble_eq_true rfl) (by first | assumption | rfl) (by omega) (by omega) ?_
          refine go_iload_n dX10_ticks_316 rfl ?_
          refine go_ri dX10_ticks_317 tyI ⟨Nat.le_refl _, Nat.le_refl _⟩ (?_)
          refine ⟨by show n = (slN (fun c => kHold (vm (μ 88) 33 c) (phC (vm (μ 88)) 32 c) (sunV (μ 88 3))) (vm (μ 88) 34) 5 ((dftA (vm (μ 88) 33) (snwF (vm (μ 88) 35) (μ 88 4 + dv (dz (μ 88 6)) % 3) 30)), 0)).2; rw [hres], ?_, ?_⟩
          · refine tkR_ext (fun j h h3 h5 h6 => ?_) (fun c h0 h1 => ?_) ?_ ?_ ?_
            · simp (disch := omega) only [ud, ua_same, ua_ne, uf_same, uf_ne]; rw [h88b, ldF_ne h, uf_ne h6]
            · simp (disch := omega) only [ud, ua_same, ua_ne, uf_same, uf_ne]; rw [h88b, ldF_at h0 h1]; show _ = clpF (slN (fun c => kHold (vm (μ 88) 33 c) (phC (vm (μ 88)) 32 c) (sunV (μ 88 3))) (vm (μ 88) 34) 5 ((dftA (vm (μ 88) 33) (snwF (vm (μ 88) 35) (μ 88 4 + dv (dz (μ 88 6)) % 3) 30)), 0)).1 30 c; rw [hres]
            · rw [ud_s, uf_same]; exact (if_pos (by omega) : (if μ 88 3 < 23 then μ 88 3 + 1 else 0) = _).symm
            · simp (disch := omega) only [ud, ua_same, ua_ne, uf_same, uf_ne]; show _ = wr (μ 88 5 + (slN (fun c => kHold (vm (μ 88) 33 c) (phC (vm (μ 88)) 32 c) (sunV (μ 88 3))) (vm (μ 88) 34) 5 ((dftA (vm (μ 88) 33) (snwF (vm (μ 88) 35) (μ 88 4 + dv (dz (μ 88 6)) % 3) 30)), 0)).2); rw [hres]
            · simp (disch := omega) only [ud, ua_same, ua_ne, uf_same, uf_ne]; rw [h88b, ldF_ne (by omega), uf_same]; rfl
          · intro q a b c d; simp (disch := omega) only [ud, ua_ne]; exact hfA q a b c d
        ·
          refine go_iconst dX10_ticks_303 rfl ?_
          refine go_goto (tgt := 315) dX10_ticks_304 rfl ?_
          refine go_iastore dX10_ticks_315 (by first | assumption | exact Nat.le_of_ble_eq_true rfl) (by first | assumption | rfl) (by omega) (by omega) ?_
          refine go_iload_n dX10_ticks_316 rfl ?_
          refine go_ri dX10_ticks_317 tyI ⟨Nat.le_refl _, Nat.le_refl _⟩ (?_)
          refine ⟨by show n = (slN (fun c => kHold (vm (μ 88) 33 c) (phC (vm (μ 88)) 32 c) (sunV (μ 88 3))) (vm (μ 88) 34) 5 ((dftA (vm (μ 88) 33) (snwF (vm (μ 88) 35) (μ 88 4 + dv (dz (μ 88 6)) % 3) 30)), 0)).2; rw [hres], ?_, ?_⟩
          · refine tkR_ext (fun j h h3 h5 h6 => ?_) (fun c h0 h1 => ?_) ?_ ?_ ?_
            · simp (disch := omega) only [ud, ua_same, ua_ne, uf_same, uf_ne]; rw [h88b, ldF_ne h, uf_ne h6]
            · simp (disch := omega) only [ud, ua_same, ua_ne, uf_same, uf_ne]; rw [h88b, ldF_at h0 h1]; show _ = clpF (slN (fun c => kHold (vm (μ 88) 33 c) (phC (vm (μ 88)) 32 c) (sunV (μ 88 3))) (vm (μ 88) 34) 5 ((dftA (vm (μ 88) 33) (snwF (vm (μ 88) 35) (μ 88 4 + dv (dz (μ 88 6)) % 3) 30)), 0)).1 30 c; rw [hres]
            · rw [ud_s, uf_same]; exact (if_neg (by omega) : (if μ 88 3 < 23 then μ 88 3 + 1 else 0) = _).symm
            · simp (disch := omega) only [ud, ua_same, ua_ne, uf_same, uf_ne]; show _ = wr (μ 88 5 + (slN (fun c => kHold (vm (μ 88) 33 c) (phC (vm (μ 88)) 32 c) (sunV (μ 88 3))) (vm (μ 88) 34) 5 ((dftA (vm (μ 88) 33) (snwF (vm (μ 88) 35) (μ 88 4 + dv (dz (μ 88 6)) % 3) 30)), 0)).2); rw [hres]
            · simp (disch := omega) only [ud, ua_same, ua_ne, uf_same, uf_ne]; rw [h88b, ldF_ne (by omega), uf_same]; rfl
          · intro q a b c d; simp (disch := omega) only [ud, ua_ne]; exact hfA q a b c d
      ·
        exact absurd h165 (by omega)
    | succ m ih =>
      intro row n g μ1 hm hr4 hres h88 hsb hn0 hn1 hf
      have inE : ∀ (m2 : Nat) (c n : Int) (g : Int → Int) (μ1 : Mem), 6 * row + 6 - c = (m2 : Nat) → 6 * row ≤ c → (slN (fun c => kHold (vm (μ 88) 33 c) (phC (vm (μ 88)) 32 c) (sunV (μ 88 3))) (vm (μ 88) 34) 5 ((dftA (vm (μ 88) 33) (snwF (vm (μ 88) 35) (μ 88 4 + dv (dz (μ 88 6)) % 3) 30)), 0)) = slN (fun c => kHold (vm (μ 88) 33 c) (phC (vm (μ 88)) 32 c) (sunV (μ 88 3))) (vm (μ 88) 34) row.toNat (slR (fun c => kHold (vm (μ 88) 33 c) (phC (vm (μ 88)) 32 c) (sunV (μ 88 3))) (vm (μ 88) 34) m2 (g, n) c) → μ1 88 = ldF (uf (μ 88) 6 (dz (μ 88 6))) g → slB g row (c - 6 * row) → 0 ≤ n → n ≤ 30 - 6 * row - (m2 : Nat) → (∀ q, q ≠ 88 → q ≠ 99 → q ≠ 108 → q ≠ 109 → μ1 q = μ q) → Go l D cA none RX10 cX10_ticks 6 (some .int) (7, 0, 0) (QN (Pi (fun x μ' => x = (tkV (μ 88)).2 ∧ μ' 88 = tkR (μ 88) (tkV (μ 88)).1 ∧ ∀ q, q ≠ 88 → q ≠ 99 → q ≠ 108 → q ≠ 109 → μ' q = μ q))) 113 ρ0 0 0 174 [(0, vr 87), (2, vi n), (3, vi row), (4, vi c)] [] μ1 := by
        intro m2
        induction m2 with
        | zero =>
          intro c n g μ1 hm2 hc hres h88 hsb hn0 hn1 hf
          refine go_iload dX10_ticks_174 rfl ?_
          refine go_bipush dX10_ticks_176 rfl (by decide) ?_
          refine go_iload_n dX10_ticks_178 rfl ?_
          refine go_imul dX10_ticks_179 ⟨by omega, by omega⟩ ?_
          refine go_bipush dX10_ticks_180 rfl (by decide) ?_
          refine go_iadd dX10_ticks_182 ⟨by omega, by omega⟩ ?_
          refine go_icmp_ge (tgt := 267) dX10_ticks_183 rfl (fun h183 => ?_) (fun h183 => ?_)
          ·
            refine go_iinc dX10_ticks_267 rfl rfl ⟨by omega, by omega⟩ ?_
            refine go_goto (tgt := 164) dX10_ticks_270 rfl ?_
            refine go_drop (ih _ _ g μ1 (by omega) (by omega) ?_ h88 ?_ (by omega) (by omega) hf) rfl
            · rw [hres, show (row + -1 + 1).toNat = row.toNat by omega]; rfl
            · rw [show row + -1 = row - 1 by omega]; rw [show c - 6 * row = 6 by omega] at hsb; exact slB_row hsb
          ·
            exact absurd h183 (by omega)
        | succ m2 ih2 =>
          intro c n g μ1 hm2 hc hres h88 hsb hn0 hn1 hf
          refine go_iload dX10_ticks_174 rfl ?_
          refine go_bipush dX10_ticks_176 rfl (by decide) ?_
          refine go_iload_n dX10_ticks_178 rfl ?_
          refine go_imul dX10_ticks_179 ⟨by omega, by omega⟩ ?_
          refine go_bipush dX10_ticks_180 rfl (by decide) ?_
          refine go_iadd dX10_ticks_182 ⟨by omega, by omega⟩ ?_
          refine go_icmp_ge (tgt := 267) dX10_ticks_183 rfl (fun h183 => ?_) (fun h183 => ?_)
          ·
            exact absurd h183 (by omega)
          ·
            have hst := iS c (by omega) (by omega)
            have hR : slR (fun c => kHold (vm (μ 88) 33 c) (phC (vm (μ 88)) 32 c) (sunV (μ 88 3))) (vm (μ 88) 34) (m2 + 1) (g, n) c = slR (fun c => kHold (vm (μ 88) 33 c) (phC (vm (μ 88)) 32 c) (sunV (μ 88 3))) (vm (μ 88) 34) m2 (slS (fun c => kHold (vm (μ 88) 33 c) (phC (vm (μ 88)) 32 c) (sunV (μ 88 3))) (vm (μ 88) 34) (g, n) c) (c + 1) := rfl
            have hgc := hsb c (by omega) (by omega)
            have hv4 := vm_34 (f := μ 88) (c := c) (by omega) (by omega)
            refine go_aload_n dX10_ticks_186 rfl ?_
            refine go_iload dX10_ticks_187 rfl ?_
            refine go_iconst dX10_ticks_189 rfl ?_
            refine go_vI (ci := 9) dX10_ticks_190 (ct_X10_of _ _ (by omega) (by omega) (by omega) (by omega)) ml_X10_92 mc_X10_of mv_X10_of rfl (by first | assumption | exact Nat.le_of_ble_eq_true rfl) (by first | assumption | rfl) rfl ⟨rfl, rfl⟩ ⟨Nat.le_refl _, Nat.le_refl _⟩ rfl rfl rfl (fun x190 μ190 hc190 => ?_)
            rw [h88, ldF_ne (by omega), uf_ne (by omega)] at hc190
            obtain ⟨rfl, hm190⟩ := hc190
            rw [hm190]
            refine go_bipush dX10_ticks_193 rfl (by decide) ?_
            refine go_icmp_lt (tgt := 261) dX10_ticks_195 rfl (fun h195 => ?_) (fun h195 => ?_)
            ·
              refine go_iinc dX10_ticks_261 rfl rfl ⟨by omega, by omega⟩ ?_
              refine go_goto (tgt := 174) dX10_ticks_264 rfl ?_
              exact go_drop (ih2 _ _ g μ1 (by omega) (by omega) (by rw [hres, hR, slS_no (by rw [hv4]; omega)]) h88 (by rw [show c + 1 - 6 * row = c - 6 * row + 1 by omega]; exact slB_no hsb) (by omega) (by omega) hf) rfl
            ·
              refine go_aload_n dX10_ticks_198 rfl ?_
              refine go_iload dX10_ticks_199 rfl ?_
              refine go_iconst dX10_ticks_201 rfl ?_
              refine go_vI (ci := 9) dX10_ticks_202 (ct_X10_of _ _ (by omega) (by omega) (by omega) (by omega)) ml_X10_92 mc_X10_of mv_X10_of rfl (by first | assumption | exact Nat.le_of_ble_eq_true rfl) (by first | assumption | rfl) rfl ⟨rfl, rfl⟩ ⟨Nat.le_refl _, Nat.le_refl _⟩ rfl rfl rfl (fun x202 μ202 hc202 => ?_)
              rw [h88, ldF_at (by omega) (by omega)] at hc202
              obtain ⟨rfl, hm202⟩ := hc202
              rw [hm202]
              refine go_aload_n dX10_ticks_205 rfl ?_
              refine go_iload dX10_ticks_206 rfl ?_
              refine go_vI (ci := 9) dX10_ticks_208 (ct_X10_holds (by rw [h88]; exact tI_cg (by rw [ldF_ne (by omega), uf_ne (by omega)]) (fun j a b => by rw [ldF_ne (by omega), uf_ne (by omega)]) hT) c (by omega) (by omega) (fun c a b => by rw [h88, ldF_ne (by omega), uf_ne (by omega)]; exact iS c a b) (by rw [h88, ldF_ne (by omega), uf_ne (by omega)]; exact iH)) ml_X10_134 mc_X10_holds mv_X10_holds rfl (by first | assumption | exact Nat.le_of_ble_eq_true rfl) (by first | assumption | rfl) rfl ⟨rfl, rfl⟩ ⟨Nat.le_refl _, Nat.le_refl _⟩ rfl rfl rfl (fun x208 μ208 hc208 => ?_)
              obtain ⟨e208, hf208⟩ := hc208
              have hx : x208 = kHold (vm (μ 88) 33 c) (phC (vm (μ 88)) 32 c) (sunV (μ 88 3)) := by rw [e208, h88, (vm_r (w := 0) (f := μ 88) (f' := ldF (uf (μ 88) 6 (dz (μ 88 6))) g) (fun c a b => by rw [ldF_ne (by omega), uf_ne (by omega)])).1 rfl, (vm_r (w := 1) (f := μ 88) (f' := ldF (uf (μ 88) 6 (dz (μ 88 6))) g) (fun c a b => by rw [ldF_ne (by omega), uf_ne (by omega)])).2.1 rfl, LM_cg (f := μ 88) (f' := ldF (uf (μ 88) 6 (dz (μ 88 6))) g) (by rw [ldF_ne (by omega), uf_ne (by omega)]) (fun j a b => by rw [ldF_ne (by omega), uf_ne (by omega)]) hT, ldF_ne (by omega), uf_ne (by omega)]; rfl
              rw [hx]
              have h88b : μ208 88 = ldF (uf (μ 88) 6 (dz (μ 88 6))) g := (hf208 88 (by omega) (by omega)).trans h88
              have hfb : ∀ q, q ≠ 88 → q ≠ 99 → q ≠ 108 → q ≠ 109 → μ208 q = μ q := fun q a b c d => (hf208 q c d).trans (hf q a b c d)
              refine go_icmp_le (tgt := 261) dX10_ticks_211 rfl (fun h211 => ?_) (fun h211 => ?_)
              ·
                refine go_iinc dX10_ticks_261 rfl rfl ⟨by omega, by omega⟩ ?_
                refine go_goto (tgt := 174) dX10_ticks_264 rfl ?_
                exact go_drop (ih2 _ _ g μ208 (by omega) (by omega) (by rw [hres, hR, slS_no (fun hh => by have h2 : kHold (vm (μ 88) 33 c) (phC (vm (μ 88)) 32 c) (sunV (μ 88 3)) < g c := hh.2; omega)]) h88b (by rw [show c + 1 - 6 * row = c - 6 * row + 1 by omega]; exact slB_no hsb) (by omega) (by omega) hfb) rfl
              ·
                refine go_aload_n dX10_ticks_214 rfl ?_
                refine go_iload dX10_ticks_215 rfl ?_
                refine go_iconst dX10_ticks_217 rfl ?_
                refine go_vI (ci := 9) dX10_ticks_218 (ct_X10_of _ _ (by omega) (by omega) (by omega) (by omega)) ml_X10_92 mc_X10_of mv_X10_of rfl (by first | assumption | exact Nat.le_of_ble_eq_true rfl) (by first | assumption | rfl) rfl ⟨rfl, rfl⟩ ⟨Nat.le_refl _, Nat.le_refl _⟩ rfl rfl rfl (fun x218 μ218 hc218 => ?_)
                rw [h88b, ldF_at (by omega) (by omega)] at hc218
                obtain ⟨rfl, hm218⟩ := hc218
                rw [hm218]
                refine go_istore dX10_ticks_221 rfl ?_
                refine go_aload_n dX10_ticks_223 rfl ?_
                refine go_iload dX10_ticks_224 rfl ?_
                refine go_iconst dX10_ticks_226 rfl ?_
                refine go_iconst dX10_ticks_227 rfl ?_
                refine go_vV (ci := 9) dX10_ticks_228 (ct_X10_sets _ _ _ (by omega) (by omega) (by omega) (by omega)) ml_X10_127 mc_X10_sets mv_X10_sets rfl (by first | assumption | exact Nat.le_of_ble_eq_true rfl) (by first | assumption | rfl) rfl ⟨rfl, rfl⟩ ⟨Nat.le_refl _, Nat.le_refl _⟩ rfl rfl rfl (fun μ228 hc228 => ?_)
                subst hc228
                refine go_iload_n dX10_ticks_231 rfl ?_
                refine go_if_le (tgt := 258) dX10_ticks_232 rfl (fun h232 => ?_) (fun h232 => ?_)
                ·
                  refine go_iinc dX10_ticks_258 rfl rfl ⟨by omega, by omega⟩ ?_
                  refine go_iinc dX10_ticks_261 rfl rfl ⟨by omega, by omega⟩ ?_
                  refine go_goto (tgt := 174) dX10_ticks_264 rfl ?_
                  refine go_drop (ih2 _ _ (uf g c 0) _ (by omega) (by omega) (by rw [hres, hR, slS_lo ⟨by rw [hv4]; omega, by show kHold (vm (μ 88) 33 c) (phC (vm (μ 88)) 32 c) (sunV (μ 88 3)) < g c; omega⟩ (by omega)]) ?_ (by rw [show c + 1 - 6 * row = c - 6 * row + 1 by omega]; exact slB_lo hsb) (by omega) (by omega) ?_) rfl
                  · rw [ud_s, h88b, ldF_uf (by omega) (by omega)]
                  · intro q a b c d; rw [ud_n a]; exact hfb q a b c d
                ·
                  have hg6 := hsb (c - 6) (by omega) (by omega)
                  refine go_aload_n dX10_ticks_235 rfl ?_
                  refine go_iload dX10_ticks_236 rfl ?_
                  refine go_bipush dX10_ticks_238 rfl (by decide) ?_
                  refine go_isub dX10_ticks_240 ⟨by omega, by omega⟩ ?_
                  refine go_iconst dX10_ticks_241 rfl ?_
                  refine go_aload_n dX10_ticks_242 rfl ?_
                  refine go_iload dX10_ticks_243 rfl ?_
                  refine go_bipush dX10_ticks_245 rfl (by decide) ?_
                  refine go_isub dX10_ticks_247 ⟨by omega, by omega⟩ ?_
                  refine go_iconst dX10_ticks_248 rfl ?_
                  refine go_vI (ci := 9) dX10_ticks_249 (ct_X10_of _ _ (by omega) (by omega) (by omega) (by omega)) ml_X10_92 mc_X10_of mv_X10_of rfl (by first | assumption | exact Nat.le_of_ble_eq_true rfl) (by first | assumption | rfl) rfl ⟨rfl, rfl⟩ ⟨Nat.le_refl _, Nat.le_refl _⟩ rfl rfl rfl (fun x249 μ249 hc249 => ?_)
                  rw [ud_s, uf_ne (by omega), h88b, ldF_at (by omega) (by omega)] at hc249
                  obtain ⟨rfl, hm249⟩ := hc249
                  rw [hm249]
                  refine go_iload dX10_ticks_252 rfl ?_
                  refine go_iadd dX10_ticks_254 ⟨by omega, by omega⟩ ?_
                  refine go_vV (ci := 9) dX10_ticks_255 (ct_X10_sets _ _ _ (by omega) (by omega) (by omega) (by omega)) ml_X10_127 mc_X10_sets mv_X10_sets rfl (by first | assumption | exact Nat.le_of_ble_eq_true rfl) (by first | assumption | rfl) rfl ⟨rfl, rfl⟩ ⟨Nat.le_refl _, Nat.le_refl _⟩ rfl rfl rfl (fun μ255 hc255 => ?_)
                  subst hc255
                  refine go_iinc dX10_ticks_258 rfl rfl ⟨by omega, by omega⟩ ?_
                  refine go_iinc dX10_ticks_261 rfl rfl ⟨by omega, by omega⟩ ?_
                  refine go_goto (tgt := 174) dX10_ticks_264 rfl ?_
                  refine go_drop (ih2 _ _ (uf (uf g (c - 6) (g (c - 6) + g c)) c 0) _ (by omega) (by omega) (by rw [hres, hR, slS_up ⟨by rw [hv4]; omega, by show kHold (vm (μ 88) 33 c) (phC (vm (μ 88)) 32 c) (sunV (μ 88 3)) < g c; omega⟩ (by omega)]) ?_ ?_ (by omega) (by omega) ?_) rfl
                  · rw [ud_s, ud_s, h88b, ldF_uf (by omega) (by omega), ldF_uf (by omega) (by omega), uf_cm (by omega)]
                  · have h := slB_up hsb (by omega) (by omega) (by omega) (by omega)
                    rw [show row * 6 + (c - 6 * row) = c by omega] at h
                    rw [show c + 1 - 6 * row = c - 6 * row + 1 by omega]; exact h
                  · intro q a b c d; rw [ud_n a, ud_n a]; exact hfb q a b c d
      refine go_iload_n dX10_ticks_164 rfl ?_
      refine go_if_lt (tgt := 273) dX10_ticks_165 rfl (fun h165 => ?_) (fun h165 => ?_)
      ·
        exact absurd h165 (by omega)
      ·
        refine go_bipush dX10_ticks_168 rfl (by decide) ?_
        refine go_iload_n dX10_ticks_170 rfl ?_
        refine go_imul dX10_ticks_171 ⟨by omega, by omega⟩ ?_
        refine go_istore dX10_ticks_172 rfl ?_
        refine go_drop (inE 6 _ _ g μ1 (by omega) (by omega) ?_ h88 (by rw [show 6 * row - 6 * row = 0 by omega]; exact hsb) (by omega) (by omega) hf) rfl
        rw [hres, show (row + 1).toNat = row.toNat + 1 by omega]
        show slN _ _ row.toNat (slR _ _ 6 (g, n) (6 * (row.toNat : Nat))) = _
        rw [show ((row.toNat : Nat) : Int) = row by omega]
  have lpC : ∀ (m : Nat) (i : Int) (μ1 : Mem), 30 - i = (m : Nat) → 0 ≤ i → (μ1 88 = ldF (uf (μ 88) 6 (dz (μ 88 6))) (dfN (vm (μ 88) 33) (snwF (vm (μ 88) 35) (μ 88 4 + dv (dz (μ 88 6)) % 3) 30) i)) → (∀ c, 0 ≤ c → c < 30 → μ1 99 c = dftD (vm (μ 88) 33) (snwF (vm (μ 88) 35) (μ 88 4 + dv (dz (μ 88 6)) % 3) 30) c) → (∀ q, q ≠ 88 → q ≠ 99 → q ≠ 108 → q ≠ 109 → μ1 q = μ q) → Go l D cA none RX10 cX10_ticks 6 (some .int) (7, 0, 0) (QN (Pi (fun x μ' => x = (tkV (μ 88)).2 ∧ μ' 88 = tkR (μ 88) (tkV (μ 88)).1 ∧ ∀ q, q ≠ 88 → q ≠ 99 → q ≠ 108 → q ≠ 109 → μ' q = μ q))) 113 ρ0 0 0 105 [(0, vr 87), (2, vi i)] [] μ1 := by
    intro m
    induction m with
    | zero =>
      intro i μ1 hm hv h88 hdd hf
      refine go_iload_n dX10_ticks_105 rfl ?_
      refine go_bipush dX10_ticks_106 rfl (by decide) ?_
      refine go_icmp_ge (tgt := 156) dX10_ticks_108 rfl (fun h108 => ?_) (fun h108 => ?_)
      ·
        refine go_aload_n dX10_ticks_156 rfl ?_
        have hfA : ∀ q, q ≠ 88 → q ≠ 99 → q ≠ 108 → q ≠ 109 → ua μ1 88 (ldF (μ1 88) (hlF (vm (μ1 88) 35))) q = μ q := fun q a b c d => (ua_ne a).trans (hf q a b c d)
        refine go_vV (ci := 9) dX10_ticks_157 (ct_X10_holdsLoads) ml_X10_160 mc_X10_holdsLoads mv_X10_holdsLoads rfl (by first | assumption | exact Nat.le_of_ble_eq_true rfl) (by first | assumption | rfl) rfl ⟨rfl, rfl⟩ ⟨Nat.le_refl _, Nat.le_refl _⟩ rfl rfl rfl (fun μ157 hc157 => ?_)
        subst hc157
        have h88b : ua μ1 88 (ldF (μ1 88) (hlF (vm (μ1 88) 35))) 88 = ldF (uf (μ 88) 6 (dz (μ 88 6))) (dftA (vm (μ 88) 33) (snwF (vm (μ 88) 35) (μ 88 4 + dv (dz (μ 88 6)) % 3) 30)) := by rw [ua_same, h88, show i = 30 by omega]; exact hl_ld (hl_2 hb1)
        generalize ua μ1 88 (ldF (μ1 88) (hlF (vm (μ1 88) 35))) = μ2 at h88b hfA ⊢
        refine go_iconst dX10_ticks_160 rfl ?_
        refine go_istore_n dX10_ticks_161 rfl ?_
        refine go_iconst dX10_ticks_162 rfl ?_
        refine go_istore_n dX10_ticks_163 rfl ?_
        exact go_drop (lpD 5 4 0 (dftA (vm (μ 88) 33) (snwF (vm (μ 88) 35) (μ 88 4 + dv (dz (μ 88 6)) % 3) 30)) μ2 (by omega) (by omega) rfl h88b hsl0 (by omega) (by omega) hfA) rfl
      ·
        exact absurd h108 (by omega)
    | succ m ih =>
      intro i μ1 hm hv h88 hdd hf
      refine go_iload_n dX10_ticks_105 rfl ?_
      refine go_bipush dX10_ticks_106 rfl (by decide) ?_
      refine go_icmp_ge (tgt := 156) dX10_ticks_108 rfl (fun h108 => ?_) (fun h108 => ?_)
      ·
        exact absurd h108 (by omega)
      ·
        have hg1 := hb1 i hv (by omega)
        have hd1 := dftD_b (kinds := (vm (μ 88) 33)) hg1.1 hg1.2
        refine go_aload_n dX10_ticks_111 rfl ?_
        refine go_iload_n dX10_ticks_112 rfl ?_
        refine go_iconst dX10_ticks_113 rfl ?_
        refine go_aload_n dX10_ticks_114 rfl ?_
        refine go_iload_n dX10_ticks_115 rfl ?_
        refine go_iconst dX10_ticks_116 rfl ?_
        refine go_vI (ci := 9) dX10_ticks_117 (ct_X10_of _ _ (by omega) (by omega) (by omega) (by omega)) ml_X10_92 mc_X10_of mv_X10_of rfl (by first | assumption | exact Nat.le_of_ble_eq_true rfl) (by first | assumption | rfl) rfl ⟨rfl, rfl⟩ ⟨Nat.le_refl _, Nat.le_refl _⟩ rfl rfl rfl (fun x117 μ117 hc117 => ?_)
        rw [h88, ldF_at hv (by omega), show dfN (vm (μ 88) 33) (snwF (vm (μ 88) 35) (μ 88 4 + dv (dz (μ 88 6)) % 3) 30) i i = (snwF (vm (μ 88) 35) (μ 88 4 + dv (dz (μ 88 6)) % 3) 30) i from if_neg (by omega)] at hc117
        obtain ⟨rfl, hm117⟩ := hc117
        rw [hm117]
        refine go_aload_n dX10_ticks_120 rfl ?_
        refine go_getR dX10_ticks_121 fl_X10_43 (by first | assumption | exact Nat.le_of_ble_eq_true rfl) (by first | assumption | rfl) rfl (by first | assumption | rfl) ?_
        refine go_iload_n dX10_ticks_124 rfl ?_
        refine go_iaload dX10_ticks_125 (by first | assumption | exact Nat.le_of_ble_eq_true rfl) (by first | assumption | rfl) (by omega) (by omega) ?_
        try simp (disch := omega) only [ud, ua_same, ua_ne, uf_same, uf_ne]
        rw [hdd i hv (by omega)]
        refine go_isub dX10_ticks_126 ⟨by omega, by omega⟩ ?_
        refine go_iload_n dX10_ticks_127 rfl ?_
        refine go_bipush dX10_ticks_128 rfl (by decide) ?_
        refine go_irem dX10_ticks_130 (by omega) (by omega) ?_
        first | refine go_bnz (tgt := 138) dX10_ticks_131 rfl (fun h131 => ?_) (fun h131 => ?_) | refine go_if_ne (tgt := 138) dX10_ticks_131 rfl (fun h131 => ?_) (fun h131 => ?_)
        ·
          have hg2 := hb1 (i - 1) (by omega) (by omega)
          have hd2 := dftD_b (kinds := (vm (μ 88) 33)) hg2.1 hg2.2
          refine go_aload_n dX10_ticks_138 rfl ?_
          refine go_getR dX10_ticks_139 fl_X10_43 (by first | assumption | exact Nat.le_of_ble_eq_true rfl) (by first | assumption | rfl) rfl (by first | assumption | rfl) ?_
          refine go_iload_n dX10_ticks_142 rfl ?_
          refine go_iconst dX10_ticks_143 rfl ?_
          refine go_isub dX10_ticks_144 ⟨by omega, by omega⟩ ?_
          refine go_iaload dX10_ticks_145 (by first | assumption | exact Nat.le_of_ble_eq_true rfl) (by first | assumption | rfl) (by omega) (by omega) ?_
          try simp (disch := omega) only [ud, ua_same, ua_ne, uf_same, uf_ne]
          rw [hdd (i - 1) (by omega) (by omega)]
          refine go_iadd dX10_ticks_146 ⟨by omega, by omega⟩ ?_
          refine go_vV (ci := 9) dX10_ticks_147 (ct_X10_sets _ _ _ (by omega) (by omega) (by omega) (by omega)) ml_X10_127 mc_X10_sets mv_X10_sets rfl (by first | assumption | exact Nat.le_of_ble_eq_true rfl) (by first | assumption | rfl) rfl ⟨rfl, rfl⟩ ⟨Nat.le_refl _, Nat.le_refl _⟩ rfl rfl rfl (fun μ147 hc147 => ?_)
          subst hc147
          refine go_iinc dX10_ticks_150 rfl rfl ⟨by omega, by omega⟩ ?_
          refine go_goto (tgt := 105) dX10_ticks_153 rfl ?_
          refine go_drop (ih _ _ (by omega) (by omega) ?_ ?_ (by intro q a b c d; rw [ud_n a]; exact hf q a b c d)) rfl
          · rw [ud_s, h88, ldF_uf hv (by omega), ← dfN_up, show dftI (vm (μ 88) 33) (snwF (vm (μ 88) 35) (μ 88 4 + dv (dz (μ 88 6)) % 3) 30) i = dftD (vm (μ 88) 33) (snwF (vm (μ 88) 35) (μ 88 4 + dv (dz (μ 88 6)) % 3) 30) (i - 1) from if_neg (by omega)]
          · intro c c0 c1; rw [ud_n (by omega)]; exact hdd c c0 c1
        ·
          refine go_iconst dX10_ticks_134 rfl ?_
          refine go_goto (tgt := 146) dX10_ticks_135 rfl ?_
          refine go_iadd dX10_ticks_146 ⟨by omega, by omega⟩ ?_
          refine go_vV (ci := 9) dX10_ticks_147 (ct_X10_sets _ _ _ (by omega) (by omega) (by omega) (by omega)) ml_X10_127 mc_X10_sets mv_X10_sets rfl (by first | assumption | exact Nat.le_of_ble_eq_true rfl) (by first | assumption | rfl) rfl ⟨rfl, rfl⟩ ⟨Nat.le_refl _, Nat.le_refl _⟩ rfl rfl rfl (fun μ147 hc147 => ?_)
          subst hc147
          refine go_iinc dX10_ticks_150 rfl rfl ⟨by omega, by omega⟩ ?_
          refine go_goto (tgt := 105) dX10_ticks_153 rfl ?_
          refine go_drop (ih _ _ (by omega) (by omega) ?_ ?_ (by intro q a b c d; rw [ud_n a]; exact hf q a b c d)) rfl
          · rw [ud_s, h88, ldF_uf hv (by omega), ← dfN_up, show dftI (vm (μ 88) 33) (snwF (vm (μ 88) 35) (μ 88 4 + dv (dz (μ 88 6)) % 3) 30) i = 0 from if_pos (by omega)]
          · intro c c0 c1; rw [ud_n (by omega)]; exact hdd c c0 c1
  have lpB : ∀ (m : Nat) (i : Int) (μ1 : Mem), 30 - i = (m : Nat) → 0 ≤ i → (μ1 88 = ldF (uf (μ 88) 6 (dz (μ 88 6))) (snwF (vm (μ 88) 35) (μ 88 4 + dv (dz (μ 88 6)) % 3) 30)) → (∀ c, 0 ≤ c → c < i → μ1 99 c = dftD (vm (μ 88) 33) (snwF (vm (μ 88) 35) (μ 88 4 + dv (dz (μ 88 6)) % 3) 30) c) → (∀ q, q ≠ 88 → q ≠ 99 → q ≠ 108 → q ≠ 109 → μ1 q = μ q) → Go l D cA none RX10 cX10_ticks 6 (some .int) (7, 0, 0) (QN (Pi (fun x μ' => x = (tkV (μ 88)).2 ∧ μ' 88 = tkR (μ 88) (tkV (μ 88)).1 ∧ ∀ q, q ≠ 88 → q ≠ 99 → q ≠ 108 → q ≠ 109 → μ' q = μ q))) 113 ρ0 0 0 48 [(0, vr 87), (2, vi i)] [] μ1 := by
    intro m
    induction m with
    | zero =>
      intro i μ1 hm hv h88 hdd hf
      refine go_iload_n dX10_ticks_48 rfl ?_
      refine go_bipush dX10_ticks_49 rfl (by decide) ?_
      refine go_icmp_ge (tgt := 103) dX10_ticks_51 rfl (fun h51 => ?_) (fun h51 => ?_)
      ·
        refine go_iconst dX10_ticks_103 rfl ?_
        refine go_istore_n dX10_ticks_104 rfl ?_
        exact go_drop (lpC 30 0 μ1 (by omega) (by omega) (by rw [h88]; exact ldF_cg (fun c h0 h1 => (if_neg (by omega)).symm)) (fun c h0 h1 => hdd c h0 (by omega)) hf) rfl
      ·
        exact absurd h51 (by omega)
    | succ m ih =>
      intro i μ1 hm hv h88 hdd hf
      refine go_iload_n dX10_ticks_48 rfl ?_
      refine go_bipush dX10_ticks_49 rfl (by decide) ?_
      refine go_icmp_ge (tgt := 103) dX10_ticks_51 rfl (fun h51 => ?_) (fun h51 => ?_)
      ·
        exact absurd h51 (by omega)
      ·
        have hg1 := hb1 i hv (by omega)
        refine go_aload_n dX10_ticks_54 rfl ?_
        refine go_getR dX10_ticks_55 fl_X10_43 (by first | assumption | exact Nat.le_of_ble_eq_true rfl) (by first | assumption | rfl) rfl (by first | assumption | rfl) ?_
        refine go_iload_n dX10_ticks_58 rfl ?_
        refine go_aload_n dX10_ticks_59 rfl ?_
        refine go_iload_n dX10_ticks_60 rfl ?_
        refine go_iconst dX10_ticks_61 rfl ?_
        refine go_vI (ci := 9) dX10_ticks_62 (ct_X10_of _ _ (by omega) (by omega) (by omega) (by omega)) ml_X10_92 mc_X10_of mv_X10_of rfl (by first | assumption | exact Nat.le_of_ble_eq_true rfl) (by first | assumption | rfl) rfl ⟨rfl, rfl⟩ ⟨Nat.le_refl _, Nat.le_refl _⟩ rfl rfl rfl (fun x62 μ62 hc62 => ?_)
        rw [h88, ldF_ne (by omega), uf_ne (by omega), ← vm_33 (f := μ 88) hv (by omega)] at hc62
        obtain ⟨rfl, hm62⟩ := hc62
        rw [hm62]
        refine go_iconst dX10_ticks_65 rfl ?_
        refine go_icmp_eq (tgt := 80) dX10_ticks_66 rfl (fun h66 => ?_) (fun h66 => ?_)
        ·
          refine go_iconst dX10_ticks_80 rfl ?_
          refine go_goto (tgt := 96) dX10_ticks_81 rfl ?_
          refine go_iastore dX10_ticks_96 (by first | assumption | exact Nat.le_of_ble_eq_true rfl) (by first | assumption | rfl) (by omega) (by omega) ?_
          refine go_iinc dX10_ticks_97 rfl rfl ⟨by omega, by omega⟩ ?_
          refine go_goto (tgt := 48) dX10_ticks_100 rfl ?_
          refine go_drop (ih _ _ (by omega) (by omega) ?_ ?_ ?_) rfl
          · rw [ud_n (by omega)]; exact h88
          · intro c c0 c1
            rw [ud_s]
            by_cases e : c = i
            · rw [e, uf_same]; exact (if_pos (Or.inl (by omega)) : dftD (vm (μ 88) 33) (snwF (vm (μ 88) 35) (μ 88 4 + dv (dz (μ 88 6)) % 3) 30) i = _).symm
            · rw [uf_ne e]; exact hdd c c0 (by omega)
          · intro q a b c d; rw [ud_n b]; exact hf q a b c d
        ·
          refine go_aload_n dX10_ticks_69 rfl ?_
          refine go_iload_n dX10_ticks_70 rfl ?_
          refine go_iconst dX10_ticks_71 rfl ?_
          refine go_vI (ci := 9) dX10_ticks_72 (ct_X10_of _ _ (by omega) (by omega) (by omega) (by omega)) ml_X10_92 mc_X10_of mv_X10_of rfl (by first | assumption | exact Nat.le_of_ble_eq_true rfl) (by first | assumption | rfl) rfl ⟨rfl, rfl⟩ ⟨Nat.le_refl _, Nat.le_refl _⟩ rfl rfl rfl (fun x72 μ72 hc72 => ?_)
          rw [h88, ldF_at hv (by omega)] at hc72
          obtain ⟨rfl, hm72⟩ := hc72
          rw [hm72]
          refine go_bipush dX10_ticks_75 rfl (by decide) ?_
          refine go_icmp_gt (tgt := 84) dX10_ticks_77 rfl (fun h77 => ?_) (fun h77 => ?_)
          ·
            refine go_aload_n dX10_ticks_84 rfl ?_
            refine go_iload_n dX10_ticks_85 rfl ?_
            refine go_iconst dX10_ticks_86 rfl ?_
            refine go_vI (ci := 9) dX10_ticks_87 (ct_X10_of _ _ (by omega) (by omega) (by omega) (by omega)) ml_X10_92 mc_X10_of mv_X10_of rfl (by first | assumption | exact Nat.le_of_ble_eq_true rfl) (by first | assumption | rfl) rfl ⟨rfl, rfl⟩ ⟨Nat.le_refl _, Nat.le_refl _⟩ rfl rfl rfl (fun x87 μ87 hc87 => ?_)
            rw [h88, ldF_at hv (by omega)] at hc87
            obtain ⟨rfl, hm87⟩ := hc87
            rw [hm87]
            refine go_bipush dX10_ticks_90 rfl (by decide) ?_
            refine go_isub dX10_ticks_92 ⟨by omega, by omega⟩ ?_
            refine go_bipush dX10_ticks_93 rfl (by decide) ?_
            refine go_idiv dX10_ticks_95 (by omega) (by omega) ?_
            refine go_iastore dX10_ticks_96 (by first | assumption | exact Nat.le_of_ble_eq_true rfl) (by first | assumption | rfl) (by omega) (by omega) ?_
            refine go_iinc dX10_ticks_97 rfl rfl ⟨by omega, by omega⟩ ?_
            refine go_goto (tgt := 48) dX10_ticks_100 rfl ?_
            refine go_drop (ih _ _ (by omega) (by omega) ?_ ?_ ?_) rfl
            · rw [ud_n (by omega)]; exact h88
            · intro c c0 c1
              rw [ud_s]
              by_cases e : c = i
              · rw [e, uf_same]; exact (if_neg (by omega) : dftD (vm (μ 88) 33) (snwF (vm (μ 88) 35) (μ 88 4 + dv (dz (μ 88 6)) % 3) 30) i = _).symm
              · rw [uf_ne e]; exact hdd c c0 (by omega)
            · intro q a b c d; rw [ud_n b]; exact hf q a b c d
          ·
            refine go_iconst dX10_ticks_80 rfl ?_
            refine go_goto (tgt := 96) dX10_ticks_81 rfl ?_
            refine go_iastore dX10_ticks_96 (by first | assumption | exact Nat.le_of_ble_eq_true rfl) (by first | assumption | rfl) (by omega) (by omega) ?_
            refine go_iinc dX10_ticks_97 rfl rfl ⟨by omega, by omega⟩ ?_
            refine go_goto (tgt := 48) dX10_ticks_100 rfl ?_
            refine go_drop (ih _ _ (by omega) (by omega) ?_ ?_ ?_) rfl
            · rw [ud_n (by omega)]; exact h88
            · intro c c0 c1
              rw [ud_s]
              by_cases e : c = i
              · rw [e, uf_same]; exact (if_pos (Or.inr (by omega)) : dftD (vm (μ 88) 33) (snwF (vm (μ 88) 35) (μ 88 4 + dv (dz (μ 88 6)) % 3) 30) i = _).symm
              · rw [uf_ne e]; exact hdd c c0 (by omega)
            · intro q a b c d; rw [ud_n b]; exact hf q a b c d
  have lpA : ∀ (m : Nat) (i : Int) (μ1 : Mem), 30 - i = (m : Nat) → 0 ≤ i → (μ1 88 = ldF (uf (μ 88) 6 (dz (μ 88 6))) (adN (vm (μ 88) 35) (μ 88 4 + dv (dz (μ 88 6)) % 3) i)) → (∀ q, q ≠ 88 → q ≠ 99 → q ≠ 108 → q ≠ 109 → μ1 q = μ q) → Go l D cA none RX10 cX10_ticks 6 (some .int) (7, 0, 0) (QN (Pi (fun x μ' => x = (tkV (μ 88)).2 ∧ μ' 88 = tkR (μ 88) (tkV (μ 88)).1 ∧ ∀ q, q ≠ 88 → q ≠ 99 → q ≠ 108 → q ≠ 109 → μ' q = μ q))) 113 ρ0 0 0 16 [(0, vr 87), (1, vi (μ 88 4 + dv (dz (μ 88 6)) % 3)), (2, vi i)] [] μ1 := by
    intro m
    induction m with
    | zero =>
      intro i μ1 hm hv h88 hf
      refine go_iload_n dX10_ticks_16 rfl ?_
      refine go_bipush dX10_ticks_17 rfl (by decide) ?_
      refine go_icmp_ge (tgt := 42) dX10_ticks_19 rfl (fun h19 => ?_) (fun h19 => ?_)
      ·
        refine go_aload_n dX10_ticks_42 rfl ?_
        have hfA : ∀ q, q ≠ 88 → q ≠ 99 → q ≠ 108 → q ≠ 109 → ua μ1 88 (ldF (μ1 88) (hlF (vm (μ1 88) 35))) q = μ q := fun q a b c d => (ua_ne a).trans (hf q a b c d)
        refine go_vV (ci := 9) dX10_ticks_43 (ct_X10_holdsLoads) ml_X10_160 mc_X10_holdsLoads mv_X10_holdsLoads rfl (by first | assumption | exact Nat.le_of_ble_eq_true rfl) (by first | assumption | rfl) rfl ⟨rfl, rfl⟩ ⟨Nat.le_refl _, Nat.le_refl _⟩ rfl rfl rfl (fun μ43 hc43 => ?_)
        subst hc43
        have h88b : ua μ1 88 (ldF (μ1 88) (hlF (vm (μ1 88) 35))) 88 = ldF (uf (μ 88) 6 (dz (μ 88 6))) (snwF (vm (μ 88) 35) (μ 88 4 + dv (dz (μ 88 6)) % 3) 30) := by rw [ua_same, h88, show i = 30 by omega]; exact hl_ld (hl_1 iLv hm0)
        generalize ua μ1 88 (ldF (μ1 88) (hlF (vm (μ1 88) 35))) = μ2 at h88b hfA ⊢
        refine go_iconst dX10_ticks_46 rfl ?_
        refine go_istore_n dX10_ticks_47 rfl ?_
        exact go_drop (lpB 30 0 μ2 (by omega) (by omega) h88b (fun c h0 h1 => absurd h1 (by omega)) hfA) rfl
      ·
        exact absurd h19 (by omega)
    | succ m ih =>
      intro i μ1 hm hv h88 hf
      refine go_iload_n dX10_ticks_16 rfl ?_
      refine go_bipush dX10_ticks_17 rfl (by decide) ?_
      refine go_icmp_ge (tgt := 42) dX10_ticks_19 rfl (fun h19 => ?_) (fun h19 => ?_)
      ·
        exact absurd h19 (by omega)
      ·
        have hlv := iLv i hv (by omega)
        refine go_aload_n dX10_ticks_22 rfl ?_
        refine go_iload_n dX10_ticks_23 rfl ?_
        refine go_iconst dX10_ticks_24 rfl ?_
        refine go_aload_n dX10_ticks_25 rfl ?_
        refine go_iload_n dX10_ticks_26 rfl ?_
        refine go_iconst dX10_ticks_27 rfl ?_
        refine go_vI (ci := 9) dX10_ticks_28 (ct_X10_of _ _ (by omega) (by omega) (by omega) (by omega)) ml_X10_92 mc_X10_of mv_X10_of rfl (by first | assumption | exact Nat.le_of_ble_eq_true rfl) (by first | assumption | rfl) rfl ⟨rfl, rfl⟩ ⟨Nat.le_refl _, Nat.le_refl _⟩ rfl rfl rfl (fun x28 μ28 hc28 => ?_)
        rw [h88, ldF_at hv (by omega), show adN (vm (μ 88) 35) (μ 88 4 + dv (dz (μ 88 6)) % 3) i i = (vm (μ 88) 35) i from if_neg (by omega)] at hc28
        obtain ⟨rfl, hm28⟩ := hc28
        rw [hm28]
        refine go_iload_n dX10_ticks_31 rfl ?_
        refine go_iadd dX10_ticks_32 ⟨by omega, by omega⟩ ?_
        refine go_vV (ci := 9) dX10_ticks_33 (ct_X10_sets _ _ _ (by omega) (by omega) (by omega) (by omega)) ml_X10_127 mc_X10_sets mv_X10_sets rfl (by first | assumption | exact Nat.le_of_ble_eq_true rfl) (by first | assumption | rfl) rfl ⟨rfl, rfl⟩ ⟨Nat.le_refl _, Nat.le_refl _⟩ rfl rfl rfl (fun μ33 hc33 => ?_)
        subst hc33
        refine go_iinc dX10_ticks_36 rfl rfl ⟨by omega, by omega⟩ ?_
        refine go_goto (tgt := 16) dX10_ticks_39 rfl ?_
        refine go_drop (ih _ _ (by omega) (by omega) ?_ (by intro q a b c d; rw [ud_n a]; exact hf q a b c d)) rfl
        rw [ud_s, h88, ldF_uf hv (by omega), adN_up]
  refine go_aload_n dX10_ticks_0 rfl ?_
  refine go_getR dX10_ticks_1 fl_X10_7 (by first | assumption | exact Nat.le_of_ble_eq_true rfl) (by first | assumption | rfl) rfl (by first | assumption | rfl) ?_
  refine go_iconst dX10_ticks_4 rfl ?_
  refine go_iaload dX10_ticks_5 (by first | assumption | exact Nat.le_of_ble_eq_true rfl) (by first | assumption | rfl) (by omega) (by omega) ?_
  refine go_aload_n dX10_ticks_6 rfl ?_
  refine go_vI (ci := 9) dX10_ticks_7 (ct_X10_drawn) ml_X10_154 mc_X10_drawn mv_X10_drawn rfl (by first | assumption | exact Nat.le_of_ble_eq_true rfl) (by first | assumption | rfl) rfl ⟨rfl, rfl⟩ ⟨Nat.le_refl _, Nat.le_refl _⟩ rfl rfl rfl (fun x7 μ7 hc7 => ?_)
  obtain ⟨rfl, hm7⟩ := hc7
  subst hm7
  refine go_iconst dX10_ticks_10 rfl ?_
  refine go_irem dX10_ticks_11 (by omega) (by omega) ?_
  refine go_iadd dX10_ticks_12 ⟨by omega, by omega⟩ ?_
  refine go_istore_n dX10_ticks_13 rfl ?_
  refine go_iconst dX10_ticks_14 rfl ?_
  refine go_istore_n dX10_ticks_15 rfl ?_
  refine go_drop (lpA 30 0 _ (by omega) (by omega) ?_ (fun q a b c d => ud_n a)) rfl
  rw [ud_s, show ldF (uf (μ 88) 6 (dz (μ 88 6))) (adN (vm (μ 88) 35) (μ 88 4 + dv (dz (μ 88 6)) % 3) 0) = ldF (uf (μ 88) 6 (dz (μ 88 6))) (vm (μ 88) 35) from ldF_cg (fun c h0 h1 => if_neg (by omega)), ldF_o (by omega), ldF_self]

set_option maxRecDepth 100000 in
set_option maxHeartbeats 4000000 in
theorem ct_X10_ticksMany {l : Launch} {D : va_G} {cA : Nat → ClassId} {μ : Mem} (hI : mdI (μ 88)) (n : Int) (hn0 : 0 ≤ n) (hn1 : n ≤ 48) : CtN l D cA yX10_ticksMany cX10_ticksMany 4 (some .int) 8 [vr 87, vi n] μ (Pi (fun x μ' => x = (tkVN (μ 88) n.toNat).2 ∧ μ' 88 = tkR (μ 88) (tkVN (μ 88) n.toNat).1 ∧ ∀ q, q ≠ 88 → q ≠ 99 → q ≠ 108 → q ≠ 109 → μ' q = μ q)) := by
  refine Ct.of (own := RX10) (by decide +kernel) rfl (fun σ => Nat.le_of_ble_eq_true rfl) (fun hM hP ha => ?_)
  obtain ⟨m87, r88, s88, r89, s89, r90, s90, r91, s91, r92, s92, r93, s93, r94, s94, r95, s95, r96, s96, r97, s97, r98, s98, r99, s99, r100, s100, r101, s101, r102, s102, r103, s103, r104, s104, r105, s105, r106, s106, r107, s107, r108, s108, r109, s109, r110, s110, r111, s111, r112, s112⟩ := md_f
  obtain ⟨iK, iS, iL, iT, iTn, iD, iH, iF, iX⟩ := md_b hI
  have loop : ∀ (m : Nat) (i : Int) (sl : Int) (μ1 : Mem), n - i = (m : Nat) → 0 ≤ i → (sl = (tkVN (μ 88) i.toNat).2) → (μ1 88 = tkR (μ 88) (tkVN (μ 88) i.toNat).1) → (∀ q, q ≠ 88 → q ≠ 99 → q ≠ 108 → q ≠ 109 → μ1 q = μ q) → Go l D cA none RX10 cX10_ticksMany 4 (some .int) (8, 0, 0) (QN (Pi (fun x μ' => x = (tkVN (μ 88) n.toNat).2 ∧ μ' 88 = tkR (μ 88) (tkVN (μ 88) n.toNat).1 ∧ ∀ q, q ≠ 88 → q ≠ 99 → q ≠ 108 → q ≠ 109 → μ' q = μ q))) 113 ρ0 0 0 4 [(0, vr 87), (1, vi n), (2, vi sl), (3, vi i)] [] μ1 := by
    intro m
    induction m with
    | zero =>
      intro i sl μ1 hm hv hsl h88 hf
      refine go_iload_n dX10_ticksMany_4 rfl ?_
      refine go_iload_n dX10_ticksMany_5 rfl ?_
      refine go_icmp_ge (tgt := 22) dX10_ticksMany_6 rfl (fun h6 => ?_) (fun h6 => ?_)
      ·
        refine go_iload_n dX10_ticksMany_22 rfl ?_
        exact go_ri dX10_ticksMany_23 tyI ⟨Nat.le_refl _, Nat.le_refl _⟩ (⟨by rw [hsl, show i = n by omega], by rw [h88, show i = n by omega], hf⟩)
      ·
        exact absurd h6 (by omega)
    | succ m ih =>
      intro i sl μ1 hm hv hsl h88 hf
      refine go_iload_n dX10_ticksMany_4 rfl ?_
      refine go_iload_n dX10_ticksMany_5 rfl ?_
      refine go_icmp_ge (tgt := 22) dX10_ticksMany_6 rfl (fun h6 => ?_) (fun h6 => ?_)
      ·
        exact absurd h6 (by omega)
      ·
        have hb := tkN_b (kinds := vm (μ 88) 33) (steeps := vm (μ 88) 34) (ph := phC (vm (μ 88)) 32) (fall := μ 88 4) (s := tS (vm (μ 88)) 32) iF.1 hI.1.2.2.1 iH i.toNat
        rw [← hsl] at hb
        have hI1 : mdI (μ1 88) := by rw [h88]; exact mdI_tk hI hb.1 hb.2.1
        have hc : 0 ≤ (tkV (μ1 88)).2 ∧ (tkV (μ1 88)).2 ≤ 30 := tk_c
        have hks := tkV_s (n := i.toNat) (md_t hI)
        rw [← h88] at hks
        refine go_iload_n dX10_ticksMany_9 rfl ?_
        refine go_aload_n dX10_ticksMany_10 rfl ?_
        refine go_vI (ci := 9) dX10_ticksMany_11 (ct_X10_ticks hI1) ml_X10_163 mc_X10_ticks mv_X10_ticks rfl (by first | assumption | exact Nat.le_of_ble_eq_true rfl) (by first | assumption | rfl) rfl ⟨rfl, rfl⟩ ⟨Nat.le_refl _, Nat.le_refl _⟩ rfl rfl rfl (fun x11 μ11 hc11 => ?_)
        obtain ⟨rfl, h88b, hf11⟩ := hc11
        refine go_iadd dX10_ticksMany_14 ⟨by omega, by omega⟩ ?_
        refine go_istore_n dX10_ticksMany_15 rfl ?_
        refine go_iinc dX10_ticksMany_16 rfl rfl ⟨by omega, by omega⟩ ?_
        refine go_goto (tgt := 4) dX10_ticksMany_19 rfl ?_
        refine go_drop (ih _ _ μ11 (by omega) (by omega) ?_ ?_ (fun q a b c d => (hf11 q a b c d).trans (hf q a b c d))) rfl
        · rw [show (i + 1).toNat = i.toNat + 1 by omega, hks.2, hsl]
        · rw [show (i + 1).toNat = i.toNat + 1 by omega, h88b]
          have e := tkR_cg (f := μ1 88) hks.1
          rw [e, h88, tkR_tk]
  refine go_iconst dX10_ticksMany_0 rfl ?_
  refine go_istore_n dX10_ticksMany_1 rfl ?_
  refine go_iconst dX10_ticksMany_2 rfl ?_
  refine go_istore_n dX10_ticksMany_3 rfl ?_
  refine go_drop (loop n.toNat 0 0 μ (by omega) (by omega) rfl tkR_self (fun _ _ _ _ _ => rfl)) rfl

